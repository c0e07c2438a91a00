/-! judging: statements -/
def SJ (z0 : Sto × Sto) (K : Nat → Int32) (N : Nat) (W : Nat → Int64) (t : Nat) (σ μ : Sto) : Prop := EB z0 K N W t σ μ ∧ σ.1 12 = nI 0 ∧ σ.2.1 23 0 = -1 ∧ (2 < cS (tr K t) → σ.1 13 = nI (cC (tr K t) - 1)) ∧ (8 < cS (tr K t) → σ.1 14 = nI (cM (tr K t))) ∧ (cS (tr K t) = 8 → K t = 40 → σ.1 14 = nI (cM (tr K t))) ∧ (cS (tr K t) = 14 → σ.1 16 = nI t ∧ σ.1 17 = -2 ∧ σ.2.1 25 0 = nI t ∧ σ.2.1 26 0 = nI t ∧ σ.2.1 28 0 = 0)
section STM
variable {z0 : Sto × Sto} {K : Nat → Int32} {N : Nat} {W : Nat → Int64} {c st t : Nat} {sh : Int32} {σ μ : Sto}
theorem EB.S {k : Nat} {v : Int32} (h : EB z0 K N W t σ μ) (h3 : 10 ≤ k) (h4 : k ≠ 4) : EB z0 K N W t (sS σ k v) μ := by
  obtain ⟨a, b, c, d, e, f, g, i, z1, z2⟩ := h
  exact ⟨a.keep (by rw [q_S1, if_neg (by omega)]) (by rw [q_S1, if_neg (by omega)]) rfl rfl rfl rfl, b, c, d, e, f, g, i, fun j hj => by rw [q_S1, if_neg (by omega)]; exact z1 j hj, z2⟩
theorem EB.L {a i : Nat} {v : Int32} (h : EB z0 K N W t σ μ) (ha : 23 ≤ a) : EB z0 K N W t (sA σ a i v) μ := h.fr ((CFr.refl σ).A (Or.inr (Or.inr ha))) (MFr.refl μ) ⟨fun u hu4 => by rw [q_An (by omega)]; exact h.2.2.2.2.2.2.1.1 u hu4, fun u hu4 => by rw [q_An (by omega)]; exact h.2.2.2.2.2.2.1.2 u hu4⟩ (h.2.2.2.2.2.2.2.1.same (q_An (by omega)) (q_An (by omega)))
theorem gt8 (h : 8 < cS (tr K (t + 1))) (n8 : ¬ cS (tr K t) = 8) : 8 < cS (tr K t) := by
  have ha : cS (tr K (t + 1)) ≠ 0 := fun z => by rw [z] at h; exact absurd h (by decide)
  have w := ways (k := K t) (k2 := K (t + 1)) (d := cD (tr K t)) (call := callB (tr K t)) (e := cE (tr K t)) ((tr_mem K t).resolve_left (tr_alive ha)) ha
  rw [trS] at h
  unfold Way at w
  rcases w with ⟨hs, hk, hs2, hsd⟩ | ⟨hs, hk, hs2, hsd⟩ | ⟨hs, hk, hs2, hsd⟩ | ⟨hs, hk, hs2, hsd⟩ | ⟨hs, hk, hs2, hsd⟩ | ⟨hs, hk, hs2, hsd⟩ | ⟨hs, hk, hs2, hsd⟩ | ⟨hs, hk, hs2, hsd⟩ | ⟨hs, hk, hs2, hsd⟩ | ⟨hs, hk, hs2, hsd⟩ | ⟨hs, hk, hs2, hsd⟩ | ⟨hs, hk, hs2, hsd⟩ | ⟨hs, hk, hs2, hsd⟩ | ⟨hs, hk, hs2, hsd⟩ | ⟨hs, hk, hs2, hsd⟩ | ⟨hs, hk, hs2, hsd⟩ | ⟨hs, hk, hs2, hsd⟩ | ⟨hs, hk, hs2, hsd⟩ | ⟨hs, hk, hs2, hsd⟩ | ⟨hs, hk, hs2, hsd⟩ | ⟨hs, hk, hs2, hsd⟩ | ⟨hs, hk, hs2, hsd⟩ | ⟨hs, hk, hs2, hsd⟩ | ⟨hs, hk, hs2, hsd⟩ | ⟨hs, hk, hs2, hsd⟩ | ⟨hs, hk, hs2, hsd⟩ | ⟨hs, hk, hs2, hsd⟩ | ⟨hs, hk, hs2, hsd⟩ | ⟨hs, hk, hs2, hsd⟩ | ⟨hs, hk, hs2, hsd⟩ | ⟨hs, hk, hs2, hsd⟩ | ⟨hs, hk, hs2, hsd⟩ | ⟨hs, hk, hs2, hsd⟩ | ⟨hs, hk, hs2, hsd⟩ | ⟨hs, hk, hs2, hsd⟩ | ⟨hs, hk, hs2, hsd⟩ | ⟨hs, hk, hs2, hsd⟩ | ⟨hs, hk, hs2, hsd⟩ | ⟨hs, hk, hs2, hsd⟩ | ⟨hs, hk, hs2, hsd⟩ | ⟨hs, hk, hs2, hsd⟩ | ⟨hs, hk, hs2, hsd⟩ | ⟨hs, hk, hs2, hsd⟩ | ⟨hs, hk, hs2, hsd⟩ | ⟨hs, hk, hs2, hsd⟩ | ⟨hs, hk, hs2, hsd⟩ | ⟨hs, hk, hs2, hsd⟩ | ⟨hs, hk, hs2, hsd⟩ | ⟨hs, hk, hs2, hsd⟩ | ⟨hs, hk, hs2, hsd⟩ | ⟨hs, hk, hs2, hsd⟩ | ⟨hs, hk, hs2, hsd⟩ | ⟨hs, hk, hs2, hsd⟩ | ⟨hs, hk, hs2, hsd⟩ | ⟨hs, hk, hs2, hsd⟩ | ⟨hs, hk, hs2, hsd⟩ | ⟨hs, hk, hs2, hsd⟩ | ⟨hs, hk, hs2, hsd⟩ <;> first | exact absurd hs n8 | (rw [hs]; decide) | (rw [hs2] at h; exact absurd h (by decide))
theorem p14 (h : cS (tr K (t + 1)) = 14) : cS (tr K t) = 13 ∨ (K t = 59 ∧ (cS (tr K t) = 20 ∨ cS (tr K t) = 22)) := by
  have ha : cS (tr K (t + 1)) ≠ 0 := by rw [h]; decide
  have w := ways (k := K t) (k2 := K (t + 1)) (d := cD (tr K t)) (call := callB (tr K t)) (e := cE (tr K t)) ((tr_mem K t).resolve_left (tr_alive ha)) ha
  rw [trS] at h
  unfold Way at w
  rcases w with ⟨hs, hk, hs2, hsd⟩ | ⟨hs, hk, hs2, hsd⟩ | ⟨hs, hk, hs2, hsd⟩ | ⟨hs, hk, hs2, hsd⟩ | ⟨hs, hk, hs2, hsd⟩ | ⟨hs, hk, hs2, hsd⟩ | ⟨hs, hk, hs2, hsd⟩ | ⟨hs, hk, hs2, hsd⟩ | ⟨hs, hk, hs2, hsd⟩ | ⟨hs, hk, hs2, hsd⟩ | ⟨hs, hk, hs2, hsd⟩ | ⟨hs, hk, hs2, hsd⟩ | ⟨hs, hk, hs2, hsd⟩ | ⟨hs, hk, hs2, hsd⟩ | ⟨hs, hk, hs2, hsd⟩ | ⟨hs, hk, hs2, hsd⟩ | ⟨hs, hk, hs2, hsd⟩ | ⟨hs, hk, hs2, hsd⟩ | ⟨hs, hk, hs2, hsd⟩ | ⟨hs, hk, hs2, hsd⟩ | ⟨hs, hk, hs2, hsd⟩ | ⟨hs, hk, hs2, hsd⟩ | ⟨hs, hk, hs2, hsd⟩ | ⟨hs, hk, hs2, hsd⟩ | ⟨hs, hk, hs2, hsd⟩ | ⟨hs, hk, hs2, hsd⟩ | ⟨hs, hk, hs2, hsd⟩ | ⟨hs, hk, hs2, hsd⟩ | ⟨hs, hk, hs2, hsd⟩ | ⟨hs, hk, hs2, hsd⟩ | ⟨hs, hk, hs2, hsd⟩ | ⟨hs, hk, hs2, hsd⟩ | ⟨hs, hk, hs2, hsd⟩ | ⟨hs, hk, hs2, hsd⟩ | ⟨hs, hk, hs2, hsd⟩ | ⟨hs, hk, hs2, hsd⟩ | ⟨hs, hk, hs2, hsd⟩ | ⟨hs, hk, hs2, hsd⟩ | ⟨hs, hk, hs2, hsd⟩ | ⟨hs, hk, hs2, hsd⟩ | ⟨hs, hk, hs2, hsd⟩ | ⟨hs, hk, hs2, hsd⟩ | ⟨hs, hk, hs2, hsd⟩ | ⟨hs, hk, hs2, hsd⟩ | ⟨hs, hk, hs2, hsd⟩ | ⟨hs, hk, hs2, hsd⟩ | ⟨hs, hk, hs2, hsd⟩ | ⟨hs, hk, hs2, hsd⟩ | ⟨hs, hk, hs2, hsd⟩ | ⟨hs, hk, hs2, hsd⟩ | ⟨hs, hk, hs2, hsd⟩ | ⟨hs, hk, hs2, hsd⟩ | ⟨hs, hk, hs2, hsd⟩ | ⟨hs, hk, hs2, hsd⟩ | ⟨hs, hk, hs2, hsd⟩ | ⟨hs, hk, hs2, hsd⟩ | ⟨hs, hk, hs2, hsd⟩ | ⟨hs, hk, hs2, hsd⟩ <;> first | exact Or.inl hs | exact Or.inr ⟨hk, Or.inl hs⟩ | exact Or.inr ⟨hk, Or.inr hs⟩ | (rw [hs2] at h; exact absurd h (by decide))
def Lo (K : Nat → Int32) (t : Nat) : Prop := cS (tr K t) = 1 ∨ cS (tr K t) = 2 ∨ cS (tr K t) = 3 ∨ cS (tr K t) = 4 ∨ cS (tr K t) = 5 ∨ cS (tr K t) = 6 ∨ cS (tr K t) = 7 ∨ cS (tr K t) = 8 ∨ cS (tr K t) = 9 ∨ cS (tr K t) = 10 ∨ cS (tr K t) = 11 ∨ cS (tr K t) = 12 ∨ cS (tr K t) = 13 ∨ (cS (tr K t) = 14 ∧ K t = 125)
theorem lo_r (h : Lo K t) (n2 : ¬ cS (tr K t) = 2) (n7 : ¬ cS (tr K t) = 7) (n13 : ¬ cS (tr K t) = 13) : ro K t = 0 ∨ ro K t = 4 ∨ ro K t = 6 ∨ ro K t = 7 := by
  have key : rbT K t = 0 ∨ rbT K t = 4 ∨ rbT K t = 6 ∨ rbT K t = 7 := by
    unfold rbT
    rcases h with s | s | s | s | s | s | s | s | s | s | s | s | s | ⟨s, k⟩
    · rw [s]; left; simp +decide only [rb, if_true, if_false]
    · exact absurd s n2
    · rw [s]; left; simp +decide only [rb, if_true, if_false]
    · rw [s]; right; right; left; simp +decide only [rb, if_true, if_false]
    · rw [s]; left; simp +decide only [rb, if_true, if_false]
    · rw [s]
      by_cases k : K t = 1
      · rw [k]; right; right; right; simp +decide only [rb, if_true, if_false]
      · left; simp +decide only [rb, k, if_true, if_false]
    · exact absurd s n7
    · rw [s]; left; simp +decide only [rb, if_true, if_false]
    · rw [s]
      by_cases k : K t = 1
      · rw [k]; right; right; right; simp +decide only [rb, if_true, if_false]
      · left; simp +decide only [rb, k, if_true, if_false]
    · rw [s]
      by_cases k : K t = 1
      · rw [k]; right; right; right; simp +decide only [rb, if_true, if_false]
      · left; simp +decide only [rb, k, if_true, if_false]
    · rw [s]; right; left; simp +decide only [rb, if_true, if_false]
    · rw [s]; left; simp +decide only [rb, if_true, if_false]
    · exact absurd s n13
    · rw [s, k]; left; simp +decide only [rb, if_true, if_false]
  rcases key with z | z | z | z
  · exact Or.inl (ro_s z (by decide) (by decide) (by decide))
  · exact Or.inr (Or.inl (ro_s z (by decide) (by decide) (by decide)))
  · exact Or.inr (Or.inr (Or.inl (ro_s z (by decide) (by decide) (by decide))))
  · exact Or.inr (Or.inr (Or.inr (ro_s z (by decide) (by decide) (by decide))))
/-- a token outside of statements -/
theorem sj_step (h : SJ z0 K N W t σ μ) (tN : t < N) (lo : Lo K t) : ∃ σ', cstp σ t = some σ' ∧ SJ z0 K N W (t + 1) σ' μ := by
  obtain ⟨eb, l0, c0, h13, h14, h8, hs14⟩ := h
  have sc := eb.1
  have hN := sc.1
  have ri := ro_i K t
  have up := eb.up
  have rt : inR (nI t) 121 := q_inR (by omega) (by decide)
  have rtn : (nI t).toNatClampNeg = t := q_tn (by omega)
  have n20 : ¬ (cS (tr K t) = 20 ∨ cS (tr K t) = 22) := by
    rcases lo with s | s | s | s | s | s | s | s | s | s | s | s | s | ⟨s, _⟩ <;> rw [s] <;> decide
  have nx14 : cS (tr K (t + 1)) = 14 → cS (tr K t) = 13 := fun z => (p14 z).resolve_right (fun q => n20 q.2)
  have nx8 : cS (tr K (t + 1)) = 8 → cS (tr K t) = 7 := fun z => (prv (sc.al (t := t + 1) (by omega))).1 z
  by_cases s2 : cS (tr K t) = 2
  · refine ⟨sS σ 13 (nI (cC (tr K t))), ?_, up.S (by decide) (by decide), l0, c0, fun _ => ?_, fun z => ?_, fun z => ?_, fun z => ?_⟩
    · unfold cstp p_Judge_enter
      rw [sc.rl tN, ri.1.mpr s2]
      simp +decide only [if_true, if_false, if_pos rt, rtn, eb.2.2.2.1 t tN]
      unfold tyd
      rw [if_pos ⟨tN, s2⟩]
    · rw [trC, if_pos s2, Nat.add_sub_cancel]; rfl
    · have := gt8 z (by rw [s2]; decide)
      rw [s2] at this
      exact absurd this (by decide)
    · have := nx8 z
      rw [s2] at this
      exact absurd this (by decide)
    · have := nx14 z
      rw [s2] at this
      exact absurd this (by decide)
  by_cases s7 : cS (tr K t) = 7
  · have a13 : ∀ τ : Sto, τ.1 13 = σ.1 13 → 2 < cS (tr K (t + 1)) → τ.1 13 = nI (cC (tr K (t + 1)) - 1) := fun τ e z => by
      rw [e, cC_k s2]
      exact h13 (gt2 z s2)
    have a14 : 8 < cS (tr K (t + 1)) → False := fun z => by
      have := gt8 z (by rw [s7]; decide)
      rw [s7] at this
      exact absurd this (by decide)
    by_cases r3 : ro K t = 3
    · refine ⟨sS σ 14 (nI t), ?_, up.S (by decide) (by decide), l0, c0, a13 _ rfl, fun z => (a14 z).elim, fun _ _ => ?_, fun z => ?_⟩
      · unfold cstp p_Judge_enter
        rw [sc.rl tN, r3]
        simp +decide only [if_true, if_false]
      · rw [trM, if_pos s7]; rfl
      · have := nx14 z
        rw [s7] at this
        exact absurd this (by decide)
    · have r2 : ro K t = 2 := (ri.2.2.2.2.2.1.mpr s7).resolve_right r3
      refine ⟨σ, ?_, up, l0, c0, a13 _ rfl, fun z => (a14 z).elim, fun _ k => ?_, fun z => ?_⟩
      · unfold cstp p_Judge_enter
        rw [sc.rl tN, r2]
        simp +decide only [if_true, if_false]
      · exact absurd (ri.2.2.2.2.2.2.1.mpr ⟨s7, k⟩) r3
      · have := nx14 z
        rw [s7] at this
        exact absurd this (by decide)
  have k13 : 2 < cS (tr K (t + 1)) → σ.1 13 = nI (cC (tr K (t + 1)) - 1) := fun z => by rw [cC_k s2]; exact h13 (gt2 z s2)
  have k14 : 8 < cS (tr K (t + 1)) → σ.1 14 = nI (cM (tr K (t + 1))) := fun z => by
    rw [cM_k s7]
    by_cases s8 : cS (tr K t) = 8
    · by_cases k : K t = 40
      · exact h8 s8 k
      · exfalso
        rw [trS, s8] at z
        by_cases k2 : K t = 59
        · rw [k2] at z; simp +decide only [nxt, if_true, if_false] at z
        · simp +decide only [nxt, k, k2, if_true, if_false] at z
    · exact h14 (gt8 z s8)
  have k8 : cS (tr K (t + 1)) = 8 → K (t + 1) = 40 → σ.1 14 = nI (cM (tr K (t + 1))) := fun z => absurd (nx8 z) s7
  by_cases s13 : cS (tr K t) = 13
  · have r15 : ro K t = 15 := ro_s (by unfold rbT; rw [s13]; simp +decide only [rb, if_true, if_false]) (by decide) (by decide) (by decide)
    refine ⟨sA (sA (sA (sS (sS σ 16 (nI (t + 1))) 17 (-2)) 25 0 (nI (t + 1))) 26 0 (nI (t + 1))) 28 0 0, ?_, ((((up.S (by decide) (by decide)).S (by decide) (by decide)).L (by decide)).L (by decide)).L (by decide), l0, ?_, k13, k14, k8, fun _ => ⟨rfl, rfl, ?_, ?_, ?_⟩⟩
    · unfold cstp p_Judge_takeStatementSign p_Judge_beginStatement
      rw [sc.rl tN, r15]
      simp +decide only [if_true, if_false, nI_1]
      rw [cbegin (σ := sS (sS σ 16 (nI (t + 1))) 17 (-2)) (D := 0) l0 (by omega), q_bd1, q_bd1]
    · rw [q_An (by decide), q_An (by decide), q_An (by decide)]; exact c0
    · rw [q_An (by decide), q_An (by decide), q_A2, if_pos rfl, if_pos rfl]
    · rw [q_An (by decide), q_A2, if_pos rfl, if_pos rfl]
    · rw [q_A2, if_pos rfl, if_pos rfl]
  · have r := lo_r lo s2 s7 s13
    refine ⟨σ, ?_, up, l0, c0, k13, k14, k8, fun z => absurd (nx14 z) s13⟩
    unfold cstp p_Judge_enter
    rw [sc.rl tN]
    rcases r with z | z | z | z <;> rw [z] <;> simp +decide only [if_true, if_false]
theorem EJ.s8 {f0 : Nat} {v : Int32} (h : EJ z0 f0 sh K N W c st t σ μ) : EJ z0 f0 sh K N W c st t σ (sS μ 8 v) := by
  obtain ⟨eb, ec, el, tl⟩ := h
  exact ⟨eb.fr (CFr.refl σ) ((MFr.refl μ).S (by decide)) eb.2.2.2.2.2.2.1 eb.2.2.2.2.2.2.2.1, ec, el, tl⟩
/-- an expression, from its first token to the sign behind it -/
theorem evalx {p : Nat} (eb : EB z0 K N W p σ μ) (l0 : σ.1 12 = nI 0) (c0 : σ.2.1 23 0 = -1) (ec : EC sh K c st p σ μ) (h25 : σ.2.1 25 0 = nI p) (h26 : σ.2.1 26 0 = nI p) (h28 : σ.2.1 28 0 = 0) (pN : p < N) (ws : WS K p) (d0 : cD (tr K p) = 0) (n21 : ¬ cS (tr K p) = 21) (q0 : RQ K st p σ) : ∃ t' σ' μ' v f b, p ≤ t' ∧ t' < N ∧ crn (t' - p) σ p = some σ' ∧ (∀ i τ, i < t' - p → crn i σ p = some τ → τ.1 3 = nI N) ∧ p_Mo_evaluate μ (nI p) (nI st) = some (v, mw μ' f b) ∧ p_Judge_endExpression σ' = some (v, cw σ' f b) ∧ (∀ i w, p_Judge_endExpression (sA σ' 17 i w) = some (v, cw (sA σ' 17 i w) f b)) ∧ TV K N v ∧ f ≤ t' ∧ EJ z0 p sh K N W c st t' σ' μ' ∧ μ'.1 8 = nI t' ∧ NS K t' ∧ (K t' = 59 ∨ K t' = 61) ∧ cD (tr K t') = 0 ∧ RQ K st t' σ' ∧ (∀ u, p < u → u ≤ t' → ¬ cS (tr K u) = 14) ∧ σ'.2.1 25 0 = nI p := by
  have hN := eb.1.1
  generalize hμ1 : sA (sA (sA (sA (sS μ 7 0) 17 0 (nI p)) 18 0 (nI p)) 20 0 0) 19 0 (-2) = μ1
  have fm : MFr μ μ1 := by rw [← hμ1]; exact ((((((MFr.refl μ).S (by decide)).A (by decide)).A (by decide)).A (by decide)).A (by decide))
  have m13 : μ1.2.1 13 = μ.2.1 13 := by rw [← hμ1, q_An (by decide), q_An (by decide), q_An (by decide), q_An (by decide), q_S2]
  have m14 : μ1.2.1 14 = μ.2.1 14 := by rw [← hμ1, q_An (by decide), q_An (by decide), q_An (by decide), q_An (by decide), q_S2]
  have nt : ¬ (cS (tr K p) = 19 ∨ cS (tr K p) = 20 ∨ cS (tr K p) = 22) := by
    rcases ws with ⟨s, _⟩ | s | ⟨s, _⟩ <;> rw [s] <;> decide
  have E : EJ z0 p sh K N W c st p σ μ1 := by
    refine ⟨eb.fr (CFr.refl σ) fm ⟨fun u hu4 => by rw [m14]; exact eb.2.2.2.2.2.2.1.1 u hu4, fun u hu4 => by rw [m13]; exact eb.2.2.2.2.2.2.1.2 u hu4⟩ eb.2.2.2.2.2.2.2.1, ec.fr (CFr.refl σ) fm (Nat.le_refl _) rfl rfl, ?_, fun z => absurd z nt⟩
    rw [d0]
    refine ⟨l0, by rw [← hμ1]; rfl, c0, fun l hl => ?_, fun l hl => by omega, fun l x hl => by omega⟩
    have e : l = 0 := by omega
    subst e
    refine ⟨p, p, 0, fun _ => rfl, Nat.le_refl _, Nat.le_refl _, Or.inl rfl, h25, ?_, h26, ?_, h28, ?_⟩
    · rw [← hμ1, q_An (by decide), q_An (by decide), q_An (by decide), q_A2, if_pos rfl, if_pos rfl]
    · rw [← hμ1, q_An (by decide), q_An (by decide), q_A2, if_pos rfl, if_pos rfl]
    · rw [← hμ1, q_An (by decide), q_A2, if_pos rfl, if_pos rfl]
  obtain ⟨t', σ', μ', k, l1, l2, l3, r1, i1, e1, E1, w1, k1, Q1, U1⟩ := exq (x1 := nI p) (N - p) p σ μ1 rfl (by omega) E q0 (Or.inl ws)
  have E2 := E1.s8 (v := nI t')
  have a1 := eb.1.al (t := t' + 1) (by omega)
  have cd : cD (tr K t') = 0 := Decidable.byContradiction (fun z => a1 (by
    rw [(ns_n w1).1]
    rcases k1 with q | q <;> rw [q] <;> simp +decide only [tal, z, if_true, if_false]))
  have tls : cS (tr K t') = 19 ∨ cS (tr K t') = 20 ∨ cS (tr K t') = 22 := by rcases w1 with ⟨z, _⟩ | z; exact Or.inr (Or.inl z); exact Or.inr (Or.inr z)
  have el := E2.2.2.1
  have tl := E2.2.2.2 tls
  rw [cd] at el tl
  obtain ⟨v, f, b, tv, hf, x1, x2, x3⟩ := endx' E2.1.up el.1 el.2.1 (by omega) l2 (el.2.2.2.1 0 (Nat.le_refl _)) tl
  obtain ⟨f1, g1, b1, z0, _, _, _, f2, _⟩ := el.2.2.2.1 0 (Nat.le_refl _)
  refine ⟨t', σ', sS μ' 8 (nI t'), v, f, b, l1, l2, r1, i1, ?_, x1, x3, tv, hf, E2, rfl, w1, k1, cd, Q1, U1, by rw [f2, z0 rfl]⟩
  unfold p_Mo_evaluate
  rw [mstart (D := 0) rfl (by decide), q_bd1, hμ1]
  have sm := E1.1.2.2.2.2.1
  have fu : FU = FU - 2 - k + 1 + 1 + k := by unfold FU; omega
  rw [fu, e1, ev_0 sm (by omega) _ (by rcases k1 with q | q <;> rw [q] <;> decide) (by rcases k1 with q | q <;> rw [q] <;> decide) (by rcases k1 with q | q <;> rw [q] <;> decide)]
  have st0 : p_Mo_step μ' (K t') (nI t') = some (0, μ') := by
    unfold p_Mo_step p_Mo_step_b157 p_Mo_step_b188
    rcases k1 with q | q <;> rw [q] <;> rfl
  rw [st0, q_bd2, if_pos rfl]
  unfold p_Mo_evaluate_L15
  rw [if_pos rfl, x2, q_bd2]
/-- the end of a statement -/
theorem endS {p t' f : Nat} {b : Bool} {v : Int32} (E : EJ z0 p sh K N W c st t' σ μ) (w : NS K t') (k : K t' = 59) (cd : cD (tr K t') = 0) (tN : t' < N) (x1 : p_Judge_endExpression σ = some (v, cw σ f b)) (tv : TV K N v) (ts : TV K N sh) (hf : f ≤ t') (hp : p ≤ t') (h25 : σ.2.1 25 0 = nI p) : ∃ σ', cstp σ t' = some σ' ∧ SJ z0 K N W (t' + 1) σ' (mw (mw μ f b) p (fitB K N W v sh)) := by
  obtain ⟨eb, ec, el, tl⟩ := E
  obtain ⟨e17, c13, cc, c14, c16, m8, stt⟩ := ec
  have sc := eb.1
  have hN := sc.1
  have w8 := ns_8 w
  rw [cd] at el
  have r19 : ro K t' = 19 := ro_s (by rw [(ns_n w).2.1, k]; simp +decide only [talR, if_true, if_false]) (by decide) (by decide) (by decide)
  have s14 : cS (tr K (t' + 1)) = 14 := by rw [(ns_n w).1, k, cd]; simp +decide only [tal, if_true, if_false]
  have eb1 := eb.up.w (b := b) hf tN
  have eb2 := eb1.w (b := fitB K N W v sh) hp tN
  have l12 : (cw (cw σ f b) p (fitB K N W v sh)).1 12 = nI 0 := by rw [cw_1, cw_1]; exact el.1
  refine ⟨sA (sA (sA (sS (sS (cw (cw σ f b) p (fitB K N W v sh)) 16 (nI (t' + 1))) 17 (-2)) 25 0 (nI (t' + 1))) 26 0 (nI (t' + 1))) 28 0 0, ?_, ((((eb2.S (by decide) (by decide)).S (by decide) (by decide)).L (by decide)).L (by decide)).L (by decide), l12, ?_, fun _ => ?_, fun _ => ?_, fun z => by rw [s14] at z; exact absurd z (by decide), fun _ => ⟨rfl, rfl, ?_, ?_, ?_⟩⟩
  · unfold cstp p_Judge_takeStatementSign p_Judge_beginStatement
    rw [sc.rl tN, r19]
    simp +decide only [if_true, if_false, nI_1, el.1, h25, if_pos (q_inR (show (0 : Nat) < 9 by decide) (by decide : 9 < 2147483648)), q_tn (show (0 : Nat) < 2147483648 by decide)]
    have e17' : (cw σ f b).1 17 = sh := by rw [cw_1]; exact e17
    rw [x1, q_bd2, e17', cwant (W := W) eb1.1 eb1.2.2.1 (by omega) tv ts, q_bd1, cbegin (σ := sS (sS (cw (cw σ f b) p (fitB K N W v sh)) 16 (nI (t' + 1))) 17 (-2)) (D := 0) l12 (by omega), q_bd1, q_bd1]
  · rw [q_An (by decide), q_An (by decide), q_An (by decide), q_S2, q_S2, cw_a (by decide), cw_a (by decide)]; exact el.2.2.1
  · rw [cC_k (n_8 w8 (by decide)), cc, Nat.add_sub_cancel]
    show (cw (cw σ f b) p (fitB K N W v sh)).1 13 = _
    rw [cw_1, cw_1]; exact c13
  · rw [cM_k (n_8 w8 (by decide))]
    show (cw (cw σ f b) p (fitB K N W v sh)).1 14 = _
    rw [cw_1, cw_1]; exact c14
  · rw [q_An (by decide), q_An (by decide), q_A2, if_pos rfl, if_pos rfl]
  · rw [q_An (by decide), q_A2, if_pos rfl, if_pos rfl]
  · rw [q_A2, if_pos rfl, if_pos rfl]
end STM
