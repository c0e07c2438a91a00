/-! the class's parse, whole -/
theorem JS.S7 {K : Nat → Int32} {σ : Sto} {t : Nat} {v : Int32} (h : JS K σ t) : JS K (sS σ 7 v) t := h
theorem pa_all {K : Nat → Int32} {N t : Nat} {σ0 σ : Sto} (hT : TKC K N σ0) (hF : JF σ0 σ) (hJ : JS K σ t) (h7 : σ.1 7 = cS (tr K t)) (ha : cS (tr K t) ≠ 0) (ht : t < N) : PaR K σ0 t (cdisp σ (nI t) (σ.2.1 6 t)) := by
  have hx : SK (σ.2.1 6 t) (K t) := by
    rw [hF.2.1 6 (by decide) (by decide) (by decide) (by decide) (by decide) (by decide) (by decide) (by decide)]
    exact hT.2.2.1 t ht
  have hm := (tr_mem K t).resolve_left ha
  unfold S22 at hm
  rcases hm with hs | hs | hs | hs | hs | hs | hs | hs | hs | hs | hs | hs | hs | hs | hs | hs | hs | hs | hs | hs | hs | hs
  · exact pa_1 hT hF hJ (h7.trans hs) hs ht hx
  · exact pa_2 hT hF hJ (h7.trans hs) hs ht hx
  · exact pa_3 hT hF hJ (h7.trans hs) hs ht hx
  · exact pa_4 hT hF hJ (h7.trans hs) hs ht hx
  · exact pa_5 hT hF hJ (h7.trans hs) hs ht hx
  · exact pa_6 hT hF hJ (h7.trans hs) hs ht hx
  · exact pa_7 hT hF hJ (h7.trans hs) hs ht hx
  · exact pa_8 hT hF hJ (h7.trans hs) hs ht hx
  · exact pa_9 hT hF hJ (h7.trans hs) hs ht hx
  · exact pa_10 hT hF hJ (h7.trans hs) hs ht hx
  · exact pa_11 hT hF hJ (h7.trans hs) hs ht hx
  · exact pa_12 hT hF hJ (h7.trans hs) hs ht hx
  · exact pa_13 hT hF hJ (h7.trans hs) hs ht hx
  · exact pa_14 hT hF hJ (h7.trans hs) hs ht hx
  · exact pa_15 hT hF hJ (h7.trans hs) hs ht hx
  · exact pa_16 hT hF hJ (h7.trans hs) hs ht hx
  · exact pa_17 hT hF hJ (h7.trans hs) hs ht hx
  · exact pa_18 hT hF hJ (h7.trans hs) hs ht hx
  · exact pa_19 hT hF hJ (h7.trans hs) hs ht hx
  · exact pa_20 hT hF hJ (h7.trans hs) hs ht hx
  · exact pa_21 hT hF hJ (h7.trans hs) hs ht hx
  · exact pa_22 hT hF hJ (h7.trans hs) hs ht hx
/-- a good end -/
def PG (K : Nat → Int32) (N : Nat) (σ0 σ' : Sto) : Prop := cS (tr K N) = 1 ∧ ∃ σ1, JF σ0 σ1 ∧ JS K σ1 N ∧ σ' = sA (sS σ1 3 (nI N)) 13 (cC (tr K N)) (nI N)
/-- where the fault is -/
def FT (K : Nat → Int32) (N T : Nat) : Prop := T ≤ N ∧ cS (tr K T) ≠ 0 ∧ (T < N → cS (tr K (T + 1)) = 0) ∧ (T = N → cS (tr K N) ≠ 1)
def PB (K : Nat → Int32) (N : Nat) (σ0 σ' : Sto) : Prop := ∃ T, FT K N T ∧ ∃ σ1, JF σ0 σ1 ∧ σ' = sS (sS (sS σ1 3 (nI T)) 4 0) 5 (if T < N then σ0.2.1 4 T else σ0.2.1 5 (T - 1))
theorem pa_L {K : Nat → Int32} {N : Nat} {σ0 : Sto} (hT : TKC K N σ0) : ∀ (j t fuel : Nat) (σ : Sto), j + t = N → j < fuel → JF σ0 σ → JS K σ t → σ.1 7 = cS (tr K t) → cS (tr K t) ≠ 0 → ∃ σ', p_Parser_parse_L26 fuel σ (nI t) = some σ' ∧ (PG K N σ0 σ' ∨ PB K N σ0 σ') := by
  have hN := hT.1
  intro j
  induction j with
  | zero =>
    intro t fuel σ hj hf hF hJ h7 ha
    obtain ⟨m, rfl⟩ : ∃ m, fuel = m + 1 := ⟨fuel - 1, by omega⟩
    have e : t = N := by omega
    subst e
    have e2 : σ.1 2 = nI t := (hF.1 2 (by decide) (by decide) (by decide) (by decide) (by decide) (by decide) (by decide)).trans hT.2.1
    unfold p_Parser_parse_L26
    rw [e2, if_pos ((q_le (by omega) (by omega)).mpr (Nat.le_refl _))]
    have g := WG_all t ha
    by_cases h1 : cS (tr K t) = 1
    · have c4 : 4 * cC (tr K t) ≤ t := g.1 h1
      have e4 : (sS σ 3 (nI t)).1 4 = nI (cC (tr K t)) := hJ.2.2.2.1
      rw [if_pos (h7.trans h1)]
      unfold p_Outline_finish
      rw [e4, if_pos (q_inR (by omega) (by omega)), q_tn (by omega), q_bd1]
      exact ⟨_, rfl, Or.inl ⟨h1, σ, hF, hJ, rfl⟩⟩
    · have t1 : 1 ≤ t := (WF_all t ha).2.2.2.2.2.2.1 h1
      rw [if_neg (fun z => h1 (h7.symm.trans z)), if_neg (fun z => by have h0 : t ≤ 0 := (q_leL (by omega) (by decide)).mp z; omega)]
      unfold p_Outline_giveUp p_Complaints_setFault
      have e3 : (sS (sS σ 3 (nI t)) 4 0).1 2 - 1 = nI (t - 1) := by
        show σ.1 2 - 1 = _
        rw [e2]; exact q_subL t1
      rw [q_bd1, e3, if_pos (q_inR (by omega) (by omega)), q_bd1, q_tn (by omega)]
      refine ⟨_, rfl, Or.inr ⟨t, ⟨Nat.le_refl _, ha, fun z => by omega, fun _ => h1⟩, σ, hF, ?_⟩⟩
      rw [if_neg (by omega)]
      show sS (sS (sS σ 3 (nI t)) 4 0) 5 (σ.2.1 5 (t - 1)) = _
      rw [hF.2.1 5 (by decide) (by decide) (by decide) (by decide) (by decide) (by decide) (by decide) (by decide)]
  | succ j ih =>
    intro t fuel σ hj hf hF hJ h7 ha
    obtain ⟨m, rfl⟩ : ∃ m, fuel = m + 1 := ⟨fuel - 1, by omega⟩
    have ht : t < N := by omega
    have e2 : σ.1 2 = nI N := (hF.1 2 (by decide) (by decide) (by decide) (by decide) (by decide) (by decide) (by decide)).trans hT.2.1
    obtain ⟨σ', p1, p2, p3⟩ := pa_all hT hF hJ h7 ha ht
    have key : p_Parser_parse_L26 (m + 1) σ (nI t) = p_Parser_parse_b123 (p_Parser_parse_L26 m) (sS σ' 7 (cS (tr K (t + 1)))) (nI t) := by
      unfold cdisp at p1
      conv => lhs; unfold p_Parser_parse_L26
      rw [e2, if_neg (fun z => by have := (q_le (by omega) (by omega)).mp z; omega), if_pos (q_inR (by omega) (by omega)), q_tn (by omega)]
      by_cases c1 : (8 : Int32) < σ.1 7
      · rw [if_pos c1] at p1 ⊢
        by_cases c2 : (13 : Int32) < σ.1 7
        · rw [if_pos c2] at p1 ⊢
          by_cases c3 : (16 : Int32) < σ.1 7
          · rw [if_pos c3] at p1 ⊢
            rw [p1, q_bd2]
          · rw [if_neg c3] at p1 ⊢
            rw [p1, q_bd2]
        · rw [if_neg c2] at p1 ⊢
          rw [p1, q_bd2]
      · rw [if_neg c1] at p1 ⊢
        rw [p1, q_bd2]
    rw [key]
    unfold p_Parser_parse_b123
    by_cases hz : cS (tr K (t + 1)) = 0
    · have e7 : (sS σ' 7 (cS (tr K (t + 1)))).1 7 = 0 := hz
      rw [if_pos e7]
      unfold p_Outline_giveUp p_Complaints_setFault
      rw [q_bd1, if_pos (q_inR (by omega) (by omega)), q_bd1, q_tn (by omega)]
      refine ⟨_, rfl, Or.inr ⟨t, ⟨by omega, ha, fun _ => hz, fun z => by omega⟩, sS σ' 7 (cS (tr K (t + 1))), p2.S (by decide), ?_⟩⟩
      rw [if_pos ht]
      show sS (sS (sS (sS σ' 7 (cS (tr K (t + 1)))) 3 (nI t)) 4 0) 5 (σ'.2.1 4 t) = _
      rw [p2.2.1 4 (by decide) (by decide) (by decide) (by decide) (by decide) (by decide) (by decide) (by decide)]
    · have e7 : ¬ (sS σ' 7 (cS (tr K (t + 1)))).1 7 = 0 := hz
      rw [if_neg e7, nI_1]
      exact ih (t + 1) m _ (by omega) (by omega) (p2.S (by decide)) (p3 hz).S7 rfl hz
theorem parseC {K : Nat → Int32} {N : Nat} {σ0 : Sto} (hT : TKC K N σ0) : ∃ σ', p_Parser_parse σ0 = some σ' ∧ (PG K N σ0 σ' ∨ PB K N σ0 σ') := by
  unfold p_Parser_parse p_Outline_clear p_Complaints_clear
  rw [q_bd1, q_bd1]
  have hN := hT.1
  refine pa_L hT N 0 FU _ (by omega) (by unfold FU; omega) ⟨fun k a b c d e f g => ?_, fun a x1 x2 x3 x4 x5 x6 x7 x8 => ?_, rfl, fun u => ?_, fun u => ?_, fun u => ?_, rfl⟩ ⟨rfl, fun j hj => absurd hj (Nat.not_lt_zero j), fun z => absurd (show (14 : Int32) < 1 from z) (by decide), rfl, fun z => absurd (show (7 : Int32) < 1 from z) (by decide), fun u => ?_, fun u => ?_, fun u => ?_, fun u hu => absurd hu (by omega)⟩ rfl (show (1 : Int32) ≠ 0 by decide)
  · simp [q_S1, q_F1, a, b, c, d, e]
  · funext u; simp [q_S2, q_F2, x1, x2, x3, x4, x5, x6, x7, x8]
  · simp [q_S2, q_F2]
  · simp [q_S2, q_F2]
  · simp [q_S2, q_F2]
  · rw [if_neg (by omega), if_neg (by omega)]; simp [q_S2, q_F2]
  · show _ = (0 : Int32); simp [q_S2, q_F2]
  · rw [if_neg (fun z => by omega)]; simp [q_S2, q_F2]
/-- what a good parse leaves -/
def CR (K : Nat → Int32) (N : Nat) (σ0 σ : Sto) : Prop := cS (tr K N) = 1 ∧ JF σ0 σ ∧ σ.1 3 = nI N ∧ σ.1 4 = nI (cC (tr K N)) ∧ (∀ u, σ.2.1 9 u = if u < N then ro K u else 0) ∧ (∀ u, σ.2.1 10 u = nI (ac K N u)) ∧ (∀ u, σ.2.1 12 u = if u < N ∧ cS (tr K u) = 2 then nI (cC (tr K u)) else -2) ∧ (∀ u, u < N → cS (tr K u) = 2 → σ.2.1 13 (cC (tr K u)) = nI u) ∧ σ.2.1 13 (cC (tr K N)) = nI N
theorem PG.cr {K : Nat → Int32} {N : Nat} {σ0 σ : Sto} (hT : TKC K N σ0) (h : PG K N σ0 σ) : CR K N σ0 σ := by
  obtain ⟨h1, σ1, hF, ⟨_, _, _, j4, _, jr, ja, jt, jc⟩, rfl⟩ := h
  refine ⟨h1, (hF.S (by decide)).A (by decide), rfl, j4, fun u => ?_, fun u => ?_, fun u => ?_, fun u hu h2 => ?_, ?_⟩
  · rw [q_A2, if_neg (by decide), q_S2, jr]
    by_cases e : u + 1 < N
    · rw [if_pos e, if_pos (by omega)]
    · rw [if_neg e]
      by_cases e2 : u + 1 = N
      · rw [if_pos e2, if_pos (by omega)]
        unfold ro
        rw [if_neg (fun z => by rw [hT.2.2.2 (u + 1) (by omega)] at z; exact absurd z (by decide))]
      · rw [if_neg e2, if_neg (by omega)]
  · rw [q_A2, if_neg (by decide), q_S2]; exact ja u
  · rw [q_A2, if_neg (by decide), q_S2]; exact jt u
  · have h3 := cC_mono K (u + 1) N (by omega)
    rw [trC, if_pos h2] at h3
    rw [q_A2, if_pos rfl, if_neg (by omega), q_S2]
    exact jc u hu h2
  · rw [q_A2, if_pos rfl, if_pos rfl]
