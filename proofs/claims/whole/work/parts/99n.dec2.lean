/-! the class's declarer -/
def DI (K : Nat → Int32) (N : Nat) (W : Nat → Int64) (σ0 : Sto) (t : Nat) (σ : Sto) : Prop := FD σ0 σ ∧ (∀ u, σ.2.1 11 u = if u < t then (an1 K N W u).1 else -1) ∧ (∀ u, σ.2.1 17 u = if u < t then (an1 K N W u).2 else 0) ∧ (∀ u, σ.2.1 12 u = tyd K N W t u) ∧ (∀ c, σ.2.1 14 c = -1) ∧ (2 < cS (tr K t) → σ.1 10 = nI (ctA K (cC (tr K t) - 1) N)) ∧ (7 < cS (tr K t) → σ.1 11 = nI (cM (tr K t)))
section DEC2
variable {K : Nat → Int32} {N : Nat} {σ σ0 : Sto} {W : Nat → Int64}
theorem gt2 {t : Nat} (h : 2 < cS (tr K (t + 1))) (n2 : ¬ cS (tr K t) = 2) : 2 < cS (tr K t) := by
  have ha : cS (tr K (t + 1)) ≠ 0 := fun z => by rw [z] at h; exact absurd h (by decide)
  have hm := (tr_mem K t).resolve_left (tr_alive ha)
  by_cases e1 : cS (tr K t) = 1
  · exfalso
    rw [trS, e1] at h
    by_cases k : K t = 4
    · rw [k] at h; simp +decide only [nxt, if_true, if_false] at h
    · simp +decide only [nxt, k, if_true, if_false] at h
  · unfold S22 at hm
    rcases hm with z | z | z | z | z | z | z | z | z | z | z | z | z | z | z | z | z | z | z | z | z | z <;> first | exact absurd z e1 | exact absurd z n2 | (rw [z]; decide)
theorem gt7 {t : Nat} (h : 7 < cS (tr K (t + 1))) (n7 : ¬ cS (tr K t) = 7) : 7 < cS (tr K t) := by
  obtain ⟨a, b, c⟩ := inM (t + 1) h
  by_cases e : cM (tr K (t + 1)) < t
  · exact (c t e (by omega)).1
  · exfalso
    rw [show cM (tr K (t + 1)) = t by omega] at b
    exact n7 b
theorem di_step {t : Nat} {σ' : Sto} (tN : t < N) (h : DI K N W σ0 t σ) (hF : FD σ0 σ') (h11 : ∀ u, σ'.2.1 11 u = if u = t then (an1 K N W t).1 else σ.2.1 11 u) (h17 : ∀ u, σ'.2.1 17 u = if u = t then (an1 K N W t).2 else σ.2.1 17 u) (h12 : ∀ u, σ'.2.1 12 u = if u = t ∧ (ro K t = 2 ∨ ro K t = 3 ∨ ro K t = 4 ∨ ro K t = 5) then dcl K N W t else σ.2.1 12 u) (h14 : ∀ u, σ'.2.1 14 u = σ.2.1 14 u) (s10 : (cS (tr K t) = 2 → σ'.1 10 = nI t) ∧ (¬ cS (tr K t) = 2 → σ'.1 10 = σ.1 10)) (s11 : (cS (tr K t) = 7 → σ'.1 11 = nI t) ∧ (¬ cS (tr K t) = 7 → σ'.1 11 = σ.1 11)) : DI K N W σ0 (t + 1) σ' := by
  obtain ⟨g1, g2, g3, g4, g5, g6, g7⟩ := h
  refine ⟨hF, fun u => ?_, fun u => ?_, fun u => ?_, fun c => by rw [h14]; exact g5 c, fun z => ?_, fun z => ?_⟩
  · rw [h11, g2]
    by_cases e : u = t
    · rw [if_pos e, if_pos (by omega), e]
    · rw [if_neg e]
      by_cases e2 : u < t
      · rw [if_pos e2, if_pos (by omega)]
      · rw [if_neg e2, if_neg (by omega)]
  · rw [h17, g3]
    by_cases e : u = t
    · rw [if_pos e, if_pos (by omega), e]
    · rw [if_neg e]
      by_cases e2 : u < t
      · rw [if_pos e2, if_pos (by omega)]
      · rw [if_neg e2, if_neg (by omega)]
  · rw [h12, g4]
    unfold tyd
    by_cases e : u = t
    · subst e
      by_cases q : ro K u = 2 ∨ ro K u = 3 ∨ ro K u = 4 ∨ ro K u = 5
      · have n2 : ¬ cS (tr K u) = 2 := fun z => by
          have := (ro_i K u).1.mpr z
          rw [this] at q
          exact absurd q (by decide)
        rw [if_pos ⟨rfl, q⟩, if_neg (fun z => n2 z.2), if_pos ⟨by omega, q⟩]
      · rw [if_neg (fun z => q z.2)]
        by_cases q2 : u < N ∧ cS (tr K u) = 2
        · rw [if_pos q2, if_pos q2]
        · rw [if_neg q2, if_neg q2, if_neg (fun z => q z.2), if_neg (fun z => q z.2)]
    · rw [if_neg (fun z => e z.1)]
      by_cases q : u < N ∧ cS (tr K u) = 2
      · rw [if_pos q, if_pos q]
      · rw [if_neg q, if_neg q]
        by_cases q2 : u < t ∧ (ro K u = 2 ∨ ro K u = 3 ∨ ro K u = 4 ∨ ro K u = 5)
        · rw [if_pos q2, if_pos ⟨by omega, q2.2⟩]
        · rw [if_neg q2, if_neg (fun z => q2 ⟨by omega, z.2⟩)]
  · by_cases e : cS (tr K t) = 2
    · rw [s10.1 e, trC, if_pos e, Nat.add_sub_cancel, ct_of tN e]
    · rw [s10.2 e, cC_k e]
      exact g6 (gt2 z e)
  · by_cases e : cS (tr K t) = 7
    · rw [s11.1 e, trM, if_pos e]
    · rw [s11.2 e, cM_k e]
      exact g7 (gt7 z e)
theorem tyd_ct {t c : Nat} (hc : c < cC (tr K N)) : tyd K N W t (ctA K c N) = nI c := by
  obtain ⟨a, b, d⟩ := ct_ok (K := K) N c hc
  unfold tyd
  rw [if_pos ⟨a, b⟩, d]
theorem ctyn (h : SC K N σ) {t : Nat} (ht : t < N) {o : Option Nat} (ho : ∀ c, o = some c → c < cC (tr K N)) (h11 : σ.2.1 11 t = oI (o.map (fun c => ctA K c N))) (h12 : ∀ c, c < cC (tr K N) → σ.2.1 12 (ctA K c N) = nI c) : p_Outline_typeNamed σ (nI t) = some (tI o) := by
  have hN := h.1
  unfold p_Outline_typeNamed
  rw [if_pos (q_inR (by omega) (by decide))]
  simp only [q_tn (show t < 2147483648 by omega), h11]
  cases o with
  | none =>
    rw [if_pos (show oI (none.map (fun c => ctA K c N)) = -1 from rfl)]
    rfl
  | some c =>
    have hc := ho c rfl
    have ca := (ct_ok (K := K) N c hc).1
    have e1 : oI ((some c).map (fun c => ctA K c N)) = nI (ctA K c N) := rfl
    rw [e1, if_neg (q_neg (by omega)), if_pos (q_inR (by omega) (by decide)), if_pos (q_inR (by omega) (by decide)), q_tn (by omega), h12 c hc]
    rfl
theorem ctb (h : SC K N σ) {t : Nat} (ht : t < N) (s : cS (tr K t) = 7 ∨ cS (tr K t) = 11 ∨ cS (tr K t) = 15) (h11 : σ.2.1 11 (t - 1) = (an1 K N W (t - 1)).1) (h12 : ∀ c, c < cC (tr K N) → σ.2.1 12 (ctA K c N) = nI c) : p_Declarer_typeBefore σ (nI t) = some (dcl K N W t) := by
  have hN := h.1
  obtain ⟨t1, q⟩ := typ7 (h.al (by omega)) s
  unfold p_Declarer_typeBefore dcl
  rw [if_pos ((q_Lle (by decide) (by omega)).mpr t1), show nI t - 1 = nI (t - 1) from q_subL t1, if_pos (q_inR (by omega) (by decide)), q_tn (by omega)]
  have sk := (h.2.2.2.2.2.2.2.2.2 (t - 1) (by omega)).2.2.2.2.1
  by_cases e : K (t - 1) = 3
  · rw [if_pos e, if_pos (sk.mpr e)]
  · rw [if_neg e, if_neg (fun z => e (sk.mp z))]
    rcases q with q | ⟨_, q⟩
    · exact absurd q e
    · have r7 : ro K (t - 1) = 7 := ro_s q (by decide) (by decide) (by decide)
      rw [ctyn h (by omega) (o := clw K N W (W (t - 1))) (fun c hc => clw_lt hc) ?_ h12, q_bd1]
      rw [h11]
      unfold an1
      rw [if_neg (show ¬ ro K (t - 1) = 1 by rw [r7]; decide), if_pos (Or.inr (Or.inl r7))]
      cases clw K N W (W (t - 1)) <;> rfl
theorem cnc (h : SC K N σ) (hW : WW K N σ.2.2 W) {t : Nat} (ht : t < N) (k1 : K t = 1) (h17 : σ.2.1 17 t = 0) : TD σ t ((clw K N W (W t)).elim (-1, 4) (fun c => (nI (ctA K c N), 0))) (p_Declarer_nameClass σ (nI t)) := by
  have hN := h.1
  have rt : inR (nI t) 121 := q_inR (by omega) (by decide)
  have rtn : (nI t).toNatClampNeg = t := q_tn (by omega)
  unfold p_Declarer_nameClass
  rw [if_pos rt]
  simp only [rtn, h.2.2.2.1, ccls h hW ht k1, q_bd1, if_pos rt]
  cases q : clw K N W (W t) with
  | none =>
    have e : (sA σ 11 t (oI (none.map (fun c => ctA K c N)))).2.1 11 t = -1 := by rw [q_A2, if_pos rfl, if_pos rfl]; rfl
    rw [if_pos e, cmark (by omega), q_bd1]
    refine ⟨_, rfl, rfl, fun a p q => by rw [q_An q, q_An p], rfl, fun u => ?_, fun u => ?_⟩
    · rw [q_An (by decide), q_A2, if_pos rfl]
      rfl
    · rw [q_A2, if_pos rfl, q_An (by decide), h17]
      rfl
  | some c =>
    have ca := (ct_ok (K := K) N c (clw_lt q)).1
    have e : ¬ (sA σ 11 t (oI ((some c).map (fun c => ctA K c N)))).2.1 11 t = -1 := by
      rw [q_A2, if_pos rfl, if_pos rfl]
      exact q_neg (show ctA K c N < 2147483648 by omega)
    rw [if_neg e]
    exact TD.mean h17
theorem an1_1 {t : Nat} (h : ro K t = 1) : an1 K N W t = if clw K N W (W t) = some (cC (tr K t)) then (nI t, 0) else (-1, 2) := by unfold an1; rw [if_pos h]
theorem an1_6 {t : Nat} (h : ro K t = 6 ∨ ro K t = 7 ∨ ro K t = 8) : an1 K N W t = (clw K N W (W t)).elim (-1, 4) (fun c => (nI (ctA K c N), 0)) := by
  unfold an1
  rw [if_neg (fun z => by rw [z] at h; exact absurd h (by decide)), if_pos h]
theorem an1_2 {t : Nat} (h : ro K t = 2 ∨ ro K t = 3) : an1 K N W t = if dup K W t = none then (nI t, 0) else (-1, 16) := by
  unfold an1
  rw [if_neg (fun z => by rw [z] at h; exact absurd h (by decide)), if_neg (fun z => by rcases h with y | y <;> rw [y] at z <;> exact absurd z (by decide)), if_pos h]
theorem an1_4 {t : Nat} (h : ro K t = 4 ∨ ro K t = 5) : an1 K N W t = if loc K W t t = none then (nI t, 0) else (-1, 32) := by
  unfold an1
  rw [if_neg (fun z => by rw [z] at h; exact absurd h (by decide)), if_neg (fun z => by rcases h with y | y <;> rw [y] at z <;> exact absurd z (by decide)), if_neg (fun z => by rcases h with y | y <;> rw [y] at z <;> exact absurd z (by decide)), if_pos h]
theorem cdecL (h0 : SC K N σ0) (hW : WW K N σ0.2.2 W) : ∀ (j t fuel : Nat) (σ : Sto), j + t = N → j < fuel → DI K N W σ0 t σ → ∃ σ', p_Declarer_declare_L2 fuel σ (nI t) = bd1 (p_Declarer_tieSuperclasses σ') (fun σ_162 => some σ_162) ∧ DI K N W σ0 N σ' := by
  have hN := h0.1
  intro j
  induction j with
  | zero =>
    intro t fuel σ hj hf D
    obtain ⟨n, rfl⟩ : ∃ n, fuel = n + 1 := ⟨fuel - 1, by omega⟩
    have e : t = N := by omega
    subst e
    unfold p_Declarer_declare_L2
    rw [(h0.fd D.1).2.2.2.1, if_pos ((q_le (by omega) (by omega)).mpr (Nat.le_refl _))]
    exact ⟨σ, rfl, D⟩
  | succ j ih =>
    intro t fuel σ hj hf D
    obtain ⟨n, rfl⟩ : ∃ n, fuel = n + 1 := ⟨fuel - 1, by omega⟩
    have D' := D
    obtain ⟨g1, g2, g3, g4, g5, g6, g7⟩ := D
    have h := h0.fd g1
    have ht : t < N := by omega
    have rt : inR (nI t) 121 := q_inR (by omega) (by decide)
    have rtn : (nI t).toNatClampNeg = t := q_tn (by omega)
    have hWσ : WW K N σ.2.2 W := by rw [g1.2.2]; exact hW
    have m11 : σ.2.1 11 t = -1 := by rw [g2, if_neg (by omega)]
    have m17 : σ.2.1 17 t = 0 := by rw [g3, if_neg (by omega)]
    have ri := ro_i K t
    have nx : ∀ σ', DI K N W σ0 (t + 1) σ' → ∃ σ'', p_Declarer_declare_L2 n σ' (nI t + 1) = bd1 (p_Declarer_tieSuperclasses σ'') (fun σ_162 => some σ_162) ∧ DI K N W σ0 N σ'' := fun σ' q => by
      rw [nI_1]
      exact ih (t + 1) n σ' (by omega) (by omega) q
    -- a step that a TD gives
    have st : ∀ {τ : Sto} {r : Option Sto}, FD σ0 τ → (∀ u, τ.2.1 11 u = σ.2.1 11 u) → (∀ u, τ.2.1 17 u = σ.2.1 17 u) → (∀ u, τ.2.1 12 u = if u = t ∧ (ro K t = 2 ∨ ro K t = 3 ∨ ro K t = 4 ∨ ro K t = 5) then dcl K N W t else σ.2.1 12 u) → (∀ u, τ.2.1 14 u = σ.2.1 14 u) → ((cS (tr K t) = 2 → τ.1 10 = nI t) ∧ (¬ cS (tr K t) = 2 → τ.1 10 = σ.1 10)) → ((cS (tr K t) = 7 → τ.1 11 = nI t) ∧ (¬ cS (tr K t) = 7 → τ.1 11 = σ.1 11)) → TD τ t (an1 K N W t) r → ∃ σ', r = some σ' ∧ DI K N W σ0 (t + 1) σ' := by
      intro τ r e0 e11 e17 e12 e14 e10 es11 T
      obtain ⟨σ', r1, a1, a2, a3, a4, a5⟩ := T
      refine ⟨σ', r1, di_step ht D' ⟨fun k p q => by rw [a1]; exact e0.1 k p q, fun a p1 p2 p3 p4 p5 => by rw [a2 a p1 p4]; exact e0.2.1 a p1 p2 p3 p4 p5, a3.trans e0.2.2⟩ (fun u => by rw [a4, e11]) (fun u => by rw [a5, e17]) (fun u => by rw [a2 12 (by decide) (by decide)]; exact e12 u) (fun u => by rw [a2 14 (by decide) (by decide)]; exact e14 u) (by rw [a1]; exact e10) (by rw [a1]; exact es11)⟩
    unfold p_Declarer_declare_L2
    rw [h.2.2.2.1, if_neg (fun z => by have := (q_le (by omega) (by omega)).mp z; omega), if_pos rt, rtn, h.rl ht]
    by_cases c1 : ro K t = 1
    · have s2 := ri.1.mp c1
      have n7 : ¬ cS (tr K t) = 7 := by rw [s2]; decide
      rw [if_pos c1]
      have h1 : SC K N (sS σ 10 (nI t)) := h.keep rfl rfl rfl rfl rfl rfl
      have fd1 : FD σ0 (sS σ 10 (nI t)) := ⟨fun k p q => by rw [q_S1, if_neg p]; exact g1.1 k p q, g1.2.1, g1.2.2⟩
      have ff := cfnd (σ := sS σ 10 (nI t)) h1.2.2.2.1 hN ((sS σ 10 (nI t)).2.2 t) 2 (a := 0) (b := t) (by omega) (by omega)
      have T := ctell (kind := 1) (d := 2) (show t < 121 by omega) ff (fi1_lt (by omega)) m11 m17 (by decide)
      have e : (if fi1 (fun u => decide ((2 : Int32) >>> ((sS σ 10 (nI t)).2.1 9 u &&& 31) &&& 1 = 1 ∧ (sS σ 10 (nI t)).2.2 u = (sS σ 10 (nI t)).2.2 t)) (min t N - 0) 0 = none then ((nI t, 0) : Int32 × Int32) else (-1, 2)) = an1 K N W t := by
        rw [an1_1 c1]
        by_cases q : clw K N W (W t) = some (cC (tr K t))
        · rw [if_pos q, if_pos ((d_cls h1 hWσ ht s2).mpr q)]
        · rw [if_neg q, if_neg (fun z => q ((d_cls h1 hWσ ht s2).mp z))]
      rw [e] at T
      obtain ⟨σ', r1, D1⟩ := st fd1 (fun _ => rfl) (fun _ => rfl) (fun u => by rw [if_neg (fun z => by rw [c1] at z; exact absurd z.2 (by decide))]; rfl) (fun _ => rfl) ⟨fun _ => rfl, fun z => absurd s2 z⟩ ⟨fun z => absurd z n7, fun _ => rfl⟩ T
      rw [show nI 0 = (0 : Int32) from rfl] at r1
      rw [r1, q_bd1]
      exact nx σ' D1
    rw [if_neg c1]
    have n2 : ¬ cS (tr K t) = 2 := fun z => c1 (ri.1.mpr z)
    -- members
    have mb : (ro K t = 2 ∨ ro K t = 3) → ∃ σ'', p_Declarer_declare_b92 (p_Declarer_declare_L2 n) σ (nI t) = bd1 (p_Declarer_tieSuperclasses σ'') (fun σ_162 => some σ_162) ∧ DI K N W σ0 N σ'' := by
      intro c2
      have s7 := ri.2.2.2.2.2.1.mp c2
      have q4 : ro K t = 2 ∨ ro K t = 3 ∨ ro K t = 4 ∨ ro K t = 5 := c2.imp id Or.inl
      have h1 : SC K N (sS σ 11 (nI t)) := h.keep rfl rfl rfl rfl rfl rfl
      obtain ⟨t1, _⟩ := typ7 (h.al (by omega)) (Or.inl s7)
      have tb := ctb (W := W) h1 ht (Or.inl s7) (show σ.2.1 11 (t - 1) = _ by rw [g2, if_pos (by omega)]) (fun c hc => show σ.2.1 12 _ = _ by rw [g4]; exact tyd_ct hc)
      have h2 : SC K N (sA (sS σ 11 (nI t)) 12 t (dcl K N W t)) := h.keep rfl rfl (q_An (by decide)) (q_An (by decide)) (q_An (by decide)) (q_An (by decide))
      have fd2 : FD σ0 (sA (sS σ 11 (nI t)) 12 t (dcl K N W t)) := ⟨fun k p q => by rw [q_A1, q_S1, if_neg q]; exact g1.1 k p q, fun a p1 p2 p3 p4 p5 => by rw [q_An p2]; exact g1.2.1 a p1 p2 p3 p4 p5, g1.2.2⟩
      have c0 := (WG_all t (h.al (by omega))).2.2.2.2 (by rw [s7]; decide)
      have mo := cC_mono K t N (by omega)
      have ca := (ct_ok (K := K) N (cC (tr K t) - 1) (by omega)).1
      have o10 : (sA (sS σ 11 (nI t)) 12 t (dcl K N W t)).1 10 = nI (ctA K (cC (tr K t) - 1) N) := g6 (by rw [s7]; decide)
      have ff := cfnd (σ := sA (sS σ 11 (nI t)) 12 t (dcl K N W t)) h2.2.2.2.1 hN ((sA (sS σ 11 (nI t)) 12 t (dcl K N W t)).2.2 t) 12 (a := ctA K (cC (tr K t) - 1) N) (b := t) (by omega) (by omega)
      rw [d_mem h2 hWσ ht s7] at ff
      have T := ctell (kind := 4) (d := 16) (show t < 121 by omega) ff (fun s hs => by have := (fi1_some hs).2.1; omega) (show (sA (sS σ 11 (nI t)) 12 t (dcl K N W t)).2.1 11 t = -1 by rw [q_An (by decide)]; exact m11) (show (sA (sS σ 11 (nI t)) 12 t (dcl K N W t)).2.1 17 t = 0 by rw [q_An (by decide)]; exact m17) (by decide)
      rw [← an1_2 (N := N) c2] at T
      obtain ⟨σ', r1, D1⟩ := st fd2 (fun u => by rw [q_An (by decide)]; rfl) (fun u => by rw [q_An (by decide)]; rfl) (fun u => by
        rw [q_A2, if_pos rfl]
        by_cases e : u = t
        · rw [if_pos e, if_pos ⟨e, q4⟩]
        · rw [if_neg e, if_neg (fun z => e z.1)]; rfl) (fun u => by rw [q_An (by decide)]; rfl) ⟨fun z => absurd z n2, fun _ => rfl⟩ ⟨fun _ => rfl, fun z => absurd s7 z⟩ T
      unfold p_Declarer_declare_b92
      rw [tb, q_bd1, if_pos rt, rtn, o10, r1, q_bd1]
      exact nx σ' D1
    have vb : (ro K t = 4 ∨ ro K t = 5) → ∃ σ'', p_Declarer_declare_b126 (p_Declarer_declare_L2 n) σ (nI t) = bd1 (p_Declarer_tieSuperclasses σ'') (fun σ_162 => some σ_162) ∧ DI K N W σ0 N σ'' := by
      intro c2
      have s11 : cS (tr K t) = 11 ∨ cS (tr K t) = 15 := c2.imp ri.2.2.1.mp ri.2.2.2.1.mp
      have s8 : 8 < cS (tr K t) := by rcases s11 with z | z <;> rw [z] <;> decide
      have n7 : ¬ cS (tr K t) = 7 := by rcases s11 with z | z <;> rw [z] <;> decide
      have q4 : ro K t = 2 ∨ ro K t = 3 ∨ ro K t = 4 ∨ ro K t = 5 := Or.inr (Or.inr c2)
      have k1 : K t = 1 := h.nm ht (by rcases c2 with z | z <;> rw [z] <;> decide)
      obtain ⟨t1, _⟩ := typ7 (h.al (by omega)) (Or.inr s11)
      have tb := ctb (W := W) h ht (Or.inr s11) (by rw [g2, if_pos (by omega)]) (fun c hc => by rw [g4]; exact tyd_ct hc)
      have h2 : SC K N (sA σ 12 t (dcl K N W t)) := h.keep rfl rfl (q_An (by decide)) (q_An (by decide)) (q_An (by decide)) (q_An (by decide))
      have fd2 : FD σ0 (sA σ 12 t (dcl K N W t)) := ⟨g1.1, fun a p1 p2 p3 p4 p5 => by rw [q_An p2]; exact g1.2.1 a p1 p2 p3 p4 p5, g1.2.2⟩
      have s7' : 7 < cS (tr K t) := Int32.lt_trans (by decide) s8
      have o11 : (sA σ 12 t (dcl K N W t)).1 11 = nI (cM (tr K t)) := g7 s7'
      have mt := (inM t s7').1
      have ff := cfnd (σ := sA σ 12 t (dcl K N W t)) h2.2.2.2.1 hN ((sA σ 12 t (dcl K N W t)).2.2 t) 48 (a := cM (tr K t)) (b := t) (by omega) (by omega)
      rw [d_loc h2 hWσ ht k1 s8 (Nat.le_refl _)] at ff
      have T := ctell (kind := 5) (d := 32) (show t < 121 by omega) ff (fun s hs => by have := (fi1_some hs).2.1; omega) (show (sA σ 12 t (dcl K N W t)).2.1 11 t = -1 by rw [q_An (by decide)]; exact m11) (show (sA σ 12 t (dcl K N W t)).2.1 17 t = 0 by rw [q_An (by decide)]; exact m17) (by decide)
      rw [← an1_4 (N := N) c2] at T
      obtain ⟨σ', r1, D1⟩ := st fd2 (fun u => by rw [q_An (by decide)]) (fun u => by rw [q_An (by decide)]) (fun u => by
        rw [q_A2, if_pos rfl]
        by_cases e : u = t
        · rw [if_pos e, if_pos ⟨e, q4⟩]
        · rw [if_neg e, if_neg (fun z => e z.1)]) (fun u => by rw [q_An (by decide)]) ⟨fun z => absurd z n2, fun _ => rfl⟩ ⟨fun z => absurd z n7, fun _ => rfl⟩ T
      unfold p_Declarer_declare_b126
      rw [tb, q_bd1, if_pos rt, rtn, o11, r1, q_bd1]
      exact nx σ' D1
    have cb : (ro K t = 6 ∨ ro K t = 7 ∨ ro K t = 8) → ∃ σ'', (bd1 (p_Declarer_nameClass σ (nI t)) fun σ_86 => p_Declarer_declare_L2 n σ_86 (nI t + 1)) = bd1 (p_Declarer_tieSuperclasses σ'') (fun σ_162 => some σ_162) ∧ DI K N W σ0 N σ'' := by
      intro c2
      have k1 : K t = 1 := h.nm ht (by rcases c2 with z | z | z <;> rw [z] <;> decide)
      have n7 : ¬ cS (tr K t) = 7 := fun z => by
        have := ri.2.2.2.2.2.1.mpr z
        rcases c2 with y | y | y <;> rw [y] at this <;> exact absurd this (by decide)
      have T := cnc h hWσ ht k1 m17
      rw [← an1_6 c2] at T
      obtain ⟨σ', r1, D1⟩ := st g1 (fun _ => rfl) (fun _ => rfl) (fun u => by
        rw [if_neg (fun z => by rcases c2 with y | y | y <;> rw [y] at z <;> exact absurd z.2 (by decide))]) (fun _ => rfl) ⟨fun z => absurd z n2, fun _ => rfl⟩ ⟨fun z => absurd z n7, fun _ => rfl⟩ T
      rw [r1, q_bd1]
      exact nx σ' D1
    by_cases c2 : ro K t = 2
    · rw [if_pos c2]; exact mb (Or.inl c2)
    rw [if_neg c2]
    by_cases c3 : ro K t = 3
    · rw [if_pos c3]; exact mb (Or.inr c3)
    rw [if_neg c3]
    by_cases c4 : ro K t = 4
    · rw [if_pos c4]; exact vb (Or.inl c4)
    rw [if_neg c4]
    by_cases c5 : ro K t = 5
    · rw [if_pos c5]; exact vb (Or.inr c5)
    rw [if_neg c5]
    by_cases c6 : ro K t = 6
    · rw [if_pos c6]; exact cb (Or.inl c6)
    rw [if_neg c6]
    by_cases c7 : ro K t = 7
    · rw [if_pos c7]; exact cb (Or.inr (Or.inl c7))
    rw [if_neg c7]
    by_cases c8 : ro K t = 8
    · rw [if_pos c8]; exact cb (Or.inr (Or.inr c8))
    rw [if_neg c8]
    have n7 : ¬ cS (tr K t) = 7 := fun z => (ri.2.2.2.2.2.1.mpr z).elim c2 c3
    have e0 : an1 K N W t = (-1, 0) := by
      unfold an1
      rw [if_neg c1, if_neg (fun z => z.elim c6 (fun z => z.elim c7 c8)), if_neg (fun z => z.elim c2 c3), if_neg (fun z => z.elim c4 c5)]
    refine nx σ (di_step ht D' g1 (fun u => ?_) (fun u => ?_) (fun u => ?_) (fun _ => rfl) ⟨fun z => absurd z n2, fun _ => rfl⟩ ⟨fun z => absurd z n7, fun _ => rfl⟩)
    · rw [e0]
      by_cases e : u = t
      · rw [if_pos e, e, m11]
      · rw [if_neg e]
    · rw [e0]
      by_cases e : u = t
      · rw [if_pos e, e, m17]
      · rw [if_neg e]
    · rw [if_neg (fun z => z.2.elim c2 (fun z => z.elim c3 (fun z => z.elim c4 c5)))]
end DEC2
