/-! questions: places and names -/
def FR (σ : Sto) : Prop := ∀ μ, TX σ μ → ∃ μ', p_Mo_analyse μ = some μ' ∧ (RDg σ μ' ∨ RDb σ μ') ∧ AFr μ μ'
theorem TC.uq {σ : Sto} {n m : Nat} {C D : Nat → Nat} (h : TC σ n C) (g : TC σ m D) : n = m ∧ ∀ i, i < n → C i = D i := by
  have e : n = m := by
    have h1 := h.2.1
    rw [g.2.1] at h1
    have a := h.1
    have b := g.1
    exact ((q_eq (by omega) (by omega)).mp h1).symm
  refine ⟨e, fun i hi => ?_⟩
  have h1 := h.2.2 i hi
  have g1 := g.2.2 i (by omega)
  have e2 := h1.1.symm.trans g1.1
  exact (q_eq (by omega) (by omega)).mp e2
theorem fresh {σ τ μ : Sto} (h : SimF FR σ τ μ) : ∃ σ', p_Reading_refresh σ = some σ' ∧ σ'.1 0 = 0 ∧ FR σ' ∧ (∀ ν, TX σ ν → TX σ' ν) := by
  obtain ⟨tx, st | ⟨st, fr⟩⟩ := h
  · obtain ⟨n, C, hc, hm⟩ := tx.chars
    obtain ⟨σ', μ', e1, e2, rd, tc, tm, z, af⟩ := core hc hm st
    have back : ∀ {m D}, TC σ' m D → TC σ m D := by
      intro m D g
      obtain ⟨e, ee⟩ := tc.uq g
      subst e
      exact ⟨hc.1, hc.2.1, fun i hi => by
        have h1 := hc.2.2 i hi
        rw [ee i hi] at h1
        exact h1⟩
    refine ⟨σ', e1, z, fun ν tv => ?_, fun ν tv => ?_⟩
    · obtain ⟨m, D, gc, gm⟩ := tv.chars
      obtain ⟨σ2, μ2, f1, f2, rd2, _, _, _, af2⟩ := core (back gc) gm st
      have : σ2 = σ' := Option.some.inj (f1.symm.trans e1)
      subst this
      exact ⟨μ2, f2, rd2, af2⟩
    · obtain ⟨m, D, gc, gm⟩ := tv.chars
      obtain ⟨e, ee⟩ := hc.uq gc
      subst e
      refine TX.of tc ⟨gm.1, gm.2.1, fun i hi => ?_⟩
      have h1 := gm.2.2 i hi
      rw [← ee i hi] at h1
      exact h1
  · refine ⟨σ, ?_, st, fr, fun ν tv => tv⟩
    unfold p_Reading_refresh
    rw [if_pos st]
theorem TX.af {σ μ μ' : Sto} (h : TX σ μ) (a : AFr μ μ') : TX σ μ' := by
  obtain ⟨n, h1, h2, h3, h4⟩ := h
  exact ⟨n, h1, h2, (a.1 1 (by decide)).trans h3, fun i hi => by rw [a.2 1 (by decide)]; exact h4 i hi⟩
theorem qpre {σ τ μ : Sto} (h : SimF FR σ τ μ) : ∃ σ' μ', p_Reading_refresh σ = some σ' ∧ p_Mo_analyse (sS μ 0 0) = some μ' ∧ (RDg σ' μ' ∨ RDb σ' μ') ∧ (∀ k, SimF FR σ' τ (sS μ' 0 k)) ∧ SimF FR σ' τ μ' ∧ μ'.1 0 = 0 ∧ AFr μ (sS μ' 0 (μ.1 0)) := by
  obtain ⟨σ', e, z, fr, tt⟩ := fresh h
  have t1 : TX σ' (sS μ 0 0) := tt _ h.1
  obtain ⟨μ', em, rd, af⟩ := fr _ t1
  have t2 := t1.af af
  refine ⟨σ', μ', e, em, rd, fun k => ⟨t2, Or.inr ⟨z, fr⟩⟩, ⟨t2, Or.inr ⟨z, fr⟩⟩, af.1 0 (by decide), fun k hk => ?_, fun a ha => af.2 a ha⟩
  by_cases e0 : k = 0
  · subst e0; rfl
  · rw [q_S1, if_neg e0]
    have := af.1 k hk
    rw [q_S1, if_neg e0] at this
    exact this
section Q1
variable {σ τ μ : Sto}
theorem ok_count (h : SimF FR σ τ μ) (x1 : Int32) : Sx (SimF FR) (p_LanguageServer_count σ τ x1) (p_Mo_count μ x1) [(0, 0), (1, 1)] := by
  obtain ⟨σ', μ', e, em, rd, si, si', z, _⟩ := qpre h
  unfold p_LanguageServer_count p_Mo_count
  rw [e, q_bd1, em, q_bd1]
  have e4 : σ'.1 4 = μ'.1 6 := by
    rcases rd with ⟨n, N, C, z0, _, _, _, _, _, eb, _⟩ | ⟨T, q, _, _, _, _, a, b, _⟩
    · rw [eb.1.2.2.2.2.1, eb.2.2.2.2.1.2.2.2.2.2.1]
    · rw [a, b]
  have e3 : σ'.1 3 = μ'.1 3 := by
    rcases rd with ⟨n, N, C, z0, _, _, _, _, _, eb, _⟩ | ⟨T, q, _, _, a, b, _⟩
    · rw [eb.1.2.2.2.1, eb.2.2.2.2.1.2.2.1]
    · rw [a, b]
  have e1 : σ'.1 1 = μ'.1 1 := by
    obtain ⟨⟨n, _, a, b, _⟩, _⟩ := si'
    rw [a, b]
  by_cases c0 : x1 = 0
  · rw [if_pos c0, if_pos c0]
    exact sx_of (0, 0) (by simp) rfl rfl z (fun _ => e4) (by decide) si'
  rw [if_neg c0, if_neg c0]
  by_cases c1 : x1 = 1
  · rw [if_pos c1, if_pos c1]
    exact sx_of (0, 0) (by simp) rfl rfl z (fun _ => e3) (by decide) si'
  rw [if_neg c1, if_neg c1]
  by_cases c2 : x1 = 2
  · rw [if_pos c2, if_pos c2]
    exact sx_of (0, 0) (by simp) rfl rfl z (fun _ => e1) (by decide) si'
  rw [if_neg c2, if_neg c2]
  exact sx_of (1, 1) (by simp) rfl rfl rfl (fun h => absurd h (by decide)) (by decide) (si 1)
/-- the token at a place -/
def sch (σ : Sto) (N : Nat) (x : Int32) (j t : Nat) : Option Nat := fi1 (fun u => decide (¬ x < σ.2.1 4 u ∧ ¬ σ.2.1 5 u ≤ x)) j t
theorem datL {N : Nat} (h3 : σ.1 3 = nI N) (hN : N ≤ 121) (x : Int32) : ∀ (j t fuel : Nat), j + t = N → j < fuel → p_Reading_declarationAt_L2 σ x fuel (nI t) = some ((sch σ N x j t).elim (-1) (fun u => σ.2.1 11 u)) := by
  intro j
  induction j with
  | zero =>
    intro t fuel hj hf
    obtain ⟨m, rfl⟩ : ∃ m, fuel = m + 1 := ⟨fuel - 1, by omega⟩
    unfold p_Reading_declarationAt_L2
    rw [h3, if_pos ((q_le (by omega) (by omega)).mpr (by omega))]
    rfl
  | succ j ih =>
    intro t fuel hj hf
    obtain ⟨m, rfl⟩ : ∃ m, fuel = m + 1 := ⟨fuel - 1, by omega⟩
    have nx := ih (t + 1) m (by omega) (by omega)
    have rt : inR (nI t) 121 := q_inR (by omega) (by decide)
    unfold p_Reading_declarationAt_L2
    rw [h3, if_neg (fun z => by have := (q_le (by omega) (by omega)).mp z; omega)]
    simp only [if_pos rt, q_tn (show t < 2147483648 by omega), nI_1]
    unfold sch fi1
    by_cases c1 : x < σ.2.1 4 t
    · rw [if_pos c1, if_neg (fun z => (of_decide_eq_true z).1 c1)]; exact nx
    · rw [if_neg c1]
      by_cases c2 : σ.2.1 5 t ≤ x
      · rw [if_pos c2, if_neg (fun z => (of_decide_eq_true z).2 c2)]; exact nx
      · rw [if_neg c2, if_pos (decide_eq_true ⟨c1, c2⟩)]; rfl
theorem nmdL {N : Nat} (h3 : μ.1 3 = nI N) (hN : N ≤ 121) (x : Int32) (ea : ∀ u, u < N → σ.2.1 4 u = μ.2.1 5 u ∧ σ.2.1 5 u = μ.2.1 6 u) : ∀ (j t fuel : Nat), j + t = N → j < fuel → p_Mo_named_L6 x fuel μ (nI t) = some ((sch σ N x j t).elim (-1) (fun u => if μ.2.1 3 u = 1 then (if μ.1 5 = 0 then (if μ.2.1 14 u < 0 then -1 else nI u) else -1) else -1), μ) := by
  intro j
  induction j with
  | zero =>
    intro t fuel hj hf
    obtain ⟨m, rfl⟩ : ∃ m, fuel = m + 1 := ⟨fuel - 1, by omega⟩
    unfold p_Mo_named_L6
    rw [h3, if_pos ((q_le (by omega) (by omega)).mpr (by omega))]
    rfl
  | succ j ih =>
    intro t fuel hj hf
    obtain ⟨m, rfl⟩ : ∃ m, fuel = m + 1 := ⟨fuel - 1, by omega⟩
    have nx := ih (t + 1) m (by omega) (by omega)
    have rt : inR (nI t) 124 := q_inR (by omega) (by decide)
    obtain ⟨a, b⟩ := ea t (by omega)
    unfold p_Mo_named_L6
    rw [h3, if_neg (fun z => by have := (q_le (by omega) (by omega)).mp z; omega)]
    simp only [if_pos rt, q_tn (show t < 2147483648 by omega), nI_1, ← a, ← b]
    unfold sch fi1
    by_cases c1 : x < σ.2.1 4 t
    · rw [if_pos c1, if_neg (fun z => (of_decide_eq_true z).1 c1)]; exact nx
    · rw [if_neg c1]
      by_cases c2 : σ.2.1 5 t ≤ x
      · rw [if_pos c2, if_neg (fun z => (of_decide_eq_true z).2 c2)]; exact nx
      · rw [if_neg c2, if_pos (decide_eq_true ⟨c1, c2⟩)]
        show _ = some ((if μ.2.1 3 t = 1 then (if μ.1 5 = 0 then (if μ.2.1 14 t < 0 then -1 else nI t) else -1) else -1), μ)
        by_cases d1 : μ.2.1 3 t = 1
        · rw [if_pos d1, if_pos d1]
          by_cases d2 : μ.1 5 = 0
          · rw [if_pos d2, if_pos d2]
            by_cases d3 : μ.2.1 14 t < 0
            · rw [if_pos d3, if_pos d3]
            · rw [if_neg d3, if_neg d3]
          · rw [if_neg d2, if_neg d2]
        · rw [if_neg d1, if_neg d1]
/-- what a place names, on both sides -/
def NMD (σ μ : Sto) (x : Int32) : Prop := (p_Reading_declarationAt σ x = some (-1) ∧ p_Mo_named_L6 x FU μ 0 = some (-1, μ)) ∨ (∃ (n N u m : Nat) (C : Nat → Nat) (z0 : Sto × Sto), TC σ n C ∧ TM μ n C ∧ isNt C n N ∧ TkC C n σ N ∧ TkM C n μ N ∧ EB z0 (KK C n N) N μ.2.2 N σ μ ∧ σ.1 5 = -1 ∧ μ.1 5 = 0 ∧ u < N ∧ Dcl (KK C n N) N μ.2.2 m ∧ σ.2.1 11 u = nI m ∧ μ.2.1 14 u = nI m ∧ p_Reading_declarationAt σ x = some (nI m) ∧ p_Mo_named_L6 x FU μ 0 = some (nI u, μ))
theorem RDg.nmd (h : RDg σ μ) (x : Int32) : NMD σ μ x := by
  obtain ⟨n, N, C, z0, tc, tm, iN, tk, tkm, eb, f5, g5⟩ := h
  obtain ⟨sc, _, _, _, sm, _, ag, rs, _⟩ := eb
  have hN := sc.1
  have d := datL sc.2.2.2.1 hN x N 0 FU (by omega) (by unfold FU; omega)
  have e := nmdL (σ := σ) sm.2.2.1 hN x (fun u hu => ⟨(tk u hu).1.trans (tkm u hu).1.symm, (tk u hu).2.1.trans (tkm u hu).2.1.symm⟩) N 0 FU (by omega) (by unfold FU; omega)
  have d' : p_Reading_declarationAt σ x = some ((sch σ N x N 0).elim (-1) (fun u => σ.2.1 11 u)) := d
  have e' : p_Mo_named_L6 x FU μ 0 = some ((sch σ N x N 0).elim (-1) (fun u => if μ.2.1 3 u = 1 then (if μ.1 5 = 0 then (if μ.2.1 14 u < 0 then -1 else nI u) else -1) else -1), μ) := e
  cases q : sch σ N x N 0 with
  | none =>
    rw [q] at d' e'
    exact Or.inl ⟨d', e'⟩
  | some u =>
    rw [q] at d' e'
    have hu : u < N := by have := (fi1_some q).2.1; omega
    have e14 := ag.1 u (by omega)
    obtain ⟨mn1, mv⟩ := rs.2.2 u hu
    have d2 : p_Reading_declarationAt σ x = some (σ.2.1 11 u) := d'
    have e2 : p_Mo_named_L6 x FU μ 0 = some ((if μ.2.1 3 u = 1 then (if μ.1 5 = 0 then (if μ.2.1 14 u < 0 then -1 else nI u) else -1) else -1), μ) := e'
    rcases mv with z | ⟨m, z, dm, wm⟩
    · left
      refine ⟨by rw [d2, z], ?_⟩
      rw [e2, ← e14, z, if_pos (show (-1 : Int32) < 0 by decide), ite_self, ite_self]
    · right
      have ml := dm.1
      have k1 : KK C n N u = 1 := by
        refine nameK (sc.al (by omega)) (fun r0 => ?_)
        have := mn1 (fun y => by rcases y with y | y | y | y <;> rw [y] at r0 <;> exact absurd r0 (by decide))
        rw [z, an0_0 r0] at this
        exact q_neg (show m < 2147483648 by omega) this
      refine ⟨n, N, u, m, C, z0, tc, tm, iN, tk, tkm, ⟨sc, ‹_›, ‹_›, ‹_›, sm, ‹_›, ag, rs, ‹_›⟩, f5, g5, hu, dm, z, e14.symm.trans z, by rw [d2, z], ?_⟩
      rw [e2, sm.2.2.2.1 u (by omega), if_pos k1, if_pos g5, ← e14, z, if_neg (q_pos (by omega))]
theorem RDb.nmd (h : RDb σ μ) (x : Int32) : NMD σ μ x := by
  obtain ⟨T, q, tl, _, s3, m3, _, _, _, m5, _, a11, _⟩ := h
  left
  have dl : ∀ (j t fuel : Nat), j + t = T → j < fuel → p_Reading_declarationAt_L2 σ x fuel (nI t) = some (-1) := by
    intro j t fuel hj hf
    rw [datL s3 tl x j t fuel hj hf]
    cases sch σ T x j t with
    | none => rfl
    | some u => show some (σ.2.1 11 u) = _; rw [a11]
  have ml : ∀ (j t fuel : Nat), j + t = T → j < fuel → p_Mo_named_L6 x fuel μ (nI t) = some (-1, μ) := by
    intro j
    induction j with
    | zero =>
      intro t fuel hj hf
      obtain ⟨m, rfl⟩ : ∃ m, fuel = m + 1 := ⟨fuel - 1, by omega⟩
      unfold p_Mo_named_L6
      rw [m3, if_pos ((q_le (by omega) (by omega)).mpr (by omega))]
    | succ j ih =>
      intro t fuel hj hf
      obtain ⟨m, rfl⟩ : ∃ m, fuel = m + 1 := ⟨fuel - 1, by omega⟩
      have nx := ih (t + 1) m (by omega) (by omega)
      have rt : inR (nI t) 124 := q_inR (by omega) (by decide)
      have n5 : ¬ μ.1 5 = 0 := by rw [m5]; decide
      unfold p_Mo_named_L6
      rw [m3, if_neg (fun z => by have := (q_le (by omega) (by omega)).mp z; omega)]
      simp only [if_pos rt, q_tn (show t < 2147483648 by omega), nI_1, nx, if_neg n5, ite_self]
  exact ⟨dl T 0 FU (by omega) (by unfold FU; omega), ml T 0 FU (by omega) (by unfold FU; omega)⟩
theorem nmd_all (h : RDg σ μ ∨ RDb σ μ) (x : Int32) : NMD σ μ x := h.elim (fun z => z.nmd x) (fun z => z.nmd x)
theorem named_eq {μ' : Sto} (em : p_Mo_analyse (sS μ 0 0) = some μ') (x : Int32) : p_Mo_named (sS μ 0 0) x = p_Mo_named_L6 x FU μ' 0 := by
  unfold p_Mo_named
  rw [em, q_bd1]
theorem ok_definition (h : SimF FR σ τ μ) (x1 : Int32) : Sx (SimF FR) (p_LanguageServer_definition σ τ x1) (p_Mo_definition μ x1) [(0, 0), (3, 1)] := by
  obtain ⟨σ', μ', e, em, rd, si, si', z, _⟩ := qpre h
  unfold p_LanguageServer_definition p_Mo_definition p_LanguageServer_declarationFor
  rw [e, q_bd1, named_eq em]
  rcases nmd_all rd x1 with ⟨a, b⟩ | ⟨n, N, u, m, C, z0, tc, tm, iN, tk, tkm, eb, f5, g5, hu, dm, m1, m2, a, b⟩
  · rw [a, b, q_bd1, q_bd2, if_pos rfl, if_neg (show ¬ (0 : Int32) ≤ -1 by decide)]
    exact sx_of (3, 1) (by simp) rfl rfl rfl (fun h => absurd h (by decide)) (by decide) (si 1)
  · have hN := iN.1
    have ml := dm.1
    have z0' : (0 : Int32) ≤ nI u := (q_Lle (by decide) (by omega)).mpr (Nat.zero_le _)
    rw [a, b, q_bd1, q_bd2, if_neg (q_neg (by omega)), if_pos z0', if_pos (q_inR (by omega) (by decide)), q_tn (by omega), m2, if_pos (q_inR (by omega) (by decide)), q_tn (by omega)]
    show Sx (SimF FR) (if inR (nI m) 121 then some (0, σ'.2.1 4 (nI m).toNatClampNeg, σ', τ) else none) _ _
    rw [if_pos (q_inR (by omega) (by decide)), q_tn (by omega)]
    exact sx_of (0, 0) (by simp) rfl rfl z (fun _ => (tk m ml).1.trans (tkm m ml).1.symm) (by decide) si'
theorem ok_type (h : SimF FR σ τ μ) (x1 : Int32) : Sx (SimF FR) (p_LanguageServer_type σ τ x1) (p_Mo_type μ x1) [(0, 0), (3, 1)] := by
  obtain ⟨σ', μ', e, em, rd, si, si', z, _⟩ := qpre h
  unfold p_LanguageServer_type p_Mo_type p_LanguageServer_declarationFor
  rw [e, q_bd1, named_eq em]
  rcases nmd_all rd x1 with ⟨a, b⟩ | ⟨n, N, u, m, C, z0, tc, tm, iN, tk, tkm, eb, f5, g5, hu, dm, m1, m2, a, b⟩
  · rw [a, b, q_bd1, q_bd2, if_pos rfl, if_neg (show ¬ (0 : Int32) ≤ -1 by decide)]
    exact sx_of (3, 1) (by simp) rfl rfl rfl (fun h => absurd h (by decide)) (by decide) (si 1)
  · have hN := iN.1
    obtain ⟨ml, _, mr⟩ := dm
    have sm := eb.2.2.2.2.1
    have sc := eb.1
    have z0' : (0 : Int32) ≤ nI u := (q_Lle (by decide) (by omega)).mpr (Nat.zero_le _)
    have h12 := eb.2.2.2.1 m ml
    rw [a, b, q_bd1, q_bd2, if_neg (q_neg (by omega)), if_pos z0', if_pos (q_inR (by omega) (by decide)), q_tn (by omega), m2, if_pos (q_inR (by omega) (by decide))]
    simp only [q_tn (show m < 2147483648 by omega), sm.rl ml]
    show Sx (SimF FR) (if inR (nI m) 121 then some (0, σ'.2.1 12 (nI m).toNatClampNeg, σ', τ) else none) _ _
    rw [if_pos (q_inR (by omega) (by decide))]
    simp only [q_tn (show m < 2147483648 by omega), h12]
    by_cases r1 : ro (KK C n N) m = 1
    · have s2 := (ro_i (KK C n N) m).1.mp r1
      have i8 := (sm.2.2.2.2.2.2.2.1 m ml (by rw [r1]; decide)).1
      rw [if_pos ((rr_i _).1.mpr r1)]
      try rw [if_pos (q_inR (by omega) (by decide))]
      refine sx_of (0, 0) (by simp) rfl rfl z (fun _ => ?_) (by decide) si'
      rw [i8]
      unfold tyd cls
      rw [if_pos ⟨ml, s2⟩, if_pos s2]
    · have r4 : ro (KK C n N) m = 2 ∨ ro (KK C n N) m = 3 ∨ ro (KK C n N) m = 4 ∨ ro (KK C n N) m = 5 := mr.resolve_left r1
      have s : cS (tr (KK C n N) m) = 7 ∨ cS (tr (KK C n N) m) = 11 ∨ cS (tr (KK C n N) m) = 15 := by
        have ri := ro_i (KK C n N) m
        rcases r4 with y | y | y | y
        · exact Or.inl (ri.2.2.2.2.2.1.mp (Or.inl y))
        · exact Or.inl (ri.2.2.2.2.2.1.mp (Or.inr y))
        · exact Or.inr (Or.inl (ri.2.2.1.mp y))
        · exact Or.inr (Or.inr (ri.2.2.2.1.mp y))
      have m1' := (typ7 (sc.al (by omega)) s).1
      rw [if_neg (fun y => r1 ((rr_i _).1.mp y)), mdcl sm m1' (by omega), q_bd1]
      exact sx_of (0, 0) (by simp) rfl rfl z (fun _ => tyd_m ml r4) (by decide) si'
end Q1
