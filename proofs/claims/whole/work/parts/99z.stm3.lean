/-! judging: assignments, and all statements -/
section STM3
variable {z0 : Sto × Sto} {K : Nat → Int32} {N : Nat} {W : Nat → Int64} {c st t : Nat} {sh : Int32} {σ μ : Sto}
/-- behind a dot stands a name of a member -/
theorem dot19 {u : Nat} (ha : cS (tr K (u + 1)) ≠ 0) (k : K u = 46) : cS (tr K (u + 1)) = 19 := by
  have w := ways (k := K u) (k2 := K (u + 1)) (d := cD (tr K u)) (call := callB (tr K u)) (e := cE (tr K u)) ((tr_mem K u).resolve_left (tr_alive ha)) ha
  rw [trS]
  unfold Way at w
  rcases w with ⟨hs, hk, hs2, hsd⟩ | ⟨hs, hk, hs2, hsd⟩ | ⟨hs, hk, hs2, hsd⟩ | ⟨hs, hk, hs2, hsd⟩ | ⟨hs, hk, hs2, hsd⟩ | ⟨hs, hk, hs2, hsd⟩ | ⟨hs, hk, hs2, hsd⟩ | ⟨hs, hk, hs2, hsd⟩ | ⟨hs, hk, hs2, hsd⟩ | ⟨hs, hk, hs2, hsd⟩ | ⟨hs, hk, hs2, hsd⟩ | ⟨hs, hk, hs2, hsd⟩ | ⟨hs, hk, hs2, hsd⟩ | ⟨hs, hk, hs2, hsd⟩ | ⟨hs, hk, hs2, hsd⟩ | ⟨hs, hk, hs2, hsd⟩ | ⟨hs, hk, hs2, hsd⟩ | ⟨hs, hk, hs2, hsd⟩ | ⟨hs, hk, hs2, hsd⟩ | ⟨hs, hk, hs2, hsd⟩ | ⟨hs, hk, hs2, hsd⟩ | ⟨hs, hk, hs2, hsd⟩ | ⟨hs, hk, hs2, hsd⟩ | ⟨hs, hk, hs2, hsd⟩ | ⟨hs, hk, hs2, hsd⟩ | ⟨hs, hk, hs2, hsd⟩ | ⟨hs, hk, hs2, hsd⟩ | ⟨hs, hk, hs2, hsd⟩ | ⟨hs, hk, hs2, hsd⟩ | ⟨hs, hk, hs2, hsd⟩ | ⟨hs, hk, hs2, hsd⟩ | ⟨hs, hk, hs2, hsd⟩ | ⟨hs, hk, hs2, hsd⟩ | ⟨hs, hk, hs2, hsd⟩ | ⟨hs, hk, hs2, hsd⟩ | ⟨hs, hk, hs2, hsd⟩ | ⟨hs, hk, hs2, hsd⟩ | ⟨hs, hk, hs2, hsd⟩ | ⟨hs, hk, hs2, hsd⟩ | ⟨hs, hk, hs2, hsd⟩ | ⟨hs, hk, hs2, hsd⟩ | ⟨hs, hk, hs2, hsd⟩ | ⟨hs, hk, hs2, hsd⟩ | ⟨hs, hk, hs2, hsd⟩ | ⟨hs, hk, hs2, hsd⟩ | ⟨hs, hk, hs2, hsd⟩ | ⟨hs, hk, hs2, hsd⟩ | ⟨hs, hk, hs2, hsd⟩ | ⟨hs, hk, hs2, hsd⟩ | ⟨hs, hk, hs2, hsd⟩ | ⟨hs, hk, hs2, hsd⟩ | ⟨hs, hk, hs2, hsd⟩ | ⟨hs, hk, hs2, hsd⟩ | ⟨hs, hk, hs2, hsd⟩ | ⟨hs, hk, hs2, hsd⟩ | ⟨hs, hk, hs2, hsd⟩ | ⟨hs, hk, hs2, hsd⟩ | ⟨hs, hk, hs2, hsd⟩ <;> first | exact hs2 | (rw [k] at hk; exact absurd hk (by decide))
/-- a target that may not stand before = -/
def ck (σ : Sto) (f : Nat) (b : Bool) : Sto := if b = true then σ else sA σ 17 f (σ.2.1 17 f ||| 1024)
def mk (μ : Sto) (f : Nat) (b : Bool) : Sto := if b = true then μ else sA μ 13 f (μ.2.1 13 f ||| 1024)
theorem ck_a {f a : Nat} {b : Bool} (ha : a ≠ 17) : (ck σ f b).2.1 a = σ.2.1 a := by
  unfold ck
  by_cases e : b = true
  · rw [if_pos e]
  · rw [if_neg e, q_An ha]
theorem ck_1 {f : Nat} {b : Bool} : (ck σ f b).1 = σ.1 := by unfold ck; split <;> rfl
theorem ck_fr {f : Nat} {b : Bool} : CFr σ (ck σ f b) := by
  unfold ck
  by_cases e : b = true
  · rw [if_pos e]; exact CFr.refl σ
  · rw [if_neg e]; exact (CFr.refl σ).A (by decide)
theorem mk_a {f a : Nat} {b : Bool} (ha : a ≠ 13) : (mk μ f b).2.1 a = μ.2.1 a := by
  unfold mk
  by_cases e : b = true
  · rw [if_pos e]
  · rw [if_neg e, q_An ha]
theorem mk_1 {f : Nat} {b : Bool} : (mk μ f b).1 = μ.1 := by unfold mk; split <;> rfl
theorem mk_fr {f : Nat} {b : Bool} : MFr μ (mk μ f b) := by
  unfold mk
  by_cases e : b = true
  · rw [if_pos e]; exact MFr.refl μ
  · rw [if_neg e]; exact (MFr.refl μ).A (by decide)
theorem or_sw (x : Int32) : x ||| 1024 ||| 512 = x ||| 512 ||| 1024 := by
  first
    | rw [Int32.or_assoc, Int32.or_comm 1024 512, ← Int32.or_assoc]
    | (apply Int32.toBitVec_inj.mp; simp [BitVec.or_assoc, BitVec.or_comm])
theorem AG.kw {f g : Nat} {b d : Bool} (h : AG N σ μ) : AG N (cw (ck σ g d) f b) (mk (mw μ f b) g d) := by
  refine ⟨fun u hu4 => by rw [cw_a (by decide), ck_a (by decide), mk_a (by decide), mw_a (by decide)]; exact h.1 u hu4, fun u hu4 => ?_⟩
  by_cases e : b = true
  · subst e
    show (ck σ g d).2.1 17 u = (mk μ g d).2.1 13 u
    unfold ck mk
    by_cases e2 : d = true
    · rw [if_pos e2, if_pos e2]; exact h.2 u hu4
    · rw [if_neg e2, if_neg e2, q_A2, q_A2, if_pos rfl, if_pos rfl]
      by_cases ug : u = g
      · rw [if_pos ug, if_pos ug, h.2 g (by omega)]
      · rw [if_neg ug, if_neg ug, h.2 u hu4]
  · by_cases e2 : d = true
    · subst e2
      exact (AG.w (f := f) (b := b) h).2 u hu4
    · have eb : b = false := by simpa using e
      have ed : d = false := by simpa using e2
      subst eb
      subst ed
      show (sA (sA σ 17 g (σ.2.1 17 g ||| 1024)) 17 f ((sA σ 17 g (σ.2.1 17 g ||| 1024)).2.1 17 f ||| 512)).2.1 17 u = (sA (sA μ 13 f (μ.2.1 13 f ||| 512)) 13 g ((sA μ 13 f (μ.2.1 13 f ||| 512)).2.1 13 g ||| 1024)).2.1 13 u
      simp only [q_A2, if_true]
      by_cases uf : u = f
      · by_cases ug : u = g
        · rw [if_pos uf, if_pos ug, if_pos (show f = g by omega), if_pos (show g = f by omega), h.2 g (by omega), show f = g by omega]
          exact or_sw _
        · rw [if_pos uf, if_neg ug, if_neg (show ¬ f = g by omega), if_pos uf, h.2 f (by omega)]
      · by_cases ug : u = g
        · rw [if_neg uf, if_pos ug, if_pos ug, if_neg (show ¬ g = f by omega), h.2 g (by omega)]
        · rw [if_neg uf, if_neg ug, if_neg ug, if_neg uf, h.2 u hu4]
theorem RSv.k {f : Nat} {b : Bool} (h : RSv K N W σ (t + 1)) (hf : f ≤ t) (tl : t < N) : RSv K N W (ck σ f b) (t + 1) := by
  refine ⟨fun u hu hN => ?_, ?_, fun u hu => by rw [ck_a (by decide)]; exact h.2.2 u hu⟩
  · rw [ck_a (by decide)]
    refine ⟨(h.1 u hu hN).1, ?_⟩
    unfold ck
    by_cases e : b = true
    · rw [if_pos e]; exact (h.1 u hu hN).2
    · rw [if_neg e, q_A2, if_pos rfl, if_neg (by omega)]; exact (h.1 u hu hN).2
  · unfold ck
    by_cases e : b = true
    · rw [if_pos e]; exact h.2.1
    · rw [if_neg e]; exact h.2.1.or (by omega) (Or.inr rfl)
theorem sr_3 (h : SJ z0 K N W t σ μ) (tN : t < N) (s14 : cS (tr K t) = 14) (k125 : ¬ K t = 125) (k3 : ¬ K t = 3) (k11 : ¬ (K t = 1 ∧ K (t + 1) = 1)) (k6 : ¬ K t = 6) : SR z0 K N W t σ μ := by
  obtain ⟨c, cc, e13, e14, e16, m8, m9, d0, mt, m7⟩ := st_pre h tN s14 k125
  obtain ⟨eb, l0, c0, h13, h14, h8, hs14⟩ := h
  obtain ⟨_, e17, h25, h26, h28⟩ := hs14 s14
  have sc := eb.1
  have hN := sc.1
  have sm := eb.2.2.2.2.1
  have ws : WS K t := Or.inl ⟨s14, k125, k3, k11, k6⟩
  have nns : ¬ NS K t := fun z => ns_14 z s14
  obtain ⟨t', σ', μ', v, f, b, l1, l2, r1, i1, e1, x1, x3, tv, hf, E, e8, w, k, cd, Q, U, f25⟩ := evalx (sh := -2) (c := c) (st := t) eb l0 c0 ⟨e17, e13, cc, e14, e16, m8, Nat.le_refl _⟩ h25 h26 h28 tN ws d0 (by rw [s14]; decide) ⟨fun _ => rfl, fun _ _ => ⟨fun z => by rw [s14] at z; exact absurd z (by decide), fun _ _ z => absurd z nns⟩⟩
  have tt : t < t' := Decidable.byContradiction (fun z => nns (by rw [show t = t' by omega]; exact w))
  have bg3 : μ.2.1 10 t = 3 := by
    rw [sm.bgn (by omega), if_pos ⟨tN, s14, k125⟩]
    unfold bg
    rw [if_neg (fun z => z.elim k3 k11), if_neg k6]
  have a1 := sc.al (t := t' + 1) (by omega)
  have eb1 := E.1.up.w (b := b) hf l2
  have smf := eb1.2.2.2.2.1
  have m8f : (mw μ' f b).1 8 = nI t' := by rw [mw_1]; exact e8
  have kf : (mw μ' f b).2.1 3 t' = K t' := smf.2.2.2.1 t' (by omega)
  -- what the reference does with the first expression
  have js : p_Mo_judgeStatement μ (nI t) = if K t' = 61 then (if (mw μ' f b).2.1 20 0 = 0 then (if K (t' - 1) = 1 then (if t' - 1 = t then p_Mo_judgeStatement_b145 (nI t) (mw μ' f b) v else (if K (t' - 2) = 46 then p_Mo_judgeStatement_b145 (nI t) (mw μ' f b) v else p_Mo_judgeStatement_b149 (nI t) (mw μ' f b) v)) else p_Mo_judgeStatement_b149 (nI t) (mw μ' f b) v) else p_Mo_judgeStatement_b149 (nI t) (mw μ' f b) v) else some (mw μ' f b) := by
    unfold p_Mo_judgeStatement
    rw [if_pos (q_inR (by omega) (by decide))]
    simp only [q_tn (show t < 2147483648 by omega), bg3, if_neg (show ¬ (3 : Int32) = 1 by decide), if_neg (show ¬ (3 : Int32) = 2 by decide), if_pos (q_inR (show t < 124 by omega) (by decide : 124 < 2147483648))]
    rw [e1, q_bd2]
    have em1 : nI t' - 1 = nI (t' - 1) := q_subL (show 1 ≤ t' by omega)
    simp only [m8f, if_pos (q_inR (show t' < 124 by omega) (by decide : 124 < 2147483648)), q_tn (show t' < 2147483648 by omega), kf, em1, if_pos (q_inR (show t' - 1 < 124 by omega) (by decide : 124 < 2147483648)), q_tn (show t' - 1 < 2147483648 by omega), smf.2.2.2.1 (t' - 1) (by omega)]
    rw [if_pos (show inR (0 : Int32) 10 from q_inR (t := 0) (by decide) (by decide)), show (0 : Int32).toNatClampNeg = 0 from q_tn (t := 0) (by decide)]
    by_cases q1 : t' - 1 = t
    · rw [if_pos (show nI (t' - 1) = nI t by rw [q1]), if_pos q1]
    · have em2 : nI t' - 2 = nI (t' - 2) := q_subL (show 2 ≤ t' by omega)
      rw [if_neg (show ¬ nI (t' - 1) = nI t from fun z => q1 ((q_eq (by omega) (by omega)).mp z)), if_neg q1]
      simp only [em2, if_pos (q_inR (show t' - 2 < 124 by omega) (by decide : 124 < 2147483648)), q_tn (show t' - 2 < 2147483648 by omega), smf.2.2.2.1 (t' - 2) (by omega)]
  rcases k with k59 | k61
  · -- no assignment
    obtain ⟨σ2, c2, S2⟩ := endS E w k59 cd l2 x1 tv (Or.inl rfl) hf (by omega) f25
    rw [fit_u] at S2
    refine ⟨t' + 1, σ2, mw μ' f b, by omega, by omega, ?_, fun i τ hi hτ => ?_, ?_, S2, fun u h1 h2 => U u h1 (by omega), by rw [(ns_n w).1, k59, cd]; simp +decide only [tal, if_true, if_false]⟩
    · rw [show t' + 1 - t = (t' - t) + 1 by omega, crn_add r1, show t + (t' - t) = t' by omega]
      exact crn_1 c2
    · by_cases q : i < t' - t
      · exact i1 i τ q hτ
      · rw [show i = t' - t by omega, r1] at hτ
        rw [← Option.some.inj hτ]
        exact E.1.1.2.2.2.1
    · rw [js, if_neg (by rw [k59]; decide)]
  · -- an assignment
    have sc' := E.1.1
    have el := E.2.2.1
    rw [cd] at el
    obtain ⟨_, c13, cc', c14, c16, m8', _⟩ := E.2.1
    obtain ⟨_, _, bb, _, _, _, hbb, _, _, _, _, b1, b2⟩ := el.2.2.2.1 0 (Nat.le_refl _)
    have w8 := ns_8 w
    have cet : cE (tr K t') = true := by
      cases q : cE (tr K t')
      · exfalso
        apply a1
        rw [(ns_n w).1, k61, cd, q]
        simp +decide only [tal, if_true, if_false]
      · rfl
    have s17 : cS (tr K (t' + 1)) = 17 := by rw [(ns_n w).1, k61, cd, cet]; simp +decide only [tal, if_true, if_false]
    have t1N : t' + 1 < N := Decidable.byContradiction (fun z => by
      have e : t' + 1 = N := by omega
      have := s17
      rw [e, sc.2.1] at this
      exact absurd this (by decide))
    have r18 : ro K t' = 18 := ro_s (by rw [(ns_n w).2.1, k61]; simp +decide only [talR, if_true, if_false]) (by decide) (by decide) (by decide)
    -- the two tests of the target
    have nk : K (t' - 1 + 1) = 61 := by rw [show t' - 1 + 1 = t' by omega]; exact k61
    have er : ro K (t' - 1) = rbT K (t' - 1) := by unfold ro; rw [if_neg (by rw [nk]; decide)]
    have tgt : bb = 0 → ((ro K (t' - 1) = 9 ∨ ro K (t' - 1) = 11) ↔ (K (t' - 1) = 1 ∧ (t' - 1 = t ∨ K (t' - 2) = 46))) := by
      intro hb0
      constructor
      · intro z
        have kn : K (t' - 1) = 1 := sc.nm (show t' - 1 < N by omega) (by rcases z with z | z <;> rw [z] <;> decide)
        refine ⟨kn, ?_⟩
        rcases z with z | z
        · rcases (Q.2 cet cd).2 (by omega) z w with y | y
          · exact Or.inl y
          · rw [b1, hb0] at y; exact absurd y (by decide)
        · right
          have s19 : cS (tr K (t' - 1)) = 19 := (ro_i K _).2.2.2.2.2.2.2.mp (Or.inl z)
          have t2 : t' - 1 ≠ t := fun y => by rw [y, s14] at s19; exact absurd s19 (by decide)
          have := (prv (t := t' - 2) (by rw [show t' - 2 + 1 = t' - 1 by omega, s19]; decide)).2.2.2.2.2.2.2.1 (by rw [show t' - 2 + 1 = t' - 1 by omega]; exact s19)
          exact this
      · rintro ⟨kn, z⟩
        rcases z with z | z
        · left
          rw [er, z]
          unfold rbT
          rw [s14, show K t = 1 by rw [← z]; exact kn, show K (t + 1) = 61 by rw [show t + 1 = t' by omega]; exact k61]
          simp +decide only [rb, oprR, true_and, if_true, if_false]
        · have t2 : t' - 1 ≠ t ∨ t' - 1 = t := by omega
          by_cases e : t' - 1 = t
          · left
            rw [er, e]
            unfold rbT
            rw [s14, show K t = 1 by rw [← e]; exact kn, show K (t + 1) = 61 by rw [show t + 1 = t' by omega]; exact k61]
            simp +decide only [rb, oprR, true_and, if_true, if_false]
          · right
            have s19 := dot19 (u := t' - 2) (by rw [show t' - 2 + 1 = t' - 1 by omega]; exact sc.al (by omega)) z
            rw [show t' - 2 + 1 = t' - 1 by omega] at s19
            rw [er]
            unfold rbT
            rw [s19]
            simp +decide only [rb, if_true, if_false]
    generalize hg : decide (bb = 0 ∧ (ro K (t' - 1) = 9 ∨ ro K (t' - 1) = 11)) = g
    have ct : p_Judge_checkTarget σ' (nI t') = some (ck σ' t g) := by
      unfold p_Judge_checkTarget p_Judge_checkTarget_b19
      rw [if_neg (fun z => by have : t' ≤ 0 := (q_leL (by omega) (by decide)).mp z; omega), show nI t' - 1 = nI (t' - 1) from q_subL (show 1 ≤ t' by omega), if_pos (q_inR (show t' - 1 < 121 by omega) (by decide))]
      simp only [q_tn (show t' - 1 < 2147483648 by omega), sc'.rl (show t' - 1 < N by omega), el.1, if_pos (q_inR (show (0 : Nat) < 9 by decide) (by decide : 9 < 2147483648)), q_tn (show (0 : Nat) < 2147483648 by decide), b1, f25]
      rw [cmark (show t < 121 by omega), q_bd1]
      by_cases q0 : bb = 0
      · rw [if_pos q0]
        by_cases q9 : ro K (t' - 1) = 9
        · rw [if_pos q9, ← hg, decide_eq_true ⟨q0, Or.inl q9⟩]; rfl
        · rw [if_neg q9]
          by_cases q11 : ro K (t' - 1) = 11
          · rw [if_pos q11, ← hg, decide_eq_true ⟨q0, Or.inr q11⟩]; rfl
          · rw [if_neg q11, ← hg, decide_eq_false (fun z => z.2.elim q9 q11)]; rfl
      · rw [if_neg q0, ← hg, decide_eq_false (fun z => q0 z.1)]; rfl
    have ex : p_Judge_endExpression (ck σ' t g) = some (v, cw (ck σ' t g) f b) := by
      unfold ck
      by_cases e : g = true
      · rw [if_pos e]; exact x1
      · rw [if_neg e]; exact x3 _ _
    have l12 : (cw (ck σ' t g) f b).1 12 = nI 0 := by rw [cw_1, ck_1]; exact el.1
    have c2 : cstp σ' t' = some (sA (sA (sA (sS (cw (ck σ' t g) f b) 17 v) 25 0 (nI (t' + 1))) 26 0 (nI (t' + 1))) 28 0 0) := by
      unfold cstp p_Judge_takeStatementSign
      rw [sc'.rl l2, r18]
      simp +decide only [if_true, if_false, nI_1]
      rw [ct, q_bd1, ex, q_bd2, cbegin (σ := sS (cw (ck σ' t g) f b) 17 v) (D := 0) l12 (by omega), q_bd1]
    have m20 : (mw μ' f b).2.1 20 0 = bb := by rw [mw_a (by decide)]; exact b2
    have js2 : p_Mo_judgeStatement μ (nI t) = p_Mo_judgeStatement_b162 (nI t) (mk (mw μ' f b) t g) v := by
      have good : g = true → p_Mo_judgeStatement_b145 (nI t) (mw μ' f b) v = p_Mo_judgeStatement_b162 (nI t) (mk (mw μ' f b) t g) v := fun e => by
        unfold p_Mo_judgeStatement_b145 p_Mo_judgeStatement_b150 mk
        rw [if_neg (by decide), if_pos e]
      have badg : g = false → p_Mo_judgeStatement_b149 (nI t) (mw μ' f b) v = p_Mo_judgeStatement_b162 (nI t) (mk (mw μ' f b) t g) v := fun e => by
        unfold p_Mo_judgeStatement_b149 p_Mo_judgeStatement_b150 mk
        rw [if_pos rfl, mnote (by omega), q_bd1, if_neg (by rw [e]; decide)]
        rfl
      rw [js, if_pos k61, m20]
      by_cases q0 : bb = 0
      · rw [if_pos q0]
        have tg := tgt q0
        by_cases q1 : K (t' - 1) = 1
        · rw [if_pos q1]
          by_cases q2 : t' - 1 = t
          · rw [if_pos q2]; exact good (by rw [← hg]; exact decide_eq_true ⟨q0, tg.mpr ⟨q1, Or.inl q2⟩⟩)
          · rw [if_neg q2]
            by_cases q3 : K (t' - 2) = 46
            · rw [if_pos q3]; exact good (by rw [← hg]; exact decide_eq_true ⟨q0, tg.mpr ⟨q1, Or.inr q3⟩⟩)
            · rw [if_neg q3]; exact badg (by rw [← hg]; exact decide_eq_false (fun z => (tg.mp z.2).2.elim q2 q3))
        · rw [if_neg q1]; exact badg (by rw [← hg]; exact decide_eq_false (fun z => q1 (tg.mp z.2).1))
      · rw [if_neg q0]; exact badg (by rw [← hg]; exact decide_eq_false (fun z => q0 z.1))
    have ebk : EB z0 K N W (t' + 1) (cw (ck σ' t g) f b) (mk (mw μ' f b) t g) := E.1.up.fr (ck_fr.trans CFr.w) (MFr.w.trans mk_fr) (AG.kw E.1.2.2.2.2.2.2.1) ((E.1.up.2.2.2.2.2.2.2.1.k (by omega) (by omega)).w2 hf (by omega))
    have ebs : EB z0 K N W (t' + 1) (sA (sA (sA (sS (cw (ck σ' t g) f b) 17 v) 25 0 (nI (t' + 1))) 26 0 (nI (t' + 1))) 28 0 0) (mk (mw μ' f b) t g) := (((ebk.S (by decide) (by decide)).L (by decide)).L (by decide)).L (by decide)
    obtain ⟨t2, σ2, μ2, v2, y1, y2, y3, y4, y5, y6, y7, y8, y9, y10, y11⟩ := lastx (t := t) (sh := v) (c := c) (p := t' + 1) (σ0 := σ) (by omega) (by rw [show t' + 1 - t = (t' - t) + 1 by omega, crn_add r1, show t + (t' - t) = t' by omega]; exact crn_1 c2) (fun i τ hi hτ => by
      by_cases q : i < t' - t
      · exact i1 i τ q hτ
      · rw [show i = t' - t by omega, r1] at hτ
        rw [← Option.some.inj hτ]
        exact E.1.1.2.2.2.1) ebs l12 (by rw [q_An (by decide), q_An (by decide), q_An (by decide), q_S2, cw_a (by decide), ck_a (by decide)]; exact el.2.2.1) ⟨rfl, by show (cw (ck σ' t g) f b).1 13 = _; rw [cw_1, ck_1]; exact c13, (cC_k (n_8 w8 (by decide))).trans cc', by rw [cM_k (n_8 w8 (by decide))]; show (cw (ck σ' t g) f b).1 14 = _; rw [cw_1, ck_1]; exact c14, by show (cw (ck σ' t g) f b).1 16 = _; rw [cw_1, ck_1]; exact c16, by rw [mk_a (by decide), mw_a (by decide)]; exact m8', by omega⟩ (by rw [q_An (by decide), q_An (by decide), q_A2, if_pos rfl, if_pos rfl]) (by rw [q_An (by decide), q_A2, if_pos rfl, if_pos rfl]) (by rw [q_A2, if_pos rfl, if_pos rfl]) t1N s17 (by rw [(ns_n w).2.2.1, k61, if_neg (by decide)]; exact cd) ((ns_n w).2.2.2.2.2 k61) tv (fun u h1 h2 => by
      by_cases e : u = t' + 1
      · rw [e, s17]; decide
      · exact U u h1 (by omega))
    refine ⟨t2, σ2, _, y1, y2, y3, y4, ?_, y9, y10, y11⟩
    rw [js2]
    unfold p_Mo_judgeStatement_b162
    have m8k : (mk (mw μ' f b) t g).1 8 = nI t' := by rw [mk_1]; exact m8f
    rw [m8k, nI_1, y5, q_bd2, mshould y7 (by omega) y6 tv, q_bd1, y8]
end STM3
