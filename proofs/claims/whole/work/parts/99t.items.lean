/-! judging: what one sign or operand does on both sides -/
def opC (σ : Sto) (D : Nat) (x y : Int32) : Sto := sA (sA (sA (sA (sA (sS σ 12 (nI (D + 1))) 23 (D + 1) x) 24 (D + 1) 0) 25 (D + 1) y) 26 (D + 1) y) 28 (D + 1) 0
theorem copen {σ : Sto} {D : Nat} (hD : σ.1 12 = nI D) (hD8 : D < 8) (x y : Int32) : p_Judge_open σ x y = some (opC σ D x y) := by
  unfold p_Judge_open
  have s12 : ∀ (v : Int32), (sS σ 12 v).1 12 = v := fun v => rfl
  have n9 : ¬ (9 : Int32) ≤ nI (D + 1) := fun z => by
    have : 9 ≤ D + 1 := (q_Lle (by decide) (by omega)).mp z
    omega
  simp only [hD, nI_1, if_neg n9, q_A1, s12, if_pos (q_inR (show D + 1 < 9 by omega) (by decide : 9 < 2147483648)), q_tn (show D + 1 < 2147483648 by omega)]
  rw [cbegin (D := D + 1) rfl (by omega), q_bd1]
  rfl
section ITM
variable {z0 : Sto × Sto} {f0 : Nat} {sh : Int32} {K : Nat → Int32} {N : Nat} {W : Nat → Int64} {c st t : Nat} {σ μ : Sto}
/-- a bracket is opened -/
theorem EL.opn {D y t' : Nat} {o : Nat → Int32} {x : Int32} {μ' : Sto} (h : EL f0 K N t D o σ μ) (tt : t ≤ t') (ea : ∀ x, ac K t' x - 1 = ac K t x - 1) (hy : y ≤ t') (m7 : μ'.1 7 = nI (D + 1)) (mm : ∀ a l, a = 16 ∨ a = 17 ∨ a = 18 ∨ a = 19 ∨ a = 20 ∨ a = 21 ∨ a = 23 → l ≤ D → μ'.2.1 a l = μ.2.1 a l) (n16 : μ'.2.1 16 (D + 1) = if x = -1 then 0 else 1) (n17 : μ'.2.1 17 (D + 1) = nI y) (n18 : μ'.2.1 18 (D + 1) = nI y) (n20 : μ'.2.1 20 (D + 1) = 0) (hci : ∀ z, z < 121 → x = nI z → CIv K N t' (opC σ D x (nI y)) μ' D z) : EL f0 K N t' (D + 1) (fun l => if l = D then x else o l) (opC σ D x (nI y)) μ' := by
  obtain ⟨a, b, d, p, q, r⟩ := h
  have cc : ∀ a l, l ≤ D → (opC σ D x (nI y)).2.1 a l = σ.2.1 a l := fun a l hl => by
    unfold opC
    simp only [q_A2, q_S2]
    simp [show ¬ l = D + 1 by omega]
  have c25 : (opC σ D x (nI y)).2.1 25 (D + 1) = nI y := by unfold opC; simp [q_A2]
  have c26 : (opC σ D x (nI y)).2.1 26 (D + 1) = nI y := by unfold opC; simp [q_A2]
  have c28 : (opC σ D x (nI y)).2.1 28 (D + 1) = 0 := by unfold opC; simp [q_A2]
  have c23 : (opC σ D x (nI y)).2.1 23 (D + 1) = x := by unfold opC; simp [q_A2]
  refine ⟨rfl, m7, by rw [cc 23 0 (by omega)]; exact d, fun l hl => ?_, fun l hl => ?_, fun l z hl hz ho => ?_⟩
  · by_cases e : l = D + 1
    · subst e
      exact ⟨y, y, 0, fun z => absurd z (Nat.succ_ne_zero _), hy, hy, Or.inl rfl, c25, n17, c26, n18, c28, n20⟩
    · exact (p l (by omega)).fr tt (cc 25 l (by omega)) (cc 26 l (by omega)) (cc 28 l (by omega)) (mm 17 l (by decide) (by omega)) (mm 18 l (by decide) (by omega)) (mm 20 l (by decide) (by omega))
  · by_cases e : l = D
    · subst e
      simp only [if_true]
      exact ⟨c23, n16⟩
    · simp only [if_neg e]
      rw [cc 23 (l + 1) (by omega), mm 16 (l + 1) (by decide) (by omega)]
      exact q l (by omega)
  · by_cases e : l = D
    · subst e
      simp only [if_true] at ho
      exact hci z hz ho
    · simp only [if_neg e] at ho
      exact (r l z (by omega) hz ho).fr tt (ea z) (cc 27 l (by omega)) (mm 19 l (by decide) (by omega)) (cc 24 (l + 1) (by omega)) (mm 21 (l + 1) (by decide) (by omega)) (mm 23 (l + 1) (by decide) (by omega)) (fun u _ => by
        unfold opC
        simp [q_A2, q_S2])
/-- an expression ends -/
theorem endx {D : Nat} (eb : EB z0 K N W (t + 1) σ μ) (hD : σ.1 12 = nI D) (mD : μ.1 7 = nI D) (hD8 : D ≤ 8) (tN : t < N) (pl : PLv f0 t σ μ D) (tl : TLv K N D σ μ) : ∃ v f b, TV K N v ∧ f ≤ t ∧ p_Judge_endExpression σ = some (v, cw σ f b) ∧ p_Mo_over μ = some (v, mw μ f b) := by
  obtain ⟨f, g, b, h00, hf, hg, hb, f1, f2, g1, g2, b1, b2⟩ := pl
  obtain ⟨t1, t2⟩ := tl
  obtain ⟨sc, hW, hp, h12, sm, ew, ag, rs, _⟩ := eb
  have hN := sc.1
  have rD : inR (nI D) 9 := q_inR (by omega) (by decide)
  have rD' : inR (nI D) 10 := q_inR (by omega) (by decide)
  have rDn : (nI D).toNatClampNeg = D := q_tn (by omega)
  unfold p_Judge_endExpression p_Mo_over p_Mo_over_b35
  rcases hb with z | z
  · refine ⟨σ.2.1 27 D, 0, true, t2, Nat.zero_le _, ?_, ?_⟩
    · simp only [hD, if_pos rD, rDn, b1, z, if_true]
      rfl
    · simp only [mD, if_pos rD', rDn, b2, z, if_true, ← t1]
      rfl
  · refine ⟨-1, g, fitB K N W (σ.2.1 27 D) (-1), Or.inr (Or.inl rfl), hg, ?_, ?_⟩
    · simp only [hD, if_pos rD, rDn, b1, z, g1, if_neg (show ¬ (1 : Int32) = 0 by decide)]
      rw [cwant sc hp (by omega) t2 (Or.inr (Or.inl rfl)), q_bd1]
    · simp only [mD, if_pos rD', rDn, b2, z, g2, if_neg (show ¬ (1 : Int32) = 0 by decide), ← t1]
      rw [mshould sm (by omega) t2 (Or.inr (Or.inl rfl)), q_bd1, ew]
      simp only [mw_1, mD, if_pos rD', rDn, mw_a (show (20 : Nat) ≠ 13 by decide), b2, z, if_neg (show ¬ (1 : Int32) = 0 by decide)]
/-- .. also where something else is marked before -/
theorem endx' {D : Nat} (eb : EB z0 K N W (t + 1) σ μ) (hD : σ.1 12 = nI D) (mD : μ.1 7 = nI D) (hD8 : D ≤ 8) (tN : t < N) (pl : PLv f0 t σ μ D) (tl : TLv K N D σ μ) : ∃ v f b, TV K N v ∧ f ≤ t ∧ p_Judge_endExpression σ = some (v, cw σ f b) ∧ p_Mo_over μ = some (v, mw μ f b) ∧ ∀ i w, p_Judge_endExpression (sA σ 17 i w) = some (v, cw (sA σ 17 i w) f b) := by
  obtain ⟨f, g, b, h00, hf, hg, hb, f1, f2, g1, g2, b1, b2⟩ := pl
  obtain ⟨t1, t2⟩ := tl
  obtain ⟨sc, hW, hp, h12, sm, ew, ag, rs, _⟩ := eb
  have hN := sc.1
  have rD : inR (nI D) 9 := q_inR (by omega) (by decide)
  have rD' : inR (nI D) 10 := q_inR (by omega) (by decide)
  have rDn : (nI D).toNatClampNeg = D := q_tn (by omega)
  unfold p_Judge_endExpression p_Mo_over p_Mo_over_b35
  rcases hb with z | z
  · refine ⟨σ.2.1 27 D, 0, true, t2, Nat.zero_le _, ?_, ?_, fun i w => ?_⟩
    · simp only [hD, if_pos rD, rDn, b1, z, if_true]
      rfl
    · simp only [mD, if_pos rD', rDn, b2, z, if_true, ← t1]
      rfl
    · simp only [q_A1, q_An (show (28 : Nat) ≠ 17 by decide), q_An (show (27 : Nat) ≠ 17 by decide), hD, if_pos rD, rDn, b1, z, if_true]
      rfl
  · refine ⟨-1, g, fitB K N W (σ.2.1 27 D) (-1), Or.inr (Or.inl rfl), hg, ?_, ?_, fun i w => ?_⟩
    · simp only [hD, if_pos rD, rDn, b1, z, g1, if_neg (show ¬ (1 : Int32) = 0 by decide)]
      rw [cwant sc hp (by omega) t2 (Or.inr (Or.inl rfl)), q_bd1]
    · simp only [mD, if_pos rD', rDn, b2, z, g2, if_neg (show ¬ (1 : Int32) = 0 by decide), ← t1]
      rw [mshould sm (by omega) t2 (Or.inr (Or.inl rfl)), q_bd1, ew]
      simp only [mw_1, mD, if_pos rD', rDn, mw_a (show (20 : Nat) ≠ 13 by decide), b2, z, if_neg (show ¬ (1 : Int32) = 0 by decide)]
    · simp only [q_A1, q_An (show (28 : Nat) ≠ 17 by decide), q_An (show (27 : Nat) ≠ 17 by decide), q_An (show (26 : Nat) ≠ 17 by decide), hD, if_pos rD, rDn, b1, z, g1, if_neg (show ¬ (1 : Int32) = 0 by decide)]
      have scA : SC K N (sA σ 17 i w) := sc.keep rfl rfl (q_An (by decide)) (q_An (by decide)) (q_An (by decide)) (q_An (by decide))
      rw [cwant (σ := sA σ 17 i w) (W := W) scA (fun c hc => by rw [q_An (by decide)]; exact hp c hc) (by omega) t2 (Or.inr (Or.inl rfl)), q_bd1]
/-- an argument ends -/
theorem carg {D x : Nat} {v : Int32} (eb : EB z0 K N W (t + 1) σ μ) (hD : σ.1 12 = nI (D + 1)) (mD : μ.1 7 = nI (D + 1)) (hD8 : D < 8) (tN : t < N) (pl : PLv f0 t σ μ (D + 1)) (c23 : σ.2.1 23 (D + 1) = nI x) (ci : CIv K N t σ μ D x) (xl : x < 121) (tv : TV K N v) : ∃ f b, f ≤ t ∧ p_Judge_checkArgument σ v = some (sA (cw σ f b) 24 (D + 1) (nI (ac K t x - 1 + 1))) ∧ (∀ r : Option (Int32 × Sto), r = some (v, μ) → (bd2 r fun v_1 σ_1 => if inR (σ_1.1 7) 10 then (if (σ_1.2.1 23 ((σ_1.1 7).toNatClampNeg)) < 0 then if inR (σ_1.1 7) 10 then if inR (σ_1.1 7) 10 then some (sA σ_1 21 ((σ_1.1 7).toNatClampNeg) ((σ_1.2.1 21 ((σ_1.1 7).toNatClampNeg)) + 1)) else none else none else if inR (σ_1.1 7) 10 then if inR (σ_1.1 7) 10 then bd1 (p_Mo_parameter σ_1 (σ_1.2.1 23 ((σ_1.1 7).toNatClampNeg)) (σ_1.2.1 21 ((σ_1.1 7).toNatClampNeg))) fun v_39 => bd1 (p_Mo_declared σ_1 v_39) fun v_42 => if inR (σ_1.1 7) 10 then bd1 (p_Mo_should σ_1 v_1 v_42 (σ_1.2.1 17 ((σ_1.1 7).toNatClampNeg))) fun σ_54 => if inR (σ_54.1 7) 10 then if inR (σ_54.1 7) 10 then some (sA σ_54 21 ((σ_54.1 7).toNatClampNeg) ((σ_54.2.1 21 ((σ_54.1 7).toNatClampNeg)) + 1)) else none else none else none else none else none) else none) = some (sA (mw μ f b) 21 (D + 1) (nI (ac K t x - 1 + 1)))) := by
  obtain ⟨f, g, b, h00, hf, hg, hb, f1, f2, g1, g2, b1, b2⟩ := pl
  obtain ⟨sc, hW, hp, h12, sm, ew, ag, rs, _⟩ := eb
  obtain ⟨_, _, ax, xt, a24, a21, o, e11, om, m23⟩ := ci
  have hN := sc.1
  have hK := sc.2.2.1
  have rD : inR (nI (D + 1)) 9 := q_inR (by omega) (by decide)
  have rD' : inR (nI (D + 1)) 10 := q_inR (by omega) (by decide)
  have rDn : (nI (D + 1)).toNatClampNeg = D + 1 := q_tn (by omega)
  have rx : inR (nI x) 121 := q_inR xl (by decide)
  have rxn : (nI x).toNatClampNeg = x := q_tn (by omega)
  have x1 : ¬ nI x = (-1 : Int32) := q_neg (by omega)
  have alx := ac_le (K := K) x N
  have alt := ac_le (K := K) x t
  have e10x : σ.2.1 10 x = nI (ac K N x) := sc.2.2.2.2.2.2.1 x
  have ax0 : ¬ nI (ac K N x) = (0 : Int32) := fun z => ax ((q_eqL (by omega) (by decide)).mp z)
  have axm := ac_mono (K := K) (x := x) (t := t) (u := N) (by omega)
  -- nothing is compared
  have no : (o = none ∨ ∃ m, o = some m ∧ ¬ ac K N m = ac K N x) → p_Judge_checkArgument σ v = some (sA (cw σ 0 true) 24 (D + 1) (nI (ac K t x - 1 + 1))) := by
    intro q
    unfold p_Judge_checkArgument
    simp only [hD, if_pos rD, rDn, c23, if_neg x1, if_pos rx, rxn, e10x, if_neg ax0, e11]
    rcases q with q | ⟨m, q, q2⟩
    · subst q
      rw [if_pos (show oI none = -1 from rfl)]
      simp only [a24, nI_1]
      rfl
    · subst q
      have ml := (om m rfl).1
      have am := ac_le (K := K) m N
      have e10m : σ.2.1 10 m = nI (ac K N m) := sc.2.2.2.2.2.2.1 m
      rw [if_neg (show ¬ oI (some m) = -1 from q_neg (by omega)), if_pos (show inR (oI (some m)) 121 from q_inR (by omega) (by decide)), show (oI (some m)).toNatClampNeg = m from q_tn (by omega), e10m, if_neg (fun z => q2 ((q_eq (by omega) (by omega)).mp z))]
      simp only [a24, nI_1]
      rfl
  have mno : μ.2.1 23 (D + 1) = -1 → ∀ r : Option (Int32 × Sto), r = some (v, μ) → (bd2 r fun v_1 σ_1 => if inR (σ_1.1 7) 10 then (if (σ_1.2.1 23 ((σ_1.1 7).toNatClampNeg)) < 0 then if inR (σ_1.1 7) 10 then if inR (σ_1.1 7) 10 then some (sA σ_1 21 ((σ_1.1 7).toNatClampNeg) ((σ_1.2.1 21 ((σ_1.1 7).toNatClampNeg)) + 1)) else none else none else if inR (σ_1.1 7) 10 then if inR (σ_1.1 7) 10 then bd1 (p_Mo_parameter σ_1 (σ_1.2.1 23 ((σ_1.1 7).toNatClampNeg)) (σ_1.2.1 21 ((σ_1.1 7).toNatClampNeg))) fun v_39 => bd1 (p_Mo_declared σ_1 v_39) fun v_42 => if inR (σ_1.1 7) 10 then bd1 (p_Mo_should σ_1 v_1 v_42 (σ_1.2.1 17 ((σ_1.1 7).toNatClampNeg))) fun σ_54 => if inR (σ_54.1 7) 10 then if inR (σ_54.1 7) 10 then some (sA σ_54 21 ((σ_54.1 7).toNatClampNeg) ((σ_54.2.1 21 ((σ_54.1 7).toNatClampNeg)) + 1)) else none else none else none else none else none) else none) = some (sA (mw μ 0 true) 21 (D + 1) (nI (ac K t x - 1 + 1))) := by
    intro q r hr
    rw [hr, q_bd2]
    simp only [mD, if_pos rD', rDn, q, a21, nI_1]
    rfl
  cases o with
  | none => exact ⟨0, true, Nat.zero_le _, no (Or.inl rfl), mno m23⟩
  | some m =>
    obtain ⟨ml, mr⟩ := om m rfl
    have am := ac_le (K := K) m N
    have s7 := (ro_i K m).2.2.2.2.2.1.mp (Or.inr mr)
    have m23' : μ.2.1 23 (D + 1) = if ac K N m = ac K N x then nI m else -1 := m23
    by_cases q : ac K N m = ac K N x
    · rw [if_pos q] at m23'
      have ai : ac K t x - 1 < ac K N m := by omega
      obtain ⟨pl1, pl2⟩ := par_lt sm s7 ml N (Nat.le_refl _) _ ai
      have ty : tyd K N W N (m + 3 + 3 * (ac K t x - 1)) = dcl K N W (m + 3 + 3 * (ac K t x - 1)) := tyd_m pl1 (Or.inr (Or.inr (Or.inl ((ro_i K _).2.2.1.mpr pl2))))
      have e10m : σ.2.1 10 m = nI (ac K N m) := sc.2.2.2.2.2.2.1 m
      have pt : p_Outline_parameterType σ (nI m) (nI (ac K t x - 1)) = some (dcl K N W (m + 3 + 3 * (ac K t x - 1))) := by
        unfold p_Outline_parameterType
        rw [show nI m + 3 = nI (m + 3) from q_addL m 3, show (3 : Int32) * nI (ac K t x - 1) = nI (3 * (ac K t x - 1)) from q_mulL 3 _, q_add, if_neg (q_pos (by omega)), sc.2.2.2.1, if_neg (fun z => by have := (q_le (by omega) (by omega)).mp z; omega), if_pos (q_inR (by omega) (by decide)), q_tn (by omega), h12 _ pl1, ty]
      refine ⟨f, fitB K N W v (dcl K N W (m + 3 + 3 * (ac K t x - 1))), hf, ?_, fun r hr => ?_⟩
      · unfold p_Judge_checkArgument
        simp only [hD, if_pos rD, rDn, c23, if_neg x1, if_pos rx, rxn, e10x, if_neg ax0, e11]
        rw [if_neg (show ¬ oI (some m) = -1 from q_neg (by omega)), if_pos (show inR (oI (some m)) 121 from q_inR (by omega) (by decide)), show (oI (some m)).toNatClampNeg = m from q_tn (by omega), e10m, if_pos (by rw [q])]
        rw [show oI (some m) = nI m from rfl, a24, pt, q_bd1, f1, cwant sc hp (by omega) tv (dcl_tv _), q_bd1]
        simp only [cw_1, hD, if_pos rD, rDn, cw_a (show (24 : Nat) ≠ 17 by decide), a24, nI_1]
      · rw [hr, q_bd2]
        simp only [mD, if_pos rD', rDn, m23', a21, if_neg (q_pos (show m < 2147483648 by omega)), f2]
        rw [mpar sm s7 ml (by omega), q_bd1, if_pos ai, mdcl sm (by omega) (by omega), q_bd1, mshould sm (by omega) tv (dcl_tv _), q_bd1, ew]
        simp only [mw_1, mD, if_pos rD', rDn, mw_a (show (21 : Nat) ≠ 13 by decide), a21, nI_1]
    · rw [if_neg q] at m23'
      exact ⟨0, true, Nat.zero_le _, no (Or.inr ⟨m, rfl, q⟩), mno m23'⟩
end ITM
