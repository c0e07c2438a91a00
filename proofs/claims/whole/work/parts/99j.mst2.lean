/-! what the reference counts and compares -/
def NR (r : Int32) : Prop := ¬ r = 1 ∧ ¬ r = 6 ∧ ¬ r = 4 ∧ ¬ r = 5 ∧ ¬ r = 8 ∧ ¬ r = 2 ∧ ¬ r = 11 ∧ ¬ r = 3 ∧ ¬ r = 10 ∧ ¬ r = 12
theorem nr_opr (k : Int32) : NR (oprR k) := by
  unfold oprR
  (repeat' split) <;> (unfold NR; decide)
theorem nr_tal (k : Int32) : NR (talR k) := by
  unfold talR
  (repeat' split) <;> (unfold NR; decide)
theorem nr_i {r s : Int32} (q : NR r) (h : ¬ s = 2 ∧ ¬ s = 4 ∧ ¬ s = 11 ∧ ¬ s = 15 ∧ ¬ s = 18 ∧ ¬ s = 7 ∧ ¬ s = 19) : (r = 1 ↔ s = 2) ∧ (r = 6 ↔ s = 4) ∧ (r = 4 ↔ s = 11) ∧ (r = 5 ↔ s = 15) ∧ (r = 8 ↔ s = 18) ∧ (r = 2 ↔ s = 7) ∧ (r = 11 ↔ s = 19) ∧ ¬ r = 3 ∧ ¬ r = 10 ∧ ¬ r = 12 := by
  obtain ⟨q1, q2, q3, q4, q5, q6, q7, q8, q9, q10⟩ := q
  obtain ⟨h1, h2, h3, h4, h5, h6, h7⟩ := h
  exact ⟨⟨fun z => absurd z q1, fun z => absurd z h1⟩, ⟨fun z => absurd z q2, fun z => absurd z h2⟩, ⟨fun z => absurd z q3, fun z => absurd z h3⟩, ⟨fun z => absurd z q4, fun z => absurd z h4⟩, ⟨fun z => absurd z q5, fun z => absurd z h5⟩, ⟨fun z => absurd z q6, fun z => absurd z h6⟩, ⟨fun z => absurd z q7, fun z => absurd z h7⟩, q8, q9, q10⟩
theorem rb_i (s k k2 : Int32) : (rb s k k2 = 1 ↔ s = 2) ∧ (rb s k k2 = 6 ↔ s = 4) ∧ (rb s k k2 = 4 ↔ s = 11) ∧ (rb s k k2 = 5 ↔ s = 15) ∧ (rb s k k2 = 8 ↔ s = 18) ∧ (rb s k k2 = 2 ↔ s = 7) ∧ (rb s k k2 = 11 ↔ s = 19) ∧ ¬ rb s k k2 = 3 ∧ ¬ rb s k k2 = 10 ∧ ¬ rb s k k2 = 12 := by
  have a := nr_opr k
  have b := nr_tal k
  by_cases hs : S22 s
  · unfold S22 at hs
    rcases hs with rfl | rfl | rfl | rfl | rfl | rfl | rfl | rfl | rfl | rfl | rfl | rfl | rfl | rfl | rfl | rfl | rfl | rfl | rfl | rfl | rfl | rfl
    · simp +decide [rb]
    · simp +decide [rb]
    · simp +decide [rb]
    · simp +decide [rb]
    · simp +decide [rb]
    · exact nr_i (by unfold rb; simp +decide only [if_true, if_false]; (repeat' split) <;> (unfold NR; decide)) (by decide)
    · simp +decide [rb]
    · simp +decide [rb]
    · exact nr_i (by unfold rb; simp +decide only [if_true, if_false]; (repeat' split) <;> (unfold NR; decide)) (by decide)
    · exact nr_i (by unfold rb; simp +decide only [if_true, if_false]; (repeat' split) <;> (unfold NR; decide)) (by decide)
    · simp +decide [rb]
    · simp +decide [rb]
    · simp +decide [rb]
    · exact nr_i (by unfold rb; simp +decide only [if_true, if_false]; (repeat' split) <;> first | exact a | exact b | (unfold NR; decide)) (by decide)
    · simp +decide [rb]
    · simp +decide [rb]
    · exact nr_i (by unfold rb; simp +decide only [if_true, if_false]; (repeat' split) <;> first | exact a | exact b | (unfold NR; decide)) (by decide)
    · simp +decide [rb]
    · simp +decide [rb]
    · exact nr_i (by unfold rb; simp +decide only [if_true, if_false]; (repeat' split) <;> first | exact a | exact b | (unfold NR; decide)) (by decide)
    · exact nr_i (by unfold rb; simp +decide only [if_true, if_false]; (repeat' split) <;> first | exact a | exact b | (unfold NR; decide)) (by decide)
    · exact nr_i (by unfold rb; simp +decide only [if_true, if_false]; (repeat' split) <;> first | exact a | exact b | (unfold NR; decide)) (by decide)
  · unfold S22 at hs
    simp only [not_or] at hs
    obtain ⟨z1, z2, z3, z4, z5, z6, z7, z8, z9, z10, z11, z12, z13, z14, z15, z16, z17, z18, z19, z20, z21, z22⟩ := hs
    refine nr_i ?_ ⟨z2, z4, z11, z15, z18, z7, z19⟩
    unfold rb
    rw [if_neg z2, if_neg z4, if_neg z6, if_neg z7, if_neg z9, if_neg z10, if_neg z11, if_neg z13, if_neg z14, if_neg z15, if_neg z16, if_neg z17, if_neg z18, if_neg z19, if_neg z20, if_neg z21, if_neg z22]
    unfold NR
    decide
theorem ro_i (K : Nat → Int32) (u : Nat) : (ro K u = 1 ↔ cS (tr K u) = 2) ∧ (ro K u = 6 ↔ cS (tr K u) = 4) ∧ (ro K u = 4 ↔ cS (tr K u) = 11) ∧ (ro K u = 5 ↔ cS (tr K u) = 15) ∧ (ro K u = 8 ↔ cS (tr K u) = 18) ∧ ((ro K u = 2 ∨ ro K u = 3) ↔ cS (tr K u) = 7) ∧ (ro K u = 3 ↔ cS (tr K u) = 7 ∧ K (u + 1) = 40) ∧ ((ro K u = 11 ∨ ro K u = 12) ↔ cS (tr K u) = 19) := by
  obtain ⟨a1, a6, a4, a5, a8, a2, a11, a3, a10, a12⟩ := rb_i (cS (tr K u)) (K u) (K (u + 1))
  unfold ro rbT
  rw [← a1, ← a6, ← a4, ← a5, ← a8, ← a2, ← a11]
  clear a1 a6 a4 a5 a8 a2 a11
  generalize rb (cS (tr K u)) (K u) (K (u + 1)) = r at *
  by_cases k : K (u + 1) = 40
  · rw [if_pos k]
    unfold upR
    by_cases e9 : r = 9
    · subst e9; simp +decide
    · rw [if_neg e9]
      by_cases e11 : r = 11
      · subst e11; simp +decide
      · rw [if_neg e11]
        by_cases e2 : r = 2
        · subst e2; simp +decide [k]
        · rw [if_neg e2]
          simp +decide [k, e2, e11, a3, a12]
  · rw [if_neg k]
    simp +decide [k, a3, a12]
section MST2
variable {K : Nat → Int32} {N : Nat} {μ : Sto}
theorem opn20 : ∀ (t : Nat), cS (tr K t) ≠ 0 → ∀ j, j < cD (tr K t) → cO (tr K t) j = -1 ∨ ∃ y, y + 1 < t ∧ cO (tr K t) j = nI y ∧ cS (tr K (y + 1)) = 20 ∧ K (y + 1) = 40
  | 0, _ => fun j hj => absurd hj (Nat.not_lt_zero j)
  | t + 1, h => by
    have ih := opn20 t (tr_alive h)
    have w7 := (WF_all t (tr_alive h)).2.2.2.2.2.2.1
    rw [trD, trO]
    unfold dpt opn
    intro j hj
    have old : j < cD (tr K t) → cO (tr K t) j = -1 ∨ ∃ y, y + 1 < t + 1 ∧ cO (tr K t) j = nI y ∧ cS (tr K (y + 1)) = 20 ∧ K (y + 1) = 40 := fun q => (ih j q).imp id (fun ⟨y, a, b⟩ => ⟨y, by omega, b⟩)
    by_cases c1 : K t = 40 ∧ (cS (tr K t) = 14 ∨ cS (tr K t) = 17 ∨ cS (tr K t) = 20 ∨ cS (tr K t) = 21)
    · rw [if_pos c1] at hj ⊢
      by_cases e : j = cD (tr K t)
      · simp only [if_pos e]
        by_cases s20 : cS (tr K t) = 20
        · have t1 : 1 ≤ t := w7 (by rw [s20]; decide)
          rw [if_pos s20]
          exact Or.inr ⟨t - 1, by omega, rfl, by rw [show t - 1 + 1 = t by omega]; exact s20, by rw [show t - 1 + 1 = t by omega]; exact c1.1⟩
        · rw [if_neg s20]; exact Or.inl rfl
      · simp only [if_neg e]
        exact old (by omega)
    · rw [if_neg c1] at hj ⊢
      by_cases c2 : K t = 41 ∧ (cS (tr K t) = 20 ∨ cS (tr K t) = 21 ∨ cS (tr K t) = 22)
      · rw [if_pos c2] at hj
        exact old (by omega)
      · rw [if_neg c2] at hj
        exact old hj
theorem cnt_m (hK : ∀ u, N ≤ u → K u = 0) (hN : N ≤ 121) {m t : Nat} (s7 : cS (tr K m) = 7) (hm : m < N) : cnt K t m ↔ cS (tr K t) = 11 ∧ cM (tr K t) = m := by
  have s8 : ¬ cS (tr K (m + 1)) = 20 := fun z => (prv (by rw [z]; decide)).2.2.2.2.2.2.1 z s7
  constructor
  · rintro ⟨_, z⟩
    rcases z with ⟨s, e⟩ | ⟨⟨s, _⟩, cb, o⟩ | ⟨⟨s, _⟩, cb, o⟩
    · exact ⟨s, e.symm⟩
    all_goals
      exfalso
      have ha : cS (tr K t) ≠ 0 := by
        first
          | (rw [s]; decide)
          | (rcases s with z | z <;> rw [z] <;> decide)
      have hd : 0 < cD (tr K t) := by
        unfold callB at cb
        simp at cb
        omega
      have tN := alive_le hK ha
      rcases opn20 t ha (cD (tr K t) - 1) (by omega) with q | ⟨y, y1, y2, y3, _⟩
      · rw [o] at q; exact absurd q (q_neg (by omega))
      · rw [o] at y2
        have := (q_eq (by omega) (by omega)).mp y2
        subst this
        exact s8 y3
  · rintro ⟨s, e⟩
    exact ⟨by omega, Or.inl ⟨s, e.symm⟩⟩
/-- kinds and states of expressions -/
theorem exk {t : Nat} (ha : cS (tr K (t + 1)) ≠ 0) (h3 : 16 < cS (tr K t)) : (K t = 40 → cS (tr K t) = 17 ∨ cS (tr K t) = 20 ∨ cS (tr K t) = 21) ∧ (K t = 41 → cS (tr K t) = 20 ∨ cS (tr K t) = 21 ∨ cS (tr K t) = 22) ∧ (K t = 44 → cS (tr K t) = 20 ∨ cS (tr K t) = 22) := by
  have w := ways (k := K t) (k2 := K (t + 1)) (d := cD (tr K t)) (call := callB (tr K t)) (e := cE (tr K t)) ((tr_mem K t).resolve_left (tr_alive ha)) ha
  unfold Way at w
  rcases w with ⟨hs, hk, hs2, hsd⟩ | ⟨hs, hk, hs2, hsd⟩ | ⟨hs, hk, hs2, hsd⟩ | ⟨hs, hk, hs2, hsd⟩ | ⟨hs, hk, hs2, hsd⟩ | ⟨hs, hk, hs2, hsd⟩ | ⟨hs, hk, hs2, hsd⟩ | ⟨hs, hk, hs2, hsd⟩ | ⟨hs, hk, hs2, hsd⟩ | ⟨hs, hk, hs2, hsd⟩ | ⟨hs, hk, hs2, hsd⟩ | ⟨hs, hk, hs2, hsd⟩ | ⟨hs, hk, hs2, hsd⟩ | ⟨hs, hk, hs2, hsd⟩ | ⟨hs, hk, hs2, hsd⟩ | ⟨hs, hk, hs2, hsd⟩ | ⟨hs, hk, hs2, hsd⟩ | ⟨hs, hk, hs2, hsd⟩ | ⟨hs, hk, hs2, hsd⟩ | ⟨hs, hk, hs2, hsd⟩ | ⟨hs, hk, hs2, hsd⟩ | ⟨hs, hk, hs2, hsd⟩ | ⟨hs, hk, hs2, hsd⟩ | ⟨hs, hk, hs2, hsd⟩ | ⟨hs, hk, hs2, hsd⟩ | ⟨hs, hk, hs2, hsd⟩ | ⟨hs, hk, hs2, hsd⟩ | ⟨hs, hk, hs2, hsd⟩ | ⟨hs, hk, hs2, hsd⟩ | ⟨hs, hk, hs2, hsd⟩ | ⟨hs, hk, hs2, hsd⟩ | ⟨hs, hk, hs2, hsd⟩ | ⟨hs, hk, hs2, hsd⟩ | ⟨hs, hk, hs2, hsd⟩ | ⟨hs, hk, hs2, hsd⟩ | ⟨hs, hk, hs2, hsd⟩ | ⟨hs, hk, hs2, hsd⟩ | ⟨hs, hk, hs2, hsd⟩ | ⟨hs, hk, hs2, hsd⟩ | ⟨hs, hk, hs2, hsd⟩ | ⟨hs, hk, hs2, hsd⟩ | ⟨hs, hk, hs2, hsd⟩ | ⟨hs, hk, hs2, hsd⟩ | ⟨hs, hk, hs2, hsd⟩ | ⟨hs, hk, hs2, hsd⟩ | ⟨hs, hk, hs2, hsd⟩ | ⟨hs, hk, hs2, hsd⟩ | ⟨hs, hk, hs2, hsd⟩ | ⟨hs, hk, hs2, hsd⟩ | ⟨hs, hk, hs2, hsd⟩ | ⟨hs, hk, hs2, hsd⟩ | ⟨hs, hk, hs2, hsd⟩ | ⟨hs, hk, hs2, hsd⟩ | ⟨hs, hk, hs2, hsd⟩ | ⟨hs, hk, hs2, hsd⟩ | ⟨hs, hk, hs2, hsd⟩ | ⟨hs, hk, hs2, hsd⟩ | ⟨hs, hk, hs2, hsd⟩ <;> (rw [hs] at h3 ⊢; rw [hk]; revert h3; decide)
theorem ac_le (x : Nat) : ∀ t, ac K t x ≤ t
  | 0 => Nat.le_refl _
  | t + 1 => by
    have := ac_le x t
    by_cases c : cnt K t x
    · rw [ac_y c]; omega
    · rw [ac_n c]; omega
theorem margL (h : SM K N μ) (x1 : Int32) {x d0 : Nat} (n7 : ¬ cS (tr K x) = 7) (xl : x < 121) (s21 : cS (tr K (x + 2)) = 21) (k2 : ¬ K (x + 2) = 41) (dd : cD (tr K (x + 2)) = d0 + 1) : ∀ (j t fuel : Nat), j + t = N → j < fuel → x + 2 ≤ t → InA K x d0 t → p_Mo_arguments_L24 μ x1 fuel (nI (if t = x + 2 then 1 else ac K t x)) (nI (cD (tr K t) - (d0 + 1))) (nI t) = some (nI (ac K N x)) := by
  have hN := h.1
  have hK := h.2.2.2.2.1
  intro j
  induction j with
  | zero =>
    intro t fuel hj hf hx I
    exfalso
    have e : t = N := by omega
    have := I.2.2.1
    rw [e, h.2.1] at this
    exact absurd this (by decide)
  | succ j ih =>
    intro t fuel hj hf hx I
    obtain ⟨n, rfl⟩ : ∃ n, fuel = n + 1 := ⟨fuel - 1, by omega⟩
    have ha : cS (tr K (t + 1)) ≠ 0 := h.al (by omega)
    have d8 := (WF_all t (h.al (by omega))).1
    have d1 := I.1
    have acl := ac_le (K := K) x t
    obtain ⟨x40, x41, x44⟩ := exk ha I.2.2.1
    have rt : inR (nI t) 124 := q_inR (by omega) (by decide)
    have rtn : (nI t).toNatClampNeg = t := q_tn (by omega)
    have kt := h.2.2.2.1 t (by omega)
    have val : ac K (t + 1) x = (if t = x + 2 then 1 else ac K t x) + (if K t = 44 ∧ cD (tr K t) = d0 + 1 then 1 else 0) := by
      by_cases e : t = x + 2
      · subst e
        have c : cnt K (x + 2) x := ⟨xl, Or.inr (Or.inl ⟨⟨s21, k2⟩, callB_t (by omega) (by rw [show cD (tr K (x + 2)) - 1 = d0 by omega, I.2.1]; exact q_neg (by omega)), by rw [show cD (tr K (x + 2)) - 1 = d0 by omega]; exact I.2.1⟩)⟩
        have n44 : ¬ K (x + 2) = 44 := fun z => by
          rcases x44 z with q | q <;> rw [s21] at q <;> exact absurd q (by decide)
        have a1 : ac K (x + 1 + 1) x = ac K (x + 1) x := ac_n (fun z => by
          have s20 := (prv (t := x + 1) (by show cS (tr K (x + 2)) ≠ 0; rw [s21]; decide)).2.2.2.2.2.1 s21
          rcases z.2 with ⟨q, _⟩ | ⟨⟨q, _⟩, _⟩ | ⟨⟨_, q⟩, _⟩
          · rw [s20.1] at q; exact absurd q (by decide)
          · rw [s20.1] at q; exact absurd q (by decide)
          · rw [s20.2] at q; exact absurd q (by decide))
        rw [ac_y c, if_pos rfl, if_neg (fun z => n44 z.1), show x + 2 = x + 1 + 1 from rfl, a1, ac_0 hK hN (Nat.le_refl _)]
      · have ci := cnt_in hN I (by omega) (by omega) xl
        rw [if_neg e]
        by_cases q : K t = 44 ∧ cD (tr K t) = d0 + 1
        · rw [if_pos q, ac_y (ci.mpr ⟨⟨x44 q.1, q.1⟩, q.2⟩)]
        · rw [if_neg q, ac_n (fun z => q ⟨(ci.mp z).1.2, (ci.mp z).2⟩), Nat.add_zero]
    generalize hv : (if t = x + 2 then 1 else ac K t x) = v at val ⊢
    have vl : v ≤ 122 := by rw [← hv]; split <;> omega
    unfold p_Mo_arguments_L24
    rw [if_pos rt, rtn, kt]
    by_cases k41 : K t = 41
    · rw [if_pos k41]
      have n44 : ¬ K t = 44 := by rw [k41]; decide
      have n40 : ¬ K t = 40 := by rw [k41]; decide
      simp only [if_neg (show ¬ (K t = 44 ∧ cD (tr K t) = d0 + 1) from fun z => n44 z.1), Nat.add_zero] at val
      by_cases dz : cD (tr K t) = d0 + 1
      · rw [dz, Nat.sub_self, if_pos (by decide)]
        obtain ⟨O, _, _⟩ := out_0 I k41 dz ha
        rw [← val, (ac_out hN n7 (t := t + 1) (u := N) (by omega) (Nat.le_refl _) (by omega) O).1]
      · have I' := ina_s hK hN I hx ha (fun z => dz z.2)
        have D : cD (tr K (t + 1)) = cD (tr K t) - 1 := by
          rw [trD]; unfold dpt
          rw [if_neg (fun z => n40 z.1), if_pos ⟨k41, x41 k41⟩]
        rw [if_neg (fun z => by have z0 : cD (tr K t) - (d0 + 1) ≤ 0 := (q_leL (by omega) (by decide)).mp z; omega)]
        unfold p_Mo_arguments_b40 p_Mo_arguments_b55 p_Mo_arguments_b70
        simp only [if_pos rt, rtn, kt, if_neg n40, if_pos k41, if_neg n44, nI_1, q_dec (show 1 ≤ cD (tr K t) - (d0 + 1) by omega)]
        have := ih (t + 1) n (by omega) (by omega) (by omega) I'
        rw [if_neg (by omega), D, val] at this
        rw [← this, show cD (tr K t) - (d0 + 1) - 1 = cD (tr K t) - 1 - (d0 + 1) by omega]
    · rw [if_neg k41]
      have I' := ina_s hK hN I hx ha (fun z => k41 z.1)
      unfold p_Mo_arguments_b40 p_Mo_arguments_b55 p_Mo_arguments_b70
      simp only [if_pos rt, rtn, kt]
      have nx := ih (t + 1) n (by omega) (by omega) (by omega) I'
      rw [if_neg (by omega), val] at nx
      by_cases k40 : K t = 40
      · have n44 : ¬ K t = 44 := by rw [k40]; decide
        have D : cD (tr K (t + 1)) = cD (tr K t) + 1 := by
          rw [trD]; unfold dpt
          rw [if_pos ⟨k40, (x40 k40).elim (fun q => Or.inr (Or.inl q)) (fun q => Or.inr (Or.inr q))⟩]
        simp only [if_neg (show ¬ (K t = 44 ∧ cD (tr K t) = d0 + 1) from fun z => n44 z.1), Nat.add_zero, D] at nx
        simp only [if_pos k40, if_neg k41, if_neg n44, nI_1]
        rw [← nx, show cD (tr K t) - (d0 + 1) + 1 = cD (tr K t) + 1 - (d0 + 1) by omega]
      · have D : cD (tr K (t + 1)) = cD (tr K t) := by
          rw [trD]; unfold dpt
          rw [if_neg (fun z => k40 z.1), if_neg (fun z => k41 z.1)]
        rw [D] at nx
        simp only [if_neg k40, if_neg k41]
        by_cases k44 : K t = 44
        · rw [if_pos k44]
          by_cases dz : cD (tr K t) = d0 + 1
          · rw [if_pos ⟨k44, dz⟩] at nx
            rw [if_pos (by rw [dz, Nat.sub_self]; rfl), nI_1, nI_1]
            exact nx
          · simp only [if_neg (show ¬ (K t = 44 ∧ cD (tr K t) = d0 + 1) from fun z => dz z.2), Nat.add_zero] at nx
            rw [if_neg (fun z => by have z0 : cD (tr K t) - (d0 + 1) = 0 := (q_eqL (by omega) (by decide)).mp z; omega), nI_1]
            exact nx
        · simp only [if_neg (show ¬ (K t = 44 ∧ cD (tr K t) = d0 + 1) from fun z => k44 z.1), Nat.add_zero] at nx
          rw [if_neg k44, nI_1]
          exact nx
theorem marg (h : SM K N μ) {x : Nat} (s20 : cS (tr K (x + 1)) = 20) (k40 : K (x + 1) = 40) (xN : x + 1 < N) : p_Mo_arguments μ (nI (x + 1)) = some (nI (ac K N x)) := by
  have hN := h.1
  have hK := h.2.2.2.2.1
  have a2 : cS (tr K (x + 2)) ≠ 0 := h.al (by omega)
  have n7 : ¬ cS (tr K x) = 7 := (prv (t := x) (by rw [s20]; decide)).2.2.2.2.2.2.1 s20
  obtain ⟨I, s21, D⟩ := ina_0 hK hN s20 k40 a2
  unfold p_Mo_arguments
  rw [nI_1, if_pos (q_inR (by omega) (by decide)), q_tn (by omega), h.2.2.2.1 _ (by omega)]
  by_cases k41 : K (x + 1 + 1) = 41
  · rw [if_pos k41]
    have xl : x + 2 < N := Decidable.byContradiction (fun z => by
      have := hK (x + 2) (by omega)
      rw [show x + 2 = x + 1 + 1 from rfl, k41] at this
      exact absurd this (by decide))
    obtain ⟨O, _, _⟩ := out_0 I k41 D (h.al (by omega))
    have e := (ac_out hN n7 (t := x + 2 + 1) (u := N) (by omega) (Nat.le_refl _) (by omega) O).1
    have a1 : ac K (x + 2 + 1) x = ac K (x + 2) x := ac_n (fun z => by
      rcases z.2 with ⟨q, _⟩ | ⟨⟨_, q⟩, _⟩ | ⟨⟨_, q⟩, _⟩
      · rw [s21] at q; exact absurd q (by decide)
      · exact q k41
      · have k41' : K (x + 2) = 41 := k41
        rw [k41'] at q; exact absurd q (by decide))
    have a0 : ac K (x + 1 + 1) x = ac K (x + 1) x := ac_n (fun z => by
      rcases z.2 with ⟨q, _⟩ | ⟨⟨q, _⟩, _⟩ | ⟨⟨_, q⟩, _⟩
      · rw [s20] at q; exact absurd q (by decide)
      · rw [s20] at q; exact absurd q (by decide)
      · rw [k40] at q; exact absurd q (by decide))
    rw [e, a1, show x + 2 = x + 1 + 1 from rfl, a0, ac_0 hK hN (Nat.le_refl _)]
    rfl
  · rw [if_neg k41]
    have := margL h (nI (x + 1)) n7 (by omega) s21 k41 D (N - (x + 2)) (x + 2) FU (by omega) (by unfold FU; omega) (Nat.le_refl _) I
    rw [if_pos rfl, D, Nat.sub_self] at this
    exact this
theorem mparL (h : SM K N μ) {m : Nat} (s7 : cS (tr K m) = 7) (i : Nat) (hi : i < 1000) : ∀ (j t fuel : Nat), j + t = N → j < fuel → m < t → ac K t m ≤ i → p_Mo_parameter_L7 μ (nI m) (nI i) fuel (nI (ac K t m)) (nI t) = some (if i < ac K N m then nI (m + 3 + 3 * i) else -1) := by
  have hN := h.1
  have hK := h.2.2.2.2.1
  intro j
  induction j with
  | zero =>
    intro t fuel hj hf hm hi
    obtain ⟨n, rfl⟩ : ∃ n, fuel = n + 1 := ⟨fuel - 1, by omega⟩
    have e : t = N := by omega
    subst e
    unfold p_Mo_parameter_L7
    rw [h.2.2.1, if_pos ((q_le (by omega) (by omega)).mpr (Nat.le_refl _)), if_neg (by omega)]
  | succ j ih =>
    intro t fuel hj hf hm hi2
    obtain ⟨n, rfl⟩ : ∃ n, fuel = n + 1 := ⟨fuel - 1, by omega⟩
    have cm := cnt_m hK hN (t := t) s7 (by omega)
    have acl := ac_le (K := K) m t
    have at' : cS (tr K t) ≠ 0 := h.al (by omega)
    obtain ⟨_, _, _, _, _, _, i7, _⟩ := rr_i (ro K t)
    obtain ⟨_, _, r4, _⟩ := ro_i K t
    unfold p_Mo_parameter_L7
    rw [h.2.2.1, if_neg (fun z => by have := (q_le (by omega) (by omega)).mp z; omega), if_pos (q_inR (by omega) (by decide))]
    simp only [q_tn (show t < 2147483648 by omega), h.rl (show t < N by omega), nI_1]
    by_cases s : cS (tr K t) = 11
    · have r := r4.mpr s
      have j9 := (h.2.2.2.2.2.2.2.1 t (by omega) (by rw [r]; decide)).2
      have me : mth K t = nI (cM (tr K t)) := by unfold mth; rw [if_pos (by rw [s]; decide)]
      have ml := (WF_all t at').2.2.2.2.1 (by rw [s]; decide)
      rw [if_pos (i7.mpr r), if_pos (q_inR (by omega) (by decide)), j9, me]
      by_cases e : cM (tr K t) = m
      · have c := cm.mpr ⟨s, e⟩
        have up := ac_mono (K := K) (x := m) (t := t + 1) (u := N) (by omega)
        rw [ac_y c] at up
        rw [if_pos (by rw [e])]
        by_cases e2 : ac K t m = i
        · have pp := (ppos hK hN t at').2.2.1 s
          rw [e, e2] at pp
          rw [if_pos (by rw [e2]), if_pos (by omega), ← pp]
        · rw [if_neg (fun z => e2 ((q_eq (by omega) (by omega)).mp z))]
          have := ih (t + 1) n (by omega) (by omega) (by omega) (by rw [ac_y c]; omega)
          rw [ac_y c] at this
          exact this
      · rw [if_neg (fun z => e ((q_eq (by omega) (by omega)).mp z))]
        have c : ¬ cnt K t m := fun z => e (cm.mp z).2
        have := ih (t + 1) n (by omega) (by omega) (by omega) (by rw [ac_n c]; exact hi2)
        rw [ac_n c] at this
        exact this
    · rw [if_neg (fun z => s (r4.mp (i7.mp z)))]
      have c : ¬ cnt K t m := fun z => s (cm.mp z).1
      have := ih (t + 1) n (by omega) (by omega) (by omega) (by rw [ac_n c]; exact hi2)
      rw [ac_n c] at this
      exact this
theorem mpar (h : SM K N μ) {m : Nat} (s7 : cS (tr K m) = 7) (hm : m < N) {i : Nat} (hi : i < 1000) : p_Mo_parameter μ (nI m) (nI i) = some (if i < ac K N m then nI (m + 3 + 3 * i) else -1) := by
  have hN := h.1
  have hK := h.2.2.2.2.1
  unfold p_Mo_parameter
  rw [nI_1]
  have := mparL h s7 i hi (N - (m + 1)) (m + 1) FU (by omega) (by unfold FU; omega) (by omega) (by rw [ac_0 hK hN (Nat.le_refl _)]; omega)
  rw [ac_0 hK hN (Nat.le_refl _)] at this
  exact this
/-- a method's parameters lie before the end -/
theorem par_lt (h : SM K N μ) {m : Nat} (s7 : cS (tr K m) = 7) (hm : m < N) : ∀ t, t ≤ N → ∀ i, i < ac K t m → m + 3 + 3 * i < N ∧ cS (tr K (m + 3 + 3 * i)) = 11
  | 0, _, i, hi => absurd hi (Nat.not_lt_zero i)
  | t + 1, ht, i, hi => by
    have hN := h.1
    have hK := h.2.2.2.2.1
    have cm := cnt_m hK hN (t := t) s7 hm
    by_cases c : cnt K t m
    · rw [ac_y c] at hi
      by_cases l : i < ac K t m
      · exact par_lt h s7 hm t (by omega) i l
      · have e : i = ac K t m := by omega
        obtain ⟨s, em⟩ := cm.mp c
        have pp := (ppos hK hN t (h.al (by omega))).2.2.1 s
        rw [em, ← e] at pp
        rw [← pp]
        exact ⟨by omega, s⟩
    · rw [ac_n c] at hi
      exact par_lt h s7 hm t (by omega) i hi
theorem mpofL (h : SM K N μ) {m : Nat} (s7 : cS (tr K m) = 7) (hm : m < N) : ∀ (j i fuel : Nat), j + i = ac K N m → j < fuel → p_Mo_parametersOf_L2 μ (nI m) fuel (nI i) = some (nI (ac K N m)) := by
  have hN := h.1
  have acl := ac_le (K := K) m N
  intro j
  induction j with
  | zero =>
    intro i fuel hj hf
    obtain ⟨n, rfl⟩ : ∃ n, fuel = n + 1 := ⟨fuel - 1, by omega⟩
    unfold p_Mo_parametersOf_L2
    rw [mpar h s7 hm (by omega), q_bd1, if_neg (show ¬ i < ac K N m by omega), if_pos (show (-1 : Int32) < 0 by decide), show i = ac K N m by omega]
  | succ j ih =>
    intro i fuel hj hf
    obtain ⟨n, rfl⟩ : ∃ n, fuel = n + 1 := ⟨fuel - 1, by omega⟩
    unfold p_Mo_parametersOf_L2
    have pl := (par_lt h s7 hm N (Nat.le_refl _) i (by omega)).1
    rw [mpar h s7 hm (by omega), q_bd1, if_pos (show i < ac K N m by omega), if_neg (q_pos (by omega)), nI_1]
    exact ih (i + 1) n (by omega) (by omega)
theorem mpof (h : SM K N μ) {m : Nat} (s7 : cS (tr K m) = 7) (hm : m < N) : p_Mo_parametersOf μ (nI m) = some (nI (ac K N m)) := by
  have hN := h.1
  have acl := ac_le (K := K) m N
  exact mpofL h s7 hm (ac K N m) 0 FU (by omega) (by unfold FU; omega)
end MST2
/-- types -/
def TV (K : Nat → Int32) (N : Nat) (x : Int32) : Prop := x = -2 ∨ x = -1 ∨ ∃ c, c < cC (tr K N) ∧ x = nI c
def fitB (K : Nat → Int32) (N : Nat) (W : Nat → Int64) (x y : Int32) : Bool := decide (x = -2 ∨ y = -2 ∨ x = y) || (decide (¬ x < 0 ∧ ¬ y < 0) && lp (parF (abv K N W) 40) y.toNatClampNeg (cC (tr K N)) (some x.toNatClampNeg))
section MST3
variable {K : Nat → Int32} {N : Nat} {μ : Sto}
theorem mfitL (h : SM K N μ) (x1 : Int32) {c : Nat} (hc : c < cC (tr K N)) : ∀ (n fuel : Nat) (o : Option Nat), n < fuel → (∀ s, o = some s → s < cC (tr K N)) → sq (parF (abv K N μ.2.2) 40) o n = none → p_Mo_fits_L37 μ x1 (nI c) fuel (oI o) = some (b01 (lp (parF (abv K N μ.2.2) 40) c n o)) := by
  have m4 := h.M4
  have hN := h.1
  intro n
  induction n with
  | zero =>
    intro fuel o hf ho hq
    obtain ⟨m, rfl⟩ : ∃ m, fuel = m + 1 := ⟨fuel - 1, by omega⟩
    have e : o = none := hq
    subst e
    unfold p_Mo_fits_L37
    rw [if_pos (show oI none < 0 by decide)]
    rfl
  | succ n ih =>
    intro fuel o hf ho hq
    obtain ⟨m, rfl⟩ : ∃ m, fuel = m + 1 := ⟨fuel - 1, by omega⟩
    unfold p_Mo_fits_L37
    cases o with
    | none =>
      rw [if_pos (show oI none < 0 by decide)]
      rfl
    | some s =>
      have hs := ho s rfl
      have n0 : ¬ oI (some s) < 0 := q_pos (show s < 2147483648 by omega)
      rw [if_neg n0]
      unfold lp
      by_cases e : s = c
      · rw [if_pos e, if_pos (show oI (some s) = nI c by rw [e]; rfl)]
        rfl
      · rw [if_neg e, if_neg (show ¬ oI (some s) = nI c from fun z => e ((q_eq (by omega) (by omega)).mp z)), show oI (some s) = nI s from rfl, mprt h hs, q_bd1]
        rw [sq_s] at hq
        exact ih m _ (by omega) (fun r hr => parF_cl abv_cl s r hs hr) hq
theorem mfit (h : SM K N μ) {x y : Int32} (hx : TV K N x) (hy : TV K N y) : p_Mo_fits μ x y = some (b01 (fitB K N μ.2.2 x y)) := by
  have m4 := h.M4
  have hN := h.1
  unfold p_Mo_fits fitB
  by_cases ex : x = -2
  · rw [if_pos ex, decide_eq_true (Or.inl ex)]; rfl
  rw [if_neg ex]
  by_cases ey : y = -2
  · rw [if_pos ey, decide_eq_true (Or.inr (Or.inl ey))]; rfl
  rw [if_neg ey]
  rcases hx with z | z | ⟨c, hc, rfl⟩
  · exact absurd z ex
  · rw [if_pos z]
    unfold p_Mo_fits_b24
    by_cases e : x = y
    · rw [if_pos e, decide_eq_true (Or.inr (Or.inr e))]; rfl
    · rw [if_neg e, decide_eq_false (fun q => q.elim ex (fun q => q.elim ey e)), decide_eq_false (fun q => q.1 (by rw [z]; decide))]; rfl
  · rw [if_neg (q_neg (by omega))]
    rcases hy with z | z | ⟨d, hd, rfl⟩
    · exact absurd z ey
    · rw [if_pos z]
      unfold p_Mo_fits_b24
      by_cases e : nI c = y
      · rw [if_pos e, decide_eq_true (Or.inr (Or.inr e))]; rfl
      · rw [if_neg e, decide_eq_false (fun q => q.elim ex (fun q => q.elim ey e)), decide_eq_false (fun q => q.2 (by rw [z]; decide))]; rfl
    · rw [if_neg (q_neg (by omega))]
      have hh : ∀ s, some c = some s → s < cC (tr K N) := fun s hs => by rw [← Option.some.inj hs]; exact hc
      have := mfitL h (nI c) hd (cC (tr K N)) FU (some c) (by unfold FU; omega) hh (par_end abv_cl (by omega) hh)
      rw [show oI (some c) = nI c from rfl] at this
      rw [this, q_tn (by omega), q_tn (by omega), decide_eq_true (show ¬ nI c < 0 ∧ ¬ nI d < 0 from ⟨q_pos (by omega), q_pos (by omega)⟩), Bool.true_and]
      by_cases e : nI c = nI d
      · rw [decide_eq_true (Or.inr (Or.inr e)), Bool.true_or]
        have e2 : c = d := (q_eq (by omega) (by omega)).mp e
        have : lp (parF (abv K N μ.2.2) 40) d (cC (tr K N)) (some c) = true := lp_iff.mpr ⟨0, by omega, by rw [e2]; rfl⟩
        rw [this]
      · rw [decide_eq_false (fun q => q.elim ex (fun q => q.elim ey e)), Bool.false_or]
end MST3
