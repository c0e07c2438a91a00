/-! where parameters stand, and how arguments are counted -/
section INV2
variable {K : Nat → Int32} {N : Nat}
/-- what stood before a state -/
theorem prv {t : Nat} (h : cS (tr K (t + 1)) ≠ 0) : (cS (tr K (t + 1)) = 8 → cS (tr K t) = 7) ∧ (cS (tr K (t + 1)) = 9 → cS (tr K t) = 8) ∧ (cS (tr K (t + 1)) = 10 → cS (tr K t) = 12) ∧ (cS (tr K (t + 1)) = 11 → cS (tr K t) = 9 ∨ cS (tr K t) = 10) ∧ (cS (tr K (t + 1)) = 12 → cS (tr K t) = 11) ∧ (cS (tr K (t + 1)) = 21 → cS (tr K t) = 20 ∧ K t = 40) ∧ (cS (tr K (t + 1)) = 20 → ¬ cS (tr K t) = 7) ∧ (cS (tr K (t + 1)) = 19 → K t = 46) ∧ (cS (tr K (t + 1)) = 18 → K t = 7) ∧ (cS (tr K (t + 1)) = 15 → cS (tr K t) = 14) ∧ (cS (tr K (t + 1)) = 16 → cS (tr K t) = 15) ∧ (cS (tr K (t + 1)) = 4 → cS (tr K t) = 3) ∧ (cS (tr K (t + 1)) = 3 → cS (tr K t) = 2) ∧ (cS (tr K (t + 1)) = 2 → cS (tr K t) = 1) ∧ (cS (tr K (t + 1)) = 7 → cS (tr K t) = 6) := by
  have w := ways (k := K t) (k2 := K (t + 1)) (d := cD (tr K t)) (call := callB (tr K t)) (e := cE (tr K t)) ((tr_mem K t).resolve_left (tr_alive h)) h
  unfold Way at w
  rcases w with ⟨hs, hk, hs2, hsd⟩ | ⟨hs, hk, hs2, hsd⟩ | ⟨hs, hk, hs2, hsd⟩ | ⟨hs, hk, hs2, hsd⟩ | ⟨hs, hk, hs2, hsd⟩ | ⟨hs, hk, hs2, hsd⟩ | ⟨hs, hk, hs2, hsd⟩ | ⟨hs, hk, hs2, hsd⟩ | ⟨hs, hk, hs2, hsd⟩ | ⟨hs, hk, hs2, hsd⟩ | ⟨hs, hk, hs2, hsd⟩ | ⟨hs, hk, hs2, hsd⟩ | ⟨hs, hk, hs2, hsd⟩ | ⟨hs, hk, hs2, hsd⟩ | ⟨hs, hk, hs2, hsd⟩ | ⟨hs, hk, hs2, hsd⟩ | ⟨hs, hk, hs2, hsd⟩ | ⟨hs, hk, hs2, hsd⟩ | ⟨hs, hk, hs2, hsd⟩ | ⟨hs, hk, hs2, hsd⟩ | ⟨hs, hk, hs2, hsd⟩ | ⟨hs, hk, hs2, hsd⟩ | ⟨hs, hk, hs2, hsd⟩ | ⟨hs, hk, hs2, hsd⟩ | ⟨hs, hk, hs2, hsd⟩ | ⟨hs, hk, hs2, hsd⟩ | ⟨hs, hk, hs2, hsd⟩ | ⟨hs, hk, hs2, hsd⟩ | ⟨hs, hk, hs2, hsd⟩ | ⟨hs, hk, hs2, hsd⟩ | ⟨hs, hk, hs2, hsd⟩ | ⟨hs, hk, hs2, hsd⟩ | ⟨hs, hk, hs2, hsd⟩ | ⟨hs, hk, hs2, hsd⟩ | ⟨hs, hk, hs2, hsd⟩ | ⟨hs, hk, hs2, hsd⟩ | ⟨hs, hk, hs2, hsd⟩ | ⟨hs, hk, hs2, hsd⟩ | ⟨hs, hk, hs2, hsd⟩ | ⟨hs, hk, hs2, hsd⟩ | ⟨hs, hk, hs2, hsd⟩ | ⟨hs, hk, hs2, hsd⟩ | ⟨hs, hk, hs2, hsd⟩ | ⟨hs, hk, hs2, hsd⟩ | ⟨hs, hk, hs2, hsd⟩ | ⟨hs, hk, hs2, hsd⟩ | ⟨hs, hk, hs2, hsd⟩ | ⟨hs, hk, hs2, hsd⟩ | ⟨hs, hk, hs2, hsd⟩ | ⟨hs, hk, hs2, hsd⟩ | ⟨hs, hk, hs2, hsd⟩ | ⟨hs, hk, hs2, hsd⟩ | ⟨hs, hk, hs2, hsd⟩ | ⟨hs, hk, hs2, hsd⟩ | ⟨hs, hk, hs2, hsd⟩ | ⟨hs, hk, hs2, hsd⟩ | ⟨hs, hk, hs2, hsd⟩ | ⟨hs, hk, hs2, hsd⟩ <;> (rw [(trS K t).trans hs2, hs, hk]; decide)
theorem cnt_lt (hK : ∀ u, N ≤ u → K u = 0) (hN : N ≤ 121) {t x : Nat} (h : cnt K t x) : x < t := by
  obtain ⟨hx, h⟩ := h
  rcases h with ⟨s, e⟩ | ⟨⟨s, _⟩, cb, o⟩ | ⟨⟨s, _⟩, cb, o⟩
  · have ha : cS (tr K t) ≠ 0 := by rw [s]; decide
    have := (WF_all t ha).2.2.2.2.1 (by rw [s]; decide)
    omega
  all_goals
    have ha : cS (tr K t) ≠ 0 := by
      first
        | (rw [s]; decide)
        | (rcases s with z | z <;> rw [z] <;> decide)
    have hd : 0 < cD (tr K t) := by
      unfold callB at cb
      simp at cb
      omega
    have tN := alive_le hK ha
    rcases (WF_all t ha).2.2.2.1 (cD (tr K t) - 1) (by omega) with q | ⟨y, y1, y2⟩
    · rw [o] at q; exact absurd q (q_neg (by omega))
    · rw [o] at y2
      have := (q_eq (by omega) (by omega)).mp y2
      omega
theorem ac_0 (hK : ∀ u, N ≤ u → K u = 0) (hN : N ≤ 121) {x : Nat} : ∀ {t : Nat}, t ≤ x + 1 → ac K t x = 0
  | 0, _ => rfl
  | t + 1, h => by
    rw [ac_n (fun z => by have := cnt_lt hK hN z; omega)]
    exact ac_0 hK hN (by omega)
theorem ac_mono {x : Nat} : ∀ {t u : Nat}, t ≤ u → ac K t x ≤ ac K u x
  | t, 0, h => by rw [show t = 0 by omega]; exact Nat.le_refl _
  | t, u + 1, h => by
    by_cases e : t = u + 1
    · rw [e]; exact Nat.le_refl _
    · have h1 : ac K t x ≤ ac K u x := ac_mono (by omega)
      by_cases c : cnt K u x
      · rw [ac_y c]; omega
      · rw [ac_n c]; exact h1
theorem ac_k {x : Nat} : ∀ {t u : Nat}, t ≤ u → (∀ v, t ≤ v → v < u → ¬ cnt K v x) → ac K u x = ac K t x
  | t, 0, h, _ => by rw [show t = 0 by omega]
  | t, u + 1, h, g => by
    by_cases e : t = u + 1
    · rw [e]
    · rw [ac_n (g u (by omega) (by omega))]
      exact ac_k (by omega) (fun v h1 h2 => g v h1 (by omega))
theorem ppos (hK : ∀ u, N ≤ u → K u = 0) (hN : N ≤ 121) : ∀ (t : Nat), cS (tr K t) ≠ 0 → (cS (tr K t) = 8 → t = cM (tr K t) + 1 ∧ ac K t (cM (tr K t)) = 0) ∧ (cS (tr K t) = 9 → t = cM (tr K t) + 2 ∧ ac K t (cM (tr K t)) = 0) ∧ (cS (tr K t) = 11 → t = cM (tr K t) + 3 + 3 * ac K t (cM (tr K t))) ∧ (cS (tr K t) = 12 → t = cM (tr K t) + 1 + 3 * ac K t (cM (tr K t)) ∧ 1 ≤ ac K t (cM (tr K t))) ∧ (cS (tr K t) = 10 → t = cM (tr K t) + 2 + 3 * ac K t (cM (tr K t)) ∧ 1 ≤ ac K t (cM (tr K t)))
  | 0, _ => by
    have e : cS (tr K 0) = 1 := rfl
    rw [e]
    exact ⟨fun z => absurd z (by decide), fun z => absurd z (by decide), fun z => absurd z (by decide), fun z => absurd z (by decide), fun z => absurd z (by decide)⟩
  | t + 1, h => by
    obtain ⟨i8, i9, i11, i12, i10⟩ := ppos hK hN t (tr_alive h)
    obtain ⟨p8, p9, p10, p11, p12, _⟩ := prv h
    have tN := alive_le hK h
    have keep : ∀ {v : Int32}, cS (tr K t) = v → ¬ v = 7 → ¬ v = 11 → ¬ v = 20 → ¬ v = 21 → ¬ v = 22 → cM (tr K (t + 1)) = cM (tr K t) ∧ ac K (t + 1) (cM (tr K t)) = ac K t (cM (tr K t)) := by
      intro v s n7 n11 n20 n21 n22
      refine ⟨cM_k (by rw [s]; exact n7), ac_n (fun z => ?_)⟩
      rcases z.2 with ⟨q, _⟩ | ⟨⟨q, _⟩, _⟩ | ⟨⟨q, _⟩, _⟩
      · exact n11 (s.symm.trans q)
      · exact n21 (s.symm.trans q)
      · rcases q with q | q
        · exact n20 (s.symm.trans q)
        · exact n22 (s.symm.trans q)
    refine ⟨fun s => ?_, fun s => ?_, fun s => ?_, fun s => ?_, fun s => ?_⟩
    · have e : cM (tr K (t + 1)) = t := by rw [trM, if_pos (p8 s)]
      rw [e]
      exact ⟨rfl, ac_0 hK hN (Nat.le_refl _)⟩
    · obtain ⟨a, b⟩ := keep (p9 s) (by decide) (by decide) (by decide) (by decide) (by decide)
      have := i8 (p9 s)
      rw [a, b]
      omega
    · rcases p11 s with q | q
      · obtain ⟨a, b⟩ := keep q (by decide) (by decide) (by decide) (by decide) (by decide)
        have := i9 q
        rw [a, b]
        omega
      · obtain ⟨a, b⟩ := keep q (by decide) (by decide) (by decide) (by decide) (by decide)
        have := i10 q
        rw [a, b]
        omega
    · have q := p12 s
      have e : cM (tr K (t + 1)) = cM (tr K t) := cM_k (by rw [q]; decide)
      have lt := (WF_all t (tr_alive h)).2.2.2.2.1 (by rw [q]; decide)
      have c : cnt K t (cM (tr K t)) := ⟨by omega, Or.inl ⟨q, rfl⟩⟩
      have := i11 q
      rw [e, ac_y c]
      omega
    · obtain ⟨a, b⟩ := keep (p10 s) (by decide) (by decide) (by decide) (by decide) (by decide)
      have := i12 (p10 s)
      rw [a, b]
      omega
/-- inside the arguments of a name -/
def InA (K : Nat → Int32) (x d0 t : Nat) : Prop := d0 + 1 ≤ cD (tr K t) ∧ cO (tr K t) d0 = nI x ∧ 16 < cS (tr K t) ∧ (∀ j, j < cD (tr K t) → j ≠ d0 → cO (tr K t) j ≠ nI x)
theorem ina_0 (hK : ∀ u, N ≤ u → K u = 0) (hN : N ≤ 121) {x : Nat} (s : cS (tr K (x + 1)) = 20) (k : K (x + 1) = 40) (ha : cS (tr K (x + 2)) ≠ 0) : InA K x (cD (tr K (x + 1))) (x + 2) ∧ cS (tr K (x + 2)) = 21 ∧ cD (tr K (x + 2)) = cD (tr K (x + 1)) + 1 := by
  have a1 : cS (tr K (x + 1)) ≠ 0 := by rw [s]; decide
  have xN := alive_le hK a1
  have d8 := (WF_all (x + 1) a1).1
  have dl : cD (tr K (x + 1)) < 8 := Decidable.byContradiction (fun z => ha (by
    show cS (tr K (x + 1 + 1)) = 0
    rw [trS, s, k, show cD (tr K (x + 1)) = 8 by omega]
    simp +decide only [nxt, if_true, if_false]))
  have s21 : cS (tr K (x + 2)) = 21 := by
    show cS (tr K (x + 1 + 1)) = 21
    rw [trS, s, k]
    simp +decide only [nxt, if_true, if_false, if_pos dl]
  have D2 : cD (tr K (x + 2)) = cD (tr K (x + 1)) + 1 := by
    show cD (tr K (x + 1 + 1)) = _
    rw [trD, s, k]
    simp +decide only [dpt, true_or, or_true, and_true, if_true]
  have O2 : cO (tr K (x + 2)) = fun j => if j = cD (tr K (x + 1)) then nI x else cO (tr K (x + 1)) j := by
    show cO (tr K (x + 1 + 1)) = _
    rw [trO, s, k]
    simp +decide only [opn, true_or, or_true, and_true, if_true, Nat.add_sub_cancel]
  refine ⟨⟨by omega, by rw [O2]; simp only [if_true], by rw [s21]; decide, fun j hj hne => ?_⟩, s21, D2⟩
  rw [O2]
  simp only [if_neg hne]
  rcases (WF_all (x + 1) a1).2.2.2.1 j (by omega) with q | ⟨y, y1, y2⟩
  · rw [q]; exact fun z => q_neg (show x < 2147483648 by omega) z.symm
  · rw [y2]
    intro z
    have := (q_eq (by omega) (by omega)).mp z
    omega
theorem ina_s (hK : ∀ u, N ≤ u → K u = 0) (hN : N ≤ 121) {x d0 t : Nat} (h : InA K x d0 t) (hx : x + 2 ≤ t) (ha : cS (tr K (t + 1)) ≠ 0) (nc : ¬ (K t = 41 ∧ cD (tr K t) = d0 + 1)) : InA K x d0 (t + 1) := by
  obtain ⟨h1, h2, h3, h4⟩ := h
  have tN := alive_le hK ha
  have w := ways (k := K t) (k2 := K (t + 1)) (d := cD (tr K t)) (call := callB (tr K t)) (e := cE (tr K t)) ((tr_mem K t).resolve_left (tr_alive ha)) ha
  have st : 16 < cS (tr K (t + 1)) := by
    rw [trS]
    unfold Way at w
    rcases w with ⟨hs, hk, hs2, hsd⟩ | ⟨hs, hk, hs2, hsd⟩ | ⟨hs, hk, hs2, hsd⟩ | ⟨hs, hk, hs2, hsd⟩ | ⟨hs, hk, hs2, hsd⟩ | ⟨hs, hk, hs2, hsd⟩ | ⟨hs, hk, hs2, hsd⟩ | ⟨hs, hk, hs2, hsd⟩ | ⟨hs, hk, hs2, hsd⟩ | ⟨hs, hk, hs2, hsd⟩ | ⟨hs, hk, hs2, hsd⟩ | ⟨hs, hk, hs2, hsd⟩ | ⟨hs, hk, hs2, hsd⟩ | ⟨hs, hk, hs2, hsd⟩ | ⟨hs, hk, hs2, hsd⟩ | ⟨hs, hk, hs2, hsd⟩ | ⟨hs, hk, hs2, hsd⟩ | ⟨hs, hk, hs2, hsd⟩ | ⟨hs, hk, hs2, hsd⟩ | ⟨hs, hk, hs2, hsd⟩ | ⟨hs, hk, hs2, hsd⟩ | ⟨hs, hk, hs2, hsd⟩ | ⟨hs, hk, hs2, hsd⟩ | ⟨hs, hk, hs2, hsd⟩ | ⟨hs, hk, hs2, hsd⟩ | ⟨hs, hk, hs2, hsd⟩ | ⟨hs, hk, hs2, hsd⟩ | ⟨hs, hk, hs2, hsd⟩ | ⟨hs, hk, hs2, hsd⟩ | ⟨hs, hk, hs2, hsd⟩ | ⟨hs, hk, hs2, hsd⟩ | ⟨hs, hk, hs2, hsd⟩ | ⟨hs, hk, hs2, hsd⟩ | ⟨hs, hk, hs2, hsd⟩ | ⟨hs, hk, hs2, hsd⟩ | ⟨hs, hk, hs2, hsd⟩ | ⟨hs, hk, hs2, hsd⟩ | ⟨hs, hk, hs2, hsd⟩ | ⟨hs, hk, hs2, hsd⟩ | ⟨hs, hk, hs2, hsd⟩ | ⟨hs, hk, hs2, hsd⟩ | ⟨hs, hk, hs2, hsd⟩ | ⟨hs, hk, hs2, hsd⟩ | ⟨hs, hk, hs2, hsd⟩ | ⟨hs, hk, hs2, hsd⟩ | ⟨hs, hk, hs2, hsd⟩ | ⟨hs, hk, hs2, hsd⟩ | ⟨hs, hk, hs2, hsd⟩ | ⟨hs, hk, hs2, hsd⟩ | ⟨hs, hk, hs2, hsd⟩ | ⟨hs, hk, hs2, hsd⟩ | ⟨hs, hk, hs2, hsd⟩ | ⟨hs, hk, hs2, hsd⟩ | ⟨hs, hk, hs2, hsd⟩ | ⟨hs, hk, hs2, hsd⟩ | ⟨hs, hk, hs2, hsd⟩ | ⟨hs, hk, hs2, hsd⟩ | ⟨hs, hk, hs2, hsd⟩ <;> first | (rw [hs2]; decide) | (rw [hs] at h3; exact absurd h3 (by decide)) | (exfalso; omega)
  unfold InA
  rw [trD, trO]
  unfold dpt opn
  by_cases c1 : K t = 40 ∧ (cS (tr K t) = 14 ∨ cS (tr K t) = 17 ∨ cS (tr K t) = 20 ∨ cS (tr K t) = 21)
  · rw [if_pos c1, if_pos c1]
    refine ⟨by omega, ?_, st, fun j hj hne => ?_⟩
    · simp only [if_neg (show ¬ d0 = cD (tr K t) by omega)]; exact h2
    · by_cases e : j = cD (tr K t)
      · simp only [if_pos e]
        by_cases s20 : cS (tr K t) = 20
        · rw [if_pos s20]
          intro z
          have := (q_eq (by omega) (by omega)).mp z
          omega
        · rw [if_neg s20]
          exact fun z => q_neg (show x < 2147483648 by omega) z.symm
      · simp only [if_neg e]
        exact h4 j (by omega) hne
  · rw [if_neg c1, if_neg c1]
    by_cases c2 : K t = 41 ∧ (cS (tr K t) = 20 ∨ cS (tr K t) = 21 ∨ cS (tr K t) = 22)
    · rw [if_pos c2]
      have : ¬ cD (tr K t) = d0 + 1 := fun z => nc ⟨c2.1, z⟩
      exact ⟨by omega, h2, st, fun j hj hne => h4 j (by omega) hne⟩
    · rw [if_neg c2]
      exact ⟨h1, h2, st, h4⟩
/-- behind the arguments of a name -/
def OutA (K : Nat → Int32) (x t : Nat) : Prop := ∀ j, j < cD (tr K t) → cO (tr K t) j ≠ nI x
theorem out_0 {x d0 t : Nat} (h : InA K x d0 t) (k : K t = 41) (hd : cD (tr K t) = d0 + 1) (ha : cS (tr K (t + 1)) ≠ 0) : OutA K x (t + 1) ∧ cS (tr K (t + 1)) = 22 ∧ cD (tr K (t + 1)) = d0 := by
  obtain ⟨h1, h2, h3, h4⟩ := h
  have w := ways (k := K t) (k2 := K (t + 1)) (d := cD (tr K t)) (call := callB (tr K t)) (e := cE (tr K t)) ((tr_mem K t).resolve_left (tr_alive ha)) ha
  have q : cS (tr K (t + 1)) = 22 ∧ (cS (tr K t) = 20 ∨ cS (tr K t) = 21 ∨ cS (tr K t) = 22) := by
    rw [trS]
    unfold Way at w
    rcases w with ⟨hs, hk, hs2, hsd⟩ | ⟨hs, hk, hs2, hsd⟩ | ⟨hs, hk, hs2, hsd⟩ | ⟨hs, hk, hs2, hsd⟩ | ⟨hs, hk, hs2, hsd⟩ | ⟨hs, hk, hs2, hsd⟩ | ⟨hs, hk, hs2, hsd⟩ | ⟨hs, hk, hs2, hsd⟩ | ⟨hs, hk, hs2, hsd⟩ | ⟨hs, hk, hs2, hsd⟩ | ⟨hs, hk, hs2, hsd⟩ | ⟨hs, hk, hs2, hsd⟩ | ⟨hs, hk, hs2, hsd⟩ | ⟨hs, hk, hs2, hsd⟩ | ⟨hs, hk, hs2, hsd⟩ | ⟨hs, hk, hs2, hsd⟩ | ⟨hs, hk, hs2, hsd⟩ | ⟨hs, hk, hs2, hsd⟩ | ⟨hs, hk, hs2, hsd⟩ | ⟨hs, hk, hs2, hsd⟩ | ⟨hs, hk, hs2, hsd⟩ | ⟨hs, hk, hs2, hsd⟩ | ⟨hs, hk, hs2, hsd⟩ | ⟨hs, hk, hs2, hsd⟩ | ⟨hs, hk, hs2, hsd⟩ | ⟨hs, hk, hs2, hsd⟩ | ⟨hs, hk, hs2, hsd⟩ | ⟨hs, hk, hs2, hsd⟩ | ⟨hs, hk, hs2, hsd⟩ | ⟨hs, hk, hs2, hsd⟩ | ⟨hs, hk, hs2, hsd⟩ | ⟨hs, hk, hs2, hsd⟩ | ⟨hs, hk, hs2, hsd⟩ | ⟨hs, hk, hs2, hsd⟩ | ⟨hs, hk, hs2, hsd⟩ | ⟨hs, hk, hs2, hsd⟩ | ⟨hs, hk, hs2, hsd⟩ | ⟨hs, hk, hs2, hsd⟩ | ⟨hs, hk, hs2, hsd⟩ | ⟨hs, hk, hs2, hsd⟩ | ⟨hs, hk, hs2, hsd⟩ | ⟨hs, hk, hs2, hsd⟩ | ⟨hs, hk, hs2, hsd⟩ | ⟨hs, hk, hs2, hsd⟩ | ⟨hs, hk, hs2, hsd⟩ | ⟨hs, hk, hs2, hsd⟩ | ⟨hs, hk, hs2, hsd⟩ | ⟨hs, hk, hs2, hsd⟩ | ⟨hs, hk, hs2, hsd⟩ | ⟨hs, hk, hs2, hsd⟩ | ⟨hs, hk, hs2, hsd⟩ | ⟨hs, hk, hs2, hsd⟩ | ⟨hs, hk, hs2, hsd⟩ | ⟨hs, hk, hs2, hsd⟩ | ⟨hs, hk, hs2, hsd⟩ | ⟨hs, hk, hs2, hsd⟩ | ⟨hs, hk, hs2, hsd⟩ | ⟨hs, hk, hs2, hsd⟩ <;> first | exact ⟨hs2, Or.inl hs⟩ | exact ⟨hs2, Or.inr (Or.inl hs)⟩ | exact ⟨hs2, Or.inr (Or.inr hs)⟩ | (rw [hs] at h3; exact absurd h3 (by decide)) | (rw [k] at hk; exact absurd hk (by decide))
  have D : cD (tr K (t + 1)) = d0 := by
    rw [trD]
    unfold dpt
    rw [if_neg (fun z => by rw [k] at z; exact absurd z.1 (by decide)), if_pos ⟨k, q.2⟩]
    omega
  refine ⟨fun j hj => ?_, q.1, D⟩
  rw [D] at hj
  rw [trO]
  unfold opn
  rw [if_neg (fun z => by rw [k] at z; exact absurd z.1 (by decide))]
  exact h4 j (by omega) (by omega)
theorem out_s (hN : N ≤ 121) {x t : Nat} (h : OutA K x t) (hx : x + 2 ≤ t) (tN : t ≤ N) : OutA K x (t + 1) := by
  unfold OutA
  rw [trD, trO]
  unfold dpt opn
  intro j hj
  by_cases c1 : K t = 40 ∧ (cS (tr K t) = 14 ∨ cS (tr K t) = 17 ∨ cS (tr K t) = 20 ∨ cS (tr K t) = 21)
  · rw [if_pos c1] at hj ⊢
    by_cases e : j = cD (tr K t)
    · simp only [if_pos e]
      by_cases s20 : cS (tr K t) = 20
      · rw [if_pos s20]
        intro z
        have := (q_eq (by omega) (by omega)).mp z
        omega
      · rw [if_neg s20]
        exact fun z => q_neg (show x < 2147483648 by omega) z.symm
    · simp only [if_neg e]
      exact h j (by omega)
  · rw [if_neg c1] at hj ⊢
    by_cases c2 : K t = 41 ∧ (cS (tr K t) = 20 ∨ cS (tr K t) = 21 ∨ cS (tr K t) = 22)
    · rw [if_pos c2] at hj
      exact h j (by omega)
    · rw [if_neg c2] at hj
      exact h j hj
theorem out_n {x t : Nat} (h : OutA K x t) (n7 : ¬ cS (tr K x) = 7) : ¬ cnt K t x := by
  rintro ⟨_, z⟩
  rcases z with ⟨s, e⟩ | ⟨_, cb, o⟩ | ⟨_, cb, o⟩
  · have := (inM t (by rw [s]; decide)).2.1
    rw [← e] at this
    exact n7 this
  all_goals
    have hd : 0 < cD (tr K t) := by
      unfold callB at cb
      simp at cb
      omega
    exact h (cD (tr K t) - 1) (by omega) o
theorem ac_out (hN : N ≤ 121) {x : Nat} (n7 : ¬ cS (tr K x) = 7) : ∀ {t u : Nat}, t ≤ u → u ≤ N → x + 2 ≤ t → OutA K x t → ac K u x = ac K t x ∧ OutA K x u
  | t, 0, h, _, h2, _ => by omega
  | t, u + 1, h, hu, h2, o => by
    by_cases e : t = u + 1
    · rw [← e]; exact ⟨rfl, o⟩
    · obtain ⟨a, b⟩ := ac_out hN n7 (t := t) (u := u) (by omega) (by omega) h2 o
      exact ⟨by rw [ac_n (out_n b n7)]; exact a, out_s hN b (by omega) (by omega)⟩
/-- counted where the innermost bracket is the name's -/
theorem cnt_in (hN : N ≤ 121) {x d0 t : Nat} (h : InA K x d0 t) (hx : x + 3 ≤ t) (tN : t ≤ N) (x1 : x < 121) : cnt K t x ↔ (((cS (tr K t) = 20 ∨ cS (tr K t) = 22) ∧ K t = 44) ∧ cD (tr K t) = d0 + 1) := by
  obtain ⟨h1, h2, h3, h4⟩ := h
  constructor
  · rintro ⟨_, z⟩
    rcases z with ⟨s, e⟩ | ⟨⟨s, _⟩, cb, o⟩ | ⟨q, cb, o⟩
    · rw [s] at h3; exact absurd h3 (by decide)
    · exfalso
      have := ((WF_all t (by rw [s]; decide)).2.2.1 s).2.2
      rw [o] at this
      have := (q_eq (by omega) (by omega)).mp this
      omega
    · refine ⟨q, Decidable.byContradiction (fun z => ?_)⟩
      exact h4 (cD (tr K t) - 1) (by omega) (by omega) o
  · rintro ⟨q, e⟩
    refine ⟨x1, Or.inr (Or.inr ⟨q, callB_t (by omega) ?_, ?_⟩)⟩
    · rw [show cD (tr K t) - 1 = d0 by omega, h2]
      exact q_neg (by omega)
    · rw [show cD (tr K t) - 1 = d0 by omega]
      exact h2
end INV2
