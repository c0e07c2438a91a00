/-! the reference's cutting -/
section MCUT
variable {n : Nat} {C : Nat → Nat}
theorem TM.at {μ : Sto} (h : TM μ n C) {i : Nat} (hi : i < n) : μ.2.1 1 i = nI (C i) := (h.2.2 i hi).1
theorem TM.lt {μ : Sto} (h : TM μ n C) {i : Nat} (hi : i < n) : C i < 128 := by have := (h.2.2 i hi).2.2; omega
theorem TM.keep {μ μ' : Sto} (h : TM μ n C) (h1 : μ'.1 1 = μ.1 1) (h2 : μ'.2.1 1 = μ.2.1 1) : TM μ' n C := ⟨h.1, by rw [h1]; exact h.2.1, by rw [h2]; exact h.2.2⟩
theorem shl8m {w c : Nat} (hc : c < 256) : (lN w <<< ((8 : Int32).toInt64 &&& 63)) ||| (nI c).toInt64 = lN (w * 256 % 2 ^ 64 + c) := by
  rw [show ((8 : Int32).toInt64 &&& 63) = ((nI 8).toInt64 &&& 63) from rfl, wb_shl w (by decide), nI_l (by omega), wb_mod (w * 2 ^ 8)]
  have e : w * 2 ^ 8 % 2 ^ 64 = (w % 2 ^ 56) * 256 := by omega
  have e2 : w * 256 % 2 ^ 64 = (w % 2 ^ 56) * 256 := by omega
  rw [e]
  exact g_or (k := 8) (p := 256) rfl hc (by omega)
theorem wN_lt {μ : Sto} (h : TM μ n C) {p : Nat} : ∀ i, p + i ≤ n → wN C p i < 256 ^ i
  | 0, _ => by unfold wN; decide
  | i + 1, hi => by
    unfold wN
    have := wN_lt h (p := p) i (by omega)
    have := h.lt (i := p + i) (by omega)
    rw [Nat.pow_succ]
    omega
def PM (C : Nat → Nat) (nm nu : Bool) : Nat → Bool := fun q => (nm && (isLN (C q) || isDN (C q))) || (nu && isDN (C q))
theorem mcutL {μ : Sto} (h : TM μ n C) (p : Nat) (nm nu : Bool) : ∀ (j k fuel w : Nat), j = n - k → k ≤ n → p ≤ k → j < fuel → w < 2 ^ 64 → (k - p ≤ 8 → w = wN C p (k - p)) → ∃ w', w' < 2 ^ 64 ∧ (scn (PM C nm nu) (n - k) k - p ≤ 8 → w' = wN C p (scn (PM C nm nu) (n - k) k - p)) ∧ p_Mo_cut_L26 (nI p) fuel μ (nI k) (lN w) (b01 nm) (b01 nu) = p_Mo_cut_b99 (nI p) μ (nI (scn (PM C nm nu) (n - k) k)) (lN w') (b01 nm) (b01 nu) := by
  have hn := h.1
  intro j
  induction j with
  | zero =>
    intro k fuel w hj hk hp hf hw hw2
    obtain ⟨m, rfl⟩ : ∃ m, fuel = m + 1 := ⟨fuel - 1, by omega⟩
    rw [← hj]
    refine ⟨w, hw, hw2, ?_⟩
    unfold p_Mo_cut_L26
    rw [h.2.1, if_pos ((q_le (by omega) (by omega)).mpr (by omega))]
    rfl
  | succ j ih =>
    intro k fuel w hj hk hp hf hw hw2
    obtain ⟨m, rfl⟩ : ∃ m, fuel = m + 1 := ⟨fuel - 1, by omega⟩
    have hc := h.lt (i := k) (by omega)
    have hr : inR (nI k) 240 := q_inR (by omega) (by omega)
    have htn : (nI k).toNatClampNeg = k := q_tn (by omega)
    have hw3 : w * 256 % 2 ^ 64 + C k < 2 ^ 64 := by omega
    have hw4 : k + 1 - p ≤ 8 → w * 256 % 2 ^ 64 + C k = wN C p (k + 1 - p) := by
      intro h8
      have e := hw2 (by omega)
      have b := wN_lt h (p := p) (k - p) (by omega)
      have b2 : 256 ^ (k - p) ≤ 256 ^ 7 := Nat.pow_le_pow_right (by decide) (by omega)
      rw [show k + 1 - p = (k - p) + 1 by omega]
      show _ = wN C p (k - p) * 256 + C (p + (k - p))
      rw [show p + (k - p) = k by omega, ← e, Nat.mod_eq_of_lt]
      have : 256 ^ 7 * 256 = 2 ^ 64 := by decide
      omega
    obtain ⟨w', i1, i2, i3⟩ := ih (k + 1) m (w * 256 % 2 ^ 64 + C k) (by omega) (by omega) (by omega) (by omega) hw3 hw4
    rw [show n - (k + 1) = j by omega] at i2 i3
    rw [← hj, scn_s]
    have hlen : ¬ (nI n ≤ nI k) := fun q => by have := (q_le (by omega) (by omega)).mp q; omega
    unfold p_Mo_cut_L26 p_Mo_cut_b63
    simp only [h.2.1, if_neg hlen, if_pos hr, htn, h.at (show k < n by omega), letM _ hc, digM _ hc, q_bd1, nI_1, shl8m (show C k < 256 by omega)]
    by_cases hP : PM C nm nu k = true
    · rw [if_pos hP]
      refine ⟨w', i1, i2, ?_⟩
      rw [← i3]
      unfold PM at hP
      revert hP
      cases nm <;> cases nu <;> cases isLN (C k) <;> cases isDN (C k) <;> intro hP <;> first | (simp [b01]; done) | (exact absurd hP (by decide))
    · rw [if_neg hP]
      refine ⟨w, hw, hw2, ?_⟩
      unfold PM at hP
      revert hP
      cases nm <;> cases nu <;> cases isLN (C k) <;> cases isDN (C k) <;> intro hP <;> first | (simp [b01]; done) | (exact absurd rfl hP)
theorem LD (c : Nat) : isLN c = true → isDN c = false := by
  unfold isLN isDN
  simp only [Bool.or_eq_true, Bool.and_eq_true, decide_eq_true_eq, Bool.and_eq_false_iff, decide_eq_false_iff_not]
  omega
/-- what one cut does -/
def Cut1 (C : Nat → Nat) (n : Nat) (μ : Sto) (t p : Nat) (μ' : Sto) : Prop :=
  (∀ k, μ'.1 k = if k = 3 then nI (t + 1) else μ.1 k) ∧ (∀ a u, μ'.2.1 a u = if a = 5 ∧ u = t then nI p else if a = 6 ∧ u = t then nI (en C n p) else if a = 3 ∧ u = t then nI (kdN C n t p) else μ.2.1 a u) ∧ (∀ u, u ≠ t → μ'.2.2 u = μ.2.2 u) ∧ (isLN (C p) = true → en C n p - p ≤ 8 → μ'.2.2 t = lN (wN C p (en C n p - p)))
theorem mcut {μ : Sto} (h : TM μ n C) {p t : Nat} (hp : p < n) (ht : μ.1 3 = nI t) (ht1 : t ≤ 120) : ∃ μ', p_Mo_cut μ (nI p) = some (nI (en C n p), μ') ∧ Cut1 C n μ t p μ' := by
  have hn := h.1
  have hc := h.lt hp
  have hr : inR (nI p) 240 := q_inR (by omega) (by omega)
  have htn : (nI p).toNatClampNeg = p := q_tn (by omega)
  have rt : inR (nI t) 124 := q_inR (by omega) (by omega)
  have rtn : (nI t).toNatClampNeg = t := q_tn (by omega)
  have e1 := en_gt (C := C) (n := n) (p := p)
  have e2 := en_le (C := C) hp
  obtain ⟨w, w1, w2, w3⟩ := mcutL h p (isLN (C p)) (isDN (C p)) (n - p) p FU 0 rfl (by omega) (Nat.le_refl _) (by unfold FU; omega) (by decide) (fun _ => by rw [Nat.sub_self]; rfl)
  unfold p_Mo_cut
  simp only [if_pos hr, htn, h.at hp, letM _ hc, digM _ hc, q_bd1]
  rw [show (0 : Int64) = lN 0 from rfl, w3]
  have hsc : scn (PM C (isLN (C p)) (isDN (C p))) (n - p) p = if isLN (C p) = true ∨ isDN (C p) = true then en C n p else p := by
    rw [show n - p = (n - (p + 1)) + 1 by omega, scn_s]
    unfold en
    cases hL : isLN (C p)
    · cases hD : isDN (C p)
      · simp [PM]
      · have e : PM C false true = fun q => isDN (C q) := by funext q; simp [PM]
        rw [e]
        simp [hD]
    · have hD := LD _ hL
      have e : PM C true (isDN (C p)) = fun q => isLN (C q) || isDN (C q) := by funext q; simp [PM, hD]
      rw [e]
      simp [hL]
  rw [hsc] at w2 ⊢
  have hnar : ∀ (m : Sto) (kd : Nat), (∀ k, m.1 k = μ.1 k) → (∀ a u, m.2.1 a u = if a = 5 ∧ u = t then nI p else if a = 6 ∧ u = t then nI (en C n p) else if a = 3 ∧ u = t then nI kd else μ.2.1 a u) → (∀ u, u ≠ t → m.2.2 u = μ.2.2 u) → (isLN (C p) = true → en C n p - p ≤ 8 → m.2.2 t = lN (wN C p (en C n p - p))) → (t ≠ 120 → kd = kdN C n t p) → ∃ μ', p_Mo_cut_b233 (nI p) m (nI t) = some (nI (en C n p), μ') ∧ Cut1 C n μ t p μ' := by
    intro m kd m1 m2 m3 m4 m5
    unfold p_Mo_cut_b233
    by_cases h120 : t = 120
    · have hk9 : kdN C n t p = 9 := by unfold kdN; rw [if_pos h120]
      rw [if_pos (by rw [h120]; rfl), if_pos rt, if_pos rt, rtn]
      refine ⟨sS (sA m 3 t 9) 3 (nI (t + 1)), ?_, fun k => ?_, fun a u => ?_, m3, m4⟩
      · rw [q_S2, q_A2, if_neg (by decide), m2, q_A1, m1, ht, nI_1, if_neg (by omega), if_pos ⟨rfl, rfl⟩]
      · rw [q_S1, q_A1]
        split
        · rfl
        · exact m1 k
      · rw [q_S2, q_A2, m2, hk9]
        (repeat' split) <;> first | rfl | omega
    · rw [if_neg (fun z => h120 ((q_eqL (by omega) (by decide)).mp z)), if_pos rt, rtn]
      refine ⟨sS m 3 (nI (t + 1)), ?_, fun k => ?_, fun a u => ?_, m3, m4⟩
      · rw [q_S2, m2, m1, ht, nI_1, if_neg (by omega), if_pos ⟨rfl, rfl⟩]
      · rw [q_S1]
        split
        · rfl
        · exact m1 k
      · rw [q_S2, m2, ← m5 h120]
  unfold p_Mo_cut_b99 p_Mo_cut_b144
  simp only [ht, if_pos rt, rtn]
  cases hL : isLN (C p)
  · cases hD : isDN (C p)
    · -- a sign, or a bad character
      have he : en C n p = p + 1 := by unfold en; simp [hL, hD]
      simp only [if_neg (show ¬ (false = true ∨ false = true) by decide)]
      rw [q_sub (Nat.le_refl p), Nat.sub_self, if_pos (show nI 0 = 0 from rfl), if_pos (show b01 false = 0 from rfl), nI_1]
      unfold p_Mo_cut_b173 p_Mo_cut_b198
      rw [if_pos (show b01 false = 0 from rfl), if_pos (show nI 0 = 0 from rfl), if_pos hr, if_pos hr, htn]
      have rd : (sA (sL (sA μ 5 t (nI p)) t (lN w)) 6 t (nI (p + 1))).2.1 1 p = nI (C p) := h.at hp
      rw [rd, sgnM _ hc, q_bd1]
      have fin : ∀ kd : Nat, (t ≠ 120 → kd = kdN C n t p) → ∃ μ', p_Mo_cut_b232 (nI p) (sA (sL (sA μ 5 t (nI p)) t (lN w)) 6 t (nI (p + 1))) (nI t) (nI t) (nI kd) = some (nI (en C n p), μ') ∧ Cut1 C n μ t p μ' := by
        intro kd hkd
        unfold p_Mo_cut_b232
        rw [if_pos rt, rtn]
        refine hnar _ kd (fun k => rfl) (fun a u => ?_) (fun u hu => ?_) (fun z => absurd z (by rw [hL]; decide)) hkd
        · rw [q_A2, q_A2, q_L2, q_A2, he]
          (repeat' split) <;> first | rfl | omega
        · rw [q_A3, q_A3, q_L3, if_neg hu]; rfl
      cases hS : isSN (C p)
      · rw [if_pos (show b01 false = 0 from rfl)]
        exact fin 9 (fun h120 => by unfold kdN; simp [h120, hL, hD, hS])
      · rw [if_neg (by decide)]
        exact fin (C p) (fun h120 => by unfold kdN; simp [h120, hL, hD, hS])
    · -- a number
      rw [hL, hD] at w2
      simp only [or_true, if_true] at w2 ⊢
      rw [q_sub (by omega), if_neg (fun z => by have : en C n p - p = 0 := (q_eqL (by omega) (by decide)).mp z; omega), if_pos (show b01 false = 0 from rfl)]
      unfold p_Mo_cut_b173
      rw [if_neg (by decide)]
      have fin : ∀ kd : Nat, (t ≠ 120 → kd = kdN C n t p) → ∃ μ', p_Mo_cut_b197 (nI p) (sA (sL (sA μ 5 t (nI p)) t (lN w)) 6 t (nI (en C n p))) (nI (en C n p - p)) (nI t) (nI t) (nI kd) = some (nI (en C n p), μ') ∧ Cut1 C n μ t p μ' := by
        intro kd hkd
        unfold p_Mo_cut_b197 p_Mo_cut_b198
        rw [if_pos rt, rtn, if_neg (fun z => by have : en C n p - p = 0 := (q_eqL (by omega) (by decide)).mp z; omega)]
        refine hnar _ kd (fun k => rfl) (fun a u => ?_) (fun u hu => ?_) (fun z => absurd z (by rw [hL]; decide)) hkd
        · rw [q_A2, q_A2, q_L2, q_A2]
          (repeat' split) <;> first | rfl | omega
        · rw [q_A3, q_A3, q_L3, if_neg hu]; rfl
      by_cases h6 : en C n p - p ≤ 6
      · rw [if_pos ((q_leL (by omega) (by decide)).mpr h6)]
        exact fin 2 (fun h120 => by unfold kdN; simp [h120, hL, hD]; omega)
      · rw [if_neg (fun z => h6 ((q_leL (by omega) (by decide)).mp z))]
        exact fin 9 (fun h120 => by unfold kdN; simp [h120, hL, hD]; omega)
  · -- a word
    have hD := LD _ hL
    rw [hL] at w2
    rw [hD] at w2 ⊢
    simp only [true_or, if_true] at w2 ⊢
    rw [q_sub (by omega), if_neg (fun z => by have : en C n p - p = 0 := (q_eqL (by omega) (by decide)).mp z; omega), if_neg (by decide)]
    have fin : ∀ kd : Nat, (t ≠ 120 → kd = kdN C n t p) → ∃ μ', p_Mo_cut_b172 (nI p) (sA (sL (sA μ 5 t (nI p)) t (lN w)) 6 t (nI (en C n p))) (b01 false) (nI (en C n p - p)) (nI t) (nI t) (nI kd) = some (nI (en C n p), μ') ∧ Cut1 C n μ t p μ' := by
      intro kd hkd
      unfold p_Mo_cut_b172 p_Mo_cut_b173 p_Mo_cut_b198
      rw [if_pos rt, rtn, if_pos (show b01 false = 0 from rfl), if_neg (fun z => by have : en C n p - p = 0 := (q_eqL (by omega) (by decide)).mp z; omega)]
      refine hnar _ kd (fun k => rfl) (fun a u => ?_) (fun u hu => ?_) (fun z h8 => ?_) hkd
      · rw [q_A2, q_A2, q_L2, q_A2]
        (repeat' split) <;> first | rfl | omega
      · rw [q_A3, q_A3, q_L3, if_neg hu]; rfl
      · rw [q_A3, q_A3, q_L3, if_pos rfl]
        rw [w2 h8]
    by_cases h8 : en C n p - p ≤ 8
    · have hwd : wdO (wN C p (en C n p - p)) (en C n p - p) := by
        refine wN_ok C p _ (by omega) h8 (fun i hi => ?_)
        have := h.2.2 (p + i) (by omega)
        omega
      rw [if_pos ((q_leL (by omega) (by decide)).mpr h8), w2 h8, (wordK hwd).2, q_bd1, ← w2 h8]
      exact fin _ (fun h120 => by
        unfold kdN
        rw [if_neg h120, if_pos hL, if_neg (by omega), w2 h8])
    · rw [if_neg (fun z => h8 ((q_leL (by omega) (by decide)).mp z))]
      exact fin 9 (fun h120 => by
        unfold kdN
        rw [if_neg h120, if_pos hL, if_pos (by omega)])
end MCUT
