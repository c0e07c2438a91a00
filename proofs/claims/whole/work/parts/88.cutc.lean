/-! the class's cutting -/
section CUTC
variable {σ : Sto} {n : Nat} {C : Nat → Nat}
theorem scn_s (P : Nat → Bool) (m p : Nat) : scn P (m + 1) p = if P p = true then scn P m (p + 1) else p := rfl
theorem TC.at (h : TC σ n C) {i : Nat} (hi : i < n) : σ.2.1 2 i = nI (C i) := (h.2.2 i hi).1
theorem TC.lt (h : TC σ n C) {i : Nat} (hi : i < n) : C i < 128 := by have := (h.2.2 i hi).2.2; omega
theorem skipB (h : TC σ n C) (x1 : Int32) : ∀ (j p fuel : Nat), j = n - p → p ≤ n → j < fuel → p_Tokens_skipBlanks_L2 σ x1 fuel (nI p) = some (nI (nb C n p)) := by
  have hn := h.1
  intro j
  induction j with
  | zero =>
    intro p fuel hj hp hf
    obtain ⟨m, rfl⟩ : ∃ m, fuel = m + 1 := ⟨fuel - 1, by omega⟩
    unfold p_Tokens_skipBlanks_L2 nb
    rw [← hj, h.2.1, if_pos ((q_le (by omega) (by omega)).mpr (by omega)), show n = p by omega]
    rfl
  | succ j ih =>
    intro p fuel hj hp hf
    obtain ⟨m, rfl⟩ : ∃ m, fuel = m + 1 := ⟨fuel - 1, by omega⟩
    unfold p_Tokens_skipBlanks_L2 nb
    have hc := h.lt (i := p) (by omega)
    rw [← hj, h.2.1, if_neg (fun q => by have := (q_le (by omega) (by omega)).mp q; omega), if_pos (q_inR (by omega) (by omega)), q_tn (by omega), h.at (by omega), scn_s]
    by_cases e : C p = 32
    · rw [e, if_pos (show nI 32 = 32 from rfl), if_pos (show (32 == 32) = true from rfl), nI_1, ih (p + 1) m (by omega) (by omega) (by omega)]
      unfold nb
      rw [show n - (p + 1) = j by omega]
    · rw [if_neg (fun q => e ((q_eqL (by omega) (by decide)).mp q)), if_neg (by simpa using e)]
theorem endT (h : TC σ n C) (x1 : Int32) (w : Bool) : ∀ (j p fuel : Nat), j = n - p → p ≤ n → j < fuel → p_Tokens_endOfToken_L34 σ x1 fuel (b01 w) (nI p) = some (nI (scn (fun q => isDN (C q) || (w && isLN (C q))) (n - p) p)) := by
  have hn := h.1
  intro j
  induction j with
  | zero =>
    intro p fuel hj hp hf
    obtain ⟨m, rfl⟩ : ∃ m, fuel = m + 1 := ⟨fuel - 1, by omega⟩
    unfold p_Tokens_endOfToken_L34
    rw [← hj, h.2.1, if_pos ((q_le (by omega) (by omega)).mpr (by omega)), show n = p by omega]
    rfl
  | succ j ih =>
    intro p fuel hj hp hf
    obtain ⟨m, rfl⟩ : ∃ m, fuel = m + 1 := ⟨fuel - 1, by omega⟩
    unfold p_Tokens_endOfToken_L34
    have hc := h.lt (i := p) (by omega)
    have i2 := ih (p + 1) m (by omega) (by omega) (by omega)
    rw [show n - (p + 1) = j by omega] at i2
    rw [← hj, h.2.1, if_neg (fun q => by have := (q_le (by omega) (by omega)).mp q; omega), if_pos (q_inR (by omega) (by omega)), q_tn (by omega), h.at (by omega), digC _ hc, q_bd1, nI_1, i2, letC _ hc, q_bd1, scn_s]
    cases isDN (C p) <;> cases w <;> cases isLN (C p) <;> simp [b01]
theorem endO (h : TC σ n C) {p : Nat} (hp : p < n) : p_Tokens_endOfToken σ (nI p) = some (nI (en C n p)) := by
  have hn := h.1
  have hc := h.lt hp
  unfold p_Tokens_endOfToken en
  have e1 := endT h (nI p) (isLN (C p)) (n - (p + 1)) (p + 1) FU rfl (by omega) (by unfold FU; omega)
  have hr : inR (nI p) 240 := q_inR (by omega) (by omega)
  have ht : (nI p).toNatClampNeg = p := q_tn (by omega)
  simp only [if_pos hr, ht, h.at hp, letC _ hc, digC _ hc, q_bd1, nI_1, e1]
  cases h1 : isLN (C p)
  · cases h2 : isDN (C p)
    · simp [b01]
    · simp [b01]
  · simp only [b01, if_true, z10, if_false, Bool.true_and]
    congr 3
    funext q
    exact Bool.or_comm _ _
theorem shl8 {w c : Nat} (hw : w < 2 ^ 56) (hc : c < 256) : (lN w <<< ((8 : Int32).toInt64 &&& 63)) ||| (nI c).toInt64 = lN (w * 256 + c) := by
  rw [show ((8 : Int32).toInt64 &&& 63) = ((nI 8).toInt64 &&& 63) from rfl, wb_shl w (by decide), nI_l (by omega)]
  exact g_or (k := 8) (p := 256) rfl hc (by omega)
theorem spellL (h : TC σ n C) {p e : Nat} (hp : p < n) (he : e ≤ n) : ∀ (j i fuel : Nat), i + j = 8 → j < fuel → p_Tokens_spell_L5 σ (nI p) (nI e) fuel (lN (spN C p e i)) (nI i) = some (lN (spN C p e 8)) := by
  have hn := h.1
  have hb : ∀ i, spN C p e i < 256 ^ i := spN_lt (fun i h1 h2 => h.lt (by omega))
  intro j
  induction j with
  | zero =>
    intro i fuel hj hf
    obtain ⟨m, rfl⟩ : ∃ m, fuel = m + 1 := ⟨fuel - 1, by omega⟩
    unfold p_Tokens_spell_L5
    rw [if_pos ((q_Lle (by decide) (by omega)).mpr (show 8 ≤ i by omega)), show i = 8 by omega]
  | succ j ih =>
    intro i fuel hj hf
    obtain ⟨m, rfl⟩ : ∃ m, fuel = m + 1 := ⟨fuel - 1, by omega⟩
    unfold p_Tokens_spell_L5
    have h56 : spN C p e i < 2 ^ 56 := Nat.lt_of_lt_of_le (hb i) (by
      rw [show (2 : Nat) ^ 56 = 256 ^ 7 from rfl]
      exact Nat.pow_le_pow_right (by decide) (by omega))
    have i2 := ih (i + 1) m (by omega) (by omega)
    rw [if_neg (fun q => by have : 8 ≤ i := (q_Lle (by decide) (by omega)).mp q; omega), q_add, nI_1]
    by_cases hc : p + i < e
    · rw [if_neg (fun q => by have := (q_le (by omega) (by omega)).mp q; omega), if_pos (q_inR (by omega) (by omega)), q_tn (by omega), h.at (by omega), shl8 h56 (by have := h.lt (i := p + i) (by omega); omega), ← i2]
      show _ = p_Tokens_spell_L5 σ (nI p) (nI e) m (lN (spN C p e i * 256 + (if p + i < e then C (p + i) else 0))) (nI (i + 1))
      rw [if_pos hc]
    · rw [if_pos ((q_le (by omega) (by omega)).mpr (by omega)), show (0 : Int32).toInt64 = (nI 0).toInt64 from rfl, shl8 h56 (by decide), ← i2]
      show _ = p_Tokens_spell_L5 σ (nI p) (nI e) m (lN (spN C p e i * 256 + (if p + i < e then C (p + i) else 0))) (nI (i + 1))
      rw [if_neg hc]
theorem spellO (h : TC σ n C) {p e : Nat} (hp : p < n) (he : e ≤ n) : p_Tokens_spell σ (nI p) (nI e) = some (lN (spN C p e 8)) :=
  spellL h hp he 8 0 FU rfl (by unfold FU; omega)
end CUTC
/-! words of names -/
/-- a word's number, with its length: no zeros at its ends -/
def wdO (w l : Nat) : Prop := 1 ≤ l ∧ l ≤ 8 ∧ 256 ^ (l - 1) ≤ w ∧ w < 128 * 256 ^ (l - 1) ∧ w % 256 ≠ 0
theorem wdO_eq {w1 l1 w2 l2 : Nat} (h1 : wdO w1 l1) (h2 : wdO w2 l2) : w1 * 256 ^ (8 - l1) = w2 * 256 ^ (8 - l2) ↔ w1 = w2 ∧ l1 = l2 := by
  constructor
  · intro h
    have one : ∀ {w1 l1 w2 l2 : Nat}, wdO w1 l1 → wdO w2 l2 → w1 * 256 ^ (8 - l1) = w2 * 256 ^ (8 - l2) → ¬ l1 < l2 := by
      intro w1 l1 w2 l2 h1 h2 h hl
      obtain ⟨a1, a2, a3, a4, a5⟩ := h1
      obtain ⟨b1, b2, b3, b4, b5⟩ := h2
      have e : 8 - l1 = (8 - l2) + (l2 - l1 - 1) + 1 := by omega
      rw [e, Nat.pow_succ, Nat.pow_add] at h
      have h9 : w1 * (256 ^ (l2 - l1 - 1) * 256) * 256 ^ (8 - l2) = w2 * 256 ^ (8 - l2) := by
        rw [← h]
        simp only [Nat.mul_assoc, Nat.mul_comm, Nat.mul_left_comm]
      have h8 := Nat.eq_of_mul_eq_mul_right (Nat.pow_pos (by decide)) h9
      apply b5
      rw [← h8, ← Nat.mul_assoc, Nat.mul_mod_left]
    have hl : l1 = l2 := by
      have a := one h1 h2 h
      have b := one h2 h1 h.symm
      omega
    subst hl
    exact ⟨Nat.eq_of_mul_eq_mul_right (Nat.pow_pos (by decide)) h, rfl⟩
  · rintro ⟨rfl, rfl⟩; rfl
theorem wdO_len {w l1 l2 : Nat} (h1 : wdO w l1) (h2 : wdO w l2) : l1 = l2 := by
  have one : ∀ {l1 l2 : Nat}, wdO w l1 → wdO w l2 → ¬ l1 < l2 := by
    intro l1 l2 h1 h2 hl
    obtain ⟨a1, a2, a3, a4, a5⟩ := h1
    obtain ⟨b1, b2, b3, b4, b5⟩ := h2
    have : 256 * 256 ^ (l1 - 1) ≤ 256 ^ (l2 - 1) := by
      rw [Nat.mul_comm, ← Nat.pow_succ]
      exact Nat.pow_le_pow_right (by decide) (by omega)
    omega
  have a := one h1 h2
  have b := one h2 h1
  omega
theorem wdO_lt {w l : Nat} (h : wdO w l) : w * 256 ^ (8 - l) < 2 ^ 63 ∧ w < 2 ^ 63 := by
  obtain ⟨a1, a2, a3, a4, a5⟩ := h
  have h1 : w * 256 ^ (8 - l) < 128 * 256 ^ (l - 1) * 256 ^ (8 - l) := Nat.mul_lt_mul_of_pos_right a4 (Nat.pow_pos (by decide))
  rw [Nat.mul_assoc, ← Nat.pow_add, show l - 1 + (8 - l) = 7 by omega] at h1
  have h2 : w * 1 ≤ w * 256 ^ (8 - l) := Nat.mul_le_mul_left w (Nat.pow_pos (by decide))
  constructor
  · exact h1
  · have : 128 * 256 ^ 7 = 2 ^ 63 := by decide
    omega
theorem lN_inj {a b : Nat} (ha : a < 2 ^ 64) (hb : b < 2 ^ 64) : lN a = lN b ↔ a = b := by
  constructor
  · intro h
    have := congrArg (fun z : Int64 => z.toBitVec.toNat) h
    simp only [wb_tn ha, wb_tn hb] at this
    exact this
  · intro h; rw [h]
/-- the six words that are no names, by the class and by the reference -/
theorem wordK {w l : Nat} (h : wdO w l) : p_Tokens_sortOfWord (lN (w * 256 ^ (8 - l))) = some (nI (ksN (wkN w))) ∧ p_Mo_wordKind (lN w) = some (nI (wkN w)) := by
  have hb := wdO_lt h
  have k : ∀ (v m : Nat), wdO v m → (w * 256 ^ (8 - l) = v * 256 ^ (8 - m) ↔ w = v) := by
    intro v m hv
    rw [wdO_eq h hv]
    constructor
    · exact fun q => q.1
    · intro q
      subst q
      exact ⟨rfl, wdO_len h hv⟩
  have k1 := k 427020088179 5 (by unfold wdO; decide)
  have k2 := k 28561413961049203 7 (by unfold wdO; decide)
  have k3 := k 6909556 3 (by unfold wdO; decide)
  have k4 := k 125780071117422 6 (by unfold wdO; decide)
  have k5 := k 7234935 3 (by unfold wdO; decide)
  have k6 := k 1952999795 4 (by unfold wdO; decide)
  have q : ∀ (v : Nat), v < 2 ^ 64 → (lN (w * 256 ^ (8 - l)) = lN v ↔ w * 256 ^ (8 - l) = v) := fun v hv => lN_inj (by omega) hv
  have r : ∀ (v : Nat), v < 2 ^ 64 → (lN w = lN v ↔ w = v) := fun v hv => lN_inj (by omega) hv
  constructor
  · unfold p_Tokens_sortOfWord wkN
    simp only [q_cmp0]
    rw [show (7164208255718129664 : Int64) = lN (427020088179 * 256 ^ (8 - 5)) from rfl, show (7311721974028595968 : Int64) = lN (28561413961049203 * 256 ^ (8 - 7)) from rfl, show (7597137164769427456 : Int64) = lN (6909556 * 256 ^ (8 - 3)) from rfl, show (8243122740751368192 : Int64) = lN (125780071117422 * 256 ^ (8 - 6)) from rfl, show (7954895158703554560 : Int64) = lN (7234935 * 256 ^ (8 - 3)) from rfl, show (8388070248619704320 : Int64) = lN (1952999795 * 256 ^ (8 - 4)) from rfl]
    simp only [q _ (show 427020088179 * 256 ^ (8 - 5) < 2 ^ 64 by decide), q _ (show 28561413961049203 * 256 ^ (8 - 7) < 2 ^ 64 by decide), q _ (show 6909556 * 256 ^ (8 - 3) < 2 ^ 64 by decide), q _ (show 125780071117422 * 256 ^ (8 - 6) < 2 ^ 64 by decide), q _ (show 7234935 * 256 ^ (8 - 3) < 2 ^ 64 by decide), q _ (show 1952999795 * 256 ^ (8 - 4) < 2 ^ 64 by decide), k1, k2, k3, k4, k5, k6]
    (repeat' split) <;> rfl
  · unfold p_Mo_wordKind wkN
    simp only [q_cmp0]
    rw [show (427020088179 : Int64) = lN 427020088179 from rfl, show (28561413961049203 : Int64) = lN 28561413961049203 from rfl, show (6909556 : Int64) = lN 6909556 from rfl, show (125780071117422 : Int64) = lN 125780071117422 from rfl, show (7234935 : Int64) = lN 7234935 from rfl, show (1952999795 : Int64) = lN 1952999795 from rfl]
    simp only [r _ (show 427020088179 < 2 ^ 64 by decide), r _ (show 28561413961049203 < 2 ^ 64 by decide), r _ (show 6909556 < 2 ^ 64 by decide), r _ (show 125780071117422 < 2 ^ 64 by decide), r _ (show 7234935 < 2 ^ 64 by decide), r _ (show 1952999795 < 2 ^ 64 by decide)]
    (repeat' split) <;> rfl
/-- a word of the text -/
theorem wN_ok (C : Nat → Nat) (p : Nat) : ∀ l, 1 ≤ l → l ≤ 8 → (∀ i, i < l → 1 ≤ C (p + i) ∧ C (p + i) < 128) → wdO (wN C p l) l
  | 0, h, _, _ => absurd h (by decide)
  | 1, _, _, h => by
    have := h 0 (by decide)
    unfold wdO wN wN
    simp only [Nat.zero_mul, Nat.zero_add, Nat.add_zero] at this ⊢
    refine ⟨by decide, by decide, ?_, ?_, ?_⟩ <;> omega
  | l + 2, _, h8, h => by
    have ih := wN_ok C p (l + 1) (by omega) (by omega) (fun i hi => h i (by omega))
    have hc := h (l + 1) (by omega)
    obtain ⟨a1, a2, a3, a4, a5⟩ := ih
    unfold wdO
    show 1 ≤ l + 2 ∧ l + 2 ≤ 8 ∧ 256 ^ (l + 1) ≤ wN C p (l + 1) * 256 + C (p + (l + 1)) ∧ wN C p (l + 1) * 256 + C (p + (l + 1)) < 128 * 256 ^ (l + 1) ∧ _
    rw [Nat.pow_succ]
    rw [show l + 1 - 1 = l from rfl] at a3 a4
    refine ⟨by omega, h8, by omega, by omega, ?_⟩
    show (wN C p (l + 1) * 256 + C (p + (l + 1))) % 256 ≠ 0
    omega
