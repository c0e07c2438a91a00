/-! new names, on both sides -/
theorem let2 : ∀ c, c < 256 → p_Tokens_isLetter (nI c) = some (b01 (isLN c)) ∧ p_Tokens_isDigit (nI c) = some (b01 (isDN c)) ∧ p_Mo_letter (nI c) = some (b01 (isLN c)) ∧ p_Mo_digit (nI c) = some (b01 (isDN c)) := by decide +kernel
/-- the bytes of a name, in the order of the text -/
def Bf (x : Int64) (l i : Nat) : Nat := bN x (l - 1 - i)
/-- a byte may stand in a name -/
def gB (x : Int64) (l i : Nat) : Bool := isLN (bN x i) || (decide (i ≠ l - 1) && isDN (bN x i))
theorem Bf_w (x : Int64) (l : Nat) : ∀ m, m ≤ l → wN (Bf x l) 0 m = x.toBitVec.toNat / 256 ^ (l - m) % 256 ^ m
  | 0, _ => by rw [Nat.pow_zero, Nat.mod_one]; rfl
  | m + 1, h => by
    show wN (Bf x l) 0 m * 256 + Bf x l (0 + m) = _
    rw [Bf_w x l m (by omega), Nat.zero_add]
    unfold Bf bN
    rw [show l - 1 - m = l - (m + 1) by omega, Nat.pow_mul, show (2 : Nat) ^ 8 = 256 from rfl]
    generalize hy : x.toBitVec.toNat / 256 ^ (l - (m + 1)) = y
    have e : x.toBitVec.toNat / 256 ^ (l - m) = y / 256 := by
      rw [show l - m = l - (m + 1) + 1 by omega, Nat.pow_succ, ← Nat.div_div_eq_div_mul, hy]
    rw [e, Nat.pow_succ, Nat.mul_comm (256 ^ m) 256, Nat.mod_mul]
    omega
section NAM
variable {x : Int64} {l : Nat}
theorem gB_ok (h : ∀ i, i < l → gB x l i = true) : ∀ i, i < l → (isLN (Bf x l i) || isDN (Bf x l i)) = true := fun i hi => by
  have := h (l - 1 - i) (by omega)
  unfold gB at this
  unfold Bf
  cases p : isLN (bN x (l - 1 - i))
  · rw [p, Bool.false_or] at this
    simp only [Bool.and_eq_true] at this
    rw [this.2]; rfl
  · rfl
theorem gB_0 (l1 : 1 ≤ l) (h : ∀ i, i < l → gB x l i = true) : isLN (Bf x l 0) = true := by
  have := h (l - 1) (by omega)
  unfold gB at this
  unfold Bf
  rw [Nat.sub_zero]
  simpa using this
theorem ld_c {c : Nat} (h : (isLN c || isDN c) = true) : 48 ≤ c ∧ c ≤ 122 := by
  simp only [isLN, isDN, Bool.or_eq_true, Bool.and_eq_true, decide_eq_true_eq] at h
  omega
theorem Bf_wd (l1 : 1 ≤ l) (l8 : l ≤ 8) (h : ∀ i, i < l → gB x l i = true) : wdO (wN (Bf x l) 0 l) l := wN_ok _ 0 l l1 l8 (fun i hi => by
  have := ld_c (gB_ok h i hi)
  rw [Nat.zero_add]
  omega)
theorem isnL (l1 : 1 ≤ l) (l8 : l ≤ 8) : ∀ (j a fuel : Nat), j + a = l → j < fuel → ((∀ i, a ≤ i → i < l → gB x l i = true) → p_Tokens_isName_L2 x (nI l) fuel (nI a) = bd1 (p_Tokens_sortOfWord (x <<< (((8 : Int32) * ((8 : Int32) - nI l)).toInt64 &&& 63))) fun v => if v = 1 then some 1 else some 0) ∧ ((∃ i, a ≤ i ∧ i < l ∧ gB x l i = false) → p_Tokens_isName_L2 x (nI l) fuel (nI a) = some 0) := by
  intro j
  induction j with
  | zero =>
    intro a fuel hj hf
    obtain ⟨m, rfl⟩ : ∃ m, fuel = m + 1 := ⟨fuel - 1, by omega⟩
    refine ⟨fun _ => ?_, fun ⟨i, h1, h2, _⟩ => by omega⟩
    unfold p_Tokens_isName_L2
    rw [if_pos ((q_le (by omega) (by omega)).mpr (by omega))]
  | succ j ih =>
    intro a fuel hj hf
    obtain ⟨m, rfl⟩ : ∃ m, fuel = m + 1 := ⟨fuel - 1, by omega⟩
    obtain ⟨i1, i2⟩ := ih (a + 1) m (by omega) (by omega)
    obtain ⟨k1, k2, _, _⟩ := let2 _ (bN_lt x a)
    have e : p_Tokens_isName_L2 x (nI l) (m + 1) (nI a) = if gB x l a = true then p_Tokens_isName_L2 x (nI l) m (nI (a + 1)) else some 0 := by
      conv => lhs; unfold p_Tokens_isName_L2
      rw [if_neg (fun z => by have := (q_le (by omega) (by omega)).mp z; omega), byteAt_eq x (by omega), q_bd1, show nI l - 1 = nI (l - 1) from q_subL l1]
      unfold p_Tokens_isName_b26 gB
      rw [k1, k2]
      by_cases c : a = l - 1
      · rw [if_pos (by rw [c]), decide_eq_false (fun z => z c)]
        cases isLN (bN x a) <;> simp +decide [b01, q_bd1, nI_1]
      · rw [if_neg (fun z => c ((q_eq (by omega) (by omega)).mp z)), decide_eq_true c]
        cases isLN (bN x a) <;> cases isDN (bN x a) <;> simp +decide [b01, q_bd1, nI_1]
    rw [e]
    refine ⟨fun h => ?_, fun ⟨i, h1, h2, h3⟩ => ?_⟩
    · rw [if_pos (h a (Nat.le_refl _) (by omega))]
      exact i1 (fun i h1 h2 => h i (by omega) h2)
    · by_cases c : gB x l a = true
      · rw [if_pos c]
        refine i2 ⟨i, ?_, h2, h3⟩
        by_cases ei : i = a
        · rw [ei, c] at h3; exact absurd h3 (by decide)
        · omega
      · rw [if_neg c]
theorem newL (l1 : 1 ≤ l) (l8 : l ≤ 8) (μ : Sto) : ∀ (j fuel : Nat), j ≤ l → j < fuel → ((∀ i, i < j → gB x l i = true) → p_Mo_newName_L21 μ x (nI l) fuel (lN (wN (Bf x l) 0 (l - j))) (nI j + (-1)) = bd1 (p_Mo_wordKind (lN (wN (Bf x l) 0 l))) fun v => if v = 1 then some 1 else some 0) ∧ ((∃ i, i < j ∧ gB x l i = false) → p_Mo_newName_L21 μ x (nI l) fuel (lN (wN (Bf x l) 0 (l - j))) (nI j + (-1)) = some 0) := by
  intro j
  induction j with
  | zero =>
    intro fuel hj hf
    obtain ⟨m, rfl⟩ : ∃ m, fuel = m + 1 := ⟨fuel - 1, by omega⟩
    refine ⟨fun _ => ?_, fun ⟨i, h1, _⟩ => by omega⟩
    unfold p_Mo_newName_L21
    rw [q_dec0, if_pos (by decide), Nat.sub_zero]
  | succ j ih =>
    intro fuel hj hf
    obtain ⟨m, rfl⟩ : ∃ m, fuel = m + 1 := ⟨fuel - 1, by omega⟩
    obtain ⟨i1, i2⟩ := ih m (by omega) (by omega)
    obtain ⟨_, _, k1, k2⟩ := let2 _ (bN_lt x j)
    have w56 : wN (Bf x l) 0 (l - (j + 1)) < 2 ^ 56 := by
      rw [Bf_w x l _ (by omega)]
      refine Nat.lt_of_lt_of_le (Nat.mod_lt _ (Nat.pow_pos (by decide))) ?_
      have : (256 : Nat) ^ (l - (j + 1)) ≤ 256 ^ 7 := Nat.pow_le_pow_right (by decide) (by omega)
      exact this
    have sh : (lN (wN (Bf x l) 0 (l - (j + 1))) <<< ((8 : Int32).toInt64 &&& 63)) ||| (nI (bN x j)).toInt64 = lN (wN (Bf x l) 0 (l - j)) := by
      rw [shl8 w56 (bN_lt x j), show l - j = l - (j + 1) + 1 by omega]
      show _ = lN (wN (Bf x l) 0 (l - (j + 1)) * 256 + Bf x l (0 + (l - (j + 1))))
      rw [Nat.zero_add]
      unfold Bf
      rw [show l - 1 - (l - (j + 1)) = j by omega]
    have e : p_Mo_newName_L21 μ x (nI l) (m + 1) (lN (wN (Bf x l) 0 (l - (j + 1)))) (nI (j + 1) + (-1)) = if gB x l j = true then p_Mo_newName_L21 μ x (nI l) m (lN (wN (Bf x l) 0 (l - j))) (nI j + (-1)) else some 0 := by
      conv => lhs; unfold p_Mo_newName_L21
      rw [q_dec (show 1 ≤ j + 1 by omega), Nat.add_sub_cancel, if_neg (q_pos (by omega)), byteOf_eq x (by omega), q_bd1, k1, q_bd1, k2, show nI l - 1 = nI (l - 1) from q_subL l1, sh]
      unfold gB
      by_cases c : j = l - 1
      · rw [if_pos (show nI j = nI (l - 1) by rw [c]), decide_eq_false (fun z => z c)]
        cases isLN (bN x j) <;> simp +decide [b01, q_bd1]
      · rw [if_neg (show ¬ nI j = nI (l - 1) from fun z => c ((q_eq (by omega) (by omega)).mp z)), decide_eq_true c]
        cases isLN (bN x j) <;> cases isDN (bN x j) <;> simp +decide [b01, q_bd1]
    rw [e]
    refine ⟨fun h => ?_, fun ⟨i, h1, h3⟩ => ?_⟩
    · rw [if_pos (h j (by omega))]
      exact i1 (fun i h1 => h i (by omega))
    · by_cases c : gB x l j = true
      · rw [if_pos c]
        refine i2 ⟨i, ?_, h3⟩
        by_cases ei : i = j
        · rw [ei, c] at h3; exact absurd h3 (by decide)
        · omega
      · rw [if_neg c]
theorem ks1 (w : Nat) : (nI (ksN (wkN w)) = 1 ↔ wkN w = 1) ∧ (nI (wkN w) = 1 ↔ wkN w = 1) := by
  unfold wkN
  (repeat' split) <;> decide
/-- both accept the same names -/
theorem nam_eq (l1 : 1 ≤ l) (l8 : l ≤ 8) (μ : Sto) : (p_Tokens_isName x (nI l) = some 0 ∧ p_Mo_newName μ x (nI l) = some 0) ∨ (p_Tokens_isName x (nI l) = some 1 ∧ p_Mo_newName μ x (nI l) = some 1 ∧ (∀ i, i < l → gB x l i = true) ∧ wkN (wN (Bf x l) 0 l) = 1) := by
  have a := isnL (x := x) l1 l8 l 0 FU (by omega) (by unfold FU; omega)
  have b := newL (x := x) l1 l8 μ l FU (Nat.le_refl _) (by unfold FU; omega)
  have eb : p_Mo_newName μ x (nI l) = p_Mo_newName_L21 μ x (nI l) FU (lN (wN (Bf x l) 0 (l - l))) (nI l + (-1)) := by
    unfold p_Mo_newName
    rw [if_neg (fun z => by have : l < 1 := (q_ltL (by omega) (by decide)).mp z; omega), if_pos ((q_leL (by omega) (by decide)).mpr (show l ≤ 8 from l8)), q_dec l1, show nI l - 1 = nI (l - 1) from q_subL l1, Nat.sub_self]
    rfl
  have ea : p_Tokens_isName x (nI l) = p_Tokens_isName_L2 x (nI l) FU (nI 0) := rfl
  by_cases h : ∀ i, i < l → gB x l i = true
  · have wd := Bf_wd l1 l8 h
    obtain ⟨w1, w2⟩ := wordK wd
    obtain ⟨d, hd, ex⟩ := wb_of x
    have wm : wN (Bf x l) 0 l = d % 256 ^ l := by
      rw [Bf_w x l l (Nat.le_refl _), Nat.sub_self, Nat.pow_zero, Nat.div_one, ex, wb_tn hd]
    have sh : x <<< (((8 : Int32) * ((8 : Int32) - nI l)).toInt64 &&& 63) = lN (wN (Bf x l) 0 l * 256 ^ (8 - l)) := by
      rw [show (8 : Int32) - nI l = nI (8 - l) from q_sub (a := 8) (b := l) l8, sh8 (8 - l) (by omega), wm]
      rw [ex, wb_shl d (show 8 * (8 - l) < 64 by omega), wb_mod, wb_mod (d % 256 ^ l * 256 ^ (8 - l))]
      congr 1
      rw [Nat.pow_mul, show (2 : Nat) ^ 8 = 256 from rfl, show (2 : Nat) ^ 64 = 256 ^ l * 256 ^ (8 - l) by rw [← Nat.pow_add, show l + (8 - l) = 8 by omega], Nat.mul_mod_mul_right, Nat.mul_mod_mul_right, Nat.mod_mod]
    have f1 := a.1 (fun i _ hi => h i hi)
    have f2 := b.1 h
    rw [sh, w1, q_bd1] at f1
    rw [w2, q_bd1] at f2
    obtain ⟨k1, k2⟩ := ks1 (wN (Bf x l) 0 l)
    by_cases c : wkN (wN (Bf x l) 0 l) = 1
    · right
      rw [if_pos (k1.mpr c)] at f1
      rw [if_pos (k2.mpr c)] at f2
      exact ⟨ea.trans f1, eb.trans f2, h, c⟩
    · left
      rw [if_neg (fun z => c (k1.mp z))] at f1
      rw [if_neg (fun z => c (k2.mp z))] at f2
      exact ⟨ea.trans f1, eb.trans f2⟩
  · have h' : ∃ i, i < l ∧ gB x l i = false := Classical.byContradiction (fun z => h (fun i hi => by
      cases q : gB x l i
      · exact absurd ⟨i, hi, q⟩ z
      · rfl))
    obtain ⟨i, i1, i2⟩ := h'
    left
    exact ⟨ea.trans (a.2 ⟨i, Nat.zero_le _, i1, i2⟩), eb.trans (b.2 ⟨i, i1, i2⟩)⟩
end NAM
