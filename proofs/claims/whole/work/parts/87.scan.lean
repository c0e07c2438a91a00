/-! characters, words, tokens: what the text says -/
def isLN (c : Nat) : Bool := (decide (65 ≤ c) && decide (c ≤ 90)) || (decide (97 ≤ c) && decide (c ≤ 122))
def isDN (c : Nat) : Bool := decide (48 ≤ c) && decide (c ≤ 57)
def isSN (c : Nat) : Bool := c == 40 || c == 41 || c == 43 || c == 44 || c == 46 || c == 59 || c == 61 || c == 123 || c == 125
def b01 (b : Bool) : Int32 := if b = true then 1 else 0
theorem b01_0 (b : Bool) : b01 b = 0 ↔ b = false := by cases b <;> simp [b01]
theorem letC : ∀ c, c < 128 → p_Tokens_isLetter (nI c) = some (b01 (isLN c)) := by decide +kernel
theorem digC : ∀ c, c < 128 → p_Tokens_isDigit (nI c) = some (b01 (isDN c)) := by decide +kernel
theorem sgnC : ∀ c, c < 128 → p_Tokens_isSign (nI c) = some (b01 (isSN c)) := by decide +kernel
theorem letM : ∀ c, c < 128 → p_Mo_letter (nI c) = some (b01 (isLN c)) := by decide +kernel
theorem digM : ∀ c, c < 128 → p_Mo_digit (nI c) = some (b01 (isDN c)) := by decide +kernel
theorem sgnM : ∀ c, c < 128 → p_Mo_sign (nI c) = some (b01 (isSN c)) := by decide +kernel
/-- on, as long as it holds, at most m steps -/
def scn (P : Nat → Bool) : Nat → Nat → Nat
  | 0, p => p
  | m + 1, p => if P p = true then scn P m (p + 1) else p
theorem scn_ge (P : Nat → Bool) : ∀ m p, p ≤ scn P m p
  | 0, p => Nat.le_refl p
  | m + 1, p => by
    unfold scn
    split
    · exact Nat.le_trans (Nat.le_succ p) (scn_ge P m (p + 1))
    · exact Nat.le_refl p
theorem scn_le (P : Nat → Bool) : ∀ m p, scn P m p ≤ p + m
  | 0, p => Nat.le_refl p
  | m + 1, p => by
    unfold scn
    split
    · have := scn_le P m (p + 1); omega
    · omega
theorem scn_in (P : Nat → Bool) : ∀ m p q, p ≤ q → q < scn P m p → P q = true
  | 0, p, q, h1, h2 => by unfold scn at h2; omega
  | m + 1, p, q, h1, h2 => by
    unfold scn at h2
    split at h2
    · next h =>
      by_cases e : q = p
      · rw [e]; exact h
      · exact scn_in P m (p + 1) q (by omega) h2
    · omega
theorem scn_out (P : Nat → Bool) : ∀ m p, scn P m p < p + m → P (scn P m p) = false
  | 0, p, h => by unfold scn at h; omega
  | m + 1, p, h => by
    unfold scn at h ⊢
    split
    · next h1 =>
      rw [if_pos h1] at h
      exact scn_out P m (p + 1) (by omega)
    · next h1 => exact Bool.eq_false_iff.mpr h1
/-- where it stops is told by what holds before and there -/
theorem scn_uq (P : Nat → Bool) : ∀ m p q, p ≤ q → q ≤ p + m → (∀ r, p ≤ r → r < q → P r = true) → (q < p + m → P q = false) → scn P m p = q
  | 0, p, q, h1, h2, _, _ => by unfold scn; omega
  | m + 1, p, q, h1, h2, h3, h4 => by
    unfold scn
    by_cases e : q = p
    · rw [if_neg (by rw [← e, h4 (by omega)]; decide), e]
    · rw [if_pos (h3 p (Nat.le_refl _) (by omega))]
      exact scn_uq P m (p + 1) q (by omega) (by omega) (fun r a b => h3 r (by omega) b) (fun a => h4 (by omega))
def nb (C : Nat → Nat) (n p : Nat) : Nat := scn (fun q => C q == 32) (n - p) p
def en (C : Nat → Nat) (n p : Nat) : Nat :=
  if isLN (C p) = true then scn (fun q => isLN (C q) || isDN (C q)) (n - (p + 1)) (p + 1) else if isDN (C p) = true then scn (fun q => isDN (C q)) (n - (p + 1)) (p + 1) else p + 1
def wN (C : Nat → Nat) (p : Nat) : Nat → Nat
  | 0 => 0
  | m + 1 => wN C p m * 256 + C (p + m)
def spN (C : Nat → Nat) (p e : Nat) : Nat → Nat
  | 0 => 0
  | i + 1 => spN C p e i * 256 + (if p + i < e then C (p + i) else 0)
def wkN (w : Nat) : Nat := if w = 427020088179 then 4 else if w = 28561413961049203 then 5 else if w = 6909556 then 3 else if w = 125780071117422 then 6 else if w = 7234935 then 7 else if w = 1952999795 then 8 else 1
def kdN (C : Nat → Nat) (n t p : Nat) : Nat :=
  if t = 120 then 9 else if isLN (C p) = true then (if 8 < en C n p - p then 9 else wkN (wN C p (en C n p - p))) else if isDN (C p) = true then (if 6 < en C n p - p then 9 else 2) else if isSN (C p) = true then C p else 9
/-- the class's numbers for the sorts -/
def ksN (k : Nat) : Nat := if k = 9 then 0 else if k = 4 then 3 else if k = 5 then 4 else if k = 3 then 5 else k
def tS (C : Nat → Nat) (n : Nat) : Nat → Nat
  | 0 => nb C n 0
  | t + 1 => nb C n (en C n (tS C n t))
/-- how many tokens there are -/
def isNt (C : Nat → Nat) (n N : Nat) : Prop := N ≤ 121 ∧ (∀ t, t < N → tS C n t < n) ∧ (∀ t, t + 1 < N → kdN C n t (tS C n t) ≠ 9) ∧ (N = 121 ∨ n ≤ tS C n N ∨ ∃ t, N = t + 1 ∧ kdN C n t (tS C n t) = 9)
theorem isNt_uq {C : Nat → Nat} {n N M : Nat} (h : isNt C n N) (g : isNt C n M) : N = M := by
  have one : ∀ {N M : Nat}, isNt C n N → isNt C n M → ¬ N < M := by
    intro N M h g hl
    rcases h.2.2.2 with e | e | ⟨t, e, e2⟩
    · have := g.1; omega
    · have := g.2.1 N hl; omega
    · exact g.2.2.1 t (by omega) e2
  have a := one h g
  have b := one g h
  omega
theorem nb_ge {C : Nat → Nat} {n p : Nat} : p ≤ nb C n p := scn_ge _ _ _
theorem nb_le {C : Nat → Nat} {n p : Nat} (h : p ≤ n) : nb C n p ≤ n := by
  have := scn_le (fun q => C q == 32) (n - p) p
  unfold nb
  omega
theorem en_gt {C : Nat → Nat} {n p : Nat} : p + 1 ≤ en C n p := by
  unfold en
  split
  · exact scn_ge _ _ _
  · split
    · exact scn_ge _ _ _
    · exact Nat.le_refl _
theorem en_le {C : Nat → Nat} {n p : Nat} (h : p < n) : en C n p ≤ n := by
  unfold en
  split
  · have := scn_le (fun q => isLN (C q) || isDN (C q)) (n - (p + 1)) (p + 1); omega
  · split
    · have := scn_le (fun q => isDN (C q)) (n - (p + 1)) (p + 1); omega
    · omega
theorem spN_lt {C : Nat → Nat} {p e : Nat} (h : ∀ i, p ≤ i → i < e → C i < 128) : ∀ i, spN C p e i < 256 ^ i
  | 0 => by unfold spN; decide
  | i + 1 => by
    unfold spN
    have := spN_lt h i
    have h2 : (if p + i < e then C (p + i) else 0) < 128 := by
      split
      · exact h _ (by omega) (by assumption)
      · decide
    rw [Nat.pow_succ]
    omega
theorem spN_pre (C : Nat → Nat) (p e : Nat) : ∀ i, i ≤ e - p → spN C p e i = wN C p i
  | 0, _ => rfl
  | i + 1, h => by
    unfold spN wN
    rw [spN_pre C p e i (by omega), if_pos (by omega)]
theorem spN_suf (C : Nat → Nat) (p e : Nat) : ∀ j, spN C p e (e - p + j) = wN C p (e - p) * 256 ^ j
  | 0 => by rw [Nat.add_zero, spN_pre C p e _ (Nat.le_refl _)]; simp
  | j + 1 => by
    show spN C p e (e - p + j) * 256 + (if p + (e - p + j) < e then C (p + (e - p + j)) else 0) = _
    rw [spN_suf C p e j, if_neg (by omega), Nat.pow_succ, Nat.mul_assoc, Nat.add_zero]
theorem spN_8 (C : Nat → Nat) {p e : Nat} (h : e - p ≤ 8) : spN C p e 8 = wN C p (e - p) * 256 ^ (8 - (e - p)) := by
  have := spN_suf C p e (8 - (e - p))
  rwa [show e - p + (8 - (e - p)) = 8 by omega] at this
/-- the text of a side: its characters -/
def TC (σ : Sto) (n : Nat) (C : Nat → Nat) : Prop := n ≤ 240 ∧ σ.1 1 = nI n ∧ ∀ i : Nat, i < n → σ.2.1 2 i = nI (C i) ∧ 32 ≤ C i ∧ C i ≤ 126
def TM (μ : Sto) (n : Nat) (C : Nat → Nat) : Prop := n ≤ 240 ∧ μ.1 1 = nI n ∧ ∀ i : Nat, i < n → μ.2.1 1 i = nI (C i) ∧ 32 ≤ C i ∧ C i ≤ 126
theorem cdR_nI {x : Int32} (h : cdR x) : x = nI x.toNatClampNeg ∧ 32 ≤ x.toNatClampNeg ∧ x.toNatClampNeg ≤ 126 := by
  obtain ⟨h1, h2⟩ := h
  have h0 : ¬ x < 0 := fun q => absurd (Int32.lt_of_le_of_lt h1 q) (by decide)
  obtain ⟨j, hj, rfl⟩ := nI_of h0
  rw [q_tn hj]
  exact ⟨rfl, (q_Lle (by decide) hj).mp h1, (q_leL hj (by decide)).mp h2⟩
theorem TX.chars {σ μ : Sto} (h : TX σ μ) : ∃ (n : Nat) (C : Nat → Nat), TC σ n C ∧ TM μ n C := by
  obtain ⟨n, hn, h1, h2, h3⟩ := h
  refine ⟨n, fun i => (μ.2.1 1 i).toNatClampNeg, ⟨hn, h1, fun i hi => ?_⟩, ⟨hn, h2, fun i hi => ?_⟩⟩
  · obtain ⟨a, b⟩ := h3 i hi
    obtain ⟨c, d, e⟩ := cdR_nI b
    exact ⟨by rw [a]; exact c, d, e⟩
  · obtain ⟨a, b⟩ := h3 i hi
    exact cdR_nI b
theorem TX.of {σ μ : Sto} {n : Nat} {C : Nat → Nat} (h1 : TC σ n C) (h2 : TM μ n C) : TX σ μ := by
  refine ⟨n, h1.1, h1.2.1, h2.2.1, fun i hi => ⟨?_, ?_⟩⟩
  · rw [(h1.2.2 i hi).1, (h2.2.2 i hi).1]
  · obtain ⟨a, b, c⟩ := h2.2.2 i hi
    rw [a]
    exact ⟨(q_Lle (by decide) (by omega)).mpr b, (q_leL (by omega) (by decide)).mpr c⟩
