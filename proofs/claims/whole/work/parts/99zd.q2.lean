/-! questions: uses and diagnostics -/
/-- how many, and which -/
def cn (P : Nat → Bool) : Nat → Nat → Nat
  | 0, _ => 0
  | j + 1, t => (if P t = true then 1 else 0) + cn P j (t + 1)
def nu (P : Nat → Bool) : Nat → Nat → Nat → Option Nat
  | _, 0, _ => none
  | i, j + 1, t => if P t = true then (if i = 0 then some t else nu P (i - 1) j (t + 1)) else nu P i j (t + 1)
theorem cn_le (P : Nat → Bool) : ∀ j t, cn P j t ≤ j
  | 0, _ => Nat.le_refl _
  | j + 1, t => by
    have := cn_le P j (t + 1)
    unfold cn
    split <;> omega
theorem cn_ext {P Q : Nat → Bool} : ∀ {j t : Nat}, (∀ u, t ≤ u → u < t + j → P u = Q u) → cn P j t = cn Q j t
  | 0, _, _ => rfl
  | j + 1, t, h => by
    unfold cn
    rw [h t (Nat.le_refl _) (by omega), cn_ext (fun u h1 h2 => h u (by omega) (by omega))]
theorem nu_ext {P Q : Nat → Bool} : ∀ {i j t : Nat}, (∀ u, t ≤ u → u < t + j → P u = Q u) → nu P i j t = nu Q i j t
  | _, 0, _, _ => rfl
  | i, j + 1, t, h => by
    unfold nu
    rw [h t (Nat.le_refl _) (by omega), nu_ext (i := i) (fun u h1 h2 => h u (by omega) (by omega)), nu_ext (i := i - 1) (fun u h1 h2 => h u (by omega) (by omega))]
theorem nu_lt {P : Nat → Bool} : ∀ {i j t u : Nat}, nu P i j t = some u → t ≤ u ∧ u < t + j ∧ P u = true
  | _, 0, _, _, h => absurd h (by simp [nu])
  | i, j + 1, t, u, h => by
    unfold nu at h
    by_cases p : P t = true
    · rw [if_pos p] at h
      by_cases e : i = 0
      · rw [if_pos e] at h
        have := Option.some.inj h
        subst this
        exact ⟨Nat.le_refl _, by omega, p⟩
      · rw [if_neg e] at h
        obtain ⟨a, b, c⟩ := nu_lt h
        exact ⟨by omega, by omega, c⟩
    · rw [if_neg p] at h
      obtain ⟨a, b, c⟩ := nu_lt h
      exact ⟨by omega, by omega, c⟩
theorem cn_add (P : Nat → Bool) : ∀ (a b t : Nat), cn P (a + b) t = cn P a t + cn P b (t + a)
  | 0, b, t => by rw [Nat.zero_add, Nat.add_zero]; show cn P b t = 0 + cn P b t; omega
  | a + 1, b, t => by
    rw [show a + 1 + b = a + b + 1 by omega]
    show (if P t = true then 1 else 0) + cn P (a + b) (t + 1) = ((if P t = true then 1 else 0) + cn P a (t + 1)) + cn P b (t + (a + 1))
    rw [cn_add P a b (t + 1), show t + 1 + a = t + (a + 1) by omega]
    omega
theorem nu_some (P : Nat → Bool) : ∀ (i j t : Nat), i < cn P j t → ∃ u, nu P i j t = some u
  | i, 0, t, h => absurd h (Nat.not_lt_zero i)
  | i, j + 1, t, h => by
    unfold cn at h
    unfold nu
    by_cases p : P t = true
    · rw [if_pos p] at h ⊢
      by_cases e : i = 0
      · rw [if_pos e]; exact ⟨t, rfl⟩
      · rw [if_neg e]
        exact nu_some P (i - 1) j (t + 1) (by omega)
    · rw [if_neg p] at h ⊢
      exact nu_some P i j (t + 1) (by omega)
theorem nu_app (P : Nat → Bool) : ∀ (i a b t : Nat) {u : Nat}, nu P i a t = some u → nu P i (a + b) t = some u
  | i, 0, b, t, u, h => absurd h (by simp [nu])
  | i, a + 1, b, t, u, h => by
    rw [show a + 1 + b = a + b + 1 by omega]
    unfold nu at h ⊢
    by_cases p : P t = true
    · rw [if_pos p] at h ⊢
      by_cases e : i = 0
      · rw [if_pos e] at h ⊢; exact h
      · rw [if_neg e] at h ⊢; exact nu_app P (i - 1) a b (t + 1) h
    · rw [if_neg p] at h ⊢
      exact nu_app P i a b (t + 1) h
theorem nI_add1 (x : Int32) (a : Nat) : x + 1 + nI a = x + nI (1 + a) := by
  rw [Int32.add_assoc, show (1 : Int32) + nI a = nI (1 + a) from nI_add 1 a]
section Q2
variable {σ τ μ : Sto} {N : Nat}
theorem cuses (h3 : σ.1 3 = nI N) (hN : N ≤ 121) (v : Int32) : ∀ (j t fuel : Nat) (x2 : Int32), j + t = N → j < fuel → p_Reading_uses_L4 σ v fuel x2 (nI t) = some (x2 + nI (cn (fun u => decide (σ.2.1 11 u = v)) j t)) := by
  intro j
  induction j with
  | zero =>
    intro t fuel x2 hj hf
    obtain ⟨m, rfl⟩ : ∃ m, fuel = m + 1 := ⟨fuel - 1, by omega⟩
    unfold p_Reading_uses_L4
    rw [h3, if_pos ((q_le (by omega) (by omega)).mpr (by omega))]
    show some x2 = some (x2 + 0)
    rw [Int32.add_zero]
  | succ j ih =>
    intro t fuel x2 hj hf
    obtain ⟨m, rfl⟩ : ∃ m, fuel = m + 1 := ⟨fuel - 1, by omega⟩
    unfold p_Reading_uses_L4 cn
    rw [h3, if_neg (fun z => by have := (q_le (by omega) (by omega)).mp z; omega), if_pos (q_inR (by omega) (by decide)), q_tn (by omega), nI_1]
    by_cases e : σ.2.1 11 t = v
    · rw [if_pos e, if_pos (decide_eq_true e), ih (t + 1) m (x2 + 1) (by omega) (by omega), nI_add1]
    · rw [if_neg e, if_neg (by simpa using e), ih (t + 1) m x2 (by omega) (by omega), Nat.zero_add]
theorem muses (h3 : μ.1 3 = nI N) (hN : N ≤ 121) (v : Int32) : ∀ (j t fuel : Nat) (x2 : Int32), j + t = N → j < fuel → p_Mo_uses_L4 μ v fuel x2 (nI t) = some (x2 + nI (cn (fun u => decide (μ.2.1 14 u = v)) j t)) := by
  intro j
  induction j with
  | zero =>
    intro t fuel x2 hj hf
    obtain ⟨m, rfl⟩ : ∃ m, fuel = m + 1 := ⟨fuel - 1, by omega⟩
    unfold p_Mo_uses_L4
    rw [h3, if_pos ((q_le (by omega) (by omega)).mpr (by omega))]
    show some x2 = some (x2 + 0)
    rw [Int32.add_zero]
  | succ j ih =>
    intro t fuel x2 hj hf
    obtain ⟨m, rfl⟩ : ∃ m, fuel = m + 1 := ⟨fuel - 1, by omega⟩
    unfold p_Mo_uses_L4 cn
    rw [h3, if_neg (fun z => by have := (q_le (by omega) (by omega)).mp z; omega), if_pos (q_inR (by omega) (by decide)), q_tn (by omega), nI_1]
    by_cases e : μ.2.1 14 t = v
    · rw [if_pos e, if_pos (decide_eq_true e), ih (t + 1) m (x2 + 1) (by omega) (by omega), nI_add1]
    · rw [if_neg e, if_neg (by simpa using e), ih (t + 1) m x2 (by omega) (by omega), Nat.zero_add]
theorem z_add (a : Nat) : (0 : Int32) + nI a = nI a := by
  rw [show (0 : Int32) = nI 0 from rfl, nI_add, Nat.zero_add]
/-- how often a declaration is used -/
theorem uses_eq (h3 : σ.1 3 = nI N) (m3 : μ.1 3 = nI N) (hN : N ≤ 121) (ag : AG N σ μ) (v : Int32) : p_Reading_uses σ v = some (nI (cn (fun u => decide (σ.2.1 11 u = v)) N 0)) ∧ p_Mo_uses μ v = some (nI (cn (fun u => decide (σ.2.1 11 u = v)) N 0)) := by
  constructor
  · have := cuses h3 hN v N 0 FU 0 (by omega) (by unfold FU; omega)
    rw [z_add] at this
    exact this
  · have := muses m3 hN v N 0 FU 0 (by omega) (by unfold FU; omega)
    rw [z_add] at this
    have e : cn (fun u => decide (μ.2.1 14 u = v)) N 0 = cn (fun u => decide (σ.2.1 11 u = v)) N 0 := cn_ext (fun u _ hu => by rw [ag.1 u (by omega)])
    rw [← e]
    exact this
theorem ok_references (h : SimF FR σ τ μ) (x1 : Int32) : Sx (SimF FR) (p_LanguageServer_references σ τ x1) (p_Mo_references μ x1) [(0, 0), (3, 1)] := by
  obtain ⟨σ', μ', e, em, rd, si, si', z, _⟩ := qpre h
  unfold p_LanguageServer_references p_Mo_references p_LanguageServer_declarationFor
  rw [e, q_bd1, named_eq em]
  rcases nmd_all rd x1 with ⟨a, b⟩ | ⟨n, N, u, m, C, z0, tc, tm, iN, tk, tkm, eb, f5, g5, hu, dm, m1, m2, a, b⟩
  · rw [a, b, q_bd1, q_bd2, if_pos rfl, if_neg (show ¬ (0 : Int32) ≤ -1 by decide)]
    exact sx_of (3, 1) (by simp) rfl rfl rfl (fun h => absurd h (by decide)) (by decide) (si 1)
  · have hN := iN.1
    have ml := dm.1
    have z0' : (0 : Int32) ≤ nI u := (q_Lle (by decide) (by omega)).mpr (Nat.zero_le _)
    obtain ⟨ua, ub⟩ := uses_eq eb.1.2.2.2.1 eb.2.2.2.2.1.2.2.1 hN eb.2.2.2.2.2.2.1 (nI m)
    rw [a, b, q_bd1, q_bd2, if_neg (q_neg (by omega)), if_pos z0', if_pos (q_inR (by omega) (by decide)), q_tn (by omega), m2, ub, q_bd1]
    show Sx (SimF FR) (bd1 (p_Reading_uses σ' (nI m)) fun v_16 => some (0, v_16, σ', τ)) _ _
    rw [ua, q_bd1]
    exact sx_of (0, 0) (by simp) rfl rfl z (fun _ => rfl) (by decide) si'
theorem cuse_at (h3 : σ.1 3 = nI N) (hN : N ≤ 121) (v : Int32) {i : Nat} (hi : i < 2147483648) : ∀ (j t c fuel : Nat), j + t = N → j < fuel → c ≤ i → c ≤ t → p_Reading_useAt_L5 σ v (nI i) fuel (nI c) (nI t) = some (oI (nu (fun u => decide (σ.2.1 11 u = v)) (i - c) j t)) := by
  intro j
  induction j with
  | zero =>
    intro t c fuel hj hf hc ct
    obtain ⟨m, rfl⟩ : ∃ m, fuel = m + 1 := ⟨fuel - 1, by omega⟩
    unfold p_Reading_useAt_L5
    rw [h3, if_pos ((q_le (by omega) (by omega)).mpr (by omega))]
    rfl
  | succ j ih =>
    intro t c fuel hj hf hc ct
    obtain ⟨m, rfl⟩ : ∃ m, fuel = m + 1 := ⟨fuel - 1, by omega⟩
    unfold p_Reading_useAt_L5 nu
    rw [h3, if_neg (fun z => by have := (q_le (by omega) (by omega)).mp z; omega), if_pos (q_inR (by omega) (by decide)), q_tn (by omega), nI_1, nI_1]
    by_cases e : σ.2.1 11 t = v
    · rw [if_pos e, if_pos (decide_eq_true e)]
      by_cases e2 : c = i
      · rw [if_pos (show nI c = nI i by rw [e2]), if_pos (show i - c = 0 by omega)]
        rfl
      · rw [if_neg (show ¬ nI c = nI i from fun z => e2 ((q_eq (by omega) (by omega)).mp z)), if_neg (show ¬ i - c = 0 by omega), ih (t + 1) (c + 1) m (by omega) (by omega) (by omega) (by omega), show i - (c + 1) = i - c - 1 by omega]
    · rw [if_neg e, if_neg (by simpa using e), ih (t + 1) c m (by omega) (by omega) hc (by omega)]
theorem cuse_neg (h3 : σ.1 3 = nI N) (hN : N ≤ 121) (v : Int32) {x : Int32} (hx : x < 0) : ∀ (j t c fuel : Nat), j + t = N → j < fuel → c ≤ t → p_Reading_useAt_L5 σ v x fuel (nI c) (nI t) = some (-1) := by
  intro j
  induction j with
  | zero =>
    intro t c fuel hj hf ct
    obtain ⟨m, rfl⟩ : ∃ m, fuel = m + 1 := ⟨fuel - 1, by omega⟩
    unfold p_Reading_useAt_L5
    rw [h3, if_pos ((q_le (by omega) (by omega)).mpr (by omega))]
  | succ j ih =>
    intro t c fuel hj hf ct
    obtain ⟨m, rfl⟩ : ∃ m, fuel = m + 1 := ⟨fuel - 1, by omega⟩
    unfold p_Reading_useAt_L5
    rw [h3, if_neg (fun z => by have := (q_le (by omega) (by omega)).mp z; omega), if_pos (q_inR (by omega) (by decide)), q_tn (by omega), nI_1, nI_1, if_neg (show ¬ nI c = x from fun z => by rw [← z] at hx; exact q_pos (by omega) hx), ih (t + 1) (c + 1) m (by omega) (by omega) (by omega), ih (t + 1) c m (by omega) (by omega) (by omega), ite_self]
theorem mref (m3 : μ.1 3 = nI N) (hN : N ≤ 121) (x1 x2 : Int32) {u : Nat} (hu : u < N) : ∀ (j t k fuel : Nat), j + t = N → j < fuel → k < 2147483648 → p_Mo_reference_L31 x1 x2 fuel μ (nI u) (nI k) (nI t) = (nu (fun w => decide (μ.2.1 14 w = μ.2.1 14 u)) k j t).elim (some (0, sS μ 0 1)) (fun w => some (μ.2.1 5 w, μ)) := by
  intro j
  induction j with
  | zero =>
    intro t k fuel hj hf hk
    obtain ⟨m, rfl⟩ : ∃ m, fuel = m + 1 := ⟨fuel - 1, by omega⟩
    unfold p_Mo_reference_L31
    rw [m3, if_pos ((q_le (by omega) (by omega)).mpr (by omega))]
    rfl
  | succ j ih =>
    intro t k fuel hj hf hk
    obtain ⟨m, rfl⟩ : ∃ m, fuel = m + 1 := ⟨fuel - 1, by omega⟩
    have rt : inR (nI t) 124 := q_inR (by omega) (by decide)
    have ru : inR (nI u) 124 := q_inR (by omega) (by decide)
    unfold p_Mo_reference_L31 nu
    rw [m3, if_neg (fun z => by have := (q_le (by omega) (by omega)).mp z; omega)]
    simp only [if_pos rt, if_pos ru, q_tn (show t < 2147483648 by omega), q_tn (show u < 2147483648 by omega), nI_1]
    by_cases e : μ.2.1 14 t = μ.2.1 14 u
    · rw [if_pos e, if_pos (decide_eq_true e)]
      by_cases e2 : k = 0
      · rw [if_pos (show nI k = 0 by rw [e2]; rfl), if_pos e2]
        rfl
      · rw [if_neg (fun z => e2 ((q_eqL hk (by decide)).mp z)), if_neg e2, q_dec (by omega)]
        exact ih (t + 1) (k - 1) m (by omega) (by omega) (by omega)
    · rw [if_neg e, if_neg (by simpa using e)]
      exact ih (t + 1) k m (by omega) (by omega) hk
theorem ok_reference (h : SimF FR σ τ μ) (x1 x2 : Int32) : Sx (SimF FR) (p_LanguageServer_reference σ τ x1 x2) (p_Mo_reference μ x1 x2) [(0, 0), (3, 1)] := by
  obtain ⟨σ', μ', e, em, rd, si, si', z, _⟩ := qpre h
  unfold p_LanguageServer_reference p_Mo_reference p_LanguageServer_declarationFor
  rw [e, q_bd1, named_eq em]
  have bad : Sx (SimF FR) (some (3, 0, σ', τ)) (some (0, sS μ' 0 1)) [(0, 0), (3, 1)] := sx_of (3, 1) (by simp) rfl rfl rfl (fun h => absurd h (by decide)) (by decide) (si 1)
  rcases nmd_all rd x1 with ⟨a, b⟩ | ⟨n, N, u, m, C, z0, tc, tm, iN, tk, tkm, eb, f5, g5, hu, dm, m1, m2, a, b⟩
  · rw [a, b, q_bd1, q_bd2, if_pos rfl, if_pos (show (-1 : Int32) < 0 by decide)]
    exact bad
  · have hN := iN.1
    have ml := dm.1
    rw [a, b, q_bd1, q_bd2, if_neg (q_neg (by omega)), if_neg (q_pos (by omega))]
    show Sx (SimF FR) (bd1 (p_Reading_useAt σ' (nI m) x2) fun v_17 => if v_17 = -1 then some (3, 0, σ', τ) else if inR v_17 121 then some (0, σ'.2.1 4 v_17.toNatClampNeg, σ', τ) else none) _ _
    have h3 := eb.1.2.2.2.1
    by_cases c : x2 < 0
    · have := cuse_neg h3 hN (nI m) c N 0 0 FU (by omega) (by unfold FU; omega) (Nat.le_refl _)
      have t' : p_Reading_useAt σ' (nI m) x2 = some (-1) := this
      rw [t', q_bd1, if_pos rfl, if_neg (Int32.not_le.mpr c)]
      exact bad
    · obtain ⟨i, hi, rfl⟩ := nI_of c
      have z0' : (0 : Int32) ≤ nI i := (q_Lle (by decide) hi).mpr (Nat.zero_le _)
      have cu := cuse_at h3 hN (nI m) hi N 0 0 FU (by omega) (by unfold FU; omega) (Nat.zero_le _) (Nat.le_refl _)
      have mu := mref eb.2.2.2.2.1.2.2.1 hN x1 (nI i) hu N 0 i FU (by omega) (by unfold FU; omega) hi
      have cu' : p_Reading_useAt σ' (nI m) (nI i) = some (oI (nu (fun w => decide (σ'.2.1 11 w = nI m)) i N 0)) := cu
      have mu' : p_Mo_reference_L31 x1 (nI i) FU μ' (nI u) (nI i) 0 = (nu (fun w => decide (μ'.2.1 14 w = μ'.2.1 14 u)) i N 0).elim (some (0, sS μ' 0 1)) (fun w => some (μ'.2.1 5 w, μ')) := mu
      have en : nu (fun w => decide (μ'.2.1 14 w = μ'.2.1 14 u)) i N 0 = nu (fun w => decide (σ'.2.1 11 w = nI m)) i N 0 := nu_ext (fun w _ hw => by rw [m2, eb.2.2.2.2.2.2.1.1 w (by omega)])
      rw [if_pos z0', cu', q_bd1, mu', en]
      cases q : nu (fun w => decide (σ'.2.1 11 w = nI m)) i N 0 with
      | none =>
        rw [if_pos (show oI none = -1 from rfl)]
        exact bad
      | some w =>
        obtain ⟨_, wl, _⟩ := nu_lt q
        rw [if_neg (show ¬ oI (some w) = -1 from q_neg (by omega)), if_pos (show inR (oI (some w)) 121 from q_inR (by omega) (by decide)), show (oI (some w)).toNatClampNeg = w from q_tn (by omega)]
        exact sx_of (0, 0) (by simp) rfl rfl z (fun _ => (tk w (by omega)).1.trans (tkm w (by omega)).1.symm) (by decide) si'
end Q2
