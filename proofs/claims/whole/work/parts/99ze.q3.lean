/-! questions: diagnostics -/
theorem bc : ∀ m, m < 2048 → p_Integer_bitCount (nI m) = some (nI (cn (fun b => Nat.testBit m b) 11 0)) := by decide +kernel
theorem bt1 : ∀ m, m < 2048 → ∀ b, b < 11 → ((nI m >>> (nI b &&& 31)) &&& 1) = (if Nat.testBit m b = true then 1 else 0) := by decide +kernel
theorem dv : ∀ k, k < 1364 → nI k / 11 = nI (k / 11) ∧ nI k - nI (k / 11) * 11 = nI (k % 11) := by decide +kernel
/-- the bits of all tokens, one behind the other -/
def Qb (M : Nat → Nat) (k : Nat) : Bool := Nat.testBit (M (k / 11)) (k % 11)
def smb (M : Nat → Nat) : Nat → Nat → Nat
  | 0, _ => 0
  | j + 1, t => cn (fun b => Nat.testBit (M t) b) 11 0 + smb M j (t + 1)
theorem cn_sh (P : Nat → Bool) (s : Nat) : ∀ j t, cn P j (s + t) = cn (fun b => P (s + b)) j t
  | 0, _ => rfl
  | j + 1, t => by
    unfold cn
    rw [show s + t + 1 = s + (t + 1) by omega, cn_sh P s j (t + 1)]
theorem smb_q (M : Nat → Nat) : ∀ j t, cn (Qb M) (11 * j) (11 * t) = smb M j t
  | 0, _ => rfl
  | j + 1, t => by
    rw [show 11 * (j + 1) = 11 + 11 * j by omega, cn_add, show 11 * t + 11 = 11 * (t + 1) by omega, smb_q M j (t + 1)]
    have e : cn (Qb M) 11 (11 * t) = cn (fun b => Nat.testBit (M t) b) 11 0 := by
      have := cn_sh (Qb M) (11 * t) 11 0
      rw [Nat.add_zero] at this
      rw [this]
      refine cn_ext (fun u _ hu => ?_)
      show Nat.testBit (M ((11 * t + u) / 11)) ((11 * t + u) % 11) = _
      rw [show (11 * t + u) / 11 = t by omega, show (11 * t + u) % 11 = u by omega]
    rw [e]
    rfl
theorem cn_0 {P : Nat → Bool} : ∀ {j t : Nat}, (∀ u, t ≤ u → u < t + j → P u = false) → cn P j t = 0
  | 0, _, _ => rfl
  | j + 1, t, h => by
    unfold cn
    rw [h t (Nat.le_refl _) (by omega), cn_0 (fun u h1 h2 => h u (by omega) (by omega))]
    rfl
theorem cn_one {P : Nat → Bool} {a : Nat} : ∀ {j t : Nat}, (∀ u, t ≤ u → u < t + j → (P u = true ↔ u = a)) → t ≤ a → a < t + j → cn P j t = 1 ∧ nu P 0 j t = some a
  | 0, t, _, h1, h2 => by omega
  | j + 1, t, h, h1, h2 => by
    unfold cn nu
    by_cases e : t = a
    · have p : P t = true := (h t (Nat.le_refl _) (by omega)).mpr e
      rw [if_pos p, if_pos p, if_pos rfl]
      refine ⟨?_, by rw [e]⟩
      rw [cn_0 (fun u u1 u2 => by
        cases q : P u
        · rfl
        · have := (h u (by omega) (by omega)).mp q
          omega)]
    · have p : ¬ P t = true := fun z => e ((h t (Nat.le_refl _) (by omega)).mp z)
      rw [if_neg p, if_neg p]
      obtain ⟨a1, a2⟩ := cn_one (P := P) (a := a) (j := j) (t := t + 1) (fun u u1 u2 => h u (by omega) (by omega)) (by omega) (by omega)
      exact ⟨by rw [a1], a2⟩
section Q3
variable {σ τ μ : Sto} {M : Nat → Nat}
theorem ctot (hM : ∀ u, u < 121 → M u < 2048 ∧ σ.2.1 17 u = nI (M u)) : ∀ (j t fuel : Nat) (x : Int32), j + t = 121 → j < fuel → p_Complaints_total_L13 σ fuel x (nI t) = some (x + nI (smb M j t)) := by
  intro j
  induction j with
  | zero =>
    intro t fuel x hj hf
    obtain ⟨m, rfl⟩ : ∃ m, fuel = m + 1 := ⟨fuel - 1, by omega⟩
    unfold p_Complaints_total_L13
    rw [if_pos ((q_Lle (by decide) (by omega)).mpr (show 121 ≤ t by omega))]
    show some x = some (x + 0)
    rw [Int32.add_zero]
  | succ j ih =>
    intro t fuel x hj hf
    obtain ⟨m, rfl⟩ : ∃ m, fuel = m + 1 := ⟨fuel - 1, by omega⟩
    obtain ⟨m1, m2⟩ := hM t (by omega)
    unfold p_Complaints_total_L13
    rw [if_neg (fun z => by have : 121 ≤ t := (q_Lle (by decide) (by omega)).mp z; omega), if_pos (q_inR (by omega) (by decide)), q_tn (by omega), m2, bc _ m1, q_bd1, nI_1, ih (t + 1) m _ (by omega) (by omega)]
    show some (x + nI (cn (fun b => Nat.testBit (M t) b) 11 0) + nI (smb M j (t + 1))) = some (x + nI (cn (fun b => Nat.testBit (M t) b) 11 0 + smb M j (t + 1)))
    rw [Int32.add_assoc, nI_add]
theorem mtot (hM : ∀ u, u < 124 → M u < 2048 ∧ μ.2.1 13 u = nI (M u)) : ∀ (j k fuel : Nat) (x : Int32), j + k = 1364 → j < fuel → p_Mo_diagnosticCount_L4 μ fuel x (nI k) = some (x + nI (cn (Qb M) j k)) := by
  intro j
  induction j with
  | zero =>
    intro k fuel x hj hf
    obtain ⟨m, rfl⟩ : ∃ m, fuel = m + 1 := ⟨fuel - 1, by omega⟩
    unfold p_Mo_diagnosticCount_L4
    rw [if_pos ((q_Lle (by decide) (by omega)).mpr (show 1364 ≤ k by omega))]
    show some x = some (x + 0)
    rw [Int32.add_zero]
  | succ j ih =>
    intro k fuel x hj hf
    obtain ⟨m, rfl⟩ : ∃ m, fuel = m + 1 := ⟨fuel - 1, by omega⟩
    obtain ⟨m1, m2⟩ := hM (k / 11) (by omega)
    obtain ⟨d1, d2⟩ := dv k (by omega)
    unfold p_Mo_diagnosticCount_L4 cn
    rw [if_neg (fun z => by have : 1364 ≤ k := (q_Lle (by decide) (by omega)).mp z; omega)]
    simp only [d1, d2, if_pos (q_inR (show k / 11 < 124 by omega) (by decide : 124 < 2147483648)), q_tn (show k / 11 < 2147483648 by omega), m2, bt1 _ m1 (k % 11) (by omega), nI_1]
    by_cases e : Nat.testBit (M (k / 11)) (k % 11) = true
    · have e' : Qb M k = true := e
      rw [if_pos e, if_neg (by decide), if_pos e', ih (k + 1) m (x + 1) (by omega) (by omega), nI_add1]
    · have e' : ¬ Qb M k = true := e
      rw [if_neg e, if_pos rfl, if_neg e', ih (k + 1) m x (by omega) (by omega), Nat.zero_add]
theorem cent (hM : ∀ u, u < 121 → M u < 2048 ∧ σ.2.1 17 u = nI (M u)) {i : Nat} (hi : i < 2147483648) : ∀ (j k c fuel : Nat), j + k = 1331 → j < fuel → c ≤ i → c ≤ k → p_Complaints_entryAt_L4 σ (nI i) fuel (nI c) (nI k) = some ((nu (Qb M) (i - c) j k).elim 0 nI) := by
  intro j
  induction j with
  | zero =>
    intro k c fuel hj hf hc ck
    obtain ⟨m, rfl⟩ : ∃ m, fuel = m + 1 := ⟨fuel - 1, by omega⟩
    unfold p_Complaints_entryAt_L4
    rw [if_pos ((q_Lle (by decide) (by omega)).mpr (show 1331 ≤ k by omega))]
    rfl
  | succ j ih =>
    intro k c fuel hj hf hc ck
    obtain ⟨m, rfl⟩ : ∃ m, fuel = m + 1 := ⟨fuel - 1, by omega⟩
    obtain ⟨m1, m2⟩ := hM (k / 11) (by omega)
    obtain ⟨d1, d2⟩ := dv k (by omega)
    unfold p_Complaints_entryAt_L4 nu
    rw [if_neg (fun z => by have : 1331 ≤ k := (q_Lle (by decide) (by omega)).mp z; omega)]
    simp only [d1, d2, if_pos (q_inR (show k / 11 < 121 by omega) (by decide : 121 < 2147483648)), q_tn (show k / 11 < 2147483648 by omega), m2, bt1 _ m1 (k % 11) (by omega), nI_1]
    by_cases e : Nat.testBit (M (k / 11)) (k % 11) = true
    · have e' : Qb M k = true := e
      rw [if_pos e, if_pos rfl, if_pos e']
      by_cases e2 : c = i
      · rw [if_pos (show nI c = nI i by rw [e2]), if_pos (show i - c = 0 by omega)]
        rfl
      · rw [if_neg (show ¬ nI c = nI i from fun z => e2 ((q_eq (by omega) (by omega)).mp z)), if_neg (show ¬ i - c = 0 by omega), ih (k + 1) (c + 1) m (by omega) (by omega) (by omega) (by omega), show i - (c + 1) = i - c - 1 by omega]
    · have e' : ¬ Qb M k = true := e
      rw [if_neg e, if_neg (by decide), if_neg e', ih (k + 1) c m (by omega) (by omega) hc (by omega)]
theorem mdia (hM : ∀ u, u < 124 → M u < 2048 ∧ μ.2.1 13 u = nI (M u)) (x1 x2 : Int32) : ∀ (j k l fuel : Nat), j + k = 1364 → j < fuel → l < 2147483648 → p_Mo_diagnostic_L47 x1 x2 fuel μ (nI l) (nI k) = (nu (Qb M) l j k).elim (some (0, μ)) (fun w => some (if x2 = 0 then nI (w % 11) else μ.2.1 5 (w / 11), μ)) := by
  intro j
  induction j with
  | zero =>
    intro k l fuel hj hf hl
    obtain ⟨m, rfl⟩ : ∃ m, fuel = m + 1 := ⟨fuel - 1, by omega⟩
    unfold p_Mo_diagnostic_L47
    rw [if_pos ((q_Lle (by decide) (by omega)).mpr (show 1364 ≤ k by omega))]
    rfl
  | succ j ih =>
    intro k l fuel hj hf hl
    obtain ⟨m, rfl⟩ : ∃ m, fuel = m + 1 := ⟨fuel - 1, by omega⟩
    obtain ⟨m1, m2⟩ := hM (k / 11) (by omega)
    obtain ⟨d1, d2⟩ := dv k (by omega)
    unfold p_Mo_diagnostic_L47 nu
    rw [if_neg (fun z => by have : 1364 ≤ k := (q_Lle (by decide) (by omega)).mp z; omega)]
    simp only [d1, d2, if_pos (q_inR (show k / 11 < 124 by omega) (by decide : 124 < 2147483648)), q_tn (show k / 11 < 2147483648 by omega), m2, bt1 _ m1 (k % 11) (by omega), nI_1]
    by_cases e : Nat.testBit (M (k / 11)) (k % 11) = true
    · have e' : Qb M k = true := e
      rw [if_pos e, if_neg (by decide), if_pos e']
      by_cases e2 : l = 0
      · rw [if_pos (show nI l = 0 by rw [e2]; rfl), if_pos e2]
        show _ = some (if x2 = 0 then nI (k % 11) else μ.2.1 5 (k / 11), μ)
        by_cases e3 : x2 = 0
        · rw [if_pos e3, if_pos e3]
        · rw [if_neg e3, if_neg e3]
      · rw [if_neg (fun z => e2 ((q_eqL hl (by decide)).mp z)), if_neg e2, q_dec (by omega)]
        exact ih (k + 1) (l - 1) m (by omega) (by omega) (by omega)
    · have e' : ¬ Qb M k = true := e
      rw [if_neg e, if_pos rfl, if_neg e']
      exact ih (k + 1) l m (by omega) (by omega) hl
/-- the diagnostics of both -/
def DIA (σ μ : Sto) : Prop := ∃ D : Nat, D < 2000 ∧ p_Complaints_total σ = some (nI D) ∧ p_Mo_diagnosticCount μ = some (nI D) ∧ ∀ i, i < D → ∃ kd pl, p_Complaints_kindAt σ (nI i) = some kd ∧ p_Complaints_placeAt σ (nI i) = some pl ∧ ∀ x1 x2, p_Mo_diagnostic_L47 x1 x2 FU μ (nI i) 0 = some (if x2 = 0 then kd else pl, μ)
theorem RDg.dia (h : RDg σ μ) : DIA σ μ := by
  obtain ⟨n, N, C, z0, tc, tm, iN, tk, tkm, eb, f5, g5⟩ := h
  obtain ⟨sc, _, _, _, sm, _, ag, rs, _⟩ := eb
  have hN := sc.1
  have mb := rs.2.1
  have hM : ∀ u, (σ.2.1 17 u).toNatClampNeg < 2048 ∧ σ.2.1 17 u = nI (σ.2.1 17 u).toNatClampNeg := by
    intro u
    obtain ⟨m, a, b⟩ := mb.1 u
    rw [b, q_tn (by omega)]
    exact ⟨a, rfl⟩
  have hMm : ∀ u, u < 124 → (σ.2.1 17 u).toNatClampNeg < 2048 ∧ μ.2.1 13 u = nI (σ.2.1 17 u).toNatClampNeg := fun u hu => ⟨(hM u).1, by rw [← ag.2 u hu]; exact (hM u).2⟩
  generalize hMd : (fun u => (σ.2.1 17 u).toNatClampNeg) = M
  have hM' : ∀ u, u < 121 → M u < 2048 ∧ σ.2.1 17 u = nI (M u) := fun u _ => by rw [← hMd]; exact hM u
  have hMm' : ∀ u, u < 124 → M u < 2048 ∧ μ.2.1 13 u = nI (M u) := fun u hu => by rw [← hMd]; exact hMm u hu
  have zN : ∀ u, N ≤ u → M u = 0 := fun u hu => by
    rw [← hMd]
    show (σ.2.1 17 u).toNatClampNeg = 0
    rw [mb.2 u hu]; rfl
  have hf : p_Complaints_hasFault σ = some 0 := by
    unfold p_Complaints_hasFault
    rw [if_pos f5]
  have rest : cn (Qb M) 33 1331 = 0 := cn_0 (fun u h1 h2 => by
    unfold Qb
    rw [zN (u / 11) (by omega)]
    simp)
  have cl := cn_le (Qb M) 1331 0
  refine ⟨cn (Qb M) 1331 0, by omega, ?_, ?_, fun i hi => ?_⟩
  · unfold p_Complaints_total
    rw [hf, q_bd1, if_pos rfl]
    have := ctot hM' 121 0 FU 0 (by omega) (by unfold FU; omega)
    rw [z_add, ← smb_q M 121 0] at this
    exact this
  · have := mtot hMm' 1364 0 FU 0 (by omega) (by unfold FU; omega)
    rw [z_add, show (1364 : Nat) = 1331 + 33 from rfl, cn_add, Nat.zero_add, rest, Nat.add_zero] at this
    exact this
  · obtain ⟨w, hw⟩ := nu_some (Qb M) i 1331 0 hi
    obtain ⟨_, wl, _⟩ := nu_lt hw
    have ce := cent hM' (i := i) (by omega) 1331 0 0 FU (by omega) (by unfold FU; omega) (Nat.zero_le _) (Nat.le_refl _)
    have ce' : p_Complaints_entryAt σ (nI i) = some (nI w) := by
      have t : p_Complaints_entryAt σ (nI i) = some ((nu (Qb M) i 1331 0).elim 0 nI) := ce
      rw [t, hw]; rfl
    obtain ⟨d1, d2⟩ := dv w (by omega)
    -- the token is one that is there
    have wN : w / 11 < N ∨ N ≤ w / 11 := by omega
    refine ⟨nI (w % 11), σ.2.1 4 (w / 11), ?_, ?_, fun x1 x2 => ?_⟩
    · unfold p_Complaints_kindAt
      rw [hf, q_bd1, if_pos rfl, ce', q_bd1, d1, d2]
    · unfold p_Complaints_placeAt
      rw [hf, q_bd1, if_pos rfl, ce', q_bd1, d1, if_pos (q_inR (by omega) (by decide)), q_tn (by omega)]
    · have md := mdia hMm' x1 x2 1364 0 i FU (by omega) (by unfold FU; omega) (by omega)
      have hw2 : nu (Qb M) i 1364 0 = some w := nu_app (Qb M) i 1331 33 0 hw
      have md' : p_Mo_diagnostic_L47 x1 x2 FU μ (nI i) 0 = (nu (Qb M) i 1364 0).elim (some (0, μ)) (fun w => some (if x2 = 0 then nI (w % 11) else μ.2.1 5 (w / 11), μ)) := md
      rw [md', hw2]
      show some (if x2 = 0 then nI (w % 11) else μ.2.1 5 (w / 11), μ) = _
      rcases wN with l | l
      · rw [(tkm _ l).1, (tk _ l).1]
      · exfalso
        obtain ⟨_, _, wt⟩ := nu_lt hw
        unfold Qb at wt
        rw [zN _ l] at wt
        simp at wt
theorem RDb.dia (h : RDb σ μ) : DIA σ μ := by
  obtain ⟨T, q, tl, ql, s3, m3, _, _, s5, m5, mp, a11, m13⟩ := h
  have hf : p_Complaints_hasFault σ = some 1 := by
    unfold p_Complaints_hasFault
    rw [s5, if_neg (q_neg (by omega))]
  have hM : ∀ u, u < 124 → (fun u => if u = T then 1 else 0) u < 2048 ∧ μ.2.1 13 u = nI ((fun u => if u = T then 1 else 0) u) := fun u hu => by
    rw [m13 u hu]
    show (if u = T then 1 else 0) < 2048 ∧ _ = nI (if u = T then 1 else 0)
    by_cases e : u = T
    · rw [if_pos e, if_pos e]; exact ⟨by decide, rfl⟩
    · rw [if_neg e, if_neg e]; exact ⟨by decide, rfl⟩
  have one := cn_one (P := Qb (fun u => if u = T then 1 else 0)) (a := 11 * T) (j := 1364) (t := 0) (fun u _ hu => by
    unfold Qb
    by_cases e : u / 11 = T
    · simp only [if_pos e]
      constructor
      · intro z
        have h0 : u % 11 = 0 := Decidable.byContradiction (fun y => by
          have : Nat.testBit 1 (u % 11) = false := by
            rw [show u % 11 = (u % 11 - 1) + 1 by omega]
            simp [Nat.testBit_succ]
          rw [this] at z
          exact absurd z (by decide))
        omega
      · intro z
        rw [show u % 11 = 0 by omega]
        decide
    · simp only [if_neg e]
      constructor
      · intro z
        simp at z
      · intro z
        omega) (Nat.zero_le _) (by omega)
  refine ⟨1, by decide, ?_, ?_, fun i hi => ?_⟩
  · unfold p_Complaints_total
    rw [hf, q_bd1, if_neg (by decide)]
    rfl
  · have := mtot hM 1364 0 FU 0 (by omega) (by unfold FU; omega)
    rw [z_add, one.1] at this
    exact this
  · have e : i = 0 := by omega
    subst e
    refine ⟨0, nI q, ?_, ?_, fun x1 x2 => ?_⟩
    · unfold p_Complaints_kindAt
      rw [hf, q_bd1, if_neg (by decide)]
    · unfold p_Complaints_placeAt
      rw [hf, q_bd1, if_neg (by decide), s5]
    · have md := mdia hM x1 x2 1364 0 0 FU (by omega) (by unfold FU; omega) (by omega)
      rw [one.2] at md
      have md' : p_Mo_diagnostic_L47 x1 x2 FU μ (nI 0) 0 = some (if x2 = 0 then nI (11 * T % 11) else μ.2.1 5 (11 * T / 11), μ) := md
      rw [md', show 11 * T % 11 = 0 by omega, show 11 * T / 11 = T by omega, mp]
      rfl
theorem dia_all (h : RDg σ μ ∨ RDb σ μ) : DIA σ μ := h.elim RDg.dia RDb.dia
theorem ok_diagnostic (h : SimF FR σ τ μ) (x1 x2 : Int32) : Sx (SimF FR) (p_LanguageServer_diagnostic σ τ x1 x2) (p_Mo_diagnostic μ x1 x2) [(0, 0), (3, 1), (1, 2)] := by
  obtain ⟨σ', μ', e, em, rd, si, si', z, _⟩ := qpre h
  obtain ⟨D, d1, d2, d3, d4⟩ := dia_all rd
  have bad : Sx (SimF FR) (some (3, 0, σ', τ)) (some (0, sS μ' 0 1)) [(0, 0), (3, 1), (1, 2)] := sx_of (3, 1) (by simp) rfl rfl rfl (fun h => absurd h (by decide)) (by decide) (si 1)
  have bad2 : Sx (SimF FR) (some (1, 0, σ', τ)) (some (0, sS μ' 0 2)) [(0, 0), (3, 1), (1, 2)] := sx_of (1, 2) (by simp) rfl rfl rfl (fun h => absurd h (by decide)) (by decide) (si 2)
  unfold p_LanguageServer_diagnostic p_Mo_diagnostic
  rw [e, q_bd1, em, q_bd1]
  by_cases c1 : x1 < 0
  · rw [if_pos c1, if_pos c1]; exact bad
  rw [if_neg c1, if_neg c1, d2, d3, q_bd1, q_bd1]
  obtain ⟨i, hi, rfl⟩ := nI_of c1
  by_cases c2 : nI i < nI D
  · rw [if_pos c2, if_pos c2]
    obtain ⟨kd, pl, e1, e2, e3⟩ := d4 i ((q_lt hi (by omega)).mp c2)
    by_cases c3 : x2 = 0
    · rw [if_pos c3, e1, q_bd1, if_neg (by rw [c3]; decide), if_pos (by rw [c3]; decide), e3, if_pos c3]
      exact sx_of (0, 0) (by simp) rfl rfl z (fun _ => rfl) (by decide) si'
    · rw [if_neg c3]
      by_cases c4 : x2 = 1
      · rw [if_pos c4, e2, q_bd1, if_neg (by rw [c4]; decide), if_pos (by rw [c4]; decide), e3, if_neg c3]
        exact sx_of (0, 0) (by simp) rfl rfl z (fun _ => rfl) (by decide) si'
      · rw [if_neg c4]
        by_cases c5 : x2 < 0
        · rw [if_pos c5]; exact bad2
        · rw [if_neg c5, if_neg (fun y => ?_)]
          · exact bad2
          · obtain ⟨k, hk, rfl⟩ := nI_of c5
            have : k ≤ 1 := (q_leL hk (by decide)).mp y
            rcases (show k = 0 ∨ k = 1 by omega) with q | q
            · exact c3 (by rw [q]; rfl)
            · exact c4 (by rw [q]; rfl)
  · rw [if_neg c2, if_neg c2]; exact bad
theorem ok_diagnostics (h : SimF FR σ τ μ) : Sd (SimF FR) (p_LanguageServer_diagnostics σ τ) (p_Mo_diagnostics μ) := by
  obtain ⟨σ', μ', e, em, rd, si, si', z, _⟩ := qpre h
  obtain ⟨D, d1, d2, d3, d4⟩ := dia_all rd
  unfold p_LanguageServer_diagnostics p_Mo_diagnostics
  rw [e, q_bd1, em, q_bd1, d2, d3, q_bd1, q_bd1]
  exact ⟨_, _, _, _, rfl, rfl, si'⟩
end Q3
