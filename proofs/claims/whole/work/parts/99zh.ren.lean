/-! a text with a name changed everywhere -/
theorem kd9 {K : Nat → Int32} {t : Nat} (h : cS (tr K (t + 1)) ≠ 0) : ¬ K t = 9 := by
  have w := ways (k := K t) (k2 := K (t + 1)) (d := cD (tr K t)) (call := callB (tr K t)) (e := cE (tr K t)) ((tr_mem K t).resolve_left (tr_alive h)) h
  intro e
  unfold Way at w
  rw [e] at w
  revert w
  simp +decide
/-- where the token before ends, in the old text and in the new one -/
def oE (C : Nat → Nat) (n : Nat) : Nat → Nat
  | 0 => 0
  | t + 1 => en C n (tS C n t)
def nE (C : Nat → Nat) (n : Nat) (U : Nat → Bool) (l : Nat) : Nat → Nat
  | 0 => 0
  | t + 1 => nE C n U l t + (tS C n t - oE C n t) + (if U t = true then l else en C n (tS C n t) - tS C n t)
theorem tS_nb (C : Nat → Nat) (n : Nat) : ∀ t, tS C n t = nb C n (oE C n t)
  | 0 => rfl
  | _ + 1 => rfl
def RT (C : Nat → Nat) (n N : Nat) (U : Nat → Bool) (l : Nat) (B : Nat → Nat) (A : Nat → Int32) (n' : Nat) : Prop := n' = nE C n U l N + (n - oE C n N) ∧ (∀ t, t < N → (∀ i, i < tS C n t - oE C n t → A (nE C n U l t + i) = nI (C (oE C n t + i))) ∧ (U t = false → ∀ i, i < en C n (tS C n t) - tS C n t → A (nE C n U l t + (tS C n t - oE C n t) + i) = nI (C (tS C n t + i))) ∧ (U t = true → ∀ i, i < l → A (nE C n U l t + (tS C n t - oE C n t) + i) = nI (B i))) ∧ ∀ i, i < n - oE C n N → A (nE C n U l N + i) = nI (C (oE C n N + i))
section REN
variable {C : Nat → Nat} {n N : Nat} {U : Nat → Bool} {l : Nat} {B : Nat → Nat}
theorem oE_s {t : Nat} : oE C n t ≤ tS C n t := by rw [tS_nb]; exact nb_ge
theorem oE_1 {t : Nat} : oE C n (t + 1) = en C n (tS C n t) := rfl
theorem oE_lt {t : Nat} : tS C n t + 1 ≤ oE C n (t + 1) := en_gt
theorem oE_le (h : ∀ t, t < N → tS C n t < n) : ∀ t, t ≤ N → oE C n t ≤ n
  | 0, _ => Nat.zero_le _
  | t + 1, ht => en_le (h t (by omega))
theorem nE_1 {t : Nat} : nE C n U l (t + 1) = nE C n U l t + (tS C n t - oE C n t) + (if U t = true then l else en C n (tS C n t) - tS C n t) := rfl
theorem nE_mono : ∀ {a b : Nat}, a ≤ b → nE C n U l a ≤ nE C n U l b
  | a, 0, h => by rw [show a = 0 by omega]; exact Nat.le_refl _
  | a, b + 1, h => by
    by_cases e : a = b + 1
    · rw [e]; exact Nat.le_refl _
    · have := nE_mono (a := a) (b := b) (by omega)
      rw [nE_1]; omega
/-- every place of the new text is told -/
theorem rt_cov {i : Nat} : ∀ {t : Nat}, t ≤ N → i < nE C n U l t → ∃ u, u < N ∧ ((∃ j, j < tS C n u - oE C n u ∧ i = nE C n U l u + j) ∨ (U u = false ∧ ∃ j, j < en C n (tS C n u) - tS C n u ∧ i = nE C n U l u + (tS C n u - oE C n u) + j) ∨ (U u = true ∧ ∃ j, j < l ∧ i = nE C n U l u + (tS C n u - oE C n u) + j))
  | 0, _, h => absurd h (Nat.not_lt_zero i)
  | t + 1, ht, h => by
    by_cases c : i < nE C n U l t
    · exact rt_cov (t := t) (by omega) c
    · refine ⟨t, by omega, ?_⟩
      by_cases c1 : i < nE C n U l t + (tS C n t - oE C n t)
      · exact Or.inl ⟨i - nE C n U l t, by omega, by omega⟩
      · rw [nE_1] at h
        cases u : U t
        · rw [u, if_neg (by decide)] at h
          exact Or.inr (Or.inl ⟨rfl, i - (nE C n U l t + (tS C n t - oE C n t)), by omega, by omega⟩)
        · rw [u, if_pos rfl] at h
          exact Or.inr (Or.inr ⟨rfl, i - (nE C n U l t + (tS C n t - oE C n t)), by omega, by omega⟩)
theorem rt_all {A : Nat → Int32} {n' : Nat} (h : RT C n N U l B A n') (hs : ∀ t, t < N → tS C n t < n) {i : Nat} (hi : i < n') : (∃ j, j < n ∧ A i = nI (C j)) ∨ ∃ j, j < l ∧ A i = nI (B j) := by
  obtain ⟨h1, h2, h3⟩ := h
  by_cases c : i < nE C n U l N
  · obtain ⟨u, uN, z⟩ := rt_cov (N := N) (t := N) (Nat.le_refl _) c
    obtain ⟨a1, a2, a3⟩ := h2 u uN
    have su := hs u uN
    have os := oE_s (C := C) (n := n) (t := u)
    have eu := en_le (C := C) su
    rcases z with ⟨j, j1, j2⟩ | ⟨uu, j, j1, j2⟩ | ⟨uu, j, j1, j2⟩
    · exact Or.inl ⟨oE C n u + j, by omega, by rw [j2]; exact a1 j j1⟩
    · exact Or.inl ⟨tS C n u + j, by omega, by rw [j2]; exact a2 uu j j1⟩
    · exact Or.inr ⟨j, j1, by rw [j2]; exact a3 uu j j1⟩
  · refine Or.inl ⟨oE C n N + (i - nE C n U l N), by omega, ?_⟩
    have := h3 (i - nE C n U l N) (by omega)
    rw [show nE C n U l N + (i - nE C n U l N) = i by omega] at this
    exact this
theorem rt_uq {A A' : Nat → Int32} {n' n'' : Nat} (h : RT C n N U l B A n') (g : RT C n N U l B A' n'') : n' = n'' ∧ ∀ i, i < n' → A i = A' i := by
  obtain ⟨h1, h2, h3⟩ := h
  obtain ⟨g1, g2, g3⟩ := g
  refine ⟨h1.trans g1.symm, fun i hi => ?_⟩
  by_cases c : i < nE C n U l N
  · obtain ⟨u, uN, z⟩ := rt_cov (N := N) (t := N) (Nat.le_refl _) c
    obtain ⟨a1, a2, a3⟩ := h2 u uN
    obtain ⟨b1, b2, b3⟩ := g2 u uN
    rcases z with ⟨j, j1, j2⟩ | ⟨uu, j, j1, j2⟩ | ⟨uu, j, j1, j2⟩
    · rw [j2, a1 j j1, b1 j j1]
    · rw [j2, a2 uu j j1, b2 uu j j1]
    · rw [j2, a3 uu j j1, b3 uu j j1]
  · have a := h3 (i - nE C n U l N) (by omega)
    have b := g3 (i - nE C n U l N) (by omega)
    rw [show nE C n U l N + (i - nE C n U l N) = i by omega] at a b
    rw [a, b]
theorem wN_ext {C D : Nat → Nat} {p q : Nat} : ∀ {m : Nat}, (∀ i, i < m → C (p + i) = D (q + i)) → wN C p m = wN D q m
  | 0, _ => rfl
  | m + 1, h => by
    unfold wN
    rw [wN_ext (C := C) (D := D) (p := p) (q := q) (m := m) (fun i hi => h i (by omega)), h m (by omega)]
/-- the new text has the same tokens -/
theorem rt_tok {D : Nat → Nat} {n' : Nat} (hN : N ≤ 120) (hs : ∀ t, t < N → tS C n t < n) (hk : ∀ t, t < N → kdN C n t (tS C n t) ≠ 9) (he : n ≤ tS C n N) (hU : ∀ t, t < N → U t = true → isLN (C (tS C n t)) = true) (l1 : 1 ≤ l) (l8 : l ≤ 8) (b0 : isLN (B 0) = true) (hB : ∀ i, i < l → (isLN (B i) || isDN (B i)) = true) (hw : wkN (wN B 0 l) = 1) (g1 : n' = nE C n U l N + (n - oE C n N)) (g2 : ∀ t, t < N → (∀ i, i < tS C n t - oE C n t → D (nE C n U l t + i) = C (oE C n t + i)) ∧ (U t = false → ∀ i, i < en C n (tS C n t) - tS C n t → D (nE C n U l t + (tS C n t - oE C n t) + i) = C (tS C n t + i)) ∧ (U t = true → ∀ i, i < l → D (nE C n U l t + (tS C n t - oE C n t) + i) = B i)) (g3 : ∀ i, i < n - oE C n N → D (nE C n U l N + i) = C (oE C n N + i)) : isNt D n' N := by
  have nEn : ∀ t, t ≤ N → nE C n U l t ≤ n' := fun t ht => by
    have := nE_mono (C := C) (n := n) (U := U) (l := l) ht
    omega
  have blank : ∀ t i, i < tS C n t - oE C n t → C (oE C n t + i) = 32 := fun t i hi => by
    have := scn_in (fun q => C q == 32) (n - oE C n t) (oE C n t) (oE C n t + i) (by omega) (by
      have e : tS C n t = scn (fun q => C q == 32) (n - oE C n t) (oE C n t) := tS_nb C n t
      rw [← e]; omega)
    simpa using this
  have nblank : ∀ t, t < N → C (tS C n t) ≠ 32 := fun t ht => by
    have e : tS C n t = scn (fun q => C q == 32) (n - oE C n t) (oE C n t) := tS_nb C n t
    have := scn_out (fun q => C q == 32) (n - oE C n t) (oE C n t) (by
      rw [← e]
      have := hs t ht
      have := oE_s (C := C) (n := n) (t := t)
      omega)
    rw [← e] at this
    simpa using this
  have L32 : ∀ c, isLN c = true → c ≠ 32 := fun c h z => by rw [z] at h; exact absurd h (by decide)
  -- the first sign of a token
  have D0 : ∀ t, t < N → D (nE C n U l t + (tS C n t - oE C n t)) = if U t = true then B 0 else C (tS C n t) := fun t ht => by
    obtain ⟨_, a2, a3⟩ := g2 t ht
    cases u : U t
    · have := a2 u 0 (by have := en_gt (C := C) (n := n) (p := tS C n t); omega)
      rw [if_neg (by decide)]; exact this
    · have := a3 u 0 (by omega)
      rw [if_pos rfl]; exact this
  have stp1 : ∀ t, t < N → nE C n U l t + (tS C n t - oE C n t) < n' := fun t ht => by
    have a := nEn (t + 1) (by omega)
    rw [nE_1] at a
    have := en_gt (C := C) (n := n) (p := tS C n t)
    cases u : U t
    · rw [u, if_neg (by decide)] at a; omega
    · rw [u, if_pos rfl] at a; omega
  have nbs : ∀ t, t < N → nb D n' (nE C n U l t) = nE C n U l t + (tS C n t - oE C n t) := fun t ht => by
    have s1 := stp1 t ht
    refine scn_uq _ _ _ _ (by omega) (by omega) (fun r r1 r2 => ?_) (fun _ => ?_)
    · have := (g2 t ht).1 (r - nE C n U l t) (by omega)
      rw [show nE C n U l t + (r - nE C n U l t) = r by omega, blank t _ (by omega)] at this
      show (D r == 32) = true
      rw [this]; rfl
    · show (D (nE C n U l t + (tS C n t - oE C n t)) == 32) = false
      rw [D0 t ht]
      cases u : U t
      · rw [if_neg (by decide)]
        simpa using nblank t ht
      · rw [if_pos rfl]
        simpa using L32 _ b0
  -- what follows a token
  have nxt1 : ∀ t, t < N → nE C n U l (t + 1) < n' → (en C n (tS C n t) < n ∧ D (nE C n U l (t + 1)) = C (en C n (tS C n t))) ∨ (t + 1 < N ∧ U (t + 1) = true ∧ tS C n (t + 1) = en C n (tS C n t) ∧ D (nE C n U l (t + 1)) = B 0) := fun t ht hl => by
    by_cases c : t + 1 < N
    · have os := oE_s (C := C) (n := n) (t := t + 1)
      have st := hs (t + 1) c
      have o1 := oE_1 (C := C) (n := n) (t := t)
      by_cases gp : 0 < tS C n (t + 1) - oE C n (t + 1)
      · left
        have := (g2 (t + 1) c).1 0 gp
        exact ⟨by omega, this⟩
      · have d0 := D0 (t + 1) c
        rw [show tS C n (t + 1) - oE C n (t + 1) = 0 by omega, Nat.add_zero] at d0
        cases u : U (t + 1)
        · rw [u, if_neg (by decide)] at d0
          left
          refine ⟨by omega, ?_⟩
          rw [d0, show tS C n (t + 1) = en C n (tS C n t) by omega]
        · rw [u, if_pos rfl] at d0
          right
          exact ⟨c, rfl, by omega, d0⟩
    · have e : t + 1 = N := by omega
      left
      rw [e] at hl ⊢
      have o1 : oE C n N = en C n (tS C n t) := by rw [← e]; rfl
      have := g3 0 (by omega)
      rw [o1] at this
      exact ⟨by omega, this⟩
  -- a word ends where it should
  have word : ∀ t, t < N → isLN (C (tS C n t)) = true → nE C n U l (t + 1) < n' → (isLN (D (nE C n U l (t + 1))) || isDN (D (nE C n U l (t + 1)))) = false := fun t ht hl h => by
    have e : en C n (tS C n t) = scn (fun q => isLN (C q) || isDN (C q)) (n - (tS C n t + 1)) (tS C n t + 1) := by
      unfold en; rw [if_pos hl]
    have out : en C n (tS C n t) < n → (isLN (C (en C n (tS C n t))) || isDN (C (en C n (tS C n t)))) = false := fun z => by
      have := scn_out (fun q => isLN (C q) || isDN (C q)) (n - (tS C n t + 1)) (tS C n t + 1) (by rw [← e]; have := hs t ht; omega)
      rw [← e] at this
      exact this
    rcases nxt1 t ht h with ⟨a, b⟩ | ⟨a, b, c, d⟩
    · rw [b]; exact out a
    · have := out (by rw [← c]; exact hs _ a)
      rw [← c, hU _ a b, Bool.true_or] at this
      exact absurd this (by decide)
  have num : ∀ t, t < N → isLN (C (tS C n t)) = false → isDN (C (tS C n t)) = true → nE C n U l (t + 1) < n' → isDN (D (nE C n U l (t + 1))) = false := fun t ht hl hd h => by
    have e : en C n (tS C n t) = scn (fun q => isDN (C q)) (n - (tS C n t + 1)) (tS C n t + 1) := by
      unfold en; rw [if_neg (by rw [hl]; decide), if_pos hd]
    rcases nxt1 t ht h with ⟨a, b⟩ | ⟨a, b, c, d⟩
    · rw [b]
      have := scn_out (fun q => isDN (C q)) (n - (tS C n t + 1)) (tS C n t + 1) (by rw [← e]; have := hs t ht; omega)
      rw [← e] at this
      exact this
    · rw [d]
      cases q : isDN (B 0)
      · rfl
      · have : ∀ c, isLN c = true → isDN c = true → False := fun c h1 h2 => by
          simp only [isLN, isDN, Bool.or_eq_true, Bool.and_eq_true, decide_eq_true_eq] at h1 h2
          omega
        exact (this _ b0 q).elim
  have ens : ∀ t, t < N → en D n' (nE C n U l t + (tS C n t - oE C n t)) = nE C n U l (t + 1) := fun t ht => by
    have n1 := nEn (t + 1) (by omega)
    have eg := en_gt (C := C) (n := n) (p := tS C n t)
    obtain ⟨_, a2, a3⟩ := g2 t ht
    have d0 := D0 t ht
    have e1 := nE_1 (C := C) (n := n) (U := U) (l := l) (t := t)
    cases u : U t
    · rw [u, if_neg (by decide)] at d0 e1
      unfold en
      rw [d0]
      by_cases hl : isLN (C (tS C n t)) = true
      · rw [if_pos hl]
        have e : en C n (tS C n t) = scn (fun q => isLN (C q) || isDN (C q)) (n - (tS C n t + 1)) (tS C n t + 1) := by
          unfold en; rw [if_pos hl]
        refine scn_uq _ _ _ _ (by omega) (by omega) (fun r r1 r2 => ?_) (fun z => word t ht hl (by omega))
        have hr := a2 u (r - (nE C n U l t + (tS C n t - oE C n t))) (by omega)
        rw [show nE C n U l t + (tS C n t - oE C n t) + (r - (nE C n U l t + (tS C n t - oE C n t))) = r by omega] at hr
        have := scn_in (fun q => isLN (C q) || isDN (C q)) (n - (tS C n t + 1)) (tS C n t + 1) (tS C n t + (r - (nE C n U l t + (tS C n t - oE C n t)))) (by omega) (by rw [← e]; omega)
        show (isLN (D r) || isDN (D r)) = true
        rw [hr]; exact this
      · rw [if_neg hl]
        have hl' : isLN (C (tS C n t)) = false := by simpa using hl
        by_cases hd : isDN (C (tS C n t)) = true
        · rw [if_pos hd]
          have e : en C n (tS C n t) = scn (fun q => isDN (C q)) (n - (tS C n t + 1)) (tS C n t + 1) := by
            unfold en; rw [if_neg hl, if_pos hd]
          refine scn_uq _ _ _ _ (by omega) (by omega) (fun r r1 r2 => ?_) (fun z => num t ht hl' hd (by omega))
          have hr := a2 u (r - (nE C n U l t + (tS C n t - oE C n t))) (by omega)
          rw [show nE C n U l t + (tS C n t - oE C n t) + (r - (nE C n U l t + (tS C n t - oE C n t))) = r by omega] at hr
          have := scn_in (fun q => isDN (C q)) (n - (tS C n t + 1)) (tS C n t + 1) (tS C n t + (r - (nE C n U l t + (tS C n t - oE C n t)))) (by omega) (by rw [← e]; omega)
          show isDN (D r) = true
          rw [hr]; exact this
        · rw [if_neg hd]
          have e : en C n (tS C n t) = tS C n t + 1 := by
            unfold en; rw [if_neg hl, if_neg hd]
          omega
    · rw [u, if_pos rfl] at d0 e1
      have hl := hU t ht u
      unfold en
      rw [d0, if_pos b0]
      refine scn_uq _ _ _ _ (by omega) (by omega) (fun r r1 r2 => ?_) (fun z => word t ht hl (by omega))
      have hr := a3 u (r - (nE C n U l t + (tS C n t - oE C n t))) (by omega)
      rw [show nE C n U l t + (tS C n t - oE C n t) + (r - (nE C n U l t + (tS C n t - oE C n t))) = r by omega] at hr
      show (isLN (D r) || isDN (D r)) = true
      rw [hr]; exact hB _ (by omega)
  have oE' : ∀ t, t ≤ N → oE D n' t = nE C n U l t := by
    intro t
    induction t with
    | zero => intro _; rfl
    | succ t ih =>
      intro ht
      show en D n' (tS D n' t) = _
      rw [tS_nb, ih (by omega), nbs t (by omega), ens t (by omega)]
  have sD : ∀ t, t < N → tS D n' t = nE C n U l t + (tS C n t - oE C n t) := fun t ht => by
    rw [tS_nb, oE' t (by omega), nbs t ht]
  refine ⟨by omega, fun t ht => by rw [sD t ht]; exact stp1 t ht, fun t ht => ?_, Or.inr (Or.inl ?_)⟩
  · have ht' : t < N := by omega
    rw [sD t ht']
    have d0 := D0 t ht'
    have en1 := ens t ht'
    have e1 := nE_1 (C := C) (n := n) (U := U) (l := l) (t := t)
    have eg := en_gt (C := C) (n := n) (p := tS C n t)
    obtain ⟨_, a2, a3⟩ := g2 t ht'
    cases u : U t
    · rw [u, if_neg (by decide)] at d0 e1
      have ln : en D n' (nE C n U l t + (tS C n t - oE C n t)) - (nE C n U l t + (tS C n t - oE C n t)) = en C n (tS C n t) - tS C n t := by rw [en1]; omega
      have ke : kdN D n' t (nE C n U l t + (tS C n t - oE C n t)) = kdN C n t (tS C n t) := by
        unfold kdN
        rw [d0, ln, wN_ext (C := D) (D := C) (q := tS C n t) (fun i hi => a2 u i hi)]
      rw [ke]; exact hk t ht'
    · rw [u, if_pos rfl] at d0 e1
      have ln : en D n' (nE C n U l t + (tS C n t - oE C n t)) - (nE C n U l t + (tS C n t - oE C n t)) = l := by rw [en1]; omega
      unfold kdN
      rw [d0, ln, if_neg (by omega), if_pos b0, if_neg (by omega), wN_ext (C := D) (D := B) (q := 0) (fun i hi => by rw [Nat.zero_add]; exact a3 u i hi), hw]
      decide
  · rw [tS_nb, oE' N (Nat.le_refl _)]
    have oN := oE_le (C := C) (n := n) (N := N) hs N (Nat.le_refl _)
    have : nb D n' (nE C n U l N) = n' := by
      refine scn_uq _ _ _ _ (nEn N (Nat.le_refl _)) (by have := nEn N (Nat.le_refl _); omega) (fun r r1 r2 => ?_) (fun z => by have := nEn N (Nat.le_refl _); omega)
      have hr := g3 (r - nE C n U l N) (by omega)
      rw [show nE C n U l N + (r - nE C n U l N) = r by omega, blank N _ (by omega)] at hr
      show (D r == 32) = true
      rw [hr]; rfl
    omega
/-- how long the new text is -/
theorem nE_len {L : Nat} (hL : ∀ t, t < N → U t = true → en C n (tS C n t) - tS C n t = L) : ∀ t, t ≤ N → nE C n U l t + cn U t 0 * L = oE C n t + cn U t 0 * l := by
  have cs : ∀ t, cn U (t + 1) 0 = cn U t 0 + (if U t = true then 1 else 0) := fun t => by
    rw [cn_add U t 1 0, Nat.zero_add]
    rfl
  intro t
  induction t with
  | zero => intro _; show 0 + 0 * L = 0 + 0 * l; omega
  | succ t ih =>
    intro ht
    have i := ih (by omega)
    have os := oE_s (C := C) (n := n) (t := t)
    have o1 := oE_1 (C := C) (n := n) (t := t)
    have eg := en_gt (C := C) (n := n) (p := tS C n t)
    rw [nE_1, cs]
    cases u : U t
    · rw [if_neg (by decide), if_neg (by decide)]
      rw [Nat.add_zero]
      omega
    · have e := hL t (by omega) u
      rw [if_pos rfl, if_pos rfl, Nat.succ_mul, Nat.succ_mul]
      omega
theorem nE_gr {L : Nat} (hL : ∀ t, t < N → U t = true → en C n (tS C n t) - tS C n t = L) (h : L ≤ l) : ∀ t, t ≤ N → oE C n t ≤ nE C n U l t := by
  intro t
  induction t with
  | zero => intro _; exact Nat.le_refl _
  | succ t ih =>
    intro ht
    have i := ih (by omega)
    have os := oE_s (C := C) (n := n) (t := t)
    have eg := en_gt (C := C) (n := n) (p := tS C n t)
    rw [nE_1, oE_1]
    cases u : U t
    · rw [if_neg (by decide)]; omega
    · have e := hL t (by omega) u
      rw [if_pos rfl]; omega
theorem nE_sh {L : Nat} (hL : ∀ t, t < N → U t = true → en C n (tS C n t) - tS C n t = L) (h : l ≤ L) {x : Nat} : ∀ t, x ≤ t → t ≤ N → nE C n U l t + oE C n x ≤ oE C n t + nE C n U l x := by
  intro t
  induction t with
  | zero => intro hx _; rw [show x = 0 by omega]; exact Nat.le_of_eq (Nat.add_comm _ _)
  | succ t ih =>
    intro hx ht
    by_cases ex : x = t + 1
    · rw [ex]; exact Nat.le_of_eq (Nat.add_comm _ _)
    have i := ih (by omega) (by omega)
    have os := oE_s (C := C) (n := n) (t := t)
    have eg := en_gt (C := C) (n := n) (p := tS C n t)
    rw [nE_1, oE_1]
    cases u : U t
    · rw [if_neg (by decide)]; omega
    · have e := hL t (by omega) u
      rw [if_pos rfl]; omega
end REN
