/-! searching, and more that holds of the machine -/
def fi1 (P : Nat → Bool) : Nat → Nat → Option Nat
  | 0, _ => none
  | n + 1, a => if P a = true then some a else fi1 P n (a + 1)
def oI (o : Option Nat) : Int32 := o.elim (-1) nI
def tI (o : Option Nat) : Int32 := o.elim (-2) nI
theorem fi1_some {P : Nat → Bool} : ∀ {n a u : Nat}, fi1 P n a = some u → a ≤ u ∧ u < a + n ∧ P u = true ∧ ∀ v, a ≤ v → v < u → P v = false
  | 0, a, u, h => by unfold fi1 at h; exact absurd h (by simp)
  | n + 1, a, u, h => by
    unfold fi1 at h
    by_cases p : P a = true
    · rw [if_pos p] at h
      have e : a = u := Option.some.inj h
      subst e
      exact ⟨Nat.le_refl _, by omega, p, fun v h1 h2 => by omega⟩
    · rw [if_neg p] at h
      obtain ⟨h1, h2, h3, h4⟩ := fi1_some h
      refine ⟨by omega, by omega, h3, fun v v1 v2 => ?_⟩
      by_cases e : v = a
      · rw [e]; simpa using p
      · exact h4 v (by omega) v2
theorem fi1_none {P : Nat → Bool} : ∀ {n a : Nat}, fi1 P n a = none → ∀ v, a ≤ v → v < a + n → P v = false
  | 0, a, _ => fun v h1 h2 => by omega
  | n + 1, a, h => by
    unfold fi1 at h
    by_cases p : P a = true
    · rw [if_pos p] at h; exact absurd h (by simp)
    · rw [if_neg p] at h
      intro v v1 v2
      by_cases e : v = a
      · rw [e]; simpa using p
      · exact fi1_none h v (by omega) (by omega)
/-- two searches that look for the same find the same -/
theorem fi1_ext {P Q : Nat → Bool} {n a m b : Nat} (h : ∀ u, (a ≤ u ∧ u < a + n ∧ P u = true) ↔ (b ≤ u ∧ u < b + m ∧ Q u = true)) : fi1 P n a = fi1 Q m b := by
  cases h1 : fi1 P n a with
  | none =>
    cases h2 : fi1 Q m b with
    | none => rfl
    | some v =>
      obtain ⟨q1, q2, q3, _⟩ := fi1_some h2
      have q := (h v).mpr ⟨q1, q2, q3⟩
      have := fi1_none h1 v q.1 q.2.1
      rw [q.2.2] at this
      exact absurd this (by decide)
  | some u =>
    obtain ⟨p1, p2, p3, p4⟩ := fi1_some h1
    have p := (h u).mp ⟨p1, p2, p3⟩
    cases h2 : fi1 Q m b with
    | none =>
      have := fi1_none h2 u p.1 p.2.1
      rw [p.2.2] at this
      exact absurd this (by decide)
    | some v =>
      obtain ⟨q1, q2, q3, q4⟩ := fi1_some h2
      have q := (h v).mpr ⟨q1, q2, q3⟩
      by_cases l : u < v
      · have := q4 u p.1 l
        rw [p.2.2] at this
        exact absurd this (by decide)
      · by_cases l2 : v < u
        · have := p4 v q.1 l2
          rw [q.2.2] at this
          exact absurd this (by decide)
        · rw [show u = v by omega]
theorem fi1_is {P : Nat → Bool} {n a u : Nat} (h1 : a ≤ u) (h2 : u < a + n) (h3 : P u = true) (h4 : ∀ v, a ≤ v → v < u → P v = false) : fi1 P n a = some u := by
  cases h : fi1 P n a with
  | none =>
    have := fi1_none h u h1 h2
    rw [h3] at this
    exact absurd this (by decide)
  | some v =>
    obtain ⟨q1, q2, q3, q4⟩ := fi1_some h
    by_cases l : u < v
    · have := q4 u h1 l
      rw [h3] at this
      exact absurd this (by decide)
    · by_cases l2 : v < u
      · have := h4 v q1 l2
        rw [q3] at this
        exact absurd this (by decide)
      · rw [show u = v by omega]
theorem fi1_no {P : Nat → Bool} {n a : Nat} (h4 : ∀ v, a ≤ v → v < a + n → P v = false) : fi1 P n a = none := by
  cases h : fi1 P n a with
  | none => rfl
  | some v =>
    obtain ⟨q1, q2, q3, q4⟩ := fi1_some h
    have := h4 v q1 q2
    rw [q3] at this
    exact absurd this (by decide)
/-- the token of a class's name -/
def ctA (K : Nat → Int32) (c : Nat) : Nat → Nat
  | 0 => 0
  | t + 1 => if cS (tr K t) = 2 ∧ cC (tr K t) = c then t else ctA K c t
section INV
variable {K : Nat → Int32} {N : Nat}
theorem ct_ok : ∀ (N c : Nat), c < cC (tr K N) → ctA K c N < N ∧ cS (tr K (ctA K c N)) = 2 ∧ cC (tr K (ctA K c N)) = c
  | 0, c, h => by exact absurd h (Nat.not_lt_zero c)
  | t + 1, c, h => by
    unfold ctA
    by_cases e : cS (tr K t) = 2 ∧ cC (tr K t) = c
    · rw [if_pos e]; exact ⟨by omega, e⟩
    · rw [if_neg e]
      have h1 : c < cC (tr K t) := by
        rw [trC] at h
        by_cases s : cS (tr K t) = 2
        · rw [if_pos s] at h
          have : ¬ cC (tr K t) = c := fun z => e ⟨s, z⟩
          omega
        · rw [if_neg s] at h; exact h
      obtain ⟨a, b⟩ := ct_ok t c h1
      exact ⟨by omega, b⟩
theorem ct_uq {u v : Nat} (h1 : cS (tr K u) = 2) (h2 : cS (tr K v) = 2) (h : cC (tr K u) = cC (tr K v)) : u = v := by
  by_cases l : u < v
  · have := cC_mono K (u + 1) v (by omega)
    rw [trC, if_pos h1] at this
    omega
  · by_cases l2 : v < u
    · have := cC_mono K (v + 1) u (by omega)
      rw [trC, if_pos h2] at this
      omega
    · omega
theorem ct_in {u : Nat} (hu : u < N) (h : cS (tr K u) = 2) : cC (tr K u) < cC (tr K N) := by
  have := cC_mono K (u + 1) N (by omega)
  rw [trC, if_pos h] at this
  omega
theorem ct_of {u : Nat} (hu : u < N) (h : cS (tr K u) = 2) : ctA K (cC (tr K u)) N = u := by
  obtain ⟨a, b, c⟩ := ct_ok N _ (ct_in hu h)
  exact ct_uq b h c
theorem ct_lt {c u : Nat} (hc : c < cC (tr K N)) : ctA K c N < u ↔ c < cC (tr K u) := by
  obtain ⟨a, b, d⟩ := ct_ok N c hc
  constructor
  · intro h
    have := cC_mono K (ctA K c N + 1) u (by omega)
    rw [trC, if_pos b, d] at this
    omega
  · intro h
    by_cases l : ctA K c N < u
    · exact l
    · have := cC_mono K u (ctA K c N) (by omega)
      omega
theorem ct_mono {c d : Nat} (h : c < d) (hd : d < cC (tr K N)) : ctA K c N < ctA K d N := by
  rw [ct_lt (by omega), (ct_ok N d hd).2.2]
  exact h
/-- names alone have the roles of names -/
theorem nameK {u : Nat} (h : cS (tr K (u + 1)) ≠ 0) (hr : rr (ro K u) ≠ 0) : K u = 1 := by
  have w := ways (k := K u) (k2 := K (u + 1)) (d := cD (tr K u)) (call := callB (tr K u)) (e := cE (tr K u)) ((tr_mem K u).resolve_left (tr_alive h)) h
  by_cases k1 : K u = 1
  · exact k1
  · exfalso
    apply hr
    apply rr_ro0
    unfold Way at w
    unfold rbT
    rcases w with ⟨hs, hk, hs2, hsd⟩ | ⟨hs, hk, hs2, hsd⟩ | ⟨hs, hk, hs2, hsd⟩ | ⟨hs, hk, hs2, hsd⟩ | ⟨hs, hk, hs2, hsd⟩ | ⟨hs, hk, hs2, hsd⟩ | ⟨hs, hk, hs2, hsd⟩ | ⟨hs, hk, hs2, hsd⟩ | ⟨hs, hk, hs2, hsd⟩ | ⟨hs, hk, hs2, hsd⟩ | ⟨hs, hk, hs2, hsd⟩ | ⟨hs, hk, hs2, hsd⟩ | ⟨hs, hk, hs2, hsd⟩ | ⟨hs, hk, hs2, hsd⟩ | ⟨hs, hk, hs2, hsd⟩ | ⟨hs, hk, hs2, hsd⟩ | ⟨hs, hk, hs2, hsd⟩ | ⟨hs, hk, hs2, hsd⟩ | ⟨hs, hk, hs2, hsd⟩ | ⟨hs, hk, hs2, hsd⟩ | ⟨hs, hk, hs2, hsd⟩ | ⟨hs, hk, hs2, hsd⟩ | ⟨hs, hk, hs2, hsd⟩ | ⟨hs, hk, hs2, hsd⟩ | ⟨hs, hk, hs2, hsd⟩ | ⟨hs, hk, hs2, hsd⟩ | ⟨hs, hk, hs2, hsd⟩ | ⟨hs, hk, hs2, hsd⟩ | ⟨hs, hk, hs2, hsd⟩ | ⟨hs, hk, hs2, hsd⟩ | ⟨hs, hk, hs2, hsd⟩ | ⟨hs, hk, hs2, hsd⟩ | ⟨hs, hk, hs2, hsd⟩ | ⟨hs, hk, hs2, hsd⟩ | ⟨hs, hk, hs2, hsd⟩ | ⟨hs, hk, hs2, hsd⟩ | ⟨hs, hk, hs2, hsd⟩ | ⟨hs, hk, hs2, hsd⟩ | ⟨hs, hk, hs2, hsd⟩ | ⟨hs, hk, hs2, hsd⟩ | ⟨hs, hk, hs2, hsd⟩ | ⟨hs, hk, hs2, hsd⟩ | ⟨hs, hk, hs2, hsd⟩ | ⟨hs, hk, hs2, hsd⟩ | ⟨hs, hk, hs2, hsd⟩ | ⟨hs, hk, hs2, hsd⟩ | ⟨hs, hk, hs2, hsd⟩ | ⟨hs, hk, hs2, hsd⟩ | ⟨hs, hk, hs2, hsd⟩ | ⟨hs, hk, hs2, hsd⟩ | ⟨hs, hk, hs2, hsd⟩ | ⟨hs, hk, hs2, hsd⟩ | ⟨hs, hk, hs2, hsd⟩ | ⟨hs, hk, hs2, hsd⟩ | ⟨hs, hk, hs2, hsd⟩ | ⟨hs, hk, hs2, hsd⟩ | ⟨hs, hk, hs2, hsd⟩ | ⟨hs, hk, hs2, hsd⟩ <;> first | exact absurd hk k1 | (rw [hs, hk]; simp +decide only [rb, rr, oprR, talR, false_and, if_true, if_false])
/-- inside a method nothing tells another class or member -/
theorem inM : ∀ (t : Nat), 7 < cS (tr K t) → cM (tr K t) < t ∧ cS (tr K (cM (tr K t))) = 7 ∧ ∀ u, cM (tr K t) < u → u ≤ t → 7 < cS (tr K u) ∧ cM (tr K u) = cM (tr K t) ∧ cC (tr K u) = cC (tr K t)
  | 0, h => by exact absurd (show (7 : Int32) < 1 from h) (by decide)
  | t + 1, h => by
    have ha : cS (tr K (t + 1)) ≠ 0 := fun z => by rw [z] at h; exact absurd h (by decide)
    by_cases s7 : cS (tr K t) = 7
    · have e : cM (tr K (t + 1)) = t := by rw [trM, if_pos s7]
      rw [e]
      refine ⟨by omega, s7, fun u h1 h2 => ?_⟩
      have : u = t + 1 := by omega
      subst this
      exact ⟨h, e, rfl⟩
    · have s8 : 7 < cS (tr K t) := by
        have w := ways (k := K t) (k2 := K (t + 1)) (d := cD (tr K t)) (call := callB (tr K t)) (e := cE (tr K t)) ((tr_mem K t).resolve_left (tr_alive ha)) ha
        have hn' : cS (tr K (t + 1)) = nxt (cS (tr K t)) (K t) (K (t + 1)) (cD (tr K t)) (callB (tr K t)) (cE (tr K t)) := rfl
        rw [hn'] at h
        unfold Way at w
        rcases w with ⟨hs, hk, hs2, hsd⟩ | ⟨hs, hk, hs2, hsd⟩ | ⟨hs, hk, hs2, hsd⟩ | ⟨hs, hk, hs2, hsd⟩ | ⟨hs, hk, hs2, hsd⟩ | ⟨hs, hk, hs2, hsd⟩ | ⟨hs, hk, hs2, hsd⟩ | ⟨hs, hk, hs2, hsd⟩ | ⟨hs, hk, hs2, hsd⟩ | ⟨hs, hk, hs2, hsd⟩ | ⟨hs, hk, hs2, hsd⟩ | ⟨hs, hk, hs2, hsd⟩ | ⟨hs, hk, hs2, hsd⟩ | ⟨hs, hk, hs2, hsd⟩ | ⟨hs, hk, hs2, hsd⟩ | ⟨hs, hk, hs2, hsd⟩ | ⟨hs, hk, hs2, hsd⟩ | ⟨hs, hk, hs2, hsd⟩ | ⟨hs, hk, hs2, hsd⟩ | ⟨hs, hk, hs2, hsd⟩ | ⟨hs, hk, hs2, hsd⟩ | ⟨hs, hk, hs2, hsd⟩ | ⟨hs, hk, hs2, hsd⟩ | ⟨hs, hk, hs2, hsd⟩ | ⟨hs, hk, hs2, hsd⟩ | ⟨hs, hk, hs2, hsd⟩ | ⟨hs, hk, hs2, hsd⟩ | ⟨hs, hk, hs2, hsd⟩ | ⟨hs, hk, hs2, hsd⟩ | ⟨hs, hk, hs2, hsd⟩ | ⟨hs, hk, hs2, hsd⟩ | ⟨hs, hk, hs2, hsd⟩ | ⟨hs, hk, hs2, hsd⟩ | ⟨hs, hk, hs2, hsd⟩ | ⟨hs, hk, hs2, hsd⟩ | ⟨hs, hk, hs2, hsd⟩ | ⟨hs, hk, hs2, hsd⟩ | ⟨hs, hk, hs2, hsd⟩ | ⟨hs, hk, hs2, hsd⟩ | ⟨hs, hk, hs2, hsd⟩ | ⟨hs, hk, hs2, hsd⟩ | ⟨hs, hk, hs2, hsd⟩ | ⟨hs, hk, hs2, hsd⟩ | ⟨hs, hk, hs2, hsd⟩ | ⟨hs, hk, hs2, hsd⟩ | ⟨hs, hk, hs2, hsd⟩ | ⟨hs, hk, hs2, hsd⟩ | ⟨hs, hk, hs2, hsd⟩ | ⟨hs, hk, hs2, hsd⟩ | ⟨hs, hk, hs2, hsd⟩ | ⟨hs, hk, hs2, hsd⟩ | ⟨hs, hk, hs2, hsd⟩ | ⟨hs, hk, hs2, hsd⟩ | ⟨hs, hk, hs2, hsd⟩ | ⟨hs, hk, hs2, hsd⟩ | ⟨hs, hk, hs2, hsd⟩ | ⟨hs, hk, hs2, hsd⟩ | ⟨hs, hk, hs2, hsd⟩ <;> first | exact absurd hs s7 | (rw [hs]; decide) | (rw [hs2] at h; exact absurd h (by decide))
      obtain ⟨a, b, c⟩ := inM t s8
      have n2 : ¬ cS (tr K t) = 2 := fun z => by rw [z] at s8; exact absurd s8 (by decide)
      rw [cM_k s7, cC_k n2]
      refine ⟨by omega, b, fun u h1 h2 => ?_⟩
      by_cases e : u = t + 1
      · subst e
        exact ⟨h, cM_k s7, cC_k n2⟩
      · exact c u h1 (by omega)
end INV
