/-! chains of classes -/
theorem php : ∀ (M k : Nat) (f : Nat → Nat), (∀ i, i < k → f i < M) → (∀ i j, i < j → j < k → f i ≠ f j) → k ≤ M
  | 0, k, f, h, _ => by
    cases k with
    | zero => exact Nat.le_refl _
    | succ k => exact absurd (h 0 (by omega)) (Nat.not_lt_zero _)
  | M + 1, k, f, h, g => by
    by_cases e : ∃ i0, i0 < k ∧ f i0 = M
    · obtain ⟨i0, h1, h2⟩ := e
      have := php M (k - 1) (fun i => f (if i < i0 then i else i + 1)) (fun i hi => by
        by_cases c : i < i0
        · simp only [if_pos c]
          have q1 := h i (by omega)
          have q2 := g i i0 c h1
          omega
        · simp only [if_neg c]
          have q1 := h (i + 1) (by omega)
          have q2 := g i0 (i + 1) (by omega) (by omega)
          omega) (fun i j hij hj => by
        by_cases c : i < i0
        · by_cases c2 : j < i0
          · simp only [if_pos c, if_pos c2]; exact g i j hij (by omega)
          · simp only [if_pos c, if_neg c2]; exact g i (j + 1) (by omega) (by omega)
        · have c2 : ¬ j < i0 := by omega
          simp only [if_neg c, if_neg c2]; exact g (i + 1) (j + 1) (by omega) (by omega))
      omega
    · have := php M k f (fun i hi => by
        have q1 := h i hi
        have q2 : f i ≠ M := fun z => e ⟨i, hi, z⟩
        omega) g
      omega
theorem php2 {M : Nat} {f : Nat → Nat} (h : ∀ i, i ≤ M → f i < M) : ∃ a b, a < b ∧ b ≤ M ∧ f a = f b := Classical.byContradiction (fun z => by
  have := php M (M + 1) f (fun i hi => h i (by omega)) (fun i j hij hj e => z ⟨i, j, hij, by omega, e⟩)
  omega)
/-- step by step up a chain -/
def sq (f : Nat → Option Nat) (o : Option Nat) : Nat → Option Nat
  | 0 => o
  | i + 1 => (sq f o i).bind f
def lp (f : Nat → Option Nat) (c : Nat) : Nat → Option Nat → Bool
  | 0, _ => false
  | _ + 1, none => false
  | n + 1, some s => if s = c then true else lp f c n (f s)
theorem sq_s (f : Nat → Option Nat) (o : Option Nat) : ∀ i, sq f o (i + 1) = sq f (o.bind f) i
  | 0 => rfl
  | i + 1 => by
    show (sq f o (i + 1)).bind f = (sq f (o.bind f) i).bind f
    rw [sq_s f o i]
theorem sq_none (f : Nat → Option Nat) : ∀ i, sq f none i = none
  | 0 => rfl
  | i + 1 => by
    show (sq f none i).bind f = none
    rw [sq_none f i]; rfl
theorem lp_iff {f : Nat → Option Nat} {c : Nat} : ∀ {n : Nat} {o : Option Nat}, lp f c n o = true ↔ ∃ i, i < n ∧ sq f o i = some c
  | 0, o => by
    constructor
    · intro h; exact absurd h (by simp [lp])
    · rintro ⟨i, h, _⟩; omega
  | n + 1, none => by
    constructor
    · intro h; exact absurd h (by simp [lp])
    · rintro ⟨i, h, e⟩
      rw [sq_none] at e
      exact absurd e (by simp)
  | n + 1, some s => by
    unfold lp
    by_cases e : s = c
    · rw [if_pos e]
      exact ⟨fun _ => ⟨0, by omega, by rw [← e]; rfl⟩, fun _ => rfl⟩
    · rw [if_neg e, lp_iff]
      constructor
      · rintro ⟨i, h1, h2⟩
        exact ⟨i + 1, by omega, by rw [sq_s]; exact h2⟩
      · rintro ⟨i, h1, h2⟩
        cases i with
        | zero => exact absurd (Option.some.inj h2) e
        | succ i =>
          rw [sq_s] at h2
          exact ⟨i, by omega, h2⟩
theorem sq_pre {f : Nat → Option Nat} {o : Option Nat} : ∀ {i j : Nat}, i ≤ j → sq f o j ≠ none → sq f o i ≠ none
  | i, 0, h, g => by rw [show i = 0 by omega]; exact g
  | i, j + 1, h, g => by
    by_cases e : i = j + 1
    · rw [e]; exact g
    · refine sq_pre (j := j) (by omega) (fun z => g ?_)
      show (sq f o j).bind f = none
      rw [z]; rfl
theorem sq_add {f : Nat → Option Nat} {o : Option Nat} {a b : Nat} (h : sq f o a = sq f o b) : ∀ k, sq f o (a + k) = sq f o (b + k)
  | 0 => h
  | k + 1 => by
    show (sq f o (a + k)).bind f = (sq f o (b + k)).bind f
    rw [sq_add h k]
/-- all that is met is a class -/
def Cl (f : Nat → Option Nat) (M : Nat) : Prop := ∀ c s, c < M → f c = some s → s < M
theorem sq_cl {f : Nat → Option Nat} {M : Nat} (hf : Cl f M) {o : Option Nat} (ho : ∀ s, o = some s → s < M) : ∀ i s, sq f o i = some s → s < M
  | 0, s, h => ho s h
  | i + 1, s, h => by
    have h' : (sq f o i).bind f = some s := h
    cases q : sq f o i with
    | none => rw [q] at h'; exact absurd h' (by simp)
    | some r =>
      rw [q] at h'
      exact hf r s (sq_cl hf ho i r q) h'
/-- whoever walks longer than there are classes walks in a circle -/
theorem sq_php {f : Nat → Option Nat} {M : Nat} (hf : Cl f M) {o : Option Nat} (ho : ∀ s, o = some s → s < M) (h : sq f o M ≠ none) : ∃ a b, a < b ∧ b ≤ M ∧ sq f o a = sq f o b := by
  obtain ⟨a, b, h1, h2, h3⟩ := php2 (M := M) (f := fun i => (sq f o i).getD 0) (fun i hi => by
    cases q : sq f o i with
    | none => exact absurd q (sq_pre hi h)
    | some r => exact sq_cl hf ho i r q)
  refine ⟨a, b, h1, h2, ?_⟩
  have h3' : (sq f o a).getD 0 = (sq f o b).getD 0 := h3
  cases q1 : sq f o a with
  | none => exact absurd q1 (sq_pre (by omega) h)
  | some r =>
    cases q2 : sq f o b with
    | none => exact absurd q2 (sq_pre (by omega) h)
    | some r2 =>
      rw [q1, q2] at h3'
      have : r = r2 := h3'
      rw [this]
theorem sq_min {f : Nat → Option Nat} {M : Nat} (hf : Cl f M) {o : Option Nat} (ho : ∀ s, o = some s → s < M) {c : Nat} : ∀ i, sq f o i = some c → ∃ j, j < M ∧ sq f o j = some c := by
  intro i
  induction i using Nat.strongRecOn with
  | _ i ih =>
    intro h
    by_cases l : i < M
    · exact ⟨i, l, h⟩
    · have hM : sq f o M ≠ none := sq_pre (j := i) (by omega) (by rw [h]; simp)
      obtain ⟨a, b, h1, h2, h3⟩ := sq_php hf ho hM
      refine ih (a + (i - b)) (by omega) ?_
      rw [sq_add h3 (i - b), show b + (i - b) = i by omega]
      exact h
theorem lp_M {f : Nat → Option Nat} {M : Nat} (hf : Cl f M) {o : Option Nat} (ho : ∀ s, o = some s → s < M) {c n : Nat} (hn : M ≤ n) : lp f c n o = lp f c M o := by
  by_cases h : lp f c M o = true
  · rw [h]
    obtain ⟨i, h1, h2⟩ := lp_iff.mp h
    exact lp_iff.mpr ⟨i, by omega, h2⟩
  · have h' : lp f c M o = false := by simpa using h
    rw [h']
    by_cases g : lp f c n o = true
    · obtain ⟨i, h1, h2⟩ := lp_iff.mp g
      obtain ⟨j, h3, h4⟩ := sq_min hf ho i h2
      exact absurd (lp_iff.mpr ⟨j, h3, h4⟩) h
    · simpa using g
/-- a parent that is in no circle -/
def parF (f : Nat → Option Nat) (n : Nat) (c : Nat) : Option Nat := if lp f c n (f c) = true then none else f c
theorem parF_cl {f : Nat → Option Nat} {M n : Nat} (hf : Cl f M) : Cl (parF f n) M := by
  intro c s hc h
  unfold parF at h
  by_cases e : lp f c n (f c) = true
  · rw [if_pos e] at h; exact absurd h (by simp)
  · rw [if_neg e] at h; exact hf c s hc h
theorem sq_par {f : Nat → Option Nat} {n : Nat} {o : Option Nat} : ∀ i s, sq (parF f n) o i = some s → sq f o i = some s
  | 0, s, h => h
  | i + 1, s, h => by
    have h' : (sq (parF f n) o i).bind (parF f n) = some s := h
    cases q : sq (parF f n) o i with
    | none => rw [q] at h'; exact absurd h' (by simp)
    | some r =>
      rw [q] at h'
      have h2 : parF f n r = some s := h'
      show (sq f o i).bind f = some s
      rw [sq_par i r q]
      unfold parF at h2
      by_cases e : lp f r n (f r) = true
      · rw [if_pos e] at h2; exact absurd h2 (by simp)
      · rw [if_neg e] at h2; exact h2
theorem par_end {f : Nat → Option Nat} {M n : Nat} (hf : Cl f M) (hn : M ≤ n) {o : Option Nat} (ho : ∀ s, o = some s → s < M) : sq (parF f n) o M = none := Classical.byContradiction (fun h => by
  obtain ⟨a, b, h1, h2, h3⟩ := sq_php (parF_cl hf) ho h
  have nb : sq (parF f n) o (a + 1) ≠ none := sq_pre (by omega) h
  cases q : sq (parF f n) o a with
  | none => exact absurd q (sq_pre (by omega) h)
  | some r =>
    have e1 : sq (parF f n) o (a + 1) = parF f n r := by
      show (sq (parF f n) o a).bind (parF f n) = _
      rw [q]; rfl
    have e2 : ∀ k, sq f (some r) k = sq f o (a + k) := by
      intro k
      induction k with
      | zero => exact (sq_par a r q).symm
      | succ k ih =>
        show (sq f (some r) k).bind f = (sq f o (a + k)).bind f
        rw [ih]
    have e3 : sq f o b = some r := sq_par b r (by rw [← h3]; exact q)
    have e4 : sq f (f r) (b - a - 1) = some r := by
      have := e2 (b - a)
      rw [show a + (b - a) = b by omega, e3, show b - a = b - a - 1 + 1 by omega, sq_s] at this
      exact this
    have e5 : lp f r n (f r) = true := lp_iff.mpr ⟨b - a - 1, by omega, e4⟩
    apply nb
    rw [e1]
    unfold parF
    rw [if_pos e5])
theorem lp_stop {f : Nat → Option Nat} {M n c : Nat} {o : Option Nat} (h : sq f o M = none) (hn : M ≤ n) : lp f c n o = lp f c M o := by
  by_cases g : lp f c M o = true
  · rw [g]
    obtain ⟨i, h1, h2⟩ := lp_iff.mp g
    exact lp_iff.mpr ⟨i, by omega, h2⟩
  · have g' : lp f c M o = false := by simpa using g
    rw [g']
    by_cases q : lp f c n o = true
    · obtain ⟨i, h1, h2⟩ := lp_iff.mp q
      by_cases l : i < M
      · exact absurd (lp_iff.mpr ⟨i, l, h2⟩) g
      · exact absurd h (sq_pre (j := i) (by omega) (by rw [h2]; simp))
    · simpa using q
/-- the first find up a chain -/
def fm (f g : Nat → Option Nat) : Nat → Option Nat → Option Nat
  | 0, _ => none
  | _ + 1, none => none
  | n + 1, some s => (g s).elim (fm f g n (f s)) some
theorem fm_none (f g : Nat → Option Nat) (n : Nat) : fm f g n none = none := by cases n <;> rfl
theorem fm_stop {f g : Nat → Option Nat} : ∀ {M n : Nat} {o : Option Nat}, sq f o M = none → M ≤ n → fm f g n o = fm f g M o
  | 0, n, o, h, _ => by
    have : o = none := h
    rw [this, fm_none, fm_none]
  | M + 1, 0, o, h, hn => by omega
  | M + 1, n + 1, none, h, hn => by rw [fm_none, fm_none]
  | M + 1, n + 1, some s, h, hn => by
    rw [sq_s] at h
    show (g s).elim (fm f g n (f s)) some = (g s).elim (fm f g M (f s)) some
    rw [fm_stop (M := M) (n := n) (o := f s) h (by omega)]
theorem oI_neg {o : Option Nat} (ho : ∀ s, o = some s → s < 2147483648) : oI o < 0 ↔ o = none := by
  cases o with
  | none => exact ⟨fun _ => rfl, fun _ => by decide⟩
  | some s => exact ⟨fun h => absurd h (q_pos (ho s rfl)), fun h => absurd h (by simp)⟩
theorem oI_m1 {o : Option Nat} (ho : ∀ s, o = some s → s < 2147483648) : oI o = -1 ↔ o = none := by
  cases o with
  | none => exact ⟨fun _ => rfl, fun _ => rfl⟩
  | some s => exact ⟨fun h => absurd h (q_neg (ho s rfl)), fun h => absurd h (by simp)⟩
theorem tI_m2 {o : Option Nat} (ho : ∀ s, o = some s → s < 2147483648) : tI o = -2 ↔ o = none := by
  cases o with
  | none => exact ⟨fun _ => rfl, fun _ => rfl⟩
  | some s => exact ⟨fun h => absurd h (q_neg2 (ho s rfl)), fun h => absurd h (by simp)⟩
