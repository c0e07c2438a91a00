/-! the machine that reads the tokens -/
theorem q_LL {a b : Nat} (ha : (OfNat.ofNat a : Nat) < 2147483648) (hb : (OfNat.ofNat b : Nat) < 2147483648) : ((OfNat.ofNat a : Int32) = (OfNat.ofNat b : Int32)) ↔ ((OfNat.ofNat a : Nat) = (OfNat.ofNat b : Nat)) := nI_eq ha hb
theorem q_LLt {a b : Nat} (ha : (OfNat.ofNat a : Nat) < 2147483648) (hb : (OfNat.ofNat b : Nat) < 2147483648) : ((OfNat.ofNat a : Int32) < (OfNat.ofNat b : Int32)) ↔ ((OfNat.ofNat a : Nat) < (OfNat.ofNat b : Nat)) := nI_ltI ha hb
theorem q_LLe {a b : Nat} (ha : (OfNat.ofNat a : Nat) < 2147483648) (hb : (OfNat.ofNat b : Nat) < 2147483648) : ((OfNat.ofNat a : Int32) ≤ (OfNat.ofNat b : Int32)) ↔ ((OfNat.ofNat a : Nat) ≤ (OfNat.ofNat b : Nat)) := nI_leI ha hb
/-- state; depth; openers; whether = may come; classes; method; statement -/
abbrev Cfg : Type := Int32 × Nat × (Nat → Int32) × Bool × Nat × Nat × Nat
abbrev cS (c : Cfg) : Int32 := c.1
abbrev cD (c : Cfg) : Nat := c.2.1
abbrev cO (c : Cfg) : Nat → Int32 := c.2.2.1
abbrev cE (c : Cfg) : Bool := c.2.2.2.1
abbrev cC (c : Cfg) : Nat := c.2.2.2.2.1
abbrev cM (c : Cfg) : Nat := c.2.2.2.2.2.1
abbrev cB (c : Cfg) : Nat := c.2.2.2.2.2.2
def opr (k : Int32) (d : Nat) : Int32 := if k = 1 then 20 else if k = 2 then 22 else if k = 7 then 18 else if k = 8 then 22 else if k = 40 then (if d < 8 then 17 else 0) else 0
def tal (k : Int32) (d : Nat) (call e : Bool) : Int32 := if k = 41 then (if d = 0 then 0 else 22) else if k = 43 then 17 else if k = 44 then (if call = true then 17 else 0) else if k = 46 then 19 else if k = 59 then (if d = 0 then 14 else 0) else if k = 61 then (if d = 0 then (if e = true then 17 else 0) else 0) else 0
def nxt (s k k2 : Int32) (d : Nat) (call e : Bool) : Int32 :=
  if s = 1 then (if k = 4 then 2 else 0)
  else if s = 2 then (if k = 1 then 3 else 0)
  else if s = 3 then (if k = 5 then 4 else if k = 123 then 6 else 0)
  else if s = 4 then (if k = 1 then 5 else 0)
  else if s = 5 then (if k = 123 then 6 else 0)
  else if s = 6 then (if k = 125 then 1 else if k = 3 then 7 else if k = 1 then 7 else 0)
  else if s = 7 then (if k = 1 then 8 else 0)
  else if s = 8 then (if k = 40 then 9 else if k = 59 then 6 else 0)
  else if s = 9 then (if k = 41 then 13 else if k = 3 then 11 else if k = 1 then 11 else 0)
  else if s = 10 then (if k = 3 then 11 else if k = 1 then 11 else 0)
  else if s = 11 then (if k = 1 then 12 else 0)
  else if s = 12 then (if k = 44 then 10 else if k = 41 then 13 else 0)
  else if s = 13 then (if k = 123 then 14 else 0)
  else if s = 14 then (if k = 125 then 6 else if k = 3 then 15 else if k = 1 ∧ k2 = 1 then 15 else if k = 6 then 17 else opr k d)
  else if s = 15 then (if k = 1 then 16 else 0)
  else if s = 16 then (if k = 61 then 17 else 0)
  else if s = 17 then opr k d
  else if s = 18 then (if k = 1 then 22 else 0)
  else if s = 19 then (if k = 1 then 20 else 0)
  else if s = 20 then (if k = 40 then (if d < 8 then 21 else 0) else tal k d call e)
  else if s = 21 then (if k = 41 then (if d = 0 then 0 else 22) else opr k d)
  else if s = 22 then tal k d call e else 0
def oprR (k : Int32) : Int32 := if k = 1 then 9 else if k = 2 then 13 else if k = 8 then 14 else if k = 40 then 21 else 0
def talR (k : Int32) : Int32 := if k = 41 then 24 else if k = 43 then 20 else if k = 44 then 23 else if k = 59 then 19 else if k = 61 then 18 else 0
/-- what a token does, but for a bracket behind it -/
def rb (s k k2 : Int32) : Int32 :=
  if s = 2 then 1 else if s = 4 then 6 else if s = 6 then (if k = 1 then 7 else 0) else if s = 7 then 2
  else if s = 9 then (if k = 1 then 7 else 0) else if s = 10 then (if k = 1 then 7 else 0) else if s = 11 then 4 else if s = 13 then 15
  else if s = 14 then (if k = 125 then 0 else if k = 3 then 0 else if k = 1 ∧ k2 = 1 then 7 else if k = 6 then 16 else oprR k)
  else if s = 15 then 5 else if s = 16 then 17 else if s = 17 then oprR k else if s = 18 then 8 else if s = 19 then 11
  else if s = 20 then (if k = 40 then 22 else talR k) else if s = 21 then (if k = 41 then 24 else oprR k) else if s = 22 then talR k else 0
def upR (r : Int32) : Int32 := if r = 9 then 10 else if r = 11 then 12 else if r = 2 then 3 else r
def opens (s k : Int32) : Prop := k = 40 ∧ (s = 14 ∨ s = 17 ∨ s = 20 ∨ s = 21)
def closes (s k : Int32) : Prop := k = 41 ∧ (s = 20 ∨ s = 21 ∨ s = 22)
abbrev opensD (s k : Int32) : Decidable (opens s k) := inferInstanceAs (Decidable (_ ∧ _))
abbrev closesD (s k : Int32) : Decidable (closes s k) := inferInstanceAs (Decidable (_ ∧ _))
def callB (c : Cfg) : Bool := decide (0 < cD c) && decide (¬ cO c (cD c - 1) = -1)
def dpt (s k : Int32) (d : Nat) : Nat := if k = 40 ∧ (s = 14 ∨ s = 17 ∨ s = 20 ∨ s = 21) then d + 1 else if k = 41 ∧ (s = 20 ∨ s = 21 ∨ s = 22) then d - 1 else d
def opn (s k : Int32) (d t : Nat) (o : Nat → Int32) : Nat → Int32 := if k = 40 ∧ (s = 14 ∨ s = 17 ∨ s = 20 ∨ s = 21) then (fun j => if j = d then (if s = 20 then nI (t - 1) else -1) else o j) else o
def eqm (s k k2 : Int32) (e : Bool) : Bool := if s = 14 then decide (¬ (k = 125 ∨ k = 3 ∨ (k = 1 ∧ k2 = 1) ∨ k = 6)) else if k = 61 ∧ (s = 20 ∨ s = 22) then false else e
def stp (K : Nat → Int32) (t : Nat) (c : Cfg) : Cfg :=
  (nxt (cS c) (K t) (K (t + 1)) (cD c) (callB c) (cE c), dpt (cS c) (K t) (cD c), opn (cS c) (K t) (cD c) t (cO c), eqm (cS c) (K t) (K (t + 1)) (cE c), (if cS c = 2 then cC c + 1 else cC c), (if cS c = 7 then t else cM c), (if cS c = 13 ∨ (K t = 59 ∧ (cS c = 20 ∨ cS c = 22)) then t + 1 else cB c))
def tr (K : Nat → Int32) : Nat → Cfg
  | 0 => (1, 0, fun _ => -1, false, 0, 0, 0)
  | t + 1 => stp K t (tr K t)
def rbT (K : Nat → Int32) (u : Nat) : Int32 := rb (cS (tr K u)) (K u) (K (u + 1))
def ro (K : Nat → Int32) (u : Nat) : Int32 := if K (u + 1) = 40 then upR (rbT K u) else rbT K u
/-- arguments of a name, or parameters, are counted here -/
def cnt (K : Nat → Int32) (t x : Nat) : Prop := x < 121 ∧ ((cS (tr K t) = 11 ∧ x = cM (tr K t)) ∨ ((cS (tr K t) = 21 ∧ ¬ K t = 41) ∧ callB (tr K t) = true ∧ cO (tr K t) (cD (tr K t) - 1) = nI x) ∨ (((cS (tr K t) = 20 ∨ cS (tr K t) = 22) ∧ K t = 44) ∧ callB (tr K t) = true ∧ cO (tr K t) (cD (tr K t) - 1) = nI x))
noncomputable def ac (K : Nat → Int32) : Nat → Nat → Nat
  | 0, _ => 0
  | t + 1, x => ac K t x + (have := Classical.propDecidable (cnt K t x); if cnt K t x then 1 else 0)
theorem ac_y {K : Nat → Int32} {t x : Nat} (h : cnt K t x) : ac K (t + 1) x = ac K t x + 1 := by
  show ac K t x + _ = _
  rw [if_pos h]
theorem ac_n {K : Nat → Int32} {t x : Nat} (h : ¬ cnt K t x) : ac K (t + 1) x = ac K t x := by
  show ac K t x + _ = _
  rw [if_neg h, Nat.add_zero]
def S22 (s : Int32) : Prop := s = 1 ∨ s = 2 ∨ s = 3 ∨ s = 4 ∨ s = 5 ∨ s = 6 ∨ s = 7 ∨ s = 8 ∨ s = 9 ∨ s = 10 ∨ s = 11 ∨ s = 12 ∨ s = 13 ∨ s = 14 ∨ s = 15 ∨ s = 16 ∨ s = 17 ∨ s = 18 ∨ s = 19 ∨ s = 20 ∨ s = 21 ∨ s = 22
theorem opr_mem (k : Int32) (d : Nat) : opr k d = 0 ∨ S22 (opr k d) := by
  unfold opr S22
  (repeat' split) <;> simp
theorem tal_mem (k : Int32) (d : Nat) (call e : Bool) : tal k d call e = 0 ∨ S22 (tal k d call e) := by
  unfold tal S22
  (repeat' split) <;> simp
theorem nxt_mem (s k k2 : Int32) (d : Nat) (call e : Bool) : nxt s k k2 d call e = 0 ∨ S22 (nxt s k k2 d call e) := by
  have h1 := opr_mem k d
  have h2 := tal_mem k d call e
  by_cases hs : S22 s
  · unfold S22 at hs
    rcases hs with rfl | rfl | rfl | rfl | rfl | rfl | rfl | rfl | rfl | rfl | rfl | rfl | rfl | rfl | rfl | rfl | rfl | rfl | rfl | rfl | rfl | rfl <;> simp [nxt] <;> (repeat' split) <;> first | exact h1 | exact h2 | assumption | (simp [S22]; done) | (simp_all [S22]; done)
  · left
    unfold S22 at hs
    simp only [not_or] at hs
    unfold nxt
    simp [hs]
theorem tr_mem (K : Nat → Int32) : ∀ t, cS (tr K t) = 0 ∨ S22 (cS (tr K t))
  | 0 => Or.inr (Or.inl rfl)
  | t + 1 => nxt_mem _ _ _ _ _ _
theorem nxt0 (k k2 : Int32) (d : Nat) (call e : Bool) : nxt 0 k k2 d call e = 0 := by unfold nxt; simp
/-- whoever lives lived before -/
theorem tr_alive {K : Nat → Int32} {t : Nat} (h : cS (tr K (t + 1)) ≠ 0) : cS (tr K t) ≠ 0 := by
  intro h0
  apply h
  show nxt (cS (tr K t)) _ _ _ _ _ = 0
  rw [h0]
  exact nxt0 _ _ _ _ _
theorem tr_alive' {K : Nat → Int32} {u : Nat} : ∀ {t : Nat}, u ≤ t → cS (tr K t) ≠ 0 → cS (tr K u) ≠ 0
  | 0, h, a => by rw [show u = 0 by omega]; exact a
  | t + 1, h, a => by
    by_cases e : u = t + 1
    · rw [e]; exact a
    · exact tr_alive' (t := t) (by omega) (tr_alive a)
/-- the roles 9 and 11 lead to the state 20, and 2 to 8 -/
theorem rb_20 {s k k2 : Int32} {d : Nat} {call e : Bool} (hs : S22 s) (h : nxt s k k2 d call e ≠ 0) : ((rb s k k2 = 9 ∨ rb s k k2 = 11) ↔ nxt s k k2 d call e = 20) ∧ (rb s k k2 = 2 ↔ nxt s k k2 d call e = 8) := by
  unfold S22 at hs
  rcases hs with rfl | rfl | rfl | rfl | rfl | rfl | rfl | rfl | rfl | rfl | rfl | rfl | rfl | rfl | rfl | rfl | rfl | rfl | rfl | rfl | rfl | rfl <;> revert h <;> simp [nxt, rb, opr, oprR, tal, talR] <;> (repeat' split) <;> simp_all
