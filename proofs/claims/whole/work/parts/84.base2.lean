/-! numbers and stores, for the pure part -/
theorem q_tn {t : Nat} (h : t < 2147483648) : (nI t).toNatClampNeg = t := nI_clamp h
theorem q_inR {t n : Nat} (h : t < n) (hn : n < 2147483648) : inR (nI t) n := vp_in_nI h hn
theorem q_inRI {t n : Nat} (ht : t < 2147483648) : inR (nI t) n ↔ t < n := by
  constructor
  · intro h
    have h2 := Nat.not_le.mp (fun q => h (Or.inr q))
    rwa [q_tn ht] at h2
  · intro h
    rintro (q | q)
    · exact nI_pos ht q
    · rw [q_tn ht] at q; omega
theorem q_le {a b : Nat} (ha : a < 2147483648) (hb : b < 2147483648) : nI a ≤ nI b ↔ a ≤ b := nI_leI ha hb
theorem q_lt {a b : Nat} (ha : a < 2147483648) (hb : b < 2147483648) : nI a < nI b ↔ a < b := nI_ltI ha hb
theorem q_eq {a b : Nat} (ha : a < 2147483648) (hb : b < 2147483648) : nI a = nI b ↔ a = b := nI_eq ha hb
theorem q_lit (k : Nat) : (OfNat.ofNat k : Int32) = nI (OfNat.ofNat k : Nat) := rfl
theorem q_Lle {k t : Nat} (hk : (OfNat.ofNat k : Nat) < 2147483648) (ht : t < 2147483648) : (OfNat.ofNat k : Int32) ≤ nI t ↔ (OfNat.ofNat k : Nat) ≤ t := nI_leI hk ht
theorem q_leL {k t : Nat} (ht : t < 2147483648) (hk : (OfNat.ofNat k : Nat) < 2147483648) : nI t ≤ (OfNat.ofNat k : Int32) ↔ t ≤ (OfNat.ofNat k : Nat) := nI_leI ht hk
theorem q_Llt {k t : Nat} (hk : (OfNat.ofNat k : Nat) < 2147483648) (ht : t < 2147483648) : (OfNat.ofNat k : Int32) < nI t ↔ (OfNat.ofNat k : Nat) < t := nI_ltI hk ht
theorem q_ltL {k t : Nat} (ht : t < 2147483648) (hk : (OfNat.ofNat k : Nat) < 2147483648) : nI t < (OfNat.ofNat k : Int32) ↔ t < (OfNat.ofNat k : Nat) := nI_ltI ht hk
theorem q_eqL {k t : Nat} (ht : t < 2147483648) (hk : (OfNat.ofNat k : Nat) < 2147483648) : nI t = (OfNat.ofNat k : Int32) ↔ t = (OfNat.ofNat k : Nat) := nI_eq ht hk
theorem q_Leq {k t : Nat} (hk : (OfNat.ofNat k : Nat) < 2147483648) (ht : t < 2147483648) : (OfNat.ofNat k : Int32) = nI t ↔ (OfNat.ofNat k : Nat) = t := nI_eq hk ht
theorem q_neg {t : Nat} (ht : t < 2147483648) : ¬ nI t = (-1 : Int32) := by
  intro h
  have := congrArg Int32.toInt h
  rw [nI_toInt ht] at this
  have h2 : (-1 : Int32).toInt = -1 := by decide
  omega
theorem q_neg2 {t : Nat} (ht : t < 2147483648) : ¬ nI t = (-2 : Int32) := by
  intro h
  have := congrArg Int32.toInt h
  rw [nI_toInt ht] at this
  have h2 : (-2 : Int32).toInt = -2 := by decide
  omega
theorem q_add (a b : Nat) : nI a + nI b = nI (a + b) := nI_add a b
theorem q_addL (a k : Nat) : nI a + (OfNat.ofNat k : Int32) = nI (a + (OfNat.ofNat k : Nat)) := nI_add a k
theorem q_sub {a b : Nat} (h : b ≤ a) : nI a - nI b = nI (a - b) := by
  have : nI a = nI (a - b) + nI b := by rw [nI_add, Nat.sub_add_cancel h]
  rw [this, Int32.add_sub_cancel]
theorem q_subL {a k : Nat} (h : (OfNat.ofNat k : Nat) ≤ a) : nI a - (OfNat.ofNat k : Int32) = nI (a - (OfNat.ofNat k : Nat)) := q_sub h
theorem q_dec {a : Nat} (h : 1 ≤ a) : nI a + (-1 : Int32) = nI (a - 1) := by
  rw [← q_subL h, Int32.sub_eq_add_neg]
theorem q_dec0 : nI 0 + (-1 : Int32) = -1 := by decide
theorem q_pos {t : Nat} (ht : t < 2147483648) : ¬ nI t < 0 := nI_pos ht
theorem q_mulL (k a : Nat) : (OfNat.ofNat k : Int32) * nI a = nI ((OfNat.ofNat k : Nat) * a) := by
  show Int32.ofNat k * Int32.ofNat a = Int32.ofNat (k * a)
  exact (Int32.ofNat_mul k a).symm
theorem q_0 : (0 : Int32) = nI 0 := rfl
theorem q_bd1 {α β : Type} {a : α} {f : α → Option β} : bd1 (some a) f = f a := rfl
theorem q_bd2 {α γ β : Type} {a : α} {b : γ} {f : α → γ → Option β} : bd2 (some (a, b)) f = f a b := rfl
theorem q_bd1n {α β : Type} {f : α → Option β} : bd1 none f = none := rfl
theorem q_bd2n {α γ β : Type} {f : α → γ → Option β} : bd2 none f = none := rfl
theorem q_bd1i {α β : Type} {c : Prop} [Decidable c] {a b : Option α} {f : α → Option β} : bd1 (if c then a else b) f = if c then bd1 a f else bd1 b f := by split <;> rfl
theorem q_bd2i {α γ β : Type} {c : Prop} [Decidable c] {a b : Option (α × γ)} {f : α → γ → Option β} : bd2 (if c then a else b) f = if c then bd2 a f else bd2 b f := by split <;> rfl
/-! reads of written stores -/
theorem q_S1 (σ : Sto) (k j : Nat) (v : Int32) : (sS σ k v).1 j = if j = k then v else σ.1 j := rfl
theorem q_S2 (σ : Sto) (k : Nat) (v : Int32) : (sS σ k v).2 = σ.2 := rfl
theorem q_A1 (σ : Sto) (a i : Nat) (v : Int32) : (sA σ a i v).1 = σ.1 := rfl
theorem q_A2 (σ : Sto) (a i : Nat) (v : Int32) (b j : Nat) : (sA σ a i v).2.1 b j = if b = a then (if j = i then v else σ.2.1 b j) else σ.2.1 b j := by
  unfold sA upd
  dsimp only
  split <;> rfl
theorem q_A3 (σ : Sto) (a i : Nat) (v : Int32) : (sA σ a i v).2.2 = σ.2.2 := rfl
theorem q_L1 (σ : Sto) (i : Nat) (v : Int64) : (sL σ i v).1 = σ.1 := rfl
theorem q_L2 (σ : Sto) (i : Nat) (v : Int64) : (sL σ i v).2.1 = σ.2.1 := rfl
theorem q_L3 (σ : Sto) (i : Nat) (v : Int64) (j : Nat) : (sL σ i v).2.2 j = if j = i then v else σ.2.2 j := rfl
theorem q_F1 (σ : Sto) (a : Nat) (v : Int32) : (sF σ a v).1 = σ.1 := rfl
theorem q_F2 (σ : Sto) (a : Nat) (v : Int32) (b j : Nat) : (sF σ a v).2.1 b j = if b = a then v else σ.2.1 b j := by
  unfold sF
  dsimp only
  split <;> rfl
theorem q_F3 (σ : Sto) (a : Nat) (v : Int32) : (sF σ a v).2.2 = σ.2.2 := rfl
theorem q_C1 (σ : Sto) (a sp dp n : Nat) : (sC σ a sp dp n).1 = σ.1 := rfl
theorem q_C2 (σ : Sto) (a sp dp n b j : Nat) : (sC σ a sp dp n).2.1 b j = if b = a then (if dp ≤ j ∧ j < dp + n then σ.2.1 b (sp + (j - dp)) else σ.2.1 b j) else σ.2.1 b j := by
  unfold sC va_cpy
  dsimp only
  split <;> rfl
theorem q_C3 (σ : Sto) (a sp dp n : Nat) : (sC σ a sp dp n).2.2 = σ.2.2 := rfl
theorem q_cmp0 (x y : Int64) : lg_cmp x y = 0 ↔ x = y := by
  unfold lg_cmp
  by_cases h1 : x > y
  · rw [if_pos h1]
    constructor
    · intro h; exact absurd h (by decide)
    · intro h; rw [h] at h1; exact absurd h1 (fun q => Int64.lt_irrefl q)
  · rw [if_neg h1]
    by_cases h2 : x = y
    · simp [h2]
    · rw [if_neg h2]
      constructor
      · intro h; exact absurd h (by decide)
      · intro h; exact absurd h h2
/-- a code of a character -/
def cdR (x : Int32) : Prop := (32 : Int32) ≤ x ∧ x ≤ 126
/-- the texts of the two sides: as long, and the same -/
def TX (σ μ : Sto) : Prop := ∃ n : Nat, n ≤ 240 ∧ σ.1 1 = nI n ∧ μ.1 1 = nI n ∧ ∀ i : Nat, i < n → σ.2.1 2 i = μ.2.1 1 i ∧ cdR (μ.2.1 1 i)
theorem z10 : ((1 : Int32) = 0) = False := by decide
theorem z00 : ((0 : Int32) = 0) = True := by decide
