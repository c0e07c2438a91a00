/-! lists of members: a sorted list, and the rank of what stands in it -/
theorem cn_ins {P Q : Nat → Bool} {x : Nat} : ∀ {j t : Nat}, t ≤ x → x < t + j → P x = false → Q x = true → (∀ w, w ≠ x → P w = Q w) → cn Q j t = cn P j t + 1
  | 0, t, h1, h2, _, _, _ => by omega
  | j + 1, t, h1, h2, h3, h4, h5 => by
    unfold cn
    by_cases e : t = x
    · rw [e, if_pos h4, if_neg (by rw [h3]; decide), cn_ext (P := Q) (Q := P) (fun u u1 u2 => (h5 u (by omega)).symm)]
      omega
    · rw [← h5 t e, cn_ins (P := P) (Q := Q) (j := j) (t := t + 1) (by omega) (by omega) h3 h4 h5]
      omega
theorem cn_mono {P Q : Nat → Bool} : ∀ {j t : Nat}, (∀ u, t ≤ u → u < t + j → P u = true → Q u = true) → cn P j t ≤ cn Q j t
  | 0, _, _ => Nat.le_refl _
  | j + 1, t, h => by
    unfold cn
    have := cn_mono (P := P) (Q := Q) (j := j) (t := t + 1) (fun u h1 h2 => h u (by omega) (by omega))
    by_cases e : P t = true
    · rw [if_pos e, if_pos (h t (Nat.le_refl _) (by omega) e)]; omega
    · rw [if_neg e]; omega
theorem cn_slt {P Q : Nat → Bool} {x j t : Nat} (h1 : t ≤ x) (h2 : x < t + j) (h3 : P x = false) (h4 : Q x = true) (h : ∀ u, P u = true → Q u = true) : cn P j t < cn Q j t := by
  have a := cn_ins (P := P) (Q := fun w => if w = x then true else P w) (x := x) (j := j) (t := t) h1 h2 h3 (by rw [if_pos rfl]) (fun w hw => by rw [if_neg hw])
  have b := cn_mono (P := fun w => if w = x then true else P w) (Q := Q) (j := j) (t := t) (fun u _ _ hu => by
    by_cases e : u = x
    · rw [e]; exact h4
    · have : (if u = x then true else P u) = true := hu
      rw [if_neg e] at this
      exact h u this)
  omega
def rk (V : Nat → Int) (P : Nat → Bool) (N u : Nat) : Nat := cn (fun w => P w && decide (V w < V u)) N 0
def LI (V : Nat → Int) (P : Nat → Bool) (N k : Nat) (A : Nat → Int32) : Prop := k = cn P N 0 ∧ (∀ u, P u = true → u < N) ∧ (∀ u w, P u = true → P w = true → V u = V w → u = w) ∧ ∀ i, i < k → ∃ u, A i = nI u ∧ P u = true ∧ rk V P N u = i
section LST
variable {V : Nat → Int} {P : Nat → Bool} {N k : Nat} {Ar : Nat → Int32}
theorem rk_lt {u w : Nat} (hu : u < N) (pu : P u = true) (l : V u < V w) : rk V P N u < rk V P N w := by
  refine cn_slt (x := u) (Nat.zero_le _) (by omega) ?_ ?_ (fun v hv => ?_)
  · rw [pu]; simp
  · rw [pu]; simpa using l
  · simp only [Bool.and_eq_true, decide_eq_true_eq] at hv ⊢
    exact ⟨hv.1, by omega⟩
theorem rk_uq {u w : Nat} (hu : u < N) (hw : w < N) (pu : P u = true) (pw : P w = true) (e : rk V P N u = rk V P N w) : V u = V w := by
  by_cases a : V u < V w
  · have := rk_lt hu pu a; omega
  · by_cases b : V w < V u
    · have := rk_lt hw pw b; omega
    · omega
theorem rk_k {u : Nat} (hu : u < N) (pu : P u = true) : rk V P N u < cn P N 0 := by
  refine cn_slt (x := u) (Nat.zero_le _) (by omega) ?_ pu (fun v hv => ?_)
  · simp
  · simp only [Bool.and_eq_true] at hv
    exact hv.1
theorem LI.at (h : LI V P N k Ar) {w : Nat} (pw : P w = true) : rk V P N w < k ∧ Ar (rk V P N w) = nI w := by
  obtain ⟨h1, h2, h3, h4⟩ := h
  have l := rk_k (V := V) (h2 w pw) pw
  rw [← h1] at l
  obtain ⟨u, a, b, c⟩ := h4 _ l
  have := h3 u w b pw (rk_uq (h2 u b) (h2 w pw) b pw c)
  subst this
  exact ⟨l, a⟩
def LFr (σ σ' : Sto) : Prop := σ'.1 = σ.1 ∧ σ'.2.2 = σ.2.2 ∧ ∀ a, a ≠ 15 → σ'.2.1 a = σ.2.1 a
theorem LFr.refl (σ : Sto) : LFr σ σ := ⟨rfl, rfl, fun _ _ => rfl⟩
theorem LFr.A {σ σ' : Sto} {i : Nat} {v : Int32} (h : LFr σ σ') : LFr σ (sA σ' 15 i v) := ⟨h.1, h.2.1, fun a ha => by rw [q_An ha]; exact h.2.2 a ha⟩
theorem LFr.trans {a b c : Sto} (h : LFr a b) (g : LFr b c) : LFr a c := ⟨g.1.trans h.1, g.2.1.trans h.2.1, fun x p => (g.2.2 x p).trans (h.2.2 x p)⟩
theorem cmp_le (x y : Int64) : lg_cmp x y ≤ 0 ↔ x.toInt ≤ y.toInt := by
  unfold lg_cmp
  by_cases a : x > y
  · rw [if_pos a]
    have : y.toInt < x.toInt := Int64.lt_iff_toInt_lt.mp a
    constructor
    · intro h; exact absurd h (by decide)
    · intro h; omega
  · rw [if_neg a]
    have : ¬ y.toInt < x.toInt := fun z => a (Int64.lt_iff_toInt_lt.mpr z)
    constructor
    · intro _; omega
    · intro _
      by_cases e : x = y
      · rw [if_pos e]; decide
      · rw [if_neg e]; decide
theorem cmp_ge (x y : Int64) : 0 ≤ lg_cmp x y ↔ y.toInt ≤ x.toInt := by
  unfold lg_cmp
  by_cases a : x > y
  · rw [if_pos a]
    have : y.toInt < x.toInt := Int64.lt_iff_toInt_lt.mp a
    constructor
    · intro _; omega
    · intro _; decide
  · rw [if_neg a]
    have : ¬ y.toInt < x.toInt := fun z => a (Int64.lt_iff_toInt_lt.mpr z)
    by_cases e : x = y
    · rw [if_pos e, e]; simp
    · rw [if_neg e]
      constructor
      · intro h; exact absurd h (by decide)
      · intro h
        exact absurd (Int64.toInt_inj.mp (by omega)) e
/-- a token is put into its place -/
theorem ins_L {σ : Sto} {x : Nat} (hN : N ≤ 121) (xN : x < N) (hk : k ≤ 120) (hA : ∀ i, i < k → ∃ u, σ.2.1 15 i = nI u ∧ u < N) : ∀ (j fuel : Nat) (σ1 : Sto), j ≤ k → j < fuel → LFr σ σ1 → (∀ i, i < j → σ1.2.1 15 i = σ.2.1 15 i) → (∀ i, j ≤ i → i < k → σ1.2.1 15 (i + 1) = σ.2.1 15 i) → (∀ i u, j ≤ i → i < k → σ.2.1 15 i = nI u → u < N → (σ.2.2 x).toInt < (σ.2.2 u).toInt) → ∃ (σ' : Sto) (r : Nat), p_Outline_list_L12 (nI x) (nI k) fuel σ1 (nI j) = some σ' ∧ LFr σ σ' ∧ r ≤ k ∧ (∀ i, i < r → σ'.2.1 15 i = σ.2.1 15 i) ∧ σ'.2.1 15 r = nI x ∧ (∀ i, r ≤ i → i < k → σ'.2.1 15 (i + 1) = σ.2.1 15 i) ∧ (∀ i u, r ≤ i → i < k → σ.2.1 15 i = nI u → u < N → (σ.2.2 x).toInt < (σ.2.2 u).toInt) ∧ (r = 0 ∨ ∃ u, σ.2.1 15 (r - 1) = nI u ∧ u < N ∧ (σ.2.2 u).toInt ≤ (σ.2.2 x).toInt) := by
  intro j
  induction j with
  | zero =>
    intro fuel σ1 hj hf fr lo hi gt
    obtain ⟨m, rfl⟩ : ∃ m, fuel = m + 1 := ⟨fuel - 1, by omega⟩
    refine ⟨sA σ1 15 0 (nI x), 0, ?_, fr.A, Nat.zero_le _, fun i h => by omega, by rw [q_A2, if_pos rfl, if_pos rfl], fun i h1 h2 => ?_, fun i u h1 h2 => gt i u h1 h2, Or.inl rfl⟩
    · unfold p_Outline_list_L12
      rw [if_pos (by decide), if_pos (by decide)]
      rfl
    · rw [q_A2, if_pos rfl, if_neg (by omega)]
      exact hi i h1 h2
  | succ j ih =>
    intro fuel σ1 hj hf fr lo hi gt
    obtain ⟨m, rfl⟩ : ∃ m, fuel = m + 1 := ⟨fuel - 1, by omega⟩
    obtain ⟨u, au, uN⟩ := hA j (by omega)
    have a1 : σ1.2.1 15 j = nI u := (lo j (by omega)).trans au
    have cmp := cmp_le (σ.2.2 u) (σ.2.2 x)
    unfold p_Outline_list_L12
    rw [if_neg (fun z => by have : j + 1 ≤ 0 := (q_leL (by omega) (by decide)).mp z; omega)]
    simp only [show nI (j + 1) - 1 = nI j from q_subL (by omega), if_pos (q_inR (show j < 121 by omega) (by decide : 121 < 2147483648)), q_tn (show j < 2147483648 by omega), a1, if_pos (q_inR (show u < 121 by omega) (by decide : 121 < 2147483648)), if_pos (q_inR (show x < 121 by omega) (by decide : 121 < 2147483648)), q_tn (show u < 2147483648 by omega), q_tn (show x < 2147483648 by omega), fr.2.1, if_pos (q_inR (show j + 1 < 121 by omega) (by decide : 121 < 2147483648)), q_tn (show j + 1 < 2147483648 by omega), q_dec (show 1 ≤ j + 1 by omega), Nat.add_sub_cancel]
    by_cases c : (σ.2.2 u).toInt ≤ (σ.2.2 x).toInt
    · rw [if_pos (cmp.mpr c)]
      refine ⟨sA σ1 15 (j + 1) (nI x), j + 1, rfl, fr.A, hj, fun i h => ?_, by rw [q_A2, if_pos rfl, if_pos rfl], fun i h1 h2 => ?_, fun i u h1 h2 => gt i u h1 h2, Or.inr ⟨u, au, uN, c⟩⟩
      · rw [q_A2, if_pos rfl, if_neg (by omega)]; exact lo i h
      · rw [q_A2, if_pos rfl, if_neg (by omega)]; exact hi i h1 h2
    · rw [if_neg (fun z => c (cmp.mp z))]
      refine ih m _ (by omega) (by omega) fr.A (fun i h => ?_) (fun i h1 h2 => ?_) (fun i v h1 h2 h3 h4 => ?_)
      · rw [q_A2, if_pos rfl, if_neg (by omega)]; exact lo i (by omega)
      · rw [q_A2, if_pos rfl]
        by_cases e : i = j
        · rw [if_pos (by omega), e]; exact au.symm
        · rw [if_neg (by omega)]; exact hi i (by omega) h2
      · by_cases e : i = j
        · rw [e, au] at h3
          have : u = v := (q_eq (by omega) (by omega)).mp h3
          subst this
          omega
        · exact gt i v (by omega) h2 h3 h4
theorem LI.ins {σ : Sto} {x : Nat} (hN : N ≤ 121) (hV : ∀ u, u < N → V u = (σ.2.2 u).toInt) (xN : x < N) (px : P x = false) (nx : ∀ u, P u = true → V u ≠ V x) (h : LI V P N k (σ.2.1 15)) : ∃ σ', p_Outline_list σ (nI x) (nI k) = some σ' ∧ LFr σ σ' ∧ LI V (fun w => decide (w = x) || P w) N (k + 1) (σ'.2.1 15) := by
  have h0 := h
  obtain ⟨h1, h2, h3, h4⟩ := h
  have cs := cn_ins (P := P) (Q := fun w => decide (w = x) || P w) (x := x) (j := N) (t := 0) (Nat.zero_le _) (by omega) px (by simp) (fun w hw => by simp [hw])
  have cl := cn_le (fun w => decide (w = x) || P w) N 0
  have k120 : k ≤ 120 := by omega
  obtain ⟨σ', r, e, fr, rk', lo, mi, hi, gt, st⟩ := ins_L (σ := σ) (k := k) hN xN k120 (fun i hi => by
    obtain ⟨u, a, b, _⟩ := h4 i hi
    exact ⟨u, a, h2 u b⟩) k FU σ (Nat.le_refl _) (by unfold FU; omega) (LFr.refl σ) (fun _ _ => rfl) (fun i a b => by omega) (fun i u a b => by omega)
  refine ⟨σ', ?_, fr, ?_⟩
  · unfold p_Outline_list
    rw [if_neg (fun z => by
      have : (120 : Int32) < nI k := z
      have : 120 < k := (q_Llt (by decide) (by omega)).mp this
      omega)]
    exact e
  -- what stands before
  have lt : ∀ u, P u = true → rk V P N u < r → V u < V x := fun u pu ur => by
    rcases st with z | ⟨v, v1, v2, v3⟩
    · omega
    · obtain ⟨w, w1, w2, w3⟩ := h4 (r - 1) (by omega)
      rw [v1] at w1
      have : v = w := (q_eq (by omega) (by have := h2 w w2; omega)).mp w1
      subst this
      have n := nx u pu
      have vv : V v ≤ V x := by rw [hV v v2, hV x xN]; exact v3
      by_cases l : V v < V u
      · have := rk_lt (V := V) (N := N) v2 w2 l; omega
      · omega
  have ge : ∀ u, P u = true → r ≤ rk V P N u → V x < V u := fun u pu ur => by
    obtain ⟨a, b⟩ := h0.at pu
    rw [hV x xN, hV u (h2 u pu)]
    exact gt _ u ur a b (h2 u pu)
  refine ⟨by rw [h1]; exact cs.symm, fun u hu => ?_, fun u w hu hw q => ?_, fun i hi' => ?_⟩
  · simp only [Bool.or_eq_true, decide_eq_true_eq] at hu
    rcases hu with z | z
    · rw [z]; exact xN
    · exact h2 u z
  · simp only [Bool.or_eq_true, decide_eq_true_eq] at hu hw
    rcases hu with z | z
    · rcases hw with y | y
      · rw [z, y]
      · rw [z] at q
        exact absurd q.symm (nx w y)
    · rcases hw with y | y
      · rw [y] at q
        exact absurd q (nx u z)
      · exact h3 u w z y q
  · by_cases l : i < r
    · obtain ⟨u, a, b, c⟩ := h4 i (by omega)
      refine ⟨u, (lo i l).trans a, by simp [b], ?_⟩
      have vx := lt u b (by omega)
      rw [← c]
      unfold rk
      refine cn_ext (fun w _ _ => ?_)
      by_cases ew : w = x
      · rw [ew, px]; simp; omega
      · simp [ew]
    · by_cases l2 : i = r
      · refine ⟨x, by rw [l2]; exact mi, by simp, ?_⟩
        rw [l2]
        have e1 : rk V (fun w => decide (w = x) || P w) N x = cn (fun w => P w && decide (V w < V x)) N 0 := by
          unfold rk
          refine cn_ext (fun w _ _ => ?_)
          by_cases ew : w = x
          · rw [ew, px]; simp
          · simp [ew]
        rw [e1]
        by_cases r0 : r = 0
        · rw [r0]
          refine cn_0 (fun u _ _ => ?_)
          cases pu : P u
          · rfl
          · have := ge u pu (by omega)
            simp; omega
        · obtain ⟨u, a, b, c⟩ := h4 (r - 1) (by omega)
          have vu := lt u b (by omega)
          have := cn_ins (P := fun w => P w && decide (V w < V u)) (Q := fun w => P w && decide (V w < V x)) (x := u) (j := N) (t := 0) (Nat.zero_le _) (by have := h2 u b; omega) (by simp) (by simp [b, vu]) (fun w hw => by
            cases pw : P w
            · rfl
            · show (true && decide (V w < V u)) = (true && decide (V w < V x))
              rw [Bool.true_and, Bool.true_and]
              by_cases l3 : V w < V u
              · rw [decide_eq_true l3, decide_eq_true (show V w < V x by omega)]
              · rw [decide_eq_false l3]
                have nq : V w ≠ V u := fun z => hw (h3 w u pw b z)
                have := rk_lt (V := V) (P := P) (N := N) (u := u) (w := w) (h2 u b) b (by omega)
                have := ge w pw (by omega)
                rw [decide_eq_false (by omega)])
          have cu : cn (fun w => P w && decide (V w < V u)) N 0 = r - 1 := c
          rw [this, cu]
          omega
      · obtain ⟨u, a, b, c⟩ := h4 (i - 1) (by omega)
        have hh := hi (i - 1) (by omega) (by omega)
        rw [show i - 1 + 1 = i by omega] at hh
        refine ⟨u, hh.trans a, by simp [b], ?_⟩
        have vx := ge u b (by omega)
        have := cn_ins (P := fun w => P w && decide (V w < V u)) (Q := fun w => (decide (w = x) || P w) && decide (V w < V u)) (x := x) (j := N) (t := 0) (Nat.zero_le _) (by omega) (by rw [px]; rfl) (by simp [vx]) (fun w hw => by simp [hw])
        have cu : cn (fun w => P w && decide (V w < V u)) N 0 = i - 1 := c
        show cn (fun w => (decide (w = x) || P w) && decide (V w < V u)) N 0 = i
        rw [this, cu]
        omega
end LST
/-- the spelling, from the word -/
theorem shr_lt {a : Nat} (h : a < 2 ^ 63) : (lN a >>> ((56 : Int32).toInt64 &&& 63)) = lN (a / 2 ^ 56) := by
  apply wb_inj
  rw [Int64.toBitVec_shiftRight]
  show (lN a).toBitVec.sshiftRight (((56 : Int32).toInt64 &&& 63).toBitVec.smod 64).toNat = _
  rw [show (((56 : Int32).toInt64 &&& 63).toBitVec.smod 64).toNat = 56 by decide]
  have m : (lN a).toBitVec.msb = false := by
    rw [BitVec.msb_eq_decide, wb_tn (by omega)]
    simp; omega
  rw [BitVec.sshiftRight_eq_of_msb_false m]
  apply BitVec.eq_of_toNat_eq
  rw [BitVec.toNat_ushiftRight, wb_tn (by omega), wb_tn (by omega), Nat.shiftRight_eq_div_pow]
theorem algnL {w l : Nat} (h : wdO w l) (x0 : Int64) : ∀ (j i fuel : Nat), j + i = 8 - l → j < fuel → p_Mo_aligned_L5 x0 fuel (lN (w * 256 ^ i)) (nI i) = some (lN (w * 256 ^ (8 - l))) := by
  obtain ⟨b1, b2⟩ := wdO_lt h
  obtain ⟨a1, a2, a3, a4, a5⟩ := h
  have up : ∀ i, i ≤ 8 - l → w * 256 ^ i ≤ w * 256 ^ (8 - l) := fun i hi => Nat.mul_le_mul_left w (Nat.pow_le_pow_right (by decide) hi)
  have w1 : 1 ≤ w := Nat.le_trans (Nat.pow_pos (by decide)) a3
  have nz : ∀ i, 1 ≤ w * 256 ^ i := fun i => Nat.mul_le_mul w1 (Nat.pow_pos (by decide))
  intro j
  induction j with
  | zero =>
    intro i fuel hj hf
    obtain ⟨m, rfl⟩ : ∃ m, fuel = m + 1 := ⟨fuel - 1, by omega⟩
    have e : i = 8 - l := by omega
    subst e
    have lo : 256 ^ (l - 1) * 256 ^ (8 - l) ≤ w * 256 ^ (8 - l) := Nat.mul_le_mul_right _ a3
    rw [← Nat.pow_add, show l - 1 + (8 - l) = 7 by omega] at lo
    have n1 := nz (8 - l)
    unfold p_Mo_aligned_L5
    rw [if_neg (fun z => by have : 8 ≤ 8 - l := (q_Lle (by decide) (by omega)).mp z; omega), if_neg (fun z => by
      have := (q_cmp0 _ _).mp z
      have := (lN_inj (b := 0) (by omega) (by decide)).mp this
      omega), shr_lt b1, if_neg (fun z => by
      have := (q_cmp0 _ _).mp z
      have := (lN_inj (b := 0) (by omega) (by decide)).mp this
      omega)]
  | succ j ih =>
    intro i fuel hj hf
    obtain ⟨m, rfl⟩ : ∃ m, fuel = m + 1 := ⟨fuel - 1, by omega⟩
    have n1 := nz i
    have u1 := up (i + 1) (by omega)
    have s1 : w * 256 ^ (i + 1) = w * 256 ^ i * 256 := by rw [Nat.pow_succ, Nat.mul_assoc]
    have s56 : w * 256 ^ i < 2 ^ 55 := by omega
    unfold p_Mo_aligned_L5
    rw [if_neg (fun z => by have : 8 ≤ i := (q_Lle (by decide) (by omega)).mp z; omega), if_neg (fun z => by
      have := (q_cmp0 _ _).mp z
      have := (lN_inj (b := 0) (by omega) (by decide)).mp this
      omega), shr_lt (by omega), show w * 256 ^ i / 2 ^ 56 = 0 by omega, if_pos (show lg_cmp (lN 0) 0 = 0 from lg_cmp_rf 0), show ((8 : Int32).toInt64 &&& 63) = ((nI 8).toInt64 &&& 63) from rfl, wb_shl _ (by decide), show (2 : Nat) ^ 8 = 256 from rfl, ← s1, nI_1]
    exact ih (i + 1) m (by omega) (by omega)
theorem algn {w l : Nat} (h : wdO w l) : p_Mo_aligned (lN w) = some (lN (w * 256 ^ (8 - l))) := by
  have := algnL h (lN w) (8 - l) 0 FU (by omega) (by unfold FU; omega)
  rw [Nat.pow_zero, Nat.mul_one] at this
  exact this
