/-! judging: small steps of both sides -/
section JPRE
variable {K : Nat → Int32} {N : Nat}
/-- no name opens two brackets -/
theorem opnD (hK : ∀ u, N ≤ u → K u = 0) (hN : N ≤ 121) : ∀ (t : Nat), cS (tr K t) ≠ 0 → ∀ i j x y, i < j → j < cD (tr K t) → cO (tr K t) i = nI x → cO (tr K t) j = nI y → x < 121 → y < 121 → x ≠ y
  | 0, _ => fun i j x y _ hj => absurd hj (Nat.not_lt_zero j)
  | t + 1, h => by
    have ih := opnD hK hN t (tr_alive h)
    have w4 := (WF_all t (tr_alive h)).2.2.2.1
    have w7 := (WF_all t (tr_alive h)).2.2.2.2.2.2.1
    have tN := alive_le hK h
    rw [trD, trO]
    unfold dpt opn
    intro i j x y hij hj hi hy xl yl
    by_cases c1 : K t = 40 ∧ (cS (tr K t) = 14 ∨ cS (tr K t) = 17 ∨ cS (tr K t) = 20 ∨ cS (tr K t) = 21)
    · rw [if_pos c1] at hj hi hy
      by_cases e : j = cD (tr K t)
      · simp only [if_pos e, if_neg (show ¬ i = cD (tr K t) by omega)] at hi hy
        by_cases s20 : cS (tr K t) = 20
        · rw [if_pos s20] at hy
          have t1 : 1 ≤ t := w7 (by rw [s20]; decide)
          have ey := (q_eq (by omega) (by omega)).mp hy
          rcases w4 i (by omega) with q | ⟨z, z1, z2⟩
          · rw [hi] at q; exact absurd q (q_neg (by omega))
          · rw [hi] at z2
            have := (q_eq (by omega) (by omega)).mp z2
            omega
        · rw [if_neg s20] at hy
          exact absurd hy.symm (q_neg (by omega))
      · simp only [if_neg e, if_neg (show ¬ i = cD (tr K t) by omega)] at hi hy
        exact ih i j x y hij (by omega) hi hy xl yl
    · rw [if_neg c1] at hj hi hy
      by_cases c2 : K t = 41 ∧ (cS (tr K t) = 20 ∨ cS (tr K t) = 21 ∨ cS (tr K t) = 22)
      · rw [if_pos c2] at hj
        exact ih i j x y hij (by omega) hi hy xl yl
      · rw [if_neg c2] at hj
        exact ih i j x y hij hj hi hy xl yl
/-- but for a comma, the number of arguments that are over stays -/
theorem ac_sub (hK : ∀ u, N ≤ u → K u = 0) (hN : N ≤ 121) {t x : Nat} (k : ¬ K t = 44) (s : ¬ cS (tr K t) = 11) : ac K (t + 1) x - 1 = ac K t x - 1 := by
  by_cases c : cnt K t x
  · rw [ac_y c]
    obtain ⟨xl, z⟩ := c
    rcases z with ⟨q, _⟩ | ⟨⟨q, _⟩, _, o⟩ | ⟨⟨_, q⟩, _⟩
    · exact absurd q s
    · have ha : cS (tr K t) ≠ 0 := by rw [q]; decide
      have tN := alive_le hK ha
      obtain ⟨w1, w2, w3⟩ := (WF_all t ha).2.2.1 q
      rw [o] at w3
      have e := (q_eq (by omega) (by omega)).mp w3
      have a0 : ac K (x + 1) x = 0 := ac_0 hK hN (Nat.le_refl _)
      have s20 := (prv (t := x + 1) (by rw [show x + 1 + 1 = t by omega]; exact ha)).2.2.2.2.2.1 (by rw [show x + 1 + 1 = t by omega]; exact q)
      have a1 : ac K (x + 1 + 1) x = ac K (x + 1) x := ac_n (fun z => by
        rcases z.2 with ⟨q, _⟩ | ⟨⟨q, _⟩, _⟩ | ⟨⟨_, q⟩, _⟩
        · rw [s20.1] at q; exact absurd q (by decide)
        · rw [s20.1] at q; exact absurd q (by decide)
        · rw [s20.2] at q; exact absurd q (by decide))
      rw [show t = x + 1 + 1 by omega, a1, a0]
    · exact absurd q k
  · rw [ac_n c]
/-- a comma counts for the innermost bracket alone -/
theorem ac_com (hK : ∀ u, N ≤ u → K u = 0) (hN : N ≤ 121) {t x l : Nat} (ha : cS (tr K t) ≠ 0) (k : K t = 44) (s : ¬ cS (tr K t) = 11) (hl : l < cD (tr K t)) (o : cO (tr K t) l = nI x) (xl : x < 121) : (l + 1 = cD (tr K t) → (cS (tr K t) = 20 ∨ cS (tr K t) = 22) → ac K (t + 1) x = ac K t x + 1) ∧ (¬ l + 1 = cD (tr K t) → ac K (t + 1) x = ac K t x) := by
  constructor
  · intro e q
    refine ac_y ⟨xl, Or.inr (Or.inr ⟨⟨q, k⟩, callB_t (by omega) ?_, ?_⟩)⟩
    · rw [show cD (tr K t) - 1 = l by omega, o]; exact q_neg (by omega)
    · rw [show cD (tr K t) - 1 = l by omega]; exact o
  · intro e
    refine ac_n (fun z => ?_)
    rcases z.2 with ⟨q, _⟩ | ⟨⟨q, _⟩, _, o2⟩ | ⟨_, _, o2⟩
    · exact s q
    · exact opnD hK hN t ha l (cD (tr K t) - 1) x x (by omega) (by omega) o o2 xl xl rfl
    · exact opnD hK hN t ha l (cD (tr K t) - 1) x x (by omega) (by omega) o o2 xl xl rfl
end JPRE
/-- the class's judge, one token -/
def cstp (σ : Sto) (t : Nat) : Option Sto := if (9 : Int32) ≤ σ.2.1 9 t then (if (15 : Int32) ≤ σ.2.1 9 t then (if (20 : Int32) ≤ σ.2.1 9 t then p_Judge_takeSign σ (nI t) (σ.2.1 9 t) else p_Judge_takeStatementSign σ (nI t) (σ.2.1 9 t)) else p_Judge_takeOperand σ (nI t) (σ.2.1 9 t)) else p_Judge_enter σ (nI t) (σ.2.1 9 t)
def crn : Nat → Sto → Nat → Option Sto
  | 0, σ, _ => some σ
  | k + 1, σ, t => bd1 (cstp σ t) fun σ' => crn k σ' (t + 1)
theorem crn_add : ∀ {a b : Nat} {σ σ' : Sto} {t : Nat}, crn a σ t = some σ' → crn (a + b) σ t = crn b σ' (t + a)
  | 0, b, σ, σ', t, h => by
    have := Option.some.inj h
    subst this
    rw [Nat.zero_add, Nat.add_zero]
  | a + 1, b, σ, σ', t, h => by
    rw [show a + 1 + b = a + b + 1 by omega]
    show bd1 (cstp σ t) (fun s => crn (a + b) s (t + 1)) = _
    have h' : bd1 (cstp σ t) (fun s => crn a s (t + 1)) = some σ' := h
    cases q : cstp σ t with
    | none => rw [q] at h'; exact absurd h' (by simp [bd1])
    | some s =>
      rw [q, q_bd1] at h'
      rw [q_bd1, crn_add h', show t + 1 + a = t + (a + 1) by omega]
theorem crn_1 {σ σ' : Sto} {t : Nat} (h : cstp σ t = some σ') : crn 1 σ t = some σ' := by
  show bd1 (cstp σ t) (fun s => crn 0 s (t + 1)) = some σ'
  rw [h]; rfl
theorem jdgL {N : Nat} (hN : N ≤ 121) : ∀ (k fuel t : Nat) (σ σ' : Sto), crn k σ t = some σ' → t + k ≤ N → k < fuel → (∀ j τ, j < k → crn j σ t = some τ → τ.1 3 = nI N) → p_Judge_judge_L17 fuel σ (nI t) = p_Judge_judge_L17 (fuel - k) σ' (nI (t + k)) := by
  intro k
  induction k with
  | zero =>
    intro fuel t σ σ' h _ _ _
    have := Option.some.inj h
    subst this
    rfl
  | succ k ih =>
    intro fuel t σ σ' h hk hf h3
    obtain ⟨n, rfl⟩ : ∃ n, fuel = n + 1 := ⟨fuel - 1, by omega⟩
    have h' : bd1 (cstp σ t) (fun s => crn k s (t + 1)) = some σ' := h
    cases q : cstp σ t with
    | none => rw [q] at h'; exact absurd h' (by simp [bd1])
    | some s =>
      rw [q, q_bd1] at h'
      have e3 : σ.1 3 = nI N := h3 0 σ (by omega) rfl
      have st : p_Judge_judge_L17 (n + 1) σ (nI t) = p_Judge_judge_L17 n s (nI (t + 1)) := by
        unfold cstp at q
        conv => lhs; unfold p_Judge_judge_L17
        rw [e3, if_neg (fun z => by have := (q_le (by omega) (by omega)).mp z; omega), if_pos (q_inR (by omega) (by decide))]
        simp only [q_tn (show t < 2147483648 by omega), nI_1]
        by_cases c1 : (9 : Int32) ≤ σ.2.1 9 t
        · rw [if_pos c1] at q ⊢
          by_cases c2 : (15 : Int32) ≤ σ.2.1 9 t
          · rw [if_pos c2] at q ⊢
            by_cases c3 : (20 : Int32) ≤ σ.2.1 9 t
            · rw [if_pos c3] at q ⊢; rw [q, q_bd1]
            · rw [if_neg c3] at q ⊢; rw [q, q_bd1]
          · rw [if_neg c2] at q ⊢; rw [q, q_bd1]
        · rw [if_neg c1] at q ⊢; rw [q, q_bd1]
      rw [st, ih n (t + 1) s σ' h' (by omega) (by omega) (fun j τ hj hτ => h3 (j + 1) τ (by omega) (by
        show bd1 (cstp σ t) (fun s => crn j s (t + 1)) = some τ
        rw [q, q_bd1]; exact hτ)), show n + 1 - (k + 1) = n - k by omega, show t + 1 + k = t + (k + 1) by omega]
theorem cbegin {σ : Sto} {D : Nat} (hD : σ.1 12 = nI D) (hD8 : D ≤ 8) (x : Int32) : p_Judge_begin σ x = some (sA (sA (sA σ 25 D x) 26 D x) 28 D 0) := by
  unfold p_Judge_begin
  simp only [q_A1, hD, if_pos (q_inR (show D < 9 by omega) (by decide : 9 < 2147483648)), q_tn (show D < 2147483648 by omega)]
  rfl
/-- a type that isn't right is noted -/
def cw (σ : Sto) (f : Nat) (b : Bool) : Sto := if b = true then σ else sA σ 17 f (σ.2.1 17 f ||| 512)
def mw (μ : Sto) (f : Nat) (b : Bool) : Sto := if b = true then μ else sA μ 13 f (μ.2.1 13 f ||| 512)
theorem cwant {K : Nat → Int32} {N : Nat} {W : Nat → Int64} {σ : Sto} (h : SC K N σ) (hp : ∀ c, c < cC (tr K N) → σ.2.1 14 c = oI (parF (abv K N W) 40 c)) {f : Nat} (hf : f < N) {x y : Int32} (hx : TV K N x) (hy : TV K N y) : p_Judge_want σ (nI f) x y = some (cw σ f (fitB K N W x y)) := by
  have hN := h.1
  unfold p_Judge_want cw
  rw [cfit h hp hx hy, q_bd1]
  cases fitB K N W x y
  · rw [if_pos (show b01 false = 0 from rfl), cmark (by omega), q_bd1, if_neg (by decide)]
    rfl
  · rw [if_neg (show ¬ b01 true = 0 by decide), if_pos rfl]
theorem mshould {K : Nat → Int32} {N : Nat} {μ : Sto} (h : SM K N μ) {f : Nat} (hf : f < 124) {x y : Int32} (hx : TV K N x) (hy : TV K N y) : p_Mo_should μ x y (nI f) = some (mw μ f (fitB K N μ.2.2 x y)) := by
  unfold p_Mo_should mw
  rw [mfit h hx hy, q_bd1]
  cases fitB K N μ.2.2 x y
  · rw [if_pos (show b01 false = 0 from rfl), mnote hf, q_bd1, if_neg (by decide)]
    rfl
  · rw [if_neg (show ¬ b01 true = 0 by decide), if_pos rfl]
section EV
variable {K : Nat → Int32} {N : Nat} {μ : Sto} {x1 : Int32} {t st D : Nat}
theorem ev_0 (h : SM K N μ) (ht : t < 124) (n : Nat) (k1 : ¬ K t = 1) (k2 : ¬ K t = 2) (k8 : ¬ K t = 8) : p_Mo_evaluate_L15 x1 (nI st) (n + 1) μ (nI t) 1 = bd2 (p_Mo_step μ (K t) (nI t)) fun v σ => if v = 0 then p_Mo_evaluate_L15 x1 (nI st) n σ (nI t) v else p_Mo_evaluate_L15 x1 (nI st) n σ (nI (t + 1)) v := by
  have kt := h.2.2.2.1 t ht
  conv => lhs; unfold p_Mo_evaluate_L15
  rw [if_neg (by decide), if_pos (q_inR ht (by decide))]
  simp only [q_tn (show t < 2147483648 by omega), kt]
  rw [if_neg k2]
  unfold p_Mo_evaluate_b44 p_Mo_evaluate_b66 p_Mo_evaluate_b96 p_Mo_evaluate_b128 p_Mo_evaluate_b129 p_Mo_evaluate_b154
  rw [if_neg k8, if_neg k1, if_neg k1, if_neg k1, if_pos rfl, nI_1]
/-- kinds that end no step -/
theorem stp_1 {x2 : Int32} {k : Int32} (h40 : ¬ k = 40) (h43 : ¬ k = 43) (h44 : ¬ k = 44) (h41 : ¬ k = 41) (h59 : ¬ k = 59) (h61 : ¬ k = 61) : p_Mo_step μ k x2 = some (1, μ) := by
  unfold p_Mo_step p_Mo_step_b157 p_Mo_step_b188
  rw [if_neg h40, if_neg h43, if_neg h44, if_neg h41, if_neg h41, if_neg h59, if_neg h61]
theorem ev_n (h : SM K N μ) (ht : t < 124) (n : Nat) (hk : K t = 7 ∨ K t = 46) : p_Mo_evaluate_L15 x1 (nI st) (n + 1) μ (nI t) 1 = p_Mo_evaluate_L15 x1 (nI st) n μ (nI (t + 1)) 1 := by
  rw [ev_0 h ht n (by rcases hk with z | z <;> rw [z] <;> decide) (by rcases hk with z | z <;> rw [z] <;> decide) (by rcases hk with z | z <;> rw [z] <;> decide), stp_1 (by rcases hk with z | z <;> rw [z] <;> decide) (by rcases hk with z | z <;> rw [z] <;> decide) (by rcases hk with z | z <;> rw [z] <;> decide) (by rcases hk with z | z <;> rw [z] <;> decide) (by rcases hk with z | z <;> rw [z] <;> decide) (by rcases hk with z | z <;> rw [z] <;> decide), q_bd2, if_neg (by decide)]
theorem ev_2 (h : SM K N μ) (ht : t < 124) (n : Nat) (hD : μ.1 7 = nI D) (hD9 : D < 10) (hk : K t = 2) : p_Mo_evaluate_L15 x1 (nI st) (n + 1) μ (nI t) 1 = p_Mo_evaluate_L15 x1 (nI st) n (sA μ 19 D (-1)) (nI (t + 1)) 1 := by
  have kt := h.2.2.2.1 t ht
  conv => lhs; unfold p_Mo_evaluate_L15
  rw [if_neg (by decide), if_pos (q_inR ht (by decide))]
  simp only [q_tn (show t < 2147483648 by omega), kt]
  rw [if_pos hk, hD, if_pos (q_inR hD9 (by decide)), q_tn (by omega)]
  unfold p_Mo_evaluate_b44 p_Mo_evaluate_b66 p_Mo_evaluate_b96 p_Mo_evaluate_b128 p_Mo_evaluate_b129 p_Mo_evaluate_b154
  rw [if_neg (show ¬ K t = 8 by rw [hk]; decide), if_neg (show ¬ K t = 1 by rw [hk]; decide), if_neg (show ¬ K t = 1 by rw [hk]; decide), if_neg (show ¬ K t = 1 by rw [hk]; decide), if_pos rfl, hk, stp_1 (by decide) (by decide) (by decide) (by decide) (by decide) (by decide), q_bd2, if_neg (by decide), nI_1]
theorem ev_8 (h : SM K N μ) (ht : t < 124) (n : Nat) (hst : st < 124) (hD : μ.1 7 = nI D) (hD9 : D < 10) (hk : K t = 8) : p_Mo_evaluate_L15 x1 (nI st) (n + 1) μ (nI t) 1 = p_Mo_evaluate_L15 x1 (nI st) n (sA μ 19 D (μ.2.1 8 st)) (nI (t + 1)) 1 := by
  have kt := h.2.2.2.1 t ht
  conv => lhs; unfold p_Mo_evaluate_L15
  rw [if_neg (by decide), if_pos (q_inR ht (by decide))]
  simp only [q_tn (show t < 2147483648 by omega), kt]
  rw [if_neg (show ¬ K t = 2 by rw [hk]; decide)]
  unfold p_Mo_evaluate_b44 p_Mo_evaluate_b66 p_Mo_evaluate_b96 p_Mo_evaluate_b128 p_Mo_evaluate_b129 p_Mo_evaluate_b154
  rw [if_pos hk, if_pos (q_inR hst (by decide)), hD, if_pos (q_inR hD9 (by decide)), if_neg (show ¬ K t = 1 by rw [hk]; decide), if_neg (show ¬ K t = 1 by rw [hk]; decide), if_neg (show ¬ K t = 1 by rw [hk]; decide), if_pos rfl, q_tn (show D < 2147483648 by omega), q_tn (show st < 2147483648 by omega), hk, stp_1 (by decide) (by decide) (by decide) (by decide) (by decide) (by decide), q_bd2, if_neg (by decide), nI_1]
theorem ev_4 (h : SM K N μ) (ht : t < N) (n : Nat) (hD : μ.1 7 = nI D) (hD9 : D < 10) (hk : K t = 1) (hr : ro K t = 8) : p_Mo_evaluate_L15 x1 (nI st) (n + 1) μ (nI t) 1 = p_Mo_evaluate_L15 x1 (nI st) n (sA μ 19 D (tI (clw K N μ.2.2 (μ.2.2 t)))) (nI (t + 1)) 1 := by
  have hN := h.1
  have kt := h.2.2.2.1 t (by omega)
  have rt : inR (nI t) 124 := q_inR (by omega) (by decide)
  have er : μ.2.1 7 t = 4 := by rw [h.rl ht, hr]; decide
  have er2 : ∀ v, (sA μ 19 D v).2.1 7 t = 4 := fun v => by rw [q_An (by decide)]; exact er
  conv => lhs; unfold p_Mo_evaluate_L15
  rw [if_neg (by decide), if_pos rt]
  simp only [q_tn (show t < 2147483648 by omega), kt]
  rw [if_neg (show ¬ K t = 2 by rw [hk]; decide)]
  unfold p_Mo_evaluate_b44 p_Mo_evaluate_b66
  rw [if_neg (show ¬ K t = 8 by rw [hk]; decide), if_pos hk, if_pos rt]
  simp only [q_tn (show t < 2147483648 by omega), er]
  rw [if_pos trivial, mcls h (by omega), q_bd1, hD, if_pos (q_inR hD9 (by decide)), q_tn (by omega)]
  unfold p_Mo_evaluate_b96 p_Mo_evaluate_b128 p_Mo_evaluate_b129 p_Mo_evaluate_b154
  simp only [if_pos hk, if_pos rt, q_tn (show t < 2147483648 by omega), er2]
  rw [if_neg (by decide), if_neg (by decide), if_pos (by decide), if_pos trivial, hk, stp_1 (by decide) (by decide) (by decide) (by decide) (by decide) (by decide), q_bd2, if_neg (by decide), nI_1]
end EV
