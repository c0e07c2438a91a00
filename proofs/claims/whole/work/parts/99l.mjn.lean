/-! names: what the reference tells of them -/
def dup (K : Nat → Int32) (W : Nat → Int64) (u : Nat) : Option Nat := fi1 (fun k => decide ((ro K k = 2 ∨ ro K k = 3) ∧ cls K k = cls K u ∧ W k = W u)) u 0
def cirB (K : Nat → Int32) (N : Nat) (W : Nat → Int64) (c : Nat) : Bool := lp (abv K N W) c 40 (abv K N W c)
/-- meaning and diagnostics of a declaring name or a name of a class -/
def an0 (K : Nat → Int32) (N : Nat) (W : Nat → Int64) (u : Nat) : Int32 × Int32 :=
  if ro K u = 1 then (if clw K N W (W u) = some (cC (tr K u)) then (nI u, 0) else (-1, 2))
  else if ro K u = 7 ∨ ro K u = 8 then ((clw K N W (W u)).elim (-1, 4) (fun c => (nI (ctA K c N), 0)))
  else if ro K u = 6 then ((clw K N W (W u)).elim (-1, 4) (fun c => if cirB K N W (cls K u) = true then (-1, 8) else (nI (ctA K c N), 0)))
  else if ro K u = 2 ∨ ro K u = 3 then (if dup K W u = none then (nI u, 0) else (-1, 16))
  else if ro K u = 4 ∨ ro K u = 5 then (if loc K W u u = none then (nI u, 0) else (-1, 32))
  else (-1, 0)
def F2 (μ μ' : Sto) : Prop := μ'.1 = μ.1 ∧ (∀ a, a ≠ 13 → a ≠ 14 → μ'.2.1 a = μ.2.1 a) ∧ μ'.2.2 = μ.2.2
theorem F2.refl (μ : Sto) : F2 μ μ := ⟨rfl, fun _ _ _ => rfl, rfl⟩
theorem F2.trans {a b c : Sto} (h : F2 a b) (g : F2 b c) : F2 a c := ⟨g.1.trans h.1, fun x p q => (g.2.1 x p q).trans (h.2.1 x p q), g.2.2.trans h.2.2⟩
theorem F2.A {μ μ' : Sto} {a i : Nat} {v : Int32} (h : F2 μ μ') (ha : a = 13 ∨ a = 14) : F2 μ (sA μ' a i v) := ⟨h.1, fun b p q => by rw [q_An (by omega)]; exact h.2.1 b p q, h.2.2⟩
theorem SM.f2 {K : Nat → Int32} {N : Nat} {μ μ' : Sto} (h : SM K N μ) (g : F2 μ μ') : SM K N μ' := h.keep (by rw [g.1]) (by rw [g.1]) (fun a ha => g.2.1 a (by omega) (by omega))
/-- one token's meaning and diagnostics are told -/
def T1 (μ : Sto) (t : Nat) (p : Int32 × Int32) (r : Option Sto) : Prop := ∃ μ', r = some μ' ∧ F2 μ μ' ∧ (∀ u, μ'.2.1 14 u = if u = t then p.1 else μ.2.1 14 u) ∧ (∀ u, μ'.2.1 13 u = if u = t then p.2 else μ.2.1 13 u)
theorem mnote {μ : Sto} {t : Nat} (ht : t < 124) (k : Int32) : p_Mo_note μ (nI t) k = some (sA μ 13 t (μ.2.1 13 t ||| ((1 : Int32) <<< (k &&& 31)))) := by
  unfold p_Mo_note
  rw [if_pos (q_inR ht (by decide)), if_pos (q_inR ht (by decide)), q_tn (by omega)]
theorem T1.mean {μ : Sto} {t : Nat} {v : Int32} (h13 : μ.2.1 13 t = 0) : T1 μ t (v, 0) (some (sA μ 14 t v)) := by
  refine ⟨_, rfl, (F2.refl μ).A (by decide), fun u => ?_, fun u => ?_⟩
  · rw [q_A2, if_pos rfl]
  · rw [q_An (by decide)]
    by_cases e : u = t
    · rw [if_pos e, e, h13]
    · rw [if_neg e]
theorem T1.mark {μ : Sto} {t : Nat} {v d : Int32} (h14 : μ.2.1 14 t = -1) (hv : v = d) : T1 μ t (-1, d) (some (sA μ 13 t v)) := by
  refine ⟨_, rfl, (F2.refl μ).A (by decide), fun u => ?_, fun u => ?_⟩
  · rw [q_An (by decide)]
    by_cases e : u = t
    · rw [if_pos e, e, h14]
    · rw [if_neg e]
  · rw [q_A2, if_pos rfl, hv]
theorem T1.none {μ : Sto} {t : Nat} (h13 : μ.2.1 13 t = 0) (h14 : μ.2.1 14 t = -1) : T1 μ t (-1, 0) (some μ) := by
  refine ⟨_, rfl, F2.refl μ, fun u => ?_, fun u => ?_⟩
  · by_cases e : u = t
    · rw [if_pos e, e, h14]
    · rw [if_neg e]
  · by_cases e : u = t
    · rw [if_pos e, e, h13]
    · rw [if_neg e]
theorem rr_rest : ∀ r ∈ RL, (r = 1 ∨ r = 2 ∨ r = 3 ∨ r = 4 ∨ r = 5 ∨ r = 6 ∨ r = 7 ∨ r = 8) ∨ (rr r = 0 ∨ rr r = 9 ∨ rr r = 10 ∨ rr r = 11 ∨ rr r = 12) := by
  unfold RL
  decide
section MJN
variable {K : Nat → Int32} {N : Nat} {μ : Sto}
theorem mjmL (h0 : SM K N μ) {t : Nat} (ht : t < N) (hr : rr (ro K t) ≠ 0) : ∀ (j k fuel : Nat) (ν : Sto) (d : Int32), j + k = t → j < fuel → F2 μ ν → (∀ u, ν.2.1 14 u = μ.2.1 14 u) → (∀ u, ν.2.1 13 u = if u = t then d else μ.2.1 13 u) → (d = 0 ∨ d = 16) → ∃ μ', p_Mo_judgeMember_L2 (nI t) fuel ν (nI k) = some μ' ∧ F2 μ μ' ∧ (∀ u, μ'.2.1 13 u = if u = t then (if fi1 (fun k => decide ((ro K k = 2 ∨ ro K k = 3) ∧ cls K k = cls K t ∧ μ.2.2 k = μ.2.2 t)) j k = none then d else 16) else μ.2.1 13 u) ∧ (∀ u, μ'.2.1 14 u = if u = t ∧ (if fi1 (fun k => decide ((ro K k = 2 ∨ ro K k = 3) ∧ cls K k = cls K t ∧ μ.2.2 k = μ.2.2 t)) j k = none then d else 16) = 0 then nI t else μ.2.1 14 u) := by
  have hN := h0.1
  have m4 := h0.M4
  intro j
  induction j with
  | zero =>
    intro k fuel ν d hj hf F h14 h13 hd
    obtain ⟨n, rfl⟩ : ∃ n, fuel = n + 1 := ⟨fuel - 1, by omega⟩
    unfold p_Mo_judgeMember_L2
    rw [if_pos ((q_le (by omega) (by omega)).mpr (by omega)), if_pos (q_inR (by omega) (by decide))]
    simp only [q_tn (show t < 2147483648 by omega), h13, if_true]
    have ef : fi1 (fun k => decide ((ro K k = 2 ∨ ro K k = 3) ∧ cls K k = cls K t ∧ μ.2.2 k = μ.2.2 t)) 0 k = none := rfl
    simp only [ef, if_true]
    by_cases e : d = 0
    · rw [if_pos e, if_pos (q_inR (by omega) (by decide))]
      refine ⟨_, rfl, F.A (by decide), fun u => ?_, fun u => ?_⟩
      · rw [q_An (by decide), h13]
      · rw [q_A2, if_pos rfl, h14]
        by_cases e2 : u = t
        · rw [if_pos e2, if_pos ⟨e2, e⟩]
        · rw [if_neg e2, if_neg (fun z => e2 z.1)]
    · rw [if_neg e]
      refine ⟨_, rfl, F, h13, fun u => ?_⟩
      rw [if_neg (fun z => e z.2)]
      exact h14 u
  | succ j ih =>
    intro k fuel ν d hj hf F h14 h13 hd
    obtain ⟨n, rfl⟩ : ∃ n, fuel = n + 1 := ⟨fuel - 1, by omega⟩
    have h := h0.f2 F
    have rk : inR (nI k) 124 := q_inR (by omega) (by decide)
    have rt : inR (nI t) 124 := q_inR (by omega) (by decide)
    have rkn : (nI k).toNatClampNeg = k := q_tn (by omega)
    have rtn : (nI t).toNatClampNeg = t := q_tn (by omega)
    unfold p_Mo_judgeMember_L2
    rw [if_neg (fun z => by have := (q_le (by omega) (by omega)).mp z; omega), if_pos rk]
    simp only [rkn, h.rl (show k < N by omega), mdcs, q_bd1, nI_1]
    have nx := ih (k + 1) n
    unfold fi1
    by_cases e : ro K k = 2 ∨ ro K k = 3
    · have r0 : rr (ro K k) ≠ 0 := by rcases e with z | z <;> rw [z] <;> decide
      obtain ⟨i8, _⟩ := h.2.2.2.2.2.2.2.1 k (by omega) r0
      obtain ⟨t8, _⟩ := h.2.2.2.2.2.2.2.1 t ht hr
      have c1 := cls_le (K := K) (N := N) t (by omega)
      have c2 := cls_le (K := K) (N := N) k (by omega)
      rw [if_neg (by rw [decide_eq_true e]; decide), if_pos rk, if_pos rt]
      simp only [rtn, i8, t8]
      by_cases e2 : cls K k = cls K t
      · rw [if_pos (by rw [e2]), if_pos rk, if_pos rt]
        by_cases e3 : μ.2.2 k = μ.2.2 t
        · have e3' : ν.2.2 k = ν.2.2 t := by rw [F.2.2]; exact e3
          rw [if_pos ((q_cmp0 _ _).mpr e3'), mnote (by omega), q_bd1]
          simp only [decide_eq_true (show (ro K k = 2 ∨ ro K k = 3) ∧ cls K k = cls K t ∧ μ.2.2 k = μ.2.2 t from ⟨e, e2, e3⟩), if_true]
          have v16 : ν.2.1 13 t ||| ((1 : Int32) <<< ((4 : Int32) &&& 31)) = 16 := by
            rw [h13, if_pos rfl]
            rcases hd with z | z <;> rw [z] <;> decide
          rw [v16]
          obtain ⟨μ', r, F', a, b⟩ := nx (sA ν 13 t 16) 16 (by omega) (by omega) (F.A (by decide)) (fun u => by rw [q_An (by decide)]; exact h14 u) (fun u => by
            rw [q_A2, if_pos rfl, h13]
            by_cases q : u = t
            · rw [if_pos q, if_pos q]
            · rw [if_neg q, if_neg q, if_neg q]) (Or.inr rfl)
          refine ⟨μ', r, F', fun u => ?_, fun u => ?_⟩
          · rw [a, ite_self, if_neg (show ¬ some k = none by simp)]
          · rw [b, ite_self, if_neg (show ¬ some k = none by simp)]
        · have e3' : ¬ ν.2.2 k = ν.2.2 t := by rw [F.2.2]; exact e3
          rw [if_neg (fun z => e3' ((q_cmp0 _ _).mp z))]
          simp only [decide_eq_false (show ¬ ((ro K k = 2 ∨ ro K k = 3) ∧ cls K k = cls K t ∧ μ.2.2 k = μ.2.2 t) from fun z => e3 z.2.2), if_neg (show ¬ false = true by decide)]
          exact nx ν d (by omega) (by omega) F h14 h13 hd
      · rw [if_neg (fun z => e2 ((q_eq (by omega) (by omega)).mp z))]
        simp only [decide_eq_false (show ¬ ((ro K k = 2 ∨ ro K k = 3) ∧ cls K k = cls K t ∧ μ.2.2 k = μ.2.2 t) from fun z => e2 z.2.1), if_neg (show ¬ false = true by decide)]
        exact nx ν d (by omega) (by omega) F h14 h13 hd
    · rw [if_pos (by rw [decide_eq_false e]; rfl)]
      simp only [decide_eq_false (show ¬ ((ro K k = 2 ∨ ro K k = 3) ∧ cls K k = cls K t ∧ μ.2.2 k = μ.2.2 t) from fun z => e z.1), if_neg (show ¬ false = true by decide)]
      exact nx ν d (by omega) (by omega) F h14 h13 hd
theorem mjcl (h : SM K N μ) {t : Nat} (ht : t < N) (h13 : μ.2.1 13 t = 0) (h14 : μ.2.1 14 t = -1) (hr : ro K t = 1 ∨ ro K t = 6 ∨ ro K t = 7 ∨ ro K t = 8) : T1 μ t (an0 K N μ.2.2 t) (p_Mo_judgeClass μ (nI t)) := by
  have hN := h.1
  have m4 := h.M4
  have rt : inR (nI t) 124 := q_inR (by omega) (by decide)
  have rtn : (nI t).toNatClampNeg = t := q_tn (by omega)
  have r0 : rr (ro K t) ≠ 0 := by rcases hr with z | z | z | z <;> rw [z] <;> decide
  obtain ⟨t8, _⟩ := h.2.2.2.2.2.2.2.1 t ht r0
  have cl := cls_le (K := K) (N := N) t (by omega)
  unfold p_Mo_judgeClass
  simp only [if_pos rt, rtn, h.rl ht, t8, mcls h (show t < 124 by omega), q_bd1]
  unfold an0
  by_cases e1 : ro K t = 1
  · rw [if_pos (show rr (ro K t) = 1 from (rr_i _).1.mpr e1), if_pos e1]
    have ec : cls K t = cC (tr K t) := by unfold cls; rw [if_pos ((ro_i K t).1.mp e1)]
    rw [ec]
    rw [ec] at cl
    cases q : clw K N μ.2.2 (μ.2.2 t) with
    | none =>
      rw [if_neg (show ¬ tI none = nI (cC (tr K t)) from fun z => q_neg2 (show cC (tr K t) < 2147483648 by omega) z.symm), if_neg (by simp), mnote (by omega), q_bd1]
      exact T1.mark h14 (by rw [h13]; decide)
    | some c =>
      have := clw_lt q
      by_cases e : c = cC (tr K t)
      · rw [if_pos (show tI (some c) = nI (cC (tr K t)) by rw [e]; rfl), if_pos (by rw [e])]
        exact T1.mean h13
      · rw [if_neg (show ¬ tI (some c) = nI (cC (tr K t)) from fun z => e ((q_eq (by omega) (by omega)).mp z)), if_neg (fun z => e (Option.some.inj z)), mnote (by omega), q_bd1]
        exact T1.mark h14 (by rw [h13]; decide)
  · rw [if_neg (fun z => e1 ((rr_i _).1.mp z)), if_neg e1]
    cases q : clw K N μ.2.2 (μ.2.2 t) with
    | none =>
      rw [if_pos (show tI none = -2 from rfl), mnote (by omega), q_bd1]
      have : (if ro K t = 7 ∨ ro K t = 8 then Option.elim none (-1, 4) (fun c => (nI (ctA K c N), 0)) else if ro K t = 6 then Option.elim none (-1, 4) (fun c => if cirB K N μ.2.2 (cls K t) = true then (-1, 8) else (nI (ctA K c N), 0)) else if ro K t = 2 ∨ ro K t = 3 then (if dup K μ.2.2 t = none then (nI t, 0) else (-1, 16)) else if ro K t = 4 ∨ ro K t = 5 then (if loc K μ.2.2 t t = none then (nI t, 0) else (-1, 32)) else (-1, 0)) = ((-1, 4) : Int32 × Int32) := by
        rcases hr with z | z | z | z
        · exact absurd z e1
        · rw [z]; rfl
        · rw [z]; rfl
        · rw [z]; rfl
      rw [this]
      exact T1.mark h14 (by rw [h13]; decide)
    | some c =>
      have hc := clw_lt q
      have cn := (h.2.2.2.2.2.2.2.2.2.2 c hc).1
      have rc : inR (tI (some c)) 40 := q_inR (show c < 40 by omega) (by decide)
      have rcn : (tI (some c)).toNatClampNeg = c := q_tn (show c < 2147483648 by omega)
      rw [if_neg (show ¬ tI (some c) = -2 from q_neg2 (by omega))]
      by_cases e6 : ro K t = 6
      · have hcl : cls K t < cC (tr K N) := by
          have s4 := (ro_i K t).2.1.mp e6
          have c1 := (WG_all t (h.al (by omega))).2.2.2.2 (by rw [s4]; decide)
          have mo := cC_mono K t N (by omega)
          unfold cls
          rw [if_neg (by rw [s4]; decide)]
          omega
        rw [if_pos (show rr (ro K t) = 3 from (rr_i _).2.2.1.mpr e6), mcir h hcl, q_bd1, if_neg (show ¬ (ro K t = 7 ∨ ro K t = 8) by rw [e6]; decide), if_pos e6]
        show T1 μ t (if cirB K N μ.2.2 (cls K t) = true then (-1, 8) else (nI (ctA K c N), 0)) _
        unfold cirB
        cases q2 : lp (abv K N μ.2.2) (cls K t) 40 (abv K N μ.2.2 (cls K t))
        · rw [if_pos (show b01 false = 0 from rfl), if_neg (by decide), if_pos rc, rcn, cn]
          exact T1.mean h13
        · rw [if_neg (show ¬ b01 true = 0 by decide), if_pos rfl, mnote (by omega), q_bd1]
          exact T1.mark h14 (by rw [h13]; decide)
      · have e78 : ro K t = 7 ∨ ro K t = 8 := by
          rcases hr with z | z | z | z
          · exact absurd z e1
          · exact absurd z e6
          · exact Or.inl z
          · exact Or.inr z
        rw [if_neg (fun z => e6 ((rr_i _).2.2.1.mp z)), if_pos rc, rcn, cn, if_pos e78]
        exact T1.mean h13
theorem mjn (h : SM K N μ) {t : Nat} (ht : t < N) (h13 : μ.2.1 13 t = 0) (h14 : μ.2.1 14 t = -1) : T1 μ t (an0 K N μ.2.2 t) (p_Mo_judgeName μ (nI t)) := by
  have hN := h.1
  have rt : inR (nI t) 124 := q_inR (by omega) (by decide)
  have rtn : (nI t).toNatClampNeg = t := q_tn (by omega)
  have t2 : ∀ {p : Int32 × Int32} {r : Option Sto} {x : Int32}, T1 μ t p r → p_Mo_declares x = some 0 → ¬ x = 7 → ¬ x = 8 → T1 μ t p (bd1 r fun σ => p_Mo_judgeName_b21 (nI t) σ x) := by
    intro p r x q hd n7 n8
    obtain ⟨μ', r1, q'⟩ := q
    refine ⟨μ', ?_, q'⟩
    rw [r1, q_bd1]
    unfold p_Mo_judgeName_b21 p_Mo_judgeName_b33
    rw [hd, q_bd1, if_pos rfl, if_neg n7, if_neg n8]
  unfold p_Mo_judgeName
  rw [if_pos rt, rtn, h.rl ht]
  by_cases c1 : ro K t = 1 ∨ ro K t = 6 ∨ ro K t = 7 ∨ ro K t = 8
  · have q := mjcl h ht h13 h14 c1
    rcases c1 with z | z | z | z
    · rw [z, show rr 1 = 1 by decide, if_neg (by decide), if_neg (by decide)]; exact t2 q rfl (by decide) (by decide)
    · rw [z, show rr 6 = 3 by decide, if_neg (by decide), if_neg (by decide)]; exact t2 q rfl (by decide) (by decide)
    · rw [z, show rr 7 = 2 by decide, if_neg (by decide), if_neg (by decide)]; exact t2 q rfl (by decide) (by decide)
    · rw [z, show rr 8 = 4 by decide, if_neg (by decide), if_neg (by decide)]; exact t2 q rfl (by decide) (by decide)
  · by_cases c2 : ro K t = 2 ∨ ro K t = 3
    · have r0 : rr (ro K t) ≠ 0 := by rcases c2 with z | z <;> rw [z] <;> decide
      have e0 : an0 K N μ.2.2 t = if dup K μ.2.2 t = none then (nI t, 0) else (-1, 16) := by
        unfold an0
        rcases c2 with z | z <;> rw [z] <;> rfl
      have b : p_Mo_judgeName_b21 (nI t) μ (rr (ro K t)) = bd1 (p_Mo_judgeMember μ (nI t)) fun σ => some σ := by
        unfold p_Mo_judgeName_b21
        rw [mdcs, q_bd1, decide_eq_true c2, if_neg (by decide)]
        unfold p_Mo_judgeName_b33
        rcases c2 with z | z <;> rw [z] <;> rfl
      have e5 : (5 : Int32) ≤ rr (ro K t) := by rcases c2 with z | z <;> rw [z] <;> decide
      have e4 : ¬ rr (ro K t) ≤ 0 := by rcases c2 with z | z <;> rw [z] <;> decide
      rw [if_neg e4, if_pos e5, b]
      unfold p_Mo_judgeMember
      obtain ⟨μ', r, F, a, b⟩ := mjmL h ht r0 t 0 FU μ 0 (by omega) (by unfold FU; omega) (F2.refl μ) (fun _ => rfl) (fun u => by
        by_cases q : u = t
        · rw [if_pos q, q, h13]
        · rw [if_neg q]) (Or.inl rfl)
      have r' : p_Mo_judgeMember_L2 (nI t) FU μ 0 = some μ' := r
      rw [r', q_bd1, e0]
      refine ⟨μ', rfl, F, fun u => ?_, fun u => ?_⟩
      · rw [b]
        show _ = if u = t then (if dup K μ.2.2 t = none then ((nI t, 0) : Int32 × Int32) else (-1, 16)).1 else _
        have ed : dup K μ.2.2 t = fi1 (fun k => decide ((ro K k = 2 ∨ ro K k = 3) ∧ cls K k = cls K t ∧ μ.2.2 k = μ.2.2 t)) t 0 := rfl
        rw [← ed]
        by_cases q : u = t
        · rw [if_pos q]
          by_cases q2 : dup K μ.2.2 t = none
          · rw [if_pos q2, if_pos q2, if_pos ⟨q, rfl⟩]
          · rw [if_neg q2, if_neg q2, if_neg (fun z => absurd z.2 (by decide)), q, h14]
        · rw [if_neg q, if_neg (fun z => q z.1)]
      · rw [a]
        show _ = if u = t then (if dup K μ.2.2 t = none then ((nI t, 0) : Int32 × Int32) else (-1, 16)).2 else _
        have ed : dup K μ.2.2 t = fi1 (fun k => decide ((ro K k = 2 ∨ ro K k = 3) ∧ cls K k = cls K t ∧ μ.2.2 k = μ.2.2 t)) t 0 := rfl
        rw [← ed]
        by_cases q2 : dup K μ.2.2 t = none
        · rw [if_pos q2, if_pos q2]
        · rw [if_neg q2, if_neg q2]
    · by_cases c3 : ro K t = 4 ∨ ro K t = 5
      · have r0 : rr (ro K t) ≠ 0 := by rcases c3 with z | z <;> rw [z] <;> decide
        obtain ⟨t8, t9⟩ := h.2.2.2.2.2.2.2.1 t ht r0
        have e0 : an0 K N μ.2.2 t = if loc K μ.2.2 t t = none then (nI t, 0) else (-1, 32) := by
          unfold an0
          rcases c3 with z | z <;> rw [z] <;> rfl
        have b : p_Mo_judgeName_b21 (nI t) μ (rr (ro K t)) = p_Mo_judgeName_b46 (nI t) μ := by
          unfold p_Mo_judgeName_b21
          rw [mdcs, q_bd1, decide_eq_false (show ¬ (ro K t = 2 ∨ ro K t = 3) from c2), if_pos (show b01 false = 0 from rfl)]
          unfold p_Mo_judgeName_b33
          rcases c3 with z | z <;> rw [z] <;> rfl
        have e5 : (5 : Int32) ≤ rr (ro K t) := by rcases c3 with z | z <;> rw [z] <;> decide
        have e4 : ¬ rr (ro K t) ≤ 0 := by rcases c3 with z | z <;> rw [z] <;> decide
        rw [if_neg e4, if_pos e5, b, e0]
        unfold p_Mo_judgeName_b46
        rw [mloc h (by omega) t8 t9 (by omega) (by omega), q_bd1]
        cases q : loc K μ.2.2 t t with
        | none =>
          rw [if_pos (show oI none < 0 by decide), if_pos rt, rtn, if_pos rfl]
          exact T1.mean h13
        | some u =>
          have hu := (fi1_some q).2.1
          rw [if_neg (show ¬ oI (some u) < 0 from q_pos (by omega)), if_neg (by simp), mnote (by omega), q_bd1]
          exact T1.mark h14 (by rw [h13]; decide)
      · have e0 : an0 K N μ.2.2 t = (-1, 0) := by
          unfold an0
          rw [if_neg (fun z => c1 (Or.inl z)), if_neg (fun z => c1 (Or.inr (Or.inr z))), if_neg (fun z => c1 (Or.inr (Or.inl z))), if_neg c2, if_neg c3]
        have b : p_Mo_judgeName_b21 (nI t) μ (rr (ro K t)) = some μ := by
          unfold p_Mo_judgeName_b21
          rw [mdcs, q_bd1, decide_eq_false (show ¬ (ro K t = 2 ∨ ro K t = 3) from c2), if_pos (show b01 false = 0 from rfl)]
          unfold p_Mo_judgeName_b33
          rw [if_neg (fun z => c3 (Or.inl ((rr_i _).2.2.2.2.2.2.1.mp z))), if_neg (fun z => c3 (Or.inr ((rr_i _).2.2.2.2.2.2.2.1.mp z)))]
        rw [e0]
        rcases rr_rest _ (ro_mem K t) with z | z
        · exfalso
          rcases z with z | z | z | z | z | z | z | z
          · exact c1 (Or.inl z)
          · exact c2 (Or.inl z)
          · exact c2 (Or.inr z)
          · exact c3 (Or.inl z)
          · exact c3 (Or.inr z)
          · exact c1 (Or.inr (Or.inl z))
          · exact c1 (Or.inr (Or.inr (Or.inl z)))
          · exact c1 (Or.inr (Or.inr (Or.inr z)))
        · have : ∀ {α : Type} (x y : α), (if rr (ro K t) ≤ 0 then x else if 5 ≤ rr (ro K t) then x else y) = x := by
            intro α x y
            rcases z with z | z | z | z | z <;> rw [z] <;> rfl
          rw [this, b]
          exact T1.none h13 h14
/-- all names -/
theorem mjnL (h : SM K N μ) : ∀ (j t fuel : Nat) (ν : Sto), j + t = N → j < fuel → F2 μ ν → (∀ u, u < 124 → ν.2.1 14 u = if u < t then (an0 K N μ.2.2 u).1 else -1) → (∀ u, u < 124 → ν.2.1 13 u = if u < t then (an0 K N μ.2.2 u).2 else 0) → ∃ μ', p_Mo_analyse_L184 fuel ν (nI t) = p_Mo_analyse_L205 FU μ' 0 ∧ F2 μ μ' ∧ (∀ u, u < 124 → μ'.2.1 14 u = if u < N then (an0 K N μ.2.2 u).1 else -1) ∧ (∀ u, u < 124 → μ'.2.1 13 u = if u < N then (an0 K N μ.2.2 u).2 else 0) := by
  have hN := h.1
  intro j
  induction j with
  | zero =>
    intro t fuel ν hj hf F h14 h13
    obtain ⟨n, rfl⟩ : ∃ n, fuel = n + 1 := ⟨fuel - 1, by omega⟩
    have e : t = N := by omega
    subst e
    unfold p_Mo_analyse_L184
    rw [(h.f2 F).2.2.1, if_pos ((q_le (by omega) (by omega)).mpr (Nat.le_refl _))]
    exact ⟨ν, rfl, F, h14, h13⟩
  | succ j ih =>
    intro t fuel ν hj hf F h14 h13
    obtain ⟨n, rfl⟩ : ∃ n, fuel = n + 1 := ⟨fuel - 1, by omega⟩
    have h' := h.f2 F
    unfold p_Mo_analyse_L184
    rw [h'.2.2.1, if_neg (fun z => by have := (q_le (by omega) (by omega)).mp z; omega)]
    obtain ⟨μ', r, F', a, b⟩ := mjn h' (t := t) (by omega) (by rw [h13 t (by omega), if_neg (by omega)]) (by rw [h14 t (by omega), if_neg (by omega)])
    rw [r, q_bd1, nI_1]
    rw [F.2.2] at a b
    refine ih (t + 1) n μ' (by omega) (by omega) (F.trans F') (fun u hu4 => ?_) (fun u hu4 => ?_)
    · rw [a, h14 u hu4]
      by_cases e : u = t
      · rw [if_pos e, if_pos (by omega), e]
      · rw [if_neg e]
        by_cases e2 : u < t
        · rw [if_pos e2, if_pos (by omega)]
        · rw [if_neg e2, if_neg (by omega)]
    · rw [b, h13 u hu4]
      by_cases e : u = t
      · rw [if_pos e, if_pos (by omega), e]
      · rw [if_neg e]
        by_cases e2 : u < t
        · rw [if_pos e2, if_pos (by omega)]
        · rw [if_neg e2, if_neg (by omega)]
end MJN
