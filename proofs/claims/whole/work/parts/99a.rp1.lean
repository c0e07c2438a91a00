/-! the reference's parser follows the machine: its small steps -/
def rr (r : Int32) : Int32 := if r = 1 then 1 else if r = 7 then 2 else if r = 6 then 3 else if r = 8 then 4 else if r = 2 then 5 else if r = 3 then 6 else if r = 4 then 7 else if r = 5 then 8 else if r = 9 then 9 else if r = 10 then 10 else if r = 11 then 11 else if r = 12 then 12 else 0
/-- the class and the method that a token stands in -/
def cls (K : Nat → Int32) (u : Nat) : Nat := if cS (tr K u) = 2 then cC (tr K u) else cC (tr K u) - 1
def mth (K : Nat → Int32) (u : Nat) : Int32 := if 8 < cS (tr K u) then nI (cM (tr K u)) else -1
/-- how a statement begins -/
def bg (K : Nat → Int32) (u : Nat) : Int32 := if K u = 3 ∨ (K u = 1 ∧ K (u + 1) = 1) then 1 else if K u = 6 then 2 else 3
def TKM (K : Nat → Int32) (N : Nat) (μ : Sto) : Prop := N ≤ 121 ∧ (∀ u, u < 124 → μ.2.1 3 u = K u) ∧ (∀ u, N ≤ u → K u = 0) ∧ (∀ u, u < N → K u ≠ 0)
/-- what reading members leaves alone -/
def FM (μ0 μ : Sto) : Prop := (∀ k, k ≠ 4 → k ≠ 5 → k ≠ 7 → μ.1 k = μ0.1 k) ∧ (∀ a, a ≠ 7 → a ≠ 8 → a ≠ 9 → a ≠ 10 → a ≠ 16 → μ.2.1 a = μ0.2.1 a) ∧ μ.2.2 = μ0.2.2
theorem q_An {σ : Sto} {a i b : Nat} {v : Int32} (h : b ≠ a) : (sA σ a i v).2.1 b = σ.2.1 b := by
  funext j
  rw [q_A2, if_neg h]
theorem FM.refl (μ : Sto) : FM μ μ := ⟨fun _ _ _ _ => rfl, fun _ _ _ _ _ _ => rfl, rfl⟩
theorem FM.S {μ0 μ : Sto} {k : Nat} {v : Int32} (h : FM μ0 μ) (hk : k = 4 ∨ k = 5 ∨ k = 7) : FM μ0 (sS μ k v) := by
  refine ⟨fun j a b c => ?_, h.2.1, h.2.2⟩
  rw [q_S1, if_neg (by omega)]
  exact h.1 j a b c
theorem FM.A {μ0 μ : Sto} {a i : Nat} {v : Int32} (h : FM μ0 μ) (ha : a = 7 ∨ a = 8 ∨ a = 9 ∨ a = 10 ∨ a = 16) : FM μ0 (sA μ a i v) := by
  refine ⟨h.1, fun b x1 x2 x3 x4 x5 => ?_, h.2.2⟩
  rw [q_An (by omega)]
  exact h.2.1 b x1 x2 x3 x4 x5
theorem FM.trans {μ0 μ μ' : Sto} (h : FM μ0 μ) (g : FM μ μ') : FM μ0 μ' := ⟨fun k a b c => (g.1 k a b c).trans (h.1 k a b c), fun a x1 x2 x3 x4 x5 => (g.2.1 a x1 x2 x3 x4 x5).trans (h.2.1 a x1 x2 x3 x4 x5), g.2.2.trans h.2.2⟩
/-- the first token that may not stand there -/
def BD (K : Nat → Int32) (T : Nat) : Prop := cS (tr K T) ≠ 0 ∧ cS (tr K (T + 1)) = 0 ∧ (cS (tr K T) = 1 → K T ≠ 0)
def BB (K : Nat → Int32) (N : Nat) (μ0 μ : Sto) : Prop := FM μ0 μ ∧ μ.1 5 = 1 ∧ ∃ T, μ.1 4 = nI T ∧ T ≤ N ∧ BD K T
def JM (K : Nat → Int32) (μ : Sto) (t b : Nat) : Prop := (∀ u, u < 124 → μ.2.1 7 u = if u < t then rr (ro K u) else 0) ∧ (∀ u, u < t → rr (ro K u) ≠ 0 → μ.2.1 8 u = nI (cls K u) ∧ μ.2.1 9 u = mth K u) ∧ (∀ u, u < 124 → μ.2.1 10 u = if (u < t ∨ u = b) ∧ cS (tr K u) = 14 ∧ ¬ K u = 125 then bg K u else 0) ∧ (∀ u, u < t → u ≠ b → cS (tr K u) = 14 → ¬ K u = 125 → μ.2.1 8 u = nI (cls K u) ∧ μ.2.1 9 u = mth K u)
theorem JM.same {K : Nat → Int32} {μ μ' : Sto} {t b : Nat} (h : JM K μ t b) (e7 : μ'.2.1 7 = μ.2.1 7) (e8 : μ'.2.1 8 = μ.2.1 8) (e9 : μ'.2.1 9 = μ.2.1 9) (e10 : μ'.2.1 10 = μ.2.1 10) : JM K μ' t b := by
  unfold JM at h ⊢
  rw [e7, e8, e9, e10]
  exact h
def GD (K : Nat → Int32) (N : Nat) (μ0 : Sto) (b t : Nat) (μ : Sto) : Prop := FM μ0 μ ∧ μ.1 5 = 0 ∧ μ.1 4 = nI t ∧ cS (tr K t) ≠ 0 ∧ t ≤ N ∧ JM K μ t b
def nm (μ : Sto) (t : Nat) (x1 x2 x3 : Int32) : Sto := sS (sA (sA (sA μ 7 t x1) 8 t x2) 9 t x3) 4 (nI (t + 1))
theorem nxtK0 (s k2 : Int32) (d : Nat) (call e : Bool) : nxt s 0 k2 d call e = 0 := by
  unfold nxt opr tal
  simp +decide
section RP1
variable {K : Nat → Int32} {N : Nat} {μ0 μ : Sto} {t b : Nat}
theorem alive_le (hK : ∀ u, N ≤ u → K u = 0) {T : Nat} (h : cS (tr K T) ≠ 0) : T ≤ N := Decidable.byContradiction (fun z => by
  have h1 : cS (tr K (N + 1)) ≠ 0 := tr_alive' (by omega) h
  rw [trS, hK N (Nat.le_refl _)] at h1
  exact h1 (nxtK0 _ _ _ _ _))
theorem gd_step (hT : TKM K N μ0) (h : GD K N μ0 b t μ) (hn : cS (tr K (t + 1)) ≠ 0) (hb : cS (tr K t) = 14 → ¬ K t = 125 → t = b) {μ' : Sto} (hF : FM μ0 μ') (h5 : μ'.1 5 = 0) (h4 : μ'.1 4 = nI (t + 1)) (h7 : ∀ u, μ'.2.1 7 u = if u = t then rr (ro K t) else μ.2.1 7 u) (h8 : ∀ u, u ≠ t → μ'.2.1 8 u = μ.2.1 8 u ∧ μ'.2.1 9 u = μ.2.1 9 u) (hc : rr (ro K t) ≠ 0 → μ'.2.1 8 t = nI (cls K t) ∧ μ'.2.1 9 t = mth K t) (h10 : ∀ u, μ'.2.1 10 u = μ.2.1 10 u) : GD K N μ0 b (t + 1) μ' := by
  obtain ⟨g1, g2, g3, g4, g5, j1, j2, j3, j4⟩ := h
  refine ⟨hF, h5, h4, hn, alive_le hT.2.2.1 hn, fun u hu4 => ?_, fun u hu hr => ?_, fun u hu4 => ?_, fun u hu hub h14 h125 => ?_⟩
  · rw [h7, j1 u hu4]
    by_cases e : u = t
    · rw [if_pos e, if_pos (by omega), e]
    · rw [if_neg e]
      by_cases e2 : u < t
      · rw [if_pos e2, if_pos (by omega)]
      · rw [if_neg e2, if_neg (by omega)]
  · by_cases e : u = t
    · subst e; exact hc hr
    · rw [(h8 u e).1, (h8 u e).2]; exact j2 u (by omega) hr
  · rw [h10, j3 u hu4]
    by_cases e : u = t
    · subst e
      by_cases q : cS (tr K u) = 14 ∧ ¬ K u = 125
      · rw [if_pos ⟨Or.inr (hb q.1 q.2), q⟩, if_pos ⟨Or.inl (by omega), q⟩]
      · rw [if_neg (fun z => q z.2), if_neg (fun z => q z.2)]
    · by_cases q : (u < t ∨ u = b) ∧ cS (tr K u) = 14 ∧ ¬ K u = 125
      · rw [if_pos q, if_pos ⟨q.1.imp (fun z => by omega) id, q.2⟩]
      · rw [if_neg q, if_neg (fun z => q ⟨z.1.imp (fun y => by omega) id, z.2⟩)]
  · by_cases e : u = t
    · subst e; exact absurd (hb h14 h125) hub
    · rw [(h8 u e).1, (h8 u e).2]; exact j4 u (by omega) hub h14 h125
theorem gd_0 (hT : TKM K N μ0) (h : GD K N μ0 b t μ) (hn : cS (tr K (t + 1)) ≠ 0) (hb : cS (tr K t) = 14 → ¬ K t = 125 → t = b) (hr : rr (ro K t) = 0) : GD K N μ0 b (t + 1) (sS μ 4 (nI (t + 1))) := by
  refine gd_step hT h hn hb (h.1.S (by decide)) h.2.1 rfl (fun u => ?_) (fun u _ => ⟨rfl, rfl⟩) (fun z => absurd hr z) (fun u => rfl)
  show μ.2.1 7 u = _
  by_cases e : u = t
  · rw [if_pos e, hr, h.2.2.2.2.2.1 u (by have := hT.1; have := h.2.2.2.2.1; omega), if_neg (by omega)]
  · rw [if_neg e]
theorem gd_n {x1 x2 x3 : Int32} (hT : TKM K N μ0) (h : GD K N μ0 b t μ) (hn : cS (tr K (t + 1)) ≠ 0) (hb : cS (tr K t) = 14 → ¬ K t = 125 → t = b) (h1 : x1 = rr (ro K t)) (h2 : x2 = nI (cls K t)) (h3 : x3 = mth K t) : GD K N μ0 b (t + 1) (nm μ t x1 x2 x3) := by
  refine gd_step hT h hn hb ?_ h.2.1 rfl (fun u => ?_) (fun u hu => ⟨?_, ?_⟩) (fun _ => ⟨?_, ?_⟩) (fun u => ?_) <;> unfold nm
  · exact (((h.1.A (by decide)).A (by decide)).A (by decide)).S (by decide)
  · rw [q_S2, q_A2, if_neg (by decide), q_A2, if_neg (by decide), q_A2, if_pos rfl, h1]
  · rw [q_S2, q_A2, if_neg (by decide), q_A2, if_pos rfl, if_neg hu, q_A2, if_neg (by decide)]
  · rw [q_S2, q_A2, if_pos rfl, if_neg hu, q_A2, if_neg (by decide), q_A2, if_neg (by decide)]
  · rw [q_S2, q_A2, if_neg (by decide), q_A2, if_pos rfl, if_pos rfl, h2]
  · rw [q_S2, q_A2, if_pos rfl, if_pos rfl, h3]
  · rw [q_S2, q_A2, if_neg (by decide), q_A2, if_neg (by decide), q_A2, if_neg (by decide)]
theorem gd_bad (h : GD K N μ0 b t μ) (hz : cS (tr K (t + 1)) = 0) (h1 : cS (tr K t) = 1 → K t ≠ 0) : BB K N μ0 (sS μ 5 1) := ⟨h.1.S (by decide), rfl, t, h.2.2.1, h.2.2.2.2.1, h.2.2.2.1, hz, h1⟩
theorem GD.lt (hT : TKM K N μ0) (h : GD K N μ0 b t μ) : t < 122 := by have := h.2.2.2.2.1; have := hT.1; omega
theorem GD.kd (hT : TKM K N μ0) (h : GD K N μ0 b t μ) {u : Nat} (hu : u < 124) : μ.2.1 3 u = K u := by
  rw [h.1.2.1 3 (by decide) (by decide) (by decide) (by decide) (by decide)]
  exact hT.2.1 u hu
/-- a token of a kind that is none lies before the end -/
theorem GD.ltN (hT : TKM K N μ0) {x : Int32} (hk : K t = x) (hx : x ≠ 0) : t < N := Decidable.byContradiction (fun z => hx (by rw [← hk]; exact hT.2.2.1 t (by omega)))
theorem GD.is (hT : TKM K N μ0) (h : GD K N μ0 b t μ) (x : Int32) : p_Mo_is μ x = if K t = x then some 1 else some 0 := by
  have l := h.lt hT
  unfold p_Mo_is
  rw [if_pos h.2.1, h.2.2.1, if_pos (q_inR (by omega) (by decide)), q_tn (by omega), h.kd hT (by omega)]
theorem GD.take (hT : TKM K N μ0) (h : GD K N μ0 b t μ) (x : Int32) : p_Mo_take μ x = if K t = x then some (1, sS μ 4 (nI (t + 1))) else some (0, μ) := by
  unfold p_Mo_take
  rw [h.is hT]
  by_cases e : K t = x
  · rw [if_pos e, if_pos e, q_bd1, if_neg (by decide), h.2.2.1, nI_1]
  · rw [if_neg e, if_neg e, q_bd1, if_pos rfl]
theorem GD.need (hT : TKM K N μ0) (h : GD K N μ0 b t μ) (x : Int32) : p_Mo_need μ x = if K t = x then some (sS μ 4 (nI (t + 1))) else some (sS μ 5 1) := by
  unfold p_Mo_need
  rw [h.take hT]
  by_cases e : K t = x
  · rw [if_pos e, if_pos e, q_bd2, if_neg (by decide)]
  · rw [if_neg e, if_neg e, q_bd2, if_pos rfl]
theorem GD.name (hT : TKM K N μ0) (h : GD K N μ0 b t μ) (x1 x2 x3 : Int32) : p_Mo_name μ x1 x2 x3 = if K t = 1 then some (nm μ t x1 x2 x3) else some (sS μ 5 1) := by
  have l := h.lt hT
  have r : inR (nI t) 124 := q_inR (by omega) (by decide)
  have rn : (nI t).toNatClampNeg = t := q_tn (by omega)
  unfold p_Mo_name
  rw [h.is hT]
  by_cases e : K t = 1
  · rw [if_pos e, if_pos e, q_bd1, if_neg (by decide)]
    simp only [q_A1, h.2.2.1, if_pos r, rn, nI_1]
    rfl
  · rw [if_neg e, if_neg e, q_bd1, if_pos rfl]
theorem BB.n5 (h : BB K N μ0 μ) : ¬ μ.1 5 = 0 := by rw [h.2.1]; decide
theorem BB.s5 (h : BB K N μ0 μ) : BB K N μ0 (sS μ 5 1) := ⟨h.1.S (by decide), rfl, h.2.2⟩
theorem BB.s7 {v : Int32} (h : BB K N μ0 μ) : BB K N μ0 (sS μ 7 v) := ⟨h.1.S (by decide), h.2.1, h.2.2⟩
theorem BB.a {a i : Nat} {v : Int32} (h : BB K N μ0 μ) (ha : a = 7 ∨ a = 8 ∨ a = 9 ∨ a = 10 ∨ a = 16) : BB K N μ0 (sA μ a i v) := ⟨h.1.A ha, h.2.1, h.2.2⟩
theorem BB.is (h : BB K N μ0 μ) (x : Int32) : p_Mo_is μ x = some 0 := by
  unfold p_Mo_is
  rw [if_neg h.n5]
theorem BB.take (h : BB K N μ0 μ) (x : Int32) : p_Mo_take μ x = some (0, μ) := by
  unfold p_Mo_take
  rw [h.is, q_bd1, if_pos rfl]
theorem BB.need (h : BB K N μ0 μ) (x : Int32) : p_Mo_need μ x = some (sS μ 5 1) := by
  unfold p_Mo_need
  rw [h.take, q_bd2, if_pos rfl]
theorem BB.name (h : BB K N μ0 μ) (x1 x2 x3 : Int32) : p_Mo_name μ x1 x2 x3 = some (sS μ 5 1) := by
  unfold p_Mo_name
  rw [h.is, q_bd1, if_pos rfl]
theorem BB.tw (h : BB K N μ0 μ) (x1 x2 : Int32) : p_Mo_typeWord μ x1 x2 = some (sS μ 5 1) := by
  unfold p_Mo_typeWord
  rw [h.take, q_bd2, if_pos rfl, h.name, q_bd1]
theorem FU_s : FU = FU - 1 + 1 := by unfold FU; omega
theorem BB.ex (h : BB K N μ0 μ) (x1 x2 : Int32) : p_Mo_expression μ x1 x2 = some (sS μ 7 0) := by
  unfold p_Mo_expression
  rw [FU_s]
  unfold p_Mo_expression_L10
  rw [if_neg (by decide), if_neg h.s7.n5]
/-- the word of a type -/
theorem tword {x1 x2 : Int32} (hT : TKM K N μ0) (h : GD K N μ0 b t μ) {v : Int32} (hv : v ≠ 0) (n1 : ¬ cS (tr K t) = 1) (hb : cS (tr K t) = 14 → ¬ K t = 125 → t = b) (a3 : K t = 3 → cS (tr K (t + 1)) = v ∧ rr (ro K t) = 0) (a1 : K t = 1 → cS (tr K (t + 1)) = v ∧ rr (ro K t) = 2) (a0 : ¬ K t = 3 → ¬ K t = 1 → cS (tr K (t + 1)) = 0) (h1 : x1 = nI (cls K t)) (h2 : x2 = mth K t) : ∃ μ', p_Mo_typeWord μ x1 x2 = some μ' ∧ (BB K N μ0 μ' ∨ (GD K N μ0 b (t + 1) μ' ∧ cS (tr K (t + 1)) = v)) := by
  unfold p_Mo_typeWord
  rw [h.take hT]
  by_cases k3 : K t = 3
  · obtain ⟨s, r⟩ := a3 k3
    rw [if_pos k3, q_bd2, if_neg (by decide)]
    exact ⟨_, rfl, Or.inr ⟨gd_0 hT h (by rw [s]; exact hv) hb r, s⟩⟩
  · rw [if_neg k3, q_bd2, if_pos rfl, h.name hT]
    by_cases k1 : K t = 1
    · obtain ⟨s, r⟩ := a1 k1
      rw [if_pos k1, q_bd1]
      exact ⟨_, rfl, Or.inr ⟨gd_n hT h (by rw [s]; exact hv) hb r.symm h1 h2, s⟩⟩
    · rw [if_neg k1, q_bd1]
      exact ⟨_, rfl, Or.inl (gd_bad h (a0 k3 k1) (fun z => absurd z n1))⟩
theorem rr_ro0 {u : Nat} (h : rr (rbT K u) = 0) : rr (ro K u) = 0 := by
  have n9 : ¬ rbT K u = 9 := fun z => by rw [z] at h; exact absurd h (by decide)
  have n11 : ¬ rbT K u = 11 := fun z => by rw [z] at h; exact absurd h (by decide)
  have n2 : ¬ rbT K u = 2 := fun z => by rw [z] at h; exact absurd h (by decide)
  unfold ro upR
  rw [if_neg n9, if_neg n11, if_neg n2, ite_self]
  exact h
theorem ro_s {u : Nat} {r : Int32} (h : rbT K u = r) (h9 : ¬ r = 9) (h11 : ¬ r = 11) (h2 : ¬ r = 2) : ro K u = r := by
  unfold ro upR
  rw [h, if_neg h9, if_neg h11, if_neg h2, ite_self]
theorem open_g {d : Nat} {x : Int32} (h4 : μ.1 4 = nI t) (h7 : μ.1 7 = nI d) (hd : d ≤ 8) (hx : x = 0 ∨ x = 1) : p_Mo_open μ x = if d = 8 then some (sS μ 5 1) else some (sS (sA (sS μ 4 (nI (t + 1))) 16 d x) 7 (nI (d + 1))) := by
  unfold p_Mo_open
  have e7 : ∀ v, (sS μ 4 v).1 7 = nI d := fun v => h7
  have r : inR (nI d) 10 := q_inR (by omega) (by decide)
  have rn : (nI d).toNatClampNeg = d := q_tn (by omega)
  by_cases e : d = 8
  · rw [if_pos e, if_pos (by rw [h7, e]; rfl)]
  · rw [if_neg e, if_neg (fun z => e ((q_eqL (by omega) (by decide)).mp (h7.symm.trans z)))]
    rcases hx with rfl | rfl
    · rw [if_pos rfl]
      simp only [q_A1, e7, h4, nI_1, if_pos r, rn]
    · rw [if_neg (by decide)]
      simp only [q_A1, e7, h4, nI_1, if_pos r, rn]
theorem GD.o {i : Nat} {v w : Int32} (h : GD K N μ0 b t μ) : GD K N μ0 b t (sS (sA μ 16 i v) 7 w) :=
  ⟨(h.1.A (by decide)).S (by decide), h.2.1, h.2.2.1, h.2.2.2.1, h.2.2.2.2.1, h.2.2.2.2.2.same (by rw [q_S2, q_An (by decide)]) (by rw [q_S2, q_An (by decide)]) (by rw [q_S2, q_An (by decide)]) (by rw [q_S2, q_An (by decide)])⟩
theorem GD.s7 {w : Int32} (h : GD K N μ0 b t μ) : GD K N μ0 b t (sS μ 7 w) :=
  ⟨h.1.S (by decide), h.2.1, h.2.2.1, h.2.2.2.1, h.2.2.2.2.1, h.2.2.2.2.2⟩
end RP1
/-! expressions -/
def WS (K : Nat → Int32) (t : Nat) : Prop := (cS (tr K t) = 14 ∧ ¬ K t = 125 ∧ ¬ K t = 3 ∧ ¬ (K t = 1 ∧ K (t + 1) = 1) ∧ ¬ K t = 6) ∨ cS (tr K t) = 17 ∨ (cS (tr K t) = 21 ∧ ¬ K t = 41)
def NS (K : Nat → Int32) (t : Nat) : Prop := (cS (tr K t) = 20 ∧ ¬ K t = 40) ∨ cS (tr K t) = 22
theorem ws_n {K : Nat → Int32} {t : Nat} (h : WS K t) : cS (tr K (t + 1)) = opr (K t) (cD (tr K t)) ∧ rbT K t = oprR (K t) ∧ cD (tr K (t + 1)) = (if K t = 40 then cD (tr K t) + 1 else cD (tr K t)) ∧ (cO (tr K (t + 1)) = if K t = 40 then (fun j => if j = cD (tr K t) then -1 else cO (tr K t) j) else cO (tr K t)) ∧ cE (tr K (t + 1)) = (if cS (tr K t) = 14 then true else cE (tr K t)) := by
  rw [trS, trD, trO, trE]
  unfold rbT
  rcases h with ⟨hs, a, b, c, d⟩ | hs | ⟨hs, a⟩
  · refine ⟨?_, ?_, ?_, ?_, ?_⟩ <;> simp +decide only [nxt, rb, dpt, opn, eqm, hs, a, b, c, d, true_or, or_true, or_false, false_or, or_self, and_true, and_false, not_false_eq_true, decide_true, if_true, if_false]
  · refine ⟨?_, ?_, ?_, ?_, ?_⟩ <;> simp +decide only [nxt, rb, dpt, opn, eqm, hs, true_or, or_true, or_false, false_or, or_self, and_true, and_false, not_false_eq_true, decide_true, if_true, if_false]
  · refine ⟨?_, ?_, ?_, ?_, ?_⟩ <;> simp +decide only [nxt, rb, dpt, opn, eqm, hs, a, true_or, or_true, or_false, false_or, or_self, and_true, and_false, false_and, not_false_eq_true, decide_true, if_true, if_false]
theorem ns_n {K : Nat → Int32} {t : Nat} (h : NS K t) : cS (tr K (t + 1)) = tal (K t) (cD (tr K t)) (callB (tr K t)) (cE (tr K t)) ∧ rbT K t = talR (K t) ∧ cD (tr K (t + 1)) = (if K t = 41 then cD (tr K t) - 1 else cD (tr K t)) ∧ cO (tr K (t + 1)) = cO (tr K t) ∧ (¬ K t = 61 → cE (tr K (t + 1)) = cE (tr K t)) ∧ (K t = 61 → cE (tr K (t + 1)) = false) := by
  rw [trS, trD, trO, trE]
  unfold rbT
  rcases h with ⟨hs, a⟩ | hs
  · refine ⟨?_, ?_, ?_, ?_, fun h6 => ?_, fun h6 => ?_⟩ <;> simp +decide only [nxt, rb, dpt, opn, eqm, hs, a, *, true_or, or_true, or_false, false_or, or_self, and_true, and_false, false_and, true_and, not_false_eq_true, decide_true, if_true, if_false]
  · refine ⟨?_, ?_, ?_, ?_, fun h6 => ?_, fun h6 => ?_⟩ <;> simp +decide only [nxt, rb, dpt, opn, eqm, hs, *, true_or, or_true, or_false, false_or, or_self, and_true, and_false, false_and, true_and, not_false_eq_true, decide_true, if_true, if_false]
def EI (K : Nat → Int32) (N : Nat) (μ0 : Sto) (b c m : Nat) (e : Bool) (t : Nat) (μ : Sto) : Prop := GD K N μ0 b t μ ∧ μ.1 7 = nI (cD (tr K t)) ∧ (∀ j, j < cD (tr K t) → μ.2.1 16 j = if cO (tr K t) j = -1 then 0 else 1) ∧ cC (tr K t) = c + 1 ∧ cM (tr K t) = m ∧ (cS (tr K t) = 14 → e = true ∧ t = b) ∧ (¬ cS (tr K t) = 14 → cE (tr K t) = e)
def RE (K : Nat → Int32) (N : Nat) (μ0 : Sto) (b c m : Nat) (e : Bool) (t : Nat) (r : Option (Int32 × Sto)) : Prop := (∃ v μ', r = some (v, μ') ∧ (v = 0 ∨ v = 1) ∧ BB K N μ0 μ') ∨ (∃ μ' t', r = some (0, μ') ∧ t < t' ∧ EI K N μ0 b c m e t' μ' ∧ NS K t') ∨ (∃ μ' t', r = some (1, μ') ∧ t < t' ∧ EI K N μ0 b c m e t' μ' ∧ WS K t')
section RP2
variable {K : Nat → Int32} {N : Nat} {μ0 μ : Sto} {t b c m : Nat} {e : Bool}
theorem cC_k (h : ¬ cS (tr K t) = 2) : cC (tr K (t + 1)) = cC (tr K t) := by rw [trC, if_neg h]
theorem cM_k (h : ¬ cS (tr K t) = 7) : cM (tr K (t + 1)) = cM (tr K t) := by rw [trM, if_neg h]
theorem cls_k (hc : cC (tr K t) = c + 1) (h : 8 < cS (tr K t)) : nI c = nI (cls K t) := by
  unfold cls
  rw [if_neg (fun z => by rw [z] at h; exact absurd h (by decide)), hc]
  rfl
theorem mth_k (hm : cM (tr K t) = m) (h : 8 < cS (tr K t)) : nI m = mth K t := by
  unfold mth
  rw [if_pos h, hm]
theorem bname {p : Int32} (hT : TKM K N μ0) (h : GD K N μ0 b t μ) (h7 : μ.1 7 = nI (cD (tr K t))) (ho : ∀ j, j < cD (tr K t) → μ.2.1 16 j = if cO (tr K t) j = -1 then 0 else 1) (hc : cC (tr K t) = c + 1) (hm : cM (tr K t) = m) (hb : cS (tr K t) = 14 → ¬ K t = 125 → t = b) (he : K t = 1 → cE (tr K (t + 1)) = e) (hD : K t = 1 → cD (tr K (t + 1)) = cD (tr K t)) (hO : K t = 1 → cO (tr K (t + 1)) = cO (tr K t)) (hp : K t = 1 → rbT K t = p) (p2 : p = 9 ∨ p = 11) (h8 : 8 < cS (tr K t)) (hs2 : K t = 1 → cS (tr K (t + 1)) = 20) (hsn : ¬ K t = 1 → cS (tr K (t + 1)) = 0) : RE K N μ0 b c m e t (p_Mo_behindName μ p (nI c) (nI m)) := by
  have l := h.lt hT
  have n2 : ¬ cS (tr K t) = 2 := fun z => by rw [z] at h8; exact absurd h8 (by decide)
  have n7 : ¬ cS (tr K t) = 7 := fun z => by rw [z] at h8; exact absurd h8 (by decide)
  have n1 : ¬ cS (tr K t) = 1 := fun z => by rw [z] at h8; exact absurd h8 (by decide)
  have w8 := (WF_all t h.2.2.2.1).1
  unfold p_Mo_behindName
  rw [h.2.2.1, nI_1, if_pos (q_inR (by omega) (by decide)), q_tn (by omega), h.kd hT (by omega)]
  by_cases k1 : K t = 1
  · have s20 := hs2 k1
    have a20 : cS (tr K (t + 1)) ≠ 0 := by rw [s20]; decide
    have hD1 := hD k1
    have hO1 := hO k1
    have c1 : cC (tr K (t + 1)) = c + 1 := (cC_k n2).trans hc
    have m1 : cM (tr K (t + 1)) = m := (cM_k n7).trans hm
    have x14 : ¬ cS (tr K (t + 1)) = 14 := by rw [s20]; decide
    by_cases k40 : K (t + 1) = 40
    · have er : p + 1 = rr (ro K t) := by
        unfold ro
        rw [if_pos k40, hp k1]
        rcases p2 with rfl | rfl <;> decide
      have G1 := gd_n hT h a20 hb er (cls_k hc h8) (mth_k hm h8)
      have l1 := G1.lt hT
      have kN : t + 1 < N := GD.ltN hT k40 (by decide)
      have e7 : (nm μ t (p + 1) (nI c) (nI m)).1 7 = nI (cD (tr K t)) := h7
      rw [if_pos k40]
      unfold p_Mo_behindName_b24
      rw [h.name hT, if_pos k1, q_bd1, if_pos G1.2.1, G1.is hT, if_pos k40, q_bd1, if_neg (by decide), open_g G1.2.2.1 e7 w8 (Or.inr rfl)]
      by_cases d8 : cD (tr K t) = 8
      · have z0 : cS (tr K (t + 1 + 1)) = 0 := by
          rw [trS, s20, k40, hD1, d8]
          simp +decide only [nxt, if_true, if_false]
        have B := gd_bad G1 z0 (fun z => by rw [s20] at z; exact absurd z (by decide))
        rw [if_pos d8, q_bd1, if_neg B.n5]
        exact Or.inl ⟨_, _, rfl, Or.inl rfl, B⟩
      · have dl : cD (tr K t) < 8 := by omega
        have s21 : cS (tr K (t + 1 + 1)) = 21 := by
          rw [trS, s20, k40, hD1]
          simp +decide only [nxt, if_true, if_false, if_pos dl]
        have a21 : cS (tr K (t + 1 + 1)) ≠ 0 := by rw [s21]; decide
        have r22 : rr (ro K (t + 1)) = 0 := rr_ro0 (by
          unfold rbT
          rw [s20, k40]
          simp +decide only [rb, rr, if_true, if_false])
        have G2 := (gd_0 hT G1 a21 (fun z => absurd z x14) r22).o (i := cD (tr K t)) (v := 1) (w := nI (cD (tr K t) + 1))
        have l2 := G2.lt hT
        have D2 : cD (tr K (t + 1 + 1)) = cD (tr K t) + 1 := by
          rw [trD, s20, k40, hD1]
          simp +decide only [dpt, true_or, or_true, and_true, if_true]
        have O2 : cO (tr K (t + 1 + 1)) = fun j => if j = cD (tr K t) then nI t else cO (tr K t) j := by
          rw [trO, s20, k40, hD1, hO1]
          simp +decide only [opn, true_or, or_true, and_true, if_true, Nat.add_sub_cancel]
        have c2 : cC (tr K (t + 1 + 1)) = c + 1 := (cC_k (by rw [s20]; decide)).trans c1
        have m2 : cM (tr K (t + 1 + 1)) = m := (cM_k (by rw [s20]; decide)).trans m1
        have E2 : cE (tr K (t + 1 + 1)) = e := by
          rw [trE, s20, k40]
          simp +decide only [eqm, false_and, if_false]
          exact he k1
        have ho2 : ∀ j, j < cD (tr K t) + 1 → (sS (sA (sS (nm μ t (p + 1) (nI c) (nI m)) 4 (nI (t + 1 + 1))) 16 (cD (tr K t)) 1) 7 (nI (cD (tr K t) + 1))).2.1 16 j = if cO (tr K (t + 1 + 1)) j = -1 then 0 else 1 := by
          intro j hj
          rw [O2, q_S2, q_A2, if_pos rfl]
          by_cases e1 : j = cD (tr K t)
          · rw [if_pos e1]
            simp only [if_pos e1]
            rw [if_neg (q_neg (by omega))]
          · rw [if_neg e1]
            simp only [if_neg e1]
            have := ho j (by omega)
            rw [← this]
            show (nm μ t (p + 1) (nI c) (nI m)).2.1 16 j = _
            unfold nm
            rw [q_S2, q_An (by decide), q_An (by decide), q_An (by decide)]
        rw [if_neg d8, q_bd1, if_pos G2.2.1, G2.is hT]
        by_cases k41 : K (t + 1 + 1) = 41
        · have s22 : cS (tr K (t + 1 + 1 + 1)) = 22 := by
            rw [trS, s21, k41, D2]
            simp +decide only [nxt, if_true, if_false, Nat.add_eq_zero_iff, and_false]
          have a22 : cS (tr K (t + 1 + 1 + 1)) ≠ 0 := by rw [s22]; decide
          have r24 : rr (ro K (t + 1 + 1)) = 0 := rr_ro0 (by
            unfold rbT
            rw [s21, k41]
            simp +decide only [rb, rr, if_true, if_false])
          have G3 := (gd_0 hT G2 a22 (fun z => by rw [s21] at z; exact absurd z (by decide)) r24).s7 (w := nI (cD (tr K t)))
          have D3 : cD (tr K (t + 1 + 1 + 1)) = cD (tr K t) := by
            rw [trD, s21, k41, D2]
            simp +decide only [dpt, true_or, or_true, and_true, false_and, if_true, if_false, Nat.add_sub_cancel]
          have O3 : cO (tr K (t + 1 + 1 + 1)) = cO (tr K (t + 1 + 1)) := by
            rw [trO, s21, k41]
            simp +decide only [opn, false_and, if_false]
          rw [if_pos k41, q_bd1, if_neg (by decide), G2.2.2.1, nI_1]
          have e8 : (sS (sS (sA (sS (nm μ t (p + 1) (nI c) (nI m)) 4 (nI (t + 1 + 1))) 16 (cD (tr K t)) 1) 7 (nI (cD (tr K t) + 1))) 4 (nI (t + 1 + 1 + 1))).1 7 - 1 = nI (cD (tr K t)) := q_subL (a := cD (tr K t) + 1) (k := 1) (Nat.le_add_left _ _)
          rw [e8]
          refine Or.inr (Or.inl ⟨_, t + 1 + 1 + 1, rfl, by omega, ⟨G3, by rw [D3]; rfl, fun j hj => ?_, ?_, ?_, fun z => ?_, fun _ => ?_⟩, Or.inr s22⟩)
          · rw [D3] at hj
            rw [O3]
            exact ho2 j (by omega)
          · exact (cC_k (by rw [s21]; decide)).trans c2
          · exact (cM_k (by rw [s21]; decide)).trans m2
          · rw [s22] at z; exact absurd z (by decide)
          · rw [trE, s21, k41]
            simp +decide only [eqm, false_and, if_false]
            exact E2
        · rw [if_neg k41, q_bd1, if_pos rfl]
          refine Or.inr (Or.inr ⟨_, t + 1 + 1, rfl, by omega, ⟨G2, by rw [D2]; rfl, fun j hj => ?_, c2, m2, fun z => ?_, fun _ => E2⟩, Or.inr (Or.inr ⟨s21, k41⟩)⟩)
          · rw [D2] at hj
            exact ho2 j hj
          · rw [s21] at z; exact absurd z (by decide)
    · have er : p = rr (ro K t) := by
        unfold ro
        rw [if_neg k40, hp k1]
        rcases p2 with rfl | rfl <;> decide
      have G1 := gd_n hT h a20 hb er (cls_k hc h8) (mth_k hm h8)
      rw [if_neg k40]
      unfold p_Mo_behindName_b24
      rw [h.name hT, if_pos k1, q_bd1, if_pos G1.2.1, G1.is hT, if_neg k40, q_bd1, if_pos rfl]
      refine Or.inr (Or.inl ⟨_, t + 1, rfl, by omega, ⟨G1, by rw [hD1]; exact h7, fun j hj => ?_, c1, m1, fun z => absurd z x14, fun _ => he k1⟩, Or.inl ⟨s20, k40⟩⟩)
      rw [hD1] at hj
      rw [hO1, ← ho j hj]
      unfold nm
      rw [q_S2, q_An (by decide), q_An (by decide), q_An (by decide)]
  · have B := gd_bad h (hsn k1) (fun z => absurd z n1)
    have hh : ∀ x, p_Mo_behindName_b24 p (nI c) (nI m) μ x = some (0, sS μ 5 1) := by
      intro x
      unfold p_Mo_behindName_b24
      rw [h.name hT, if_neg k1, q_bd1, if_neg B.n5]
    rw [hh, hh, ite_self]
    exact Or.inl ⟨_, _, rfl, Or.inl rfl, B⟩
end RP2
