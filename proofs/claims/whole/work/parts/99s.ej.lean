/-! judging: class and reference side by side -/
def PLv (f0 t : Nat) (σ μ : Sto) (l : Nat) : Prop := ∃ f g b, (l = 0 → f = f0) ∧ f ≤ t ∧ g ≤ t ∧ (b = 0 ∨ b = 1) ∧ σ.2.1 25 l = nI f ∧ μ.2.1 17 l = nI f ∧ σ.2.1 26 l = nI g ∧ μ.2.1 18 l = nI g ∧ σ.2.1 28 l = b ∧ μ.2.1 20 l = b
def CIv (K : Nat → Int32) (N t : Nat) (σ μ : Sto) (l x : Nat) : Prop := σ.2.1 27 l = μ.2.1 19 l ∧ TV K N (σ.2.1 27 l) ∧ ac K N x ≠ 0 ∧ x < t ∧ σ.2.1 24 (l + 1) = nI (ac K t x - 1) ∧ μ.2.1 21 (l + 1) = nI (ac K t x - 1) ∧ ∃ o : Option Nat, σ.2.1 11 x = oI o ∧ (∀ m, o = some m → m < N ∧ ro K m = 3) ∧ μ.2.1 23 (l + 1) = o.elim (-1) (fun m => if ac K N m = ac K N x then nI m else -1)
def EL (f0 : Nat) (K : Nat → Int32) (N t D : Nat) (o : Nat → Int32) (σ μ : Sto) : Prop := σ.1 12 = nI D ∧ μ.1 7 = nI D ∧ σ.2.1 23 0 = -1 ∧ (∀ l, l ≤ D → PLv f0 t σ μ l) ∧ (∀ l, l < D → σ.2.1 23 (l + 1) = o l ∧ μ.2.1 16 (l + 1) = if o l = -1 then 0 else 1) ∧ (∀ l x, l < D → x < 121 → o l = nI x → CIv K N t σ μ l x)
def TLv (K : Nat → Int32) (N D : Nat) (σ μ : Sto) : Prop := σ.2.1 27 D = μ.2.1 19 D ∧ TV K N (σ.2.1 27 D)
def AG (N : Nat) (σ μ : Sto) : Prop := (∀ u, u < N → σ.2.1 11 u = μ.2.1 14 u) ∧ (∀ u, u < 124 → σ.2.1 17 u = μ.2.1 13 u)
/-- marks are bits of ten kinds, of tokens that are there -/
def MB (N : Nat) (σ : Sto) : Prop := (∀ u, ∃ m, m < 2048 ∧ σ.2.1 17 u = nI m) ∧ (∀ u, N ≤ u → σ.2.1 17 u = 0)
theorem or_b : ∀ m, m < 2048 → (nI m ||| 512 = nI (m ||| 512) ∧ m ||| 512 < 2048) ∧ (nI m ||| 1024 = nI (m ||| 1024) ∧ m ||| 1024 < 2048) := by decide +kernel
theorem MB.or {N : Nat} {σ : Sto} {f : Nat} {w : Int32} (h : MB N σ) (hf : f < N) (hw : w = 512 ∨ w = 1024) : MB N (sA σ 17 f (σ.2.1 17 f ||| w)) := by
  refine ⟨fun u => ?_, fun u hu => by rw [q_A2, if_pos rfl, if_neg (by omega)]; exact h.2 u hu⟩
  rw [q_A2, if_pos rfl]
  by_cases e : u = f
  · rw [if_pos e]
    obtain ⟨m, m1, m2⟩ := h.1 f
    rw [m2]
    obtain ⟨⟨a, b⟩, c, d⟩ := or_b m m1
    rcases hw with z | z
    · rw [z]; exact ⟨_, b, a⟩
    · rw [z]; exact ⟨_, d, c⟩
  · rw [if_neg e]; exact h.1 u
theorem MB.same {N : Nat} {σ σ' : Sto} (h : MB N σ) (e : σ'.2.1 17 = σ.2.1 17) : MB N σ' := by unfold MB at h ⊢; rw [e]; exact h
theorem MB.w {N : Nat} {σ : Sto} {f : Nat} {b : Bool} (h : MB N σ) (hf : f < N) : MB N (cw σ f b) := by
  unfold cw
  by_cases e : b = true
  · rw [if_pos e]; exact h
  · rw [if_neg e]; exact h.or hf (Or.inl rfl)
def RSv (K : Nat → Int32) (N : Nat) (W : Nat → Int64) (σ : Sto) (t : Nat) : Prop := (∀ u, t ≤ u → u < N → σ.2.1 11 u = (an0 K N W u).1 ∧ σ.2.1 17 u = (an0 K N W u).2) ∧ MB N σ ∧ MN K N W σ
/-- what all judging leaves alone -/
def BSv (z0 : Sto × Sto) (σ μ : Sto) : Prop := (∀ k, k < 10 → σ.1 k = z0.1.1 k) ∧ (∀ a, a ≠ 11 → a ≠ 17 → a < 23 → σ.2.1 a = z0.1.2.1 a) ∧ σ.2.2 = z0.1.2.2 ∧ (∀ k, k ≠ 7 → k ≠ 8 → μ.1 k = z0.2.1 k) ∧ (∀ a, a < 13 ∨ a = 15 → μ.2.1 a = z0.2.2.1 a) ∧ μ.2.2 = z0.2.2.2
def EB (z0 : Sto × Sto) (K : Nat → Int32) (N : Nat) (W : Nat → Int64) (t : Nat) (σ μ : Sto) : Prop := SC K N σ ∧ WW K N σ.2.2 W ∧ (∀ c, c < cC (tr K N) → σ.2.1 14 c = oI (parF (abv K N W) 40 c)) ∧ (∀ u, u < N → σ.2.1 12 u = tyd K N W N u) ∧ SM K N μ ∧ μ.2.2 = W ∧ AG N σ μ ∧ RSv K N W σ t ∧ BSv z0 σ μ
/-- where the expression stands -/
def EC (sh : Int32) (K : Nat → Int32) (c st t : Nat) (σ μ : Sto) : Prop := σ.1 17 = sh ∧ σ.1 13 = nI c ∧ cC (tr K t) = c + 1 ∧ σ.1 14 = nI (cM (tr K t)) ∧ σ.1 16 = nI st ∧ μ.2.1 8 st = nI c ∧ st ≤ t
def EJ (z0 : Sto × Sto) (f0 : Nat) (sh : Int32) (K : Nat → Int32) (N : Nat) (W : Nat → Int64) (c st t : Nat) (σ μ : Sto) : Prop := EB z0 K N W t σ μ ∧ EC sh K c st t σ μ ∧ EL f0 K N t (cD (tr K t)) (cO (tr K t)) σ μ ∧ ((cS (tr K t) = 19 ∨ cS (tr K t) = 20 ∨ cS (tr K t) = 22) → TLv K N (cD (tr K t)) σ μ)
/-- what judging leaves alone -/
def CFr (σ σ' : Sto) : Prop := (∀ k, k ≠ 12 → σ'.1 k = σ.1 k) ∧ (∀ a, a ≠ 11 → a ≠ 17 → a < 23 → σ'.2.1 a = σ.2.1 a) ∧ σ'.2.2 = σ.2.2
def MFr (μ μ' : Sto) : Prop := (∀ k, k ≠ 7 → k ≠ 8 → μ'.1 k = μ.1 k) ∧ (∀ a, a < 13 ∨ a = 15 → μ'.2.1 a = μ.2.1 a) ∧ μ'.2.2 = μ.2.2
theorem CFr.refl (σ : Sto) : CFr σ σ := ⟨fun _ _ => rfl, fun _ _ _ _ => rfl, rfl⟩
theorem MFr.refl (μ : Sto) : MFr μ μ := ⟨fun _ _ _ => rfl, fun _ _ => rfl, rfl⟩
theorem CFr.A {σ σ' : Sto} {a i : Nat} {v : Int32} (h : CFr σ σ') (ha : a = 11 ∨ a = 17 ∨ 23 ≤ a) : CFr σ (sA σ' a i v) := ⟨h.1, fun b p q r => by rw [q_An (by omega)]; exact h.2.1 b p q r, h.2.2⟩
theorem CFr.S {σ σ' : Sto} {k : Nat} {v : Int32} (h : CFr σ σ') (hk : k = 12) : CFr σ (sS σ' k v) := ⟨fun j p => by rw [q_S1, if_neg (by omega)]; exact h.1 j p, h.2.1, h.2.2⟩
theorem MFr.A {μ μ' : Sto} {a i : Nat} {v : Int32} (h : MFr μ μ') (ha : 13 ≤ a ∧ a ≠ 15) : MFr μ (sA μ' a i v) := ⟨h.1, fun b p => by rw [q_An (by omega)]; exact h.2.1 b p, h.2.2⟩
theorem MFr.S {μ μ' : Sto} {k : Nat} {v : Int32} (h : MFr μ μ') (hk : k = 7 ∨ k = 8) : MFr μ (sS μ' k v) := ⟨fun j p q => by rw [q_S1, if_neg (by omega)]; exact h.1 j p q, h.2.1, h.2.2⟩
theorem CFr.trans {a b c : Sto} (h : CFr a b) (g : CFr b c) : CFr a c := ⟨fun k p => (g.1 k p).trans (h.1 k p), fun x p q r => (g.2.1 x p q r).trans (h.2.1 x p q r), g.2.2.trans h.2.2⟩
theorem MFr.trans {a b c : Sto} (h : MFr a b) (g : MFr b c) : MFr a c := ⟨fun k p q => (g.1 k p q).trans (h.1 k p q), fun x p => (g.2.1 x p).trans (h.2.1 x p), g.2.2.trans h.2.2⟩
theorem CFr.w {σ : Sto} {f : Nat} {b : Bool} : CFr σ (cw σ f b) := by
  unfold cw
  by_cases e : b = true
  · rw [if_pos e]; exact CFr.refl σ
  · rw [if_neg e]; exact (CFr.refl σ).A (by decide)
theorem MFr.w {μ : Sto} {f : Nat} {b : Bool} : MFr μ (mw μ f b) := by
  unfold mw
  by_cases e : b = true
  · rw [if_pos e]; exact MFr.refl μ
  · rw [if_neg e]; exact (MFr.refl μ).A (by decide)
theorem cw_1 {σ : Sto} {f : Nat} {b : Bool} : (cw σ f b).1 = σ.1 := by unfold cw; split <;> rfl
theorem mw_1 {μ : Sto} {f : Nat} {b : Bool} : (mw μ f b).1 = μ.1 := by unfold mw; split <;> rfl
theorem cw_a {σ : Sto} {f a : Nat} {b : Bool} (ha : a ≠ 17) : (cw σ f b).2.1 a = σ.2.1 a := by
  unfold cw
  by_cases e : b = true
  · rw [if_pos e]
  · rw [if_neg e, q_An ha]
theorem mw_a {μ : Sto} {f a : Nat} {b : Bool} (ha : a ≠ 13) : (mw μ f b).2.1 a = μ.2.1 a := by
  unfold mw
  by_cases e : b = true
  · rw [if_pos e]
  · rw [if_neg e, q_An ha]
theorem AG.w {N : Nat} {σ μ : Sto} {f : Nat} {b : Bool} (h : AG N σ μ) : AG N (cw σ f b) (mw μ f b) := by
  refine ⟨fun u hu4 => by rw [cw_a (by decide), mw_a (by decide)]; exact h.1 u hu4, fun u hu4 => ?_⟩
  unfold cw mw
  by_cases e : b = true
  · rw [if_pos e, if_pos e]; exact h.2 u hu4
  · rw [if_neg e, if_neg e, q_A2, q_A2, if_pos rfl, if_pos rfl]
    by_cases uf : u = f
    · rw [if_pos uf, if_pos uf, h.2 f (by omega)]
    · rw [if_neg uf, if_neg uf, h.2 u hu4]
theorem RSv.w {K : Nat → Int32} {N : Nat} {W : Nat → Int64} {σ : Sto} {t f : Nat} {b : Bool} (h : RSv K N W σ t) (hf : f ≤ t) (tl : t < N) : RSv K N W (cw σ f b) (t + 1) := by
  refine ⟨fun u hu hN => ?_, h.2.1.w (by omega), fun u hu => by rw [cw_a (by decide)]; exact h.2.2 u hu⟩
  rw [cw_a (by decide)]
  refine ⟨(h.1 u (by omega) hN).1, ?_⟩
  unfold cw
  by_cases e : b = true
  · rw [if_pos e]; exact (h.1 u (by omega) hN).2
  · rw [if_neg e, q_A2, if_pos rfl, if_neg (by omega)]; exact (h.1 u (by omega) hN).2
theorem RSv.mono {K : Nat → Int32} {N : Nat} {W : Nat → Int64} {σ : Sto} {t t' : Nat} (h : RSv K N W σ t) (ht : t ≤ t') : RSv K N W σ t' := ⟨fun u hu hN => h.1 u (by omega) hN, h.2⟩
theorem RSv.same {K : Nat → Int32} {N : Nat} {W : Nat → Int64} {σ σ' : Sto} {t : Nat} (h : RSv K N W σ t) (e1 : σ'.2.1 11 = σ.2.1 11) (e2 : σ'.2.1 17 = σ.2.1 17) : RSv K N W σ' t := ⟨fun u hu hN => by rw [e1, e2]; exact h.1 u hu hN, h.2.1.same e2, fun u hu => by rw [e1]; exact h.2.2 u hu⟩
section EJS
variable {z0 : Sto × Sto} {f0 : Nat} {sh : Int32} {K : Nat → Int32} {N : Nat} {W : Nat → Int64} {c st t : Nat} {σ μ σ' μ' : Sto}
theorem EB.fr {t' : Nat} (h : EB z0 K N W t σ μ) (hc : CFr σ σ') (hm : MFr μ μ') (ag : AG N σ' μ') (rs : RSv K N W σ' t') : EB z0 K N W t' σ' μ' := by
  obtain ⟨a, b, c, d, e, f, _, _, z1, z2, z3, z4, z5, z6⟩ := h
  refine ⟨a.keep (hc.1 3 (by decide)) (hc.1 4 (by decide)) (hc.2.1 6 (by decide) (by decide) (by decide)) (hc.2.1 9 (by decide) (by decide) (by decide)) (hc.2.1 10 (by decide) (by decide) (by decide)) (hc.2.1 13 (by decide) (by decide) (by decide)), by rw [hc.2.2]; exact b, fun x hx => by rw [hc.2.1 14 (by decide) (by decide) (by decide)]; exact c x hx, fun u hu => by rw [hc.2.1 12 (by decide) (by decide) (by decide)]; exact d u hu, e.keep (hm.1 3 (by decide) (by decide)) (hm.1 6 (by decide) (by decide)) (fun x hx => hm.2.1 x (Or.inl hx)), hm.2.2.trans f, ag, rs, fun k hk => (hc.1 k (by omega)).trans (z1 k hk), fun x p q r => (hc.2.1 x p q r).trans (z2 x p q r), hc.2.2.trans z3, fun k p q => (hm.1 k p q).trans (z4 k p q), fun x hx => (hm.2.1 x hx).trans (z5 x hx), hm.2.2.trans z6⟩
theorem EC.fr {t' : Nat} (h : EC sh K c st t σ μ) (hc : CFr σ σ') (hm : MFr μ μ') (tt : t ≤ t') (e1 : cC (tr K t') = cC (tr K t)) (e2 : cM (tr K t') = cM (tr K t)) : EC sh K c st t' σ' μ' := by
  obtain ⟨z, a, b, d, e, f, g⟩ := h
  exact ⟨(hc.1 17 (by decide)).trans z, (hc.1 13 (by decide)).trans a, e1.trans b, ((hc.1 14 (by decide)).trans d).trans (by rw [e2]), (hc.1 16 (by decide)).trans e, by rw [hm.2.1 8 (by decide)]; exact f, by omega⟩
theorem PLv.fr {t' l : Nat} (h : PLv f0 t σ μ l) (tt : t ≤ t') (e25 : σ'.2.1 25 l = σ.2.1 25 l) (e26 : σ'.2.1 26 l = σ.2.1 26 l) (e28 : σ'.2.1 28 l = σ.2.1 28 l) (e17 : μ'.2.1 17 l = μ.2.1 17 l) (e18 : μ'.2.1 18 l = μ.2.1 18 l) (e20 : μ'.2.1 20 l = μ.2.1 20 l) : PLv f0 t' σ' μ' l := by
  obtain ⟨f, g, b, h0, h1, h2, h3, h4, h5, h6, h7, h8, h9⟩ := h
  exact ⟨f, g, b, h0, by omega, by omega, h3, e25.trans h4, e17.trans h5, e26.trans h6, e18.trans h7, e28.trans h8, e20.trans h9⟩
theorem CIv.fr {t' l x : Nat} (h : CIv K N t σ μ l x) (tt : t ≤ t') (ea : ac K t' x - 1 = ac K t x - 1) (e27 : σ'.2.1 27 l = σ.2.1 27 l) (e19 : μ'.2.1 19 l = μ.2.1 19 l) (e24 : σ'.2.1 24 (l + 1) = σ.2.1 24 (l + 1)) (e21 : μ'.2.1 21 (l + 1) = μ.2.1 21 (l + 1)) (e23 : μ'.2.1 23 (l + 1) = μ.2.1 23 (l + 1)) (e11 : ∀ u, u < t → σ'.2.1 11 u = σ.2.1 11 u) : CIv K N t' σ' μ' l x := by
  obtain ⟨h1, h2, h3, h4, h5, h6, o, h7, h8, h9⟩ := h
  exact ⟨by rw [e27, e19]; exact h1, by rw [e27]; exact h2, h3, by omega, by rw [e24, ea]; exact h5, by rw [e21, ea]; exact h6, o, by rw [e11 x h4]; exact h7, h8, by rw [e23]; exact h9⟩
/-- levels that stay as they were, with another type on top -/
theorem EL.fr {D t' : Nat} {o : Nat → Int32} (h : EL f0 K N t D o σ μ) (tt : t ≤ t') (ea : ∀ x, ac K t' x - 1 = ac K t x - 1) (e12 : σ'.1 12 = σ.1 12) (e7 : μ'.1 7 = μ.1 7) (e23 : σ'.2.1 23 = σ.2.1 23) (e24 : σ'.2.1 24 = σ.2.1 24) (e25 : σ'.2.1 25 = σ.2.1 25) (e26 : σ'.2.1 26 = σ.2.1 26) (e28 : σ'.2.1 28 = σ.2.1 28) (e27 : ∀ l, l < D → σ'.2.1 27 l = σ.2.1 27 l) (m16 : μ'.2.1 16 = μ.2.1 16) (m17 : μ'.2.1 17 = μ.2.1 17) (m18 : μ'.2.1 18 = μ.2.1 18) (m20 : μ'.2.1 20 = μ.2.1 20) (m21 : μ'.2.1 21 = μ.2.1 21) (m23 : μ'.2.1 23 = μ.2.1 23) (m19 : ∀ l, l < D → μ'.2.1 19 l = μ.2.1 19 l) (e11 : ∀ u, u < t → σ'.2.1 11 u = σ.2.1 11 u) : EL f0 K N t' D o σ' μ' := by
  obtain ⟨a, b, d, p, q, r⟩ := h
  refine ⟨e12.trans a, e7.trans b, by rw [e23]; exact d, fun l hl => (p l hl).fr tt (by rw [e25]) (by rw [e26]) (by rw [e28]) (by rw [m17]) (by rw [m18]) (by rw [m20]), fun l hl => by rw [e23, m16]; exact q l hl, fun l x hl hx ho => (r l x hl hx ho).fr tt (ea x) (e27 l hl) (m19 l hl) (by rw [e24]) (by rw [m21]) (by rw [m23]) e11⟩
/-- one value at the level, one token further -/
theorem EJ.val {D : Nat} {v : Int32} (h : EJ z0 f0 sh K N W c st t σ μ) (hD : cD (tr K t) = D) (hT : TV K N v) (ha : cS (tr K (t + 1)) ≠ 0) (h8 : 8 < cS (tr K t)) (s11 : ¬ cS (tr K t) = 11) (k44 : ¬ K t = 44) (eD : cD (tr K (t + 1)) = cD (tr K t)) (eO : cO (tr K (t + 1)) = cO (tr K t)) : EJ z0 f0 sh K N W c st (t + 1) (sA σ 27 D v) (sA μ 19 D v) := by
  obtain ⟨eb, ec, el, tl⟩ := h
  have hK := eb.1.2.2.1
  have hN := eb.1.1
  have fc : CFr σ (sA σ 27 D v) := (CFr.refl σ).A (by decide)
  have fm : MFr μ (sA μ 19 D v) := (MFr.refl μ).A (by decide)
  refine ⟨eb.fr fc fm ⟨fun u hu4 => by rw [q_An (by decide), q_An (by decide)]; exact eb.2.2.2.2.2.2.1.1 u hu4, fun u hu4 => by rw [q_An (by decide), q_An (by decide)]; exact eb.2.2.2.2.2.2.1.2 u hu4⟩ ((eb.2.2.2.2.2.2.2.1.mono (by omega)).same (q_An (by decide)) (q_An (by decide))), ec.fr fc fm (by omega) (cC_k (n_8 h8 (by decide))) (cM_k (n_8 h8 (by decide))), ?_, fun _ => ?_⟩
  · rw [eD, eO]
    exact el.fr (by omega) (fun x => ac_sub hK hN k44 s11) rfl rfl (q_An (by decide)) (q_An (by decide)) (q_An (by decide)) (q_An (by decide)) (q_An (by decide)) (fun l hl => by rw [q_A2, if_pos rfl, if_neg (by omega)]) (q_An (by decide)) (q_An (by decide)) (q_An (by decide)) (q_An (by decide)) (q_An (by decide)) (q_An (by decide)) (fun l hl => by rw [q_A2, if_pos rfl, if_neg (by omega)]) (fun u _ => by rw [q_An (by decide)])
  · rw [eD, hD]
    refine ⟨?_, ?_⟩
    · rw [q_A2, q_A2, if_pos rfl, if_pos rfl, if_pos rfl, if_pos rfl]
    · rw [q_A2, if_pos rfl, if_pos rfl]; exact hT
/-- nothing but the place changes -/
theorem EJ.nop (h : EJ z0 f0 sh K N W c st t σ μ) (ha : cS (tr K (t + 1)) ≠ 0) (h8 : 8 < cS (tr K t)) (s11 : ¬ cS (tr K t) = 11) (k44 : ¬ K t = 44) (eD : cD (tr K (t + 1)) = cD (tr K t)) (eO : cO (tr K (t + 1)) = cO (tr K t)) (tl' : (cS (tr K (t + 1)) = 19 ∨ cS (tr K (t + 1)) = 20 ∨ cS (tr K (t + 1)) = 22) → (cS (tr K t) = 19 ∨ cS (tr K t) = 20 ∨ cS (tr K t) = 22)) : EJ z0 f0 sh K N W c st (t + 1) σ μ := by
  obtain ⟨eb, ec, el, tl⟩ := h
  have hK := eb.1.2.2.1
  have hN := eb.1.1
  refine ⟨eb.fr (CFr.refl σ) (MFr.refl μ) eb.2.2.2.2.2.2.1 (eb.2.2.2.2.2.2.2.1.mono (by omega)), ec.fr (CFr.refl σ) (MFr.refl μ) (by omega) (cC_k (n_8 h8 (by decide))) (cM_k (n_8 h8 (by decide))), ?_, fun z => ?_⟩
  · rw [eD, eO]
    exact el.fr (by omega) (fun x => ac_sub hK hN k44 s11) rfl rfl rfl rfl rfl rfl rfl (fun _ _ => rfl) rfl rfl rfl rfl rfl rfl (fun _ _ => rfl) (fun _ _ => rfl)
  · rw [eD]; exact tl (tl' z)
/-- a name is judged, one token further -/
theorem EJ.nam {p q y : Int32} {D : Nat} {r : Option Sto} (h : EJ z0 f0 sh K N W c st t σ μ) (hD : cD (tr K t) = D) (hT : TV K N y) (ha : cS (tr K (t + 1)) ≠ 0) (h8 : 8 < cS (tr K t)) (s11 : ¬ cS (tr K t) = 11) (k44 : ¬ K t = 44) (eD : cD (tr K (t + 1)) = cD (tr K t)) (eO : cO (tr K (t + 1)) = cO (tr K t)) (J : TJ σ t D p q y r) (T : TK μ t D p q y μ') (hq : ∃ m, m < 2048 ∧ q = nI m) (tl2 : t < N) (hp : MV K N W t p) (r4 : ro K t = 9 ∨ ro K t = 10 ∨ ro K t = 11 ∨ ro K t = 12) : ∃ σ', r = some σ' ∧ EJ z0 f0 sh K N W c st (t + 1) σ' μ' ∧ σ'.2.1 11 t = p := by
  obtain ⟨σ', r1, a1, a2, a3, a4, a5, a6⟩ := J
  obtain ⟨b1, b2, b3, b4, b5, b6⟩ := T
  obtain ⟨eb, ec, el, tl⟩ := h
  have hK := eb.1.2.2.1
  have hN := eb.1.1
  have fc : CFr σ σ' := ⟨fun k _ => by rw [a1], fun a p1 p2 p3 => a2 a p1 p2 (by omega), a3⟩
  have fm : MFr μ μ' := ⟨fun k _ _ => by rw [b1], fun a p => b2 a (by omega) (by omega) (by omega), b3⟩
  refine ⟨σ', r1, ⟨eb.fr fc fm ⟨fun u hu4 => ?_, fun u hu4 => ?_⟩ ⟨fun u hu hN => ?_, ⟨fun u => ?_, fun u hu => ?_⟩, fun u hu => ?_⟩, ec.fr fc fm (by omega) (cC_k (n_8 h8 (by decide))) (cM_k (n_8 h8 (by decide))), ?_, fun _ => ?_⟩, by rw [a4, if_pos rfl]⟩
  · rw [a4, b4, eb.2.2.2.2.2.2.1.1 u hu4]
  · rw [a5, b5, eb.2.2.2.2.2.2.1.2 u hu4]
  · rw [a4, a5, if_neg (by omega), if_neg (by omega)]
    exact eb.2.2.2.2.2.2.2.1.1 u (by omega) hN
  · rw [a5]
    by_cases e : u = t
    · rw [if_pos e]; exact hq
    · rw [if_neg e]; exact eb.2.2.2.2.2.2.2.1.2.1.1 u
  · rw [a5, if_neg (by omega)]; exact eb.2.2.2.2.2.2.2.1.2.1.2 u hu
  · rw [a4]
    by_cases e : u = t
    · rw [if_pos e]
      exact ⟨fun z => absurd (by rw [e]; exact r4) z, by rw [e]; exact hp⟩
    · rw [if_neg e]; exact eb.2.2.2.2.2.2.2.1.2.2 u hu
  · rw [eD, eO]
    exact el.fr (by omega) (fun x => ac_sub hK hN k44 s11) (by rw [a1]) (by rw [b1]) (a2 23 (by decide) (by decide) (by decide)) (a2 24 (by decide) (by decide) (by decide)) (a2 25 (by decide) (by decide) (by decide)) (a2 26 (by decide) (by decide) (by decide)) (a2 28 (by decide) (by decide) (by decide)) (fun l hl => by rw [a6, if_neg (by omega)]) (b2 16 (by decide) (by decide) (by decide)) (b2 17 (by decide) (by decide) (by decide)) (b2 18 (by decide) (by decide) (by decide)) (b2 20 (by decide) (by decide) (by decide)) (b2 21 (by decide) (by decide) (by decide)) (b2 23 (by decide) (by decide) (by decide)) (fun l hl => by rw [b6, if_neg (by omega)]) (fun u hu => by rw [a4, if_neg (by omega)])
  · rw [eD, hD]
    refine ⟨?_, ?_⟩
    · rw [a6, b6, if_pos rfl, if_pos rfl]
    · rw [a6, if_pos rfl]; exact hT
end EJS
