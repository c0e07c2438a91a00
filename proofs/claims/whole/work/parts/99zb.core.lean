/-! one text, read by both -/
def KK (C : Nat → Nat) (n N : Nat) (u : Nat) : Int32 := if u < N then nI (kdN C n u (tS C n u)) else 0
/-- the readings agree, and there is no fault -/
def RDg (σ μ : Sto) : Prop := ∃ (n N : Nat) (C : Nat → Nat) (z0 : Sto × Sto), TC σ n C ∧ TM μ n C ∧ isNt C n N ∧ TkC C n σ N ∧ TkM C n μ N ∧ EB z0 (KK C n N) N μ.2.2 N σ μ ∧ σ.1 5 = -1 ∧ μ.1 5 = 0
/-- .. or there is the same fault -/
def RDb (σ μ : Sto) : Prop := ∃ T q : Nat, T ≤ 121 ∧ q < 1000 ∧ σ.1 3 = nI T ∧ μ.1 3 = nI T ∧ σ.1 4 = 0 ∧ μ.1 6 = 0 ∧ σ.1 5 = nI q ∧ μ.1 5 = 1 ∧ μ.2.1 5 T = nI q ∧ (∀ u, σ.2.1 11 u = -1) ∧ (∀ u, u < 124 → μ.2.1 13 u = if u = T then 1 else 0)
/-- what reading leaves alone in the reference -/
def AFr (μ μ' : Sto) : Prop := (∀ k, k = 0 ∨ k = 1 ∨ k = 2 → μ'.1 k = μ.1 k) ∧ (∀ a, a = 1 ∨ a = 2 ∨ a = 15 → μ'.2.1 a = μ.2.1 a)
theorem AFr.trans {a b c : Sto} (h : AFr a b) (g : AFr b c) : AFr a c := ⟨fun k p => (g.1 k p).trans (h.1 k p), fun x p => (g.2 x p).trans (h.2 x p)⟩
section CORE
variable {n N : Nat} {C : Nat → Nat}
theorem kd1 {u p : Nat} (h : kdN C n u p = 1) (hs : ∀ i, p ≤ i → i < n → 32 ≤ C i) (hp : p < n) : isLN (C p) = true ∧ en C n p - p ≤ 8 := by
  unfold kdN at h
  by_cases e : u = 120
  · rw [if_pos e] at h; exact absurd h (by decide)
  · rw [if_neg e] at h
    by_cases l : isLN (C p) = true
    · rw [if_pos l] at h
      by_cases q : 8 < en C n p - p
      · rw [if_pos q] at h; exact absurd h (by decide)
      · exact ⟨l, by omega⟩
    · rw [if_neg l] at h
      by_cases d : isDN (C p) = true
      · rw [if_pos d] at h
        by_cases q : 6 < en C n p - p
        · rw [if_pos q] at h; exact absurd h (by decide)
        · rw [if_neg q] at h; exact absurd h (by decide)
      · rw [if_neg d] at h
        by_cases sg : isSN (C p) = true
        · rw [if_pos sg] at h
          have := hs p (Nat.le_refl _) hp
          omega
        · rw [if_neg sg] at h; exact absurd h (by decide)
theorem ww {σ σ0 μ : Sto} (hc : TC σ0 n C) (iN : isNt C n N) (tk : TkC C n σ N) (tm : TkM C n μ N) : WW (KK C n N) N σ.2.2 μ.2.2 := by
  intro u v hu hv ku kv
  have f : ∀ {w : Nat}, w < N → KK C n N w = 1 → ∃ x l, wdO x l ∧ σ.2.2 w = lN (x * 256 ^ (8 - l)) ∧ μ.2.2 w = lN x := by
    intro w hw kw
    unfold KK at kw
    rw [if_pos hw] at kw
    have g := kdN_ge C n w (tS C n w)
    have kd : kdN C n w (tS C n w) = 1 := (q_eqL (by omega) (by decide)).mp kw
    have tl := iN.2.1 w hw
    obtain ⟨l, e8⟩ := kd1 kd (fun i _ hi => (hc.2.2 i hi).2.1) tl
    refine ⟨_, _, en_wd hc tl l e8, ?_, (tm w hw).2.2.2 l e8⟩
    rw [(tk w hw).2.2.2, spN_8 C e8]
  obtain ⟨x1, l1, w1, a1, b1⟩ := f hu ku
  obtain ⟨x2, l2, w2, a2, b2⟩ := f hv kv
  have t1 := wdO_lt w1
  have t2 := wdO_lt w2
  rw [a1, a2, b1, b2, lN_inj (by omega) (by omega), lN_inj (by omega) (by omega), wdO_eq w1 w2]
  constructor
  · exact fun z => z.1
  · intro z
    subst z
    exact ⟨rfl, wdO_len w1 w2⟩
theorem kk_ne (hN : N ≤ 121) {u : Nat} (hu : u < N) : KK C n N u ≠ 0 := by
  unfold KK
  rw [if_pos hu]
  have g := kdN_ge C n u (tS C n u)
  intro z
  have : kdN C n u (tS C n u) = 0 := (q_eqL (by omega) (by decide)).mp z
  omega
theorem tkc {σ : Sto} (iN : isNt C n N) (s2 : σ.1 2 = nI N) (tk : TkC C n σ N) : TKC (KK C n N) N σ := by
  refine ⟨iN.1, s2, fun u hu => ?_, fun u hu => ?_⟩
  · have g := kdN_ge C n u (tS C n u)
    rw [(tk u hu).2.2.1]
    unfold KK
    rw [if_pos hu]
    exact SK_of _ (by omega) g.1
  · unfold KK; rw [if_neg (by omega)]
/-- the reference's rows are cleared -/
theorem mL6 : ∀ (j t fuel : Nat) (ν : Sto), j + t = 124 → j < fuel → ∃ ν', p_Mo_analyse_L6 fuel ν (nI t) = (bd1 (p_Mo_file (sS (sS ν' 4 0) 5 0)) fun σ_71 => if (σ_71.1 5) = 0 then p_Mo_analyse_L184 FU σ_71 0 else p_Mo_analyse_L88 FU (sS σ_71 6 0) 0) ∧ ν'.1 = ν.1 ∧ ν'.2.2 = ν.2.2 ∧ (∀ a, a ≠ 7 → a ≠ 8 → a ≠ 9 → a ≠ 10 → a ≠ 13 → a ≠ 14 → ν'.2.1 a = ν.2.1 a) ∧ (∀ u, ν'.2.1 7 u = if t ≤ u ∧ u < 124 then 0 else ν.2.1 7 u) ∧ (∀ u, ν'.2.1 10 u = if t ≤ u ∧ u < 124 then 0 else ν.2.1 10 u) ∧ (∀ u, ν'.2.1 13 u = if t ≤ u ∧ u < 124 then 0 else ν.2.1 13 u) ∧ (∀ u, ν'.2.1 14 u = if t ≤ u ∧ u < 124 then -1 else ν.2.1 14 u) := by
  intro j
  induction j with
  | zero =>
    intro t fuel ν hj hf
    obtain ⟨m, rfl⟩ : ∃ m, fuel = m + 1 := ⟨fuel - 1, by omega⟩
    refine ⟨ν, ?_, rfl, rfl, fun _ _ _ _ _ _ _ => rfl, fun u => by rw [if_neg (by omega)], fun u => by rw [if_neg (by omega)], fun u => by rw [if_neg (by omega)], fun u => by rw [if_neg (by omega)]⟩
    conv => lhs; unfold p_Mo_analyse_L6
    rw [if_pos ((q_Lle (by decide) (by omega)).mpr (show 124 ≤ t by omega))]
  | succ j ih =>
    intro t fuel ν hj hf
    obtain ⟨m, rfl⟩ : ∃ m, fuel = m + 1 := ⟨fuel - 1, by omega⟩
    have rt : inR (nI t) 124 := q_inR (by omega) (by decide)
    obtain ⟨ν', e, a1, a2, a3, a4, a5, a6, a7⟩ := ih (t + 1) m (sA (sA (sA (sA (sA (sA ν 7 t 0) 8 t (-1)) 9 t (-1)) 10 t 0) 13 t 0) 14 t (-1)) (by omega) (by omega)
    refine ⟨ν', ?_, a1, a2, fun a p1 p2 p3 p4 p5 p6 => ?_, fun u => ?_, fun u => ?_, fun u => ?_, fun u => ?_⟩
    · conv => lhs; unfold p_Mo_analyse_L6
      rw [if_neg (fun z => by have : 124 ≤ t := (q_Lle (by decide) (by omega)).mp z; omega)]
      simp only [if_pos rt, q_tn (show t < 2147483648 by omega), nI_1]
      exact e
    · rw [a3 a p1 p2 p3 p4 p5 p6, q_An p6, q_An p5, q_An p4, q_An p3, q_An p2, q_An p1]
    · rw [a4, q_An (by decide), q_An (by decide), q_An (by decide), q_An (by decide), q_An (by decide), q_A2, if_pos rfl]
      (repeat' split) <;> first | rfl | (exfalso; omega)
    · rw [a5, q_An (by decide), q_An (by decide), q_A2, if_pos rfl, q_An (by decide), q_An (by decide), q_An (by decide)]
      (repeat' split) <;> first | rfl | (exfalso; omega)
    · rw [a6, q_An (by decide), q_A2, if_pos rfl, q_An (by decide), q_An (by decide), q_An (by decide), q_An (by decide)]
      (repeat' split) <;> first | rfl | (exfalso; omega)
    · rw [a7, q_A2, if_pos rfl, q_An (by decide), q_An (by decide), q_An (by decide), q_An (by decide), q_An (by decide)]
      (repeat' split) <;> first | rfl | (exfalso; omega)
/-- the reference's fault -/
theorem mL88 {T : Nat} (hT : T ≤ 121) : ∀ (j t fuel : Nat) (ν : Sto), j + t = 124 → j < fuel → ν.1 4 = nI T → ∃ ν', p_Mo_analyse_L88 fuel ν (nI t) = p_Mo_analyse_L88 1 ν' (nI 124) ∧ ν'.1 = ν.1 ∧ (∀ a, a ≠ 13 → ν'.2.1 a = ν.2.1 a) ∧ (∀ u, ν'.2.1 13 u = if t ≤ u ∧ u < 124 then (if u = T then 1 else 0) else ν.2.1 13 u) := by
  intro j
  induction j with
  | zero =>
    intro t fuel ν hj hf h4
    obtain ⟨m, rfl⟩ : ∃ m, fuel = m + 1 := ⟨fuel - 1, by omega⟩
    refine ⟨ν, ?_, rfl, fun _ _ => rfl, fun u => by rw [if_neg (by omega)]⟩
    have e : t = 124 := by omega
    subst e
    unfold p_Mo_analyse_L88
    rfl
  | succ j ih =>
    intro t fuel ν hj hf h4
    obtain ⟨m, rfl⟩ : ∃ m, fuel = m + 1 := ⟨fuel - 1, by omega⟩
    have rt : inR (nI t) 124 := q_inR (by omega) (by decide)
    have go : ∀ v, v = (if t = T then (1 : Int32) else 0) → ∃ ν', p_Mo_analyse_L88 m (sA ν 13 t v) (nI (t + 1)) = p_Mo_analyse_L88 1 ν' (nI 124) ∧ ν'.1 = ν.1 ∧ (∀ a, a ≠ 13 → ν'.2.1 a = ν.2.1 a) ∧ (∀ u, ν'.2.1 13 u = if t ≤ u ∧ u < 124 then (if u = T then 1 else 0) else ν.2.1 13 u) := by
      intro v hv
      obtain ⟨ν', e, a1, a2, a3⟩ := ih (t + 1) m (sA ν 13 t v) (by omega) (by omega) h4
      refine ⟨ν', e, a1, fun a p => by rw [a2 a p, q_An p], fun u => ?_⟩
      rw [a3, q_A2, if_pos rfl]
      by_cases eu : u = t
      · rw [if_neg (by omega), if_pos eu, if_pos (by omega), hv, eu]
      · rw [if_neg eu]
        by_cases c : t + 1 ≤ u ∧ u < 124
        · rw [if_pos c, if_pos (show t ≤ u ∧ u < 124 by omega)]
        · rw [if_neg c, if_neg (show ¬ (t ≤ u ∧ u < 124) by omega)]
    conv => 
      enter [1, ν', 1, 1]
      unfold p_Mo_analyse_L88
    rw [if_neg (fun z => by have : 124 ≤ t := (q_Lle (by decide) (by omega)).mp z; omega), h4, if_pos rt, if_pos rt, q_tn (by omega), nI_1]
    by_cases e : t = T
    · rw [if_pos (show nI t = nI T by rw [e])]
      exact go 1 (by rw [if_pos e])
    · rw [if_neg (show ¬ nI t = nI T from fun z => e ((q_eq (by omega) (by omega)).mp z))]
      exact go 0 (by rw [if_neg e])
theorem isNt_st (iN : isNt C n N) {u : Nat} (hu : u < N) : tS C n u < n := iN.2.1 u hu
/-- what lies before the reference's parser -/
theorem refA {μ : Sto} (hm : TM μ n C) : ∃ N μ2, isNt C n N ∧ TKM (KK C n N) N μ2 ∧ TkM C n μ2 N ∧ μ2.1 3 = nI N ∧ μ2.1 5 = 0 ∧ μ2.1 4 = 0 ∧ (∀ u, u < 124 → μ2.2.1 7 u = 0) ∧ (∀ u, u < 124 → μ2.2.1 10 u = 0) ∧ (∀ u, u < 124 → μ2.2.1 13 u = 0) ∧ (∀ u, u < 124 → μ2.2.1 14 u = -1) ∧ AFr μ μ2 ∧ p_Mo_analyse μ = (bd1 (p_Mo_file μ2) fun σ_71 => if (σ_71.1 5) = 0 then p_Mo_analyse_L184 FU σ_71 0 else p_Mo_analyse_L88 FU (sS σ_71 6 0) 0) := by
  obtain ⟨N, μ1, e1, iN, h3, tk, k0, fr⟩ := cutM hm
  obtain ⟨ν, e, a1, a2, a3, a4, a5, a6, a7⟩ := mL6 124 0 FU μ1 (by omega) (by unfold FU; omega)
  have hN := iN.1
  refine ⟨N, sS (sS ν 4 0) 5 0, iN, ⟨hN, fun u hu => ?_, fun u hu => ?_, fun u hu => kk_ne hN hu⟩, fun u hu => ?_, ?_, rfl, rfl, fun u hu => ?_, fun u hu => ?_, fun u hu => ?_, fun u hu => ?_, ⟨fun k hk => ?_, fun a ha => ?_⟩, ?_⟩
  · show ν.2.1 3 u = _
    rw [a3 3 (by decide) (by decide) (by decide) (by decide) (by decide) (by decide)]
    unfold KK
    by_cases l : u < N
    · rw [if_pos l]; exact (tk u l).2.2.1
    · rw [if_neg l]; exact k0 u (by omega) hu
  · unfold KK; rw [if_neg (by omega)]
  · show ν.2.1 5 u = _ ∧ ν.2.1 6 u = _ ∧ ν.2.1 3 u = _ ∧ (_ → _ → ν.2.2 u = _)
    rw [a3 3 (by decide) (by decide) (by decide) (by decide) (by decide) (by decide), a3 5 (by decide) (by decide) (by decide) (by decide) (by decide) (by decide), a3 6 (by decide) (by decide) (by decide) (by decide) (by decide) (by decide), a2]
    exact tk u hu
  · show ν.1 3 = nI N
    rw [a1]; exact h3
  · show ν.2.1 7 u = 0
    rw [a4, if_pos ⟨Nat.zero_le _, hu⟩]
  · show ν.2.1 10 u = 0
    rw [a5, if_pos ⟨Nat.zero_le _, hu⟩]
  · show ν.2.1 13 u = 0
    rw [a6, if_pos ⟨Nat.zero_le _, hu⟩]
  · show ν.2.1 14 u = -1
    rw [a7, if_pos ⟨Nat.zero_le _, hu⟩]
  · rw [q_S1, if_neg (by omega), q_S1, if_neg (by omega), a1]
    exact fr.1 k (by omega)
  · show ν.2.1 a = _
    rw [a3 a (by omega) (by omega) (by omega) (by omega) (by omega) (by omega)]
    exact fr.2 a (by omega) (by omega) (by omega)
  · unfold p_Mo_analyse
    rw [e1, q_bd1]
    exact e
theorem bd_uq {K : Nat → Int32} {T T' : Nat} (hK : ∀ u, N ≤ u → K u = 0) (f : FT K N T) (b : BD K T') : T = T' := by
  obtain ⟨f1, f2, f3, f4⟩ := f
  obtain ⟨b1, b2, b3⟩ := b
  have tN := alive_le hK b1
  by_cases l : T < T'
  · exact absurd (f3 (by omega)) (tr_alive' (t := T') (by omega) b1)
  · by_cases l2 : T' < T
    · exact absurd b2 (tr_alive' (t := T) (by omega) f2)
    · omega
theorem good_bad {K : Nat → Int32} {T' : Nat} (hK : ∀ u, N ≤ u → K u = 0) (s1 : cS (tr K N) = 1) (b : BD K T') : False := by
  obtain ⟨b1, b2, b3⟩ := b
  have tN := alive_le hK b1
  by_cases l : T' < N
  · exact absurd b2 (tr_alive' (t := N) (by omega) (by rw [s1]; decide))
  · have e : T' = N := by omega
    rw [e] at b3
    exact b3 s1 (hK N (Nat.le_refl _))
theorem good_ft {K : Nat → Int32} {T : Nat} (s1 : cS (tr K N) = 1) (f : FT K N T) : False := by
  obtain ⟨f1, f2, f3, f4⟩ := f
  by_cases l : T < N
  · exact absurd (f3 l) (tr_alive' (t := N) (by omega) (by rw [s1]; decide))
  · exact f4 (by omega) s1
theorem an0_lt {K : Nat → Int32} {N : Nat} {W : Nat → Int64} (u : Nat) : ∃ m, m < 2048 ∧ (an0 K N W u).2 = nI m := by
  have e0 : ∀ {a : Int32}, ∃ m, m < 2048 ∧ ((a, 0) : Int32 × Int32).2 = nI m := fun {a} => ⟨0, by decide, rfl⟩
  have e2 : ∀ {a : Int32}, ∃ m, m < 2048 ∧ ((a, 2) : Int32 × Int32).2 = nI m := fun {a} => ⟨2, by decide, rfl⟩
  have e4 : ∀ {a : Int32}, ∃ m, m < 2048 ∧ ((a, 4) : Int32 × Int32).2 = nI m := fun {a} => ⟨4, by decide, rfl⟩
  have e8 : ∀ {a : Int32}, ∃ m, m < 2048 ∧ ((a, 8) : Int32 × Int32).2 = nI m := fun {a} => ⟨8, by decide, rfl⟩
  have e16 : ∀ {a : Int32}, ∃ m, m < 2048 ∧ ((a, 16) : Int32 × Int32).2 = nI m := fun {a} => ⟨16, by decide, rfl⟩
  have e32 : ∀ {a : Int32}, ∃ m, m < 2048 ∧ ((a, 32) : Int32 × Int32).2 = nI m := fun {a} => ⟨32, by decide, rfl⟩
  unfold an0
  by_cases c1 : ro K u = 1
  · rw [if_pos c1]
    by_cases q : clw K N W (W u) = some (cC (tr K u))
    · rw [if_pos q]; exact e0
    · rw [if_neg q]; exact e2
  rw [if_neg c1]
  by_cases c2 : ro K u = 7 ∨ ro K u = 8
  · rw [if_pos c2]
    cases clw K N W (W u) with
    | none => exact e4
    | some c => exact e0
  rw [if_neg c2]
  by_cases c3 : ro K u = 6
  · rw [if_pos c3]
    cases clw K N W (W u) with
    | none => exact e4
    | some c =>
      show ∃ m, m < 2048 ∧ (if cirB K N W (cls K u) = true then ((-1, 8) : Int32 × Int32) else (nI (ctA K c N), 0)).2 = nI m
      by_cases q : cirB K N W (cls K u) = true
      · rw [if_pos q]; exact e8
      · rw [if_neg q]; exact e0
  rw [if_neg c3]
  by_cases c4 : ro K u = 2 ∨ ro K u = 3
  · rw [if_pos c4]
    by_cases q : dup K W u = none
    · rw [if_pos q]; exact e0
    · rw [if_neg q]; exact e16
  rw [if_neg c4]
  by_cases c5 : ro K u = 4 ∨ ro K u = 5
  · rw [if_pos c5]
    by_cases q : loc K W u u = none
    · rw [if_pos q]; exact e0
    · rw [if_neg q]; exact e32
  rw [if_neg c5]
  exact e0
theorem core1 {σ μ : Sto} (hc : TC σ n C) (hm : TM μ n C) (hs : σ.1 0 = 1) : ∃ σ' μ', p_Reading_refresh σ = some σ' ∧ p_Mo_analyse μ = some μ' ∧ (RDg σ' μ' ∨ RDb σ' μ') ∧ TC σ' n C ∧ TM μ' n C ∧ σ'.1 0 = 0 ∧ AFr μ μ' ∧ (n = 0 → RDg σ' μ') := by
  have hc0 : TC (sS σ 0 0) n C := hc.keep rfl rfl
  obtain ⟨N, σ1, e1, iN, s2, tk, fc⟩ := cutC hc0
  obtain ⟨N', μ2, iN', hTm, tkm, m3, m5, m4, m7, m10, m13, m14, af, em⟩ := refA hm
  have eN : N' = N := isNt_uq iN' iN
  subst eN
  have hN := iN.1
  have hT := tkc iN s2 tk
  obtain ⟨σ2, e2, pg⟩ := parseC hT
  have f1 : σ1.1 1 = σ.1 1 := fc.1 1 (by decide)
  have f0 : σ1.1 0 = 0 := fc.1 0 (by decide)
  have fa2 : σ1.2.1 2 = σ.2.1 2 := fc.2 2 (by decide) (by decide) (by decide)
  have er : p_Reading_refresh σ = bd1 (p_Complaints_hasFault σ2) fun v_35 => if v_35 = 0 then bd1 (p_Declarer_declare σ2) fun σ_45 => bd1 (p_Judge_judge σ_45) fun σ_52 => some σ_52 else some σ2 := by
    unfold p_Reading_refresh
    rw [if_neg (by rw [hs]; decide), e1, q_bd1, e2, q_bd1]
  have rf := fileM hTm m5 m4 m7 m10
  have afm : ∀ {ν : Sto}, FF μ2 ν → AFr μ2 ν := fun h => ⟨fun k hk => h.1 k (by omega) (by omega) (by omega) (by omega), fun a ha => h.2.1 a (by omega) (by omega) (by omega) (by omega) (by omega) (by omega) (by omega)⟩
  have tmk : ∀ {ν : Sto}, AFr μ ν → TM ν n C := fun h => hm.keep (h.1 1 (by decide)) (h.2 1 (by decide))
  rcases pg with pg | pb
  · -- no fault
    have cr := pg.cr hT
    have s1 := cr.1
    rcases rf with ⟨μ3, e3, B⟩ | ⟨μ3, e3, I⟩
    · obtain ⟨T, _, _, bd⟩ := B.2.2.2
      exact (good_bad hTm.2.2.1 s1 bd).elim
    have sm := I.sm hTm m3
    obtain ⟨fF, gd, _⟩ := I
    have sc := cr.sc hT
    obtain ⟨_, jf, c3, c4, _, _, c12, _⟩ := cr
    have w3 : μ3.2.2 = μ2.2.2 := fF.2.2
    have hW : WW (KK C n N') N' σ2.2.2 μ3.2.2 := by
      rw [w3, jf.2.2.1]
      exact ww hc iN tk tkm
    obtain ⟨σ3, e4, D⟩ := declC sc hW jf.2.2.2.1 jf.2.2.2.2.1 jf.2.2.2.2.2.1 c12
    obtain ⟨d1, d2, d3, d4, d5⟩ := D
    obtain ⟨μ4, e5, F, n14, n13⟩ := mjnL sm N' 0 FU μ3 (by omega) (by unfold FU; omega) (F2.refl _) (fun u hu => by rw [if_neg (by omega), fF.2.1 14 (by decide) (by decide) (by decide) (by decide) (by decide) (by decide) (by decide)]; exact m14 u hu) (fun u hu => by rw [if_neg (by omega), fF.2.1 13 (by decide) (by decide) (by decide) (by decide) (by decide) (by decide) (by decide)]; exact m13 u hu)
    have sm4 := sm.f2 F
    have sc3 := sc.fd d1
    have w4 : μ4.2.2 = μ3.2.2 := F.2.2
    have hσ4 : p_Judge_judge σ3 = p_Judge_judge_L17 FU (sA (sS σ3 12 0) 23 0 (-1)) 0 := by
      unfold p_Judge_judge
      have z12 : (sS σ3 12 0).1 12 = nI 0 := rfl
      rw [z12, if_pos (q_inR (by decide) (by decide)), q_tn (by decide)]
    have mb : MB N' (sA (sS σ3 12 0) 23 0 (-1)) := by
      refine ⟨fun u => ?_, fun u hu => ?_⟩
      · rw [q_An (by decide), q_S2, d3]
        by_cases l : u < N'
        · rw [if_pos l]
          exact an0_lt u
        · rw [if_neg l]; exact ⟨0, by decide, rfl⟩
      · rw [q_An (by decide), q_S2, d3, if_neg (by omega)]
    have EB0 : EB (sA (sS σ3 12 0) 23 0 (-1), μ4) (KK C n N') N' μ3.2.2 0 (sA (sS σ3 12 0) 23 0 (-1)) μ4 := by
      refine ⟨sc3.keep rfl rfl (q_An (by decide)) (q_An (by decide)) (q_An (by decide)) (q_An (by decide)), ?_, fun c hc => by rw [q_An (by decide)]; exact d5 c hc, fun u _ => by rw [q_An (by decide)]; exact d4 u, sm4, w4, ⟨fun u hu => ?_, fun u hu => ?_⟩, ⟨fun u _ hu => ?_, mb, fun u hu => ?_⟩, fun _ _ => rfl, fun _ _ _ _ => rfl, rfl, fun _ _ _ => rfl, fun _ _ => rfl, rfl⟩
      · show WW (KK C n N') N' σ3.2.2 μ3.2.2
        rw [d1.2.2]; exact hW
      · rw [q_An (by decide), n14 u (by omega)]; exact d2 u
      · rw [q_An (by decide), n13 u hu]; exact d3 u
      · refine ⟨?_, ?_⟩
        · rw [q_An (by decide), q_S2, d2, if_pos hu]
        · rw [q_An (by decide), q_S2, d3, if_pos hu]
      · rw [q_An (by decide), q_S2, d2, if_pos hu]
        exact ⟨fun _ => rfl, an0_mv hu⟩
    have st0 : cS (tr (KK C n N') 0) = 1 := rfl
    obtain ⟨σ5, μ5, j1, j2, S⟩ := jall (N' - 0) 0 _ μ4 rfl (Nat.zero_le _) (⟨EB0, rfl, by rw [q_A2, if_pos rfl, if_pos rfl], fun z => by rw [st0] at z; exact absurd z (by decide), fun z => by rw [st0] at z; exact absurd z (by decide), fun z => by rw [st0] at z; exact absurd z (by decide), fun z => by rw [st0] at z; exact absurd z (by decide)⟩ : SJ (sA (sS σ3 12 0) 23 0 (-1), μ4) (KK C n N') N' μ3.2.2 0 (sA (sS σ3 12 0) 23 0 (-1)) μ4) (Or.inl (Or.inl st0))
    have eb := S.1
    obtain ⟨z1, z2, z3, z4, z5, z6⟩ := eb.2.2.2.2.2.2.2.2
    have w5 : μ5.2.2 = μ3.2.2 := eb.2.2.2.2.2.1
    -- frames
    have g1 : ∀ k, k < 10 → σ5.1 k = σ2.1 k := fun k hk => (z1 k hk).trans (by
      show (if k = 12 then 0 else σ3.1 k) = σ2.1 k
      rw [if_neg (by omega)]
      exact d1.1 k (by omega) (by omega))
    have g2 : ∀ a, a = 2 ∨ a = 4 ∨ a = 5 ∨ a = 6 → σ5.2.1 a = σ2.2.1 a := fun a ha => (z2 a (by omega) (by omega) (by omega)).trans (by
      rw [q_An (by omega)]
      exact d1.2.1 a (by omega) (by omega) (by omega) (by omega) (by omega))
    have jk : ∀ k, k = 0 ∨ k = 1 ∨ k = 2 → σ2.1 k = σ1.1 k := fun k hk => jf.1 k (by omega) (by omega) (by omega) (by omega) (by omega) (by omega) (by omega)
    have ja : ∀ a, a = 2 ∨ a = 4 ∨ a = 5 ∨ a = 6 → σ2.2.1 a = σ1.2.1 a := fun a ha => jf.2.1 a (by omega) (by omega) (by omega) (by omega) (by omega) (by omega) (by omega) (by omega)
    have s22 : σ5.2.2 = σ1.2.2 := z3.trans (d1.2.2.trans jf.2.2.1)
    have tc5 : TC σ5 n C := hc.keep (by rw [g1 1 (by decide), jk 1 (by decide)]; exact f1) (by rw [g2 2 (by decide), ja 2 (by decide)]; exact fa2)
    have af5 : AFr μ μ5 := af.trans ((afm fF).trans ⟨fun k hk => (z4 k (by omega) (by omega)).trans (by rw [F.1]), fun a ha => (z5 a (by omega)).trans (F.2.1 a (by omega) (by omega))⟩)
    have ma : ∀ a, a = 3 ∨ a = 5 ∨ a = 6 → μ5.2.1 a = μ2.2.1 a := fun a ha => (z5 a (by omega)).trans ((F.2.1 a (by omega) (by omega)).trans (fF.2.1 a (by omega) (by omega) (by omega) (by omega) (by omega) (by omega) (by omega)))
    suffices G : p_Reading_refresh σ = some σ5 ∧ p_Mo_analyse μ = some μ5 ∧ RDg σ5 μ5 from ⟨σ5, μ5, G.1, G.2.1, Or.inl G.2.2, tc5, tmk af5, by rw [g1 0 (by decide), jk 0 (by decide)]; exact f0, af5, fun _ => G.2.2⟩
    refine ⟨?_, ?_, ⟨n, N', C, _, tc5, tmk af5, iN, fun u hu => ?_, fun u hu => ?_, by rw [w5]; exact eb, ?_, ?_⟩⟩
    · have hf : p_Complaints_hasFault σ2 = some 0 := by
        unfold p_Complaints_hasFault
        rw [if_pos jf.2.2.2.2.2.2]
      rw [er, hf, q_bd1, if_pos rfl, e4, q_bd1, hσ4]
      have j1' : p_Judge_judge_L17 FU (sA (sS σ3 12 0) 23 0 (-1)) 0 = some σ5 := j1 FU (by unfold FU; omega)
      rw [j1', q_bd1]
    · have j2' : p_Mo_analyse_L205 FU μ4 0 = some μ5 := j2 FU (by unfold FU; omega)
      have e5' : p_Mo_analyse_L184 FU μ3 0 = p_Mo_analyse_L205 FU μ4 0 := e5
      rw [em, e3, q_bd1, if_pos gd.2.1, e5', j2']
    · rw [g2 4 (by decide), g2 5 (by decide), g2 6 (by decide), ja 4 (by decide), ja 5 (by decide), ja 6 (by decide), s22]
      exact tk u hu
    · rw [ma 3 (by decide), ma 5 (by decide), ma 6 (by decide), w5, w3]
      exact tkm u hu
    · rw [g1 5 (by decide)]; exact jf.2.2.2.2.2.2
    · rw [z4 5 (by decide) (by decide), F.1]; exact gd.2.1
  · -- a fault
    obtain ⟨T, ft, σ3, jf, eσ⟩ := pb
    rcases rf with ⟨μ3, e3, B⟩ | ⟨μ3, e3, I⟩
    · obtain ⟨fF, _, b5, T', b4, tN, bd⟩ := B
      have eT := bd_uq hTm.2.2.1 ft bd
      subst eT
      obtain ⟨ν, el, l1, l2, l3⟩ := mL88 (T := T) (by omega) 124 0 FU (sS μ3 6 0) (by omega) (by unfold FU; omega) b4
      have l1' : ∀ k, ν.1 k = (sS μ3 6 0).1 k := fun k => by rw [l1]
      have n4 : ν.1 4 = nI T := (l1' 4).trans b4
      have n3 : ν.1 3 = nI N' := (l1' 3).trans ((fF.1 3 (by decide) (by decide) (by decide) (by decide)).trans m3)
      have n5 : ν.1 5 = 1 := (l1' 5).trans b5
      have n6 : ν.1 6 = 0 := l1' 6
      have na : ∀ a, a ≠ 13 → a ≠ 7 → a ≠ 8 → a ≠ 9 → a ≠ 10 → a ≠ 11 → a ≠ 12 → a ≠ 16 → ν.2.1 a = μ2.2.1 a := fun a p0 p1 p2 p3 p4 p5 p6 p7 => (l2 a p0).trans (fF.2.1 a p1 p2 p3 p4 p5 p6 p7)
      have nk : ∀ k, k = 0 ∨ k = 1 ∨ k = 2 → ν.1 k = μ2.1 k := fun k hk => (l1' k).trans (by
        rw [q_S1, if_neg (by omega)]
        exact fF.1 k (by omega) (by omega) (by omega) (by omega))
      -- the place of the fault
      have pl : ∃ q, q < 1000 ∧ (if T < N' then σ1.2.1 4 T else σ1.2.1 5 (T - 1)) = nI q ∧ p_Mo_analyse_L88 1 ν (nI 124) = some (sS (sA ν 5 T (nI q)) 3 (nI T)) := by
        have tl : T ≤ 121 := by omega
        unfold p_Mo_analyse_L88
        rw [if_pos ((q_Lle (by decide) (by decide)).mpr (Nat.le_refl 124)), n3, n4]
        by_cases l : T < N'
        · have ts := iN.2.1 T l
          have hn := hc.1
          have e5 : ν.2.1 5 T = nI (tS C n T) := by
            rw [na 5 (by decide) (by decide) (by decide) (by decide) (by decide) (by decide) (by decide) (by decide)]
            exact (tkm T l).1
          refine ⟨tS C n T, by omega, by rw [if_pos l]; exact (tk T l).1, ?_⟩
          rw [if_neg (fun z => by have := (q_le (by omega) (by omega)).mp z; omega), if_pos (q_inR (by omega) (by decide)), if_pos (q_inR (by omega) (by decide)), q_tn (by omega), e5, q_A1, n4]
        · have t1 : 1 ≤ T := (WF_all T ft.2.1).2.2.2.2.2.2.1 (by
            have := ft.2.2.2 (by omega)
            rw [show T = N' by omega]; exact this)
          have te := en_le (C := C) (iN.2.1 (T - 1) (by omega))
          have hn := hc.1
          have e6 : ν.2.1 6 (T - 1) = nI (en C n (tS C n (T - 1))) := by
            rw [na 6 (by decide) (by decide) (by decide) (by decide) (by decide) (by decide) (by decide) (by decide)]
            exact (tkm (T - 1) (by omega)).2.1
          refine ⟨en C n (tS C n (T - 1)), by omega, by rw [if_neg l]; exact (tk (T - 1) (by omega)).2.1, ?_⟩
          rw [if_pos ((q_le (by omega) (by omega)).mpr (by omega)), if_neg (fun z => by have : T = 0 := (q_eqL (by omega) (by decide)).mp z; omega), show nI T - 1 = nI (T - 1) from q_subL t1, if_pos (q_inR (by omega) (by decide)), if_pos (q_inR (by omega) (by decide)), q_tn (by omega), q_tn (by omega), e6, q_A1, n4]
      obtain ⟨q, q1, q2, q3⟩ := pl
      have jk : ∀ k, k = 0 ∨ k = 1 ∨ k = 2 → σ3.1 k = σ1.1 k := fun k hk => jf.1 k (by omega) (by omega) (by omega) (by omega) (by omega) (by omega) (by omega)
      have sk : ∀ k, k = 0 ∨ k = 1 ∨ k = 2 → σ2.1 k = σ1.1 k := fun k hk => by
        rw [eσ, q_S1, if_neg (by omega), q_S1, if_neg (by omega), q_S1, if_neg (by omega)]
        exact jk k hk
      have tcσ : TC σ2 n C := hc.keep (by rw [sk 1 (by decide)]; exact f1) (by rw [eσ]; exact (jf.2.1 2 (by decide) (by decide) (by decide) (by decide) (by decide) (by decide) (by decide) (by decide)).trans fa2)
      have af5 : AFr μ (sS (sA ν 5 T (nI q)) 3 (nI T)) := af.trans ⟨fun k hk => by rw [q_S1, if_neg (by omega)]; exact nk k hk, fun a ha => by rw [q_S2, q_An (by omega)]; exact na a (by omega) (by omega) (by omega) (by omega) (by omega) (by omega) (by omega) (by omega)⟩
      have e5σ : σ2.1 5 = nI q := by rw [eσ, ← q2]; rfl
      have n0 : ¬ n = 0 := fun hn0 => by
        have lN : N' = 0 := Decidable.byContradiction (fun z => by have := iN.2.1 0 (by omega); omega)
        have t1 : 1 ≤ T := (WF_all T ft.2.1).2.2.2.2.2.2.1 (by
          have := ft.2.2.2 (by omega)
          rw [show T = N' by omega]; exact this)
        omega
      refine ⟨σ2, sS (sA ν 5 T (nI q)) 3 (nI T), ?_, ?_, Or.inr ⟨T, q, by omega, q1, by rw [eσ]; rfl, rfl, by rw [eσ]; rfl, n6, e5σ, n5, ?_, fun u => ?_, fun u hu => ?_⟩, tcσ, tmk af5, by rw [sk 0 (by decide)]; exact f0, af5, fun z => absurd z n0⟩
      · have hf : p_Complaints_hasFault σ2 = some 1 := by
          unfold p_Complaints_hasFault
          rw [e5σ, if_neg (q_neg (by omega))]
        rw [er, hf, q_bd1, if_neg (by decide)]
      · have el' : p_Mo_analyse_L88 FU (sS μ3 6 0) 0 = p_Mo_analyse_L88 1 ν (nI 124) := el
        rw [em, e3, q_bd1, if_neg (by rw [b5]; decide), el', q3]
      · rw [q_S2, q_A2, if_pos rfl, if_pos rfl]
      · rw [eσ]; exact jf.2.2.2.1 u
      · rw [q_S2, q_An (by decide), l3, if_pos ⟨Nat.zero_le _, hu⟩]
    · exact (good_ft I.2.2.1 ft).elim
theorem core {σ μ : Sto} (hc : TC σ n C) (hm : TM μ n C) (hs : σ.1 0 = 1) : ∃ σ' μ', p_Reading_refresh σ = some σ' ∧ p_Mo_analyse μ = some μ' ∧ (RDg σ' μ' ∨ RDb σ' μ') ∧ TC σ' n C ∧ TM μ' n C ∧ σ'.1 0 = 0 ∧ AFr μ μ' := by
  obtain ⟨σ', μ', a, b, c, d, e, f, g, _⟩ := core1 hc hm hs
  exact ⟨σ', μ', a, b, c, d, e, f, g⟩
end CORE
