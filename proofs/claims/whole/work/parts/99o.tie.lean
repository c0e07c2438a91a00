/-! the class's declarer: superclasses -/
section TIE
variable {K : Nat → Int32} {N : Nat} {σ σ0 : Sto} {W : Nat → Int64}
/-- behind a class's name -/
theorem ct2 (s1 : cS (tr K N) = 1) {c : Nat} (hc : c < cC (tr K N)) : ctA K c N + 2 < N ∧ (ro K (ctA K c N + 2) = 6 ↔ K (ctA K c N + 1) = 5) ∧ (K (ctA K c N + 1) = 5 → cls K (ctA K c N + 2) = c ∧ K (ctA K c N + 2) = 1) := by
  obtain ⟨a, b, d⟩ := ct_ok (K := K) N c hc
  have al : ∀ {t}, t ≤ N → cS (tr K t) ≠ 0 := fun h => tr_alive' h (by rw [s1]; decide)
  have k1 : K (ctA K c N) = 1 := nameK (al (by omega)) (by rw [(ro_i K _).1.mpr b]; decide)
  have s3 : cS (tr K (ctA K c N + 1)) = 3 := by rw [trS, b, k1]; simp +decide only [nxt, if_true, if_false]
  have l1 : ctA K c N + 1 < N := Decidable.byContradiction (fun z => by
    have e : N = ctA K c N + 1 := by omega
    have := s1
    rw [e, s3] at this
    exact absurd this (by decide))
  have a2 := al (show ctA K c N + 1 + 1 ≤ N by omega)
  have kk : K (ctA K c N + 1) = 5 ∨ K (ctA K c N + 1) = 123 := by
    by_cases q : K (ctA K c N + 1) = 5
    · exact Or.inl q
    · by_cases q2 : K (ctA K c N + 1) = 123
      · exact Or.inr q2
      · exfalso
        apply a2
        rw [trS, s3]
        simp +decide only [nxt, q, q2, if_true, if_false]
  have s46 : (K (ctA K c N + 1) = 5 → cS (tr K (ctA K c N + 2)) = 4) ∧ (K (ctA K c N + 1) = 123 → cS (tr K (ctA K c N + 2)) = 6) := by
    constructor
    · intro q
      show cS (tr K (ctA K c N + 1 + 1)) = 4
      rw [trS, s3, q]; simp +decide only [nxt, if_true, if_false]
    · intro q
      show cS (tr K (ctA K c N + 1 + 1)) = 6
      rw [trS, s3, q]; simp +decide only [nxt, if_true, if_false]
  have l2 : ctA K c N + 2 < N := Decidable.byContradiction (fun z => by
    have e : N = ctA K c N + 2 := by omega
    have h1 := s1
    rw [e] at h1
    rcases kk with q | q
    · rw [s46.1 q] at h1; exact absurd h1 (by decide)
    · rw [s46.2 q] at h1; exact absurd h1 (by decide))
  refine ⟨l2, ?_, fun q => ?_⟩
  · rw [(ro_i K _).2.1]
    constructor
    · intro q
      rcases kk with z | z
      · exact z
      · rw [s46.2 z] at q; exact absurd q (by decide)
    · exact s46.1
  · have s4 := s46.1 q
    have c2 : cC (tr K (ctA K c N + 2)) = c + 1 := by
      show cC (tr K (ctA K c N + 1 + 1)) = c + 1
      rw [cC_k (by rw [s3]; decide), trC, if_pos b, d]
    refine ⟨?_, nameK (al (show ctA K c N + 2 + 1 ≤ N by omega)) (by rw [(ro_i K _).2.1.mpr s4]; decide)⟩
    unfold cls
    rw [if_neg (by rw [s4]; decide), c2]
    rfl
/-- every name behind extends stands there -/
theorem ro6 (s1 : cS (tr K N) = 1) {u : Nat} (hu : u < N) (r : ro K u = 6) : cls K u < cC (tr K N) ∧ u = ctA K (cls K u) N + 2 := by
  have al : ∀ {t}, t ≤ N → cS (tr K t) ≠ 0 := fun h => tr_alive' h (by rw [s1]; decide)
  have s4 := (ro_i K u).2.1.mp r
  have u1 : 1 ≤ u := (WF_all u (al (by omega))).2.2.2.2.2.2.1 (by rw [s4]; decide)
  obtain ⟨v, rfl⟩ : ∃ v, u = v + 1 := ⟨u - 1, by omega⟩
  have s3 := (prv (t := v) (al (by omega))).2.2.2.2.2.2.2.2.2.2.2.1 s4
  have v1 : 1 ≤ v := (WF_all v (al (by omega))).2.2.2.2.2.2.1 (by rw [s3]; decide)
  obtain ⟨w, rfl⟩ : ∃ w, v = w + 1 := ⟨v - 1, by omega⟩
  have s2 := (prv (t := w) (al (by omega))).2.2.2.2.2.2.2.2.2.2.2.2.1 s3
  have e : cls K (w + 1 + 1) = cC (tr K w) := by
    unfold cls
    rw [if_neg (by rw [s4]; decide), cC_k (by rw [s3]; decide), trC, if_pos s2]
    rfl
  rw [e]
  exact ⟨ct_in (by omega) s2, by rw [ct_of (by omega) s2]⟩
theorem csup (h : SC K N σ) {c : Nat} (hc : c < cC (tr K N)) : p_Declarer_superName σ (nI c) = some (if K (ctA K c N + 1) = 5 then nI (ctA K c N + 2) else -1) := by
  have hN := h.1
  have m4 := h.M4
  obtain ⟨l2, r6, _⟩ := ct2 h.2.1 hc
  unfold p_Declarer_superName
  rw [if_pos (q_inR (by omega) (by decide))]
  simp only [q_tn (show c < 2147483648 by omega), h.2.2.2.2.2.2.2.1 c hc, show nI (ctA K c N) + 2 = nI (ctA K c N + 2) from q_addL _ 2, h.2.2.2.1]
  rw [if_neg (fun z => by have := (q_le (by omega) (by omega)).mp z; omega), if_pos (q_inR (by omega) (by decide)), q_tn (by omega), h.rl l2]
  by_cases q : K (ctA K c N + 1) = 5
  · rw [if_pos q, if_pos (r6.mpr q)]
  · rw [if_neg q, if_neg (fun z => q (r6.mp z))]
/-- the classes behind extends -/
def XI (K : Nat → Int32) (N : Nat) (W : Nat → Int64) (σ0 : Sto) (c : Nat) (σ : Sto) : Prop := FD σ0 σ ∧ (∀ u, σ.2.1 11 u = if u < N then (an1 K N W u).1 else -1) ∧ (∀ u, σ.2.1 17 u = if u < N then (an1 K N W u).2 else 0) ∧ (∀ u, σ.2.1 12 u = tyd K N W N u) ∧ (∀ d, σ.2.1 14 d = -1) ∧ (∀ d, d < c → σ.2.1 21 d = oI (abv K N W d))
theorem XI.nx {c : Nat} {v : Int32} (h : XI K N W σ0 c σ) (hv : v = oI (abv K N W c)) : XI K N W σ0 (c + 1) (sA σ 21 c v) := by
  obtain ⟨g1, g2, g3, g4, g5, g6⟩ := h
  refine ⟨⟨g1.1, fun a p1 p2 p3 p4 p5 => by rw [q_An p5]; exact g1.2.1 a p1 p2 p3 p4 p5, g1.2.2⟩, fun u => by rw [q_An (by decide)]; exact g2 u, fun u => by rw [q_An (by decide)]; exact g3 u, fun u => by rw [q_An (by decide)]; exact g4 u, fun u => by rw [q_An (by decide)]; exact g5 u, fun d hd => ?_⟩
  rw [q_A2, if_pos rfl]
  by_cases e : d = c
  · rw [if_pos e, e, hv]
  · rw [if_neg e]; exact g6 d (by omega)
theorem cextL (h0 : SC K N σ0) : ∀ (j c fuel : Nat) (σ : Sto), j + c = cC (tr K N) → j < fuel → XI K N W σ0 c σ → ∃ σ', p_Declarer_tieSuperclasses_L2 fuel σ (nI c) = p_Declarer_tieSuperclasses_L63 FU σ' 0 ∧ XI K N W σ0 (cC (tr K N)) σ' := by
  have hN := h0.1
  have m4 := h0.M4
  intro j
  induction j with
  | zero =>
    intro c fuel σ hj hf X
    obtain ⟨n, rfl⟩ : ∃ n, fuel = n + 1 := ⟨fuel - 1, by omega⟩
    have h := h0.fd X.1
    unfold p_Declarer_tieSuperclasses_L2
    rw [h.2.2.2.2.1, if_pos ((q_le (by omega) (by omega)).mpr (by omega))]
    exact ⟨σ, rfl, by rw [show cC (tr K N) = c by omega]; exact X⟩
  | succ j ih =>
    intro c fuel σ hj hf X
    obtain ⟨n, rfl⟩ : ∃ n, fuel = n + 1 := ⟨fuel - 1, by omega⟩
    have h := h0.fd X.1
    have hc : c < cC (tr K N) := by omega
    have rc : inR (nI c) 30 := q_inR (by omega) (by decide)
    have rcn : (nI c).toNatClampNeg = c := q_tn (by omega)
    obtain ⟨l2, r6, kc⟩ := ct2 h.2.1 hc
    have go : ∀ v, v = oI (abv K N W c) → ∃ σ', p_Declarer_tieSuperclasses_L2 n (sA σ 21 c v) (nI c + 1) = p_Declarer_tieSuperclasses_L63 FU σ' 0 ∧ XI K N W σ0 (cC (tr K N)) σ' := fun v hv => by
      rw [nI_1]
      exact ih (c + 1) n _ (by omega) (by omega) (X.nx hv)
    unfold p_Declarer_tieSuperclasses_L2
    rw [h.2.2.2.2.1, if_neg (fun z => by have := (q_le (by omega) (by omega)).mp z; omega), csup h hc, q_bd1]
    by_cases q : K (ctA K c N + 1) = 5
    · have r := r6.mpr q
      have m : σ.2.1 11 (ctA K c N + 2) = oI ((clw K N W (W (ctA K c N + 2))).map (fun c => ctA K c N)) := by
        rw [X.2.1, if_pos l2, an1_6 (Or.inl r)]
        cases clw K N W (W (ctA K c N + 2)) <;> rfl
      have ea : abv K N W c = clw K N W (W (ctA K c N + 2)) := by unfold abv; rw [if_pos q]
      have tn := ctyn h l2 (o := clw K N W (W (ctA K c N + 2))) (fun c hc => clw_lt hc) m (fun d hd => by rw [X.2.2.2.1]; exact tyd_ct hd)
      rw [if_pos q, if_neg (q_neg (by omega)), if_pos (q_inR (by omega) (by decide))]
      simp only [q_tn (show ctA K c N + 2 < 2147483648 by omega), m]
      cases e : clw K N W (W (ctA K c N + 2)) with
      | none =>
        rw [if_pos (show oI (none.map (fun c => ctA K c N)) = -1 from rfl), if_pos rc, rcn]
        exact go _ (by rw [ea, e]; rfl)
      | some d =>
        have ca := (ct_ok (K := K) N d (clw_lt e)).1
        rw [if_neg (show ¬ oI ((some d).map (fun c => ctA K c N)) = -1 from q_neg (show ctA K d N < 2147483648 by omega)), tn, q_bd1, if_pos rc, rcn]
        exact go _ (by rw [ea, e]; rfl)
    · rw [if_neg q, if_pos rfl, if_pos rc, rcn]
      exact go _ (by unfold abv; rw [if_neg q]; rfl)
theorem cleadL (h : SC K N σ) (hx : ∀ d, d < cC (tr K N) → σ.2.1 21 d = oI (abv K N W d)) {c : Nat} (hc : c < cC (tr K N)) : ∀ (n i fuel : Nat) (o : Option Nat), n + i = cC (tr K N) → n < fuel → (∀ s, o = some s → s < cC (tr K N)) → p_Declarer_leadsBack_L9 σ (nI c) fuel (oI o) (nI i) = some (b01 (lp (abv K N W) c n o)) := by
  have hN := h.1
  have m4 := h.M4
  intro n
  induction n with
  | zero =>
    intro i fuel o hi hf ho
    obtain ⟨m, rfl⟩ : ∃ m, fuel = m + 1 := ⟨fuel - 1, by omega⟩
    unfold p_Declarer_leadsBack_L9
    rw [h.2.2.2.2.1, if_pos ((q_le (by omega) (by omega)).mpr (by omega))]
    rfl
  | succ n ih =>
    intro i fuel o hi hf ho
    obtain ⟨m, rfl⟩ : ∃ m, fuel = m + 1 := ⟨fuel - 1, by omega⟩
    unfold p_Declarer_leadsBack_L9
    rw [h.2.2.2.2.1, if_neg (fun z => by have := (q_le (by omega) (by omega)).mp z; omega), cisc h ho, q_bd1]
    cases o with
    | none =>
      rw [if_pos (show b01 (none : Option Nat).isSome = 0 from rfl)]
      rfl
    | some s =>
      have hs := ho s rfl
      rw [if_neg (show ¬ b01 (some s).isSome = 0 from (by decide : ¬ (1 : Int32) = 0)), show oI (some s) = nI s from rfl]
      unfold lp
      by_cases e : s = c
      · rw [if_pos e, if_pos (by rw [e])]
        rfl
      · rw [if_neg e, if_neg (fun z => e ((q_eq (by omega) (by omega)).mp z)), if_pos (q_inR (by omega) (by decide)), q_tn (by omega), hx s hs, nI_1]
        exact ih (i + 1) m _ (by omega) (by omega) (fun r hr => abv_cl s r hs hr)
theorem clead (h : SC K N σ) (hx : ∀ d, d < cC (tr K N) → σ.2.1 21 d = oI (abv K N W d)) {c : Nat} (hc : c < cC (tr K N)) : p_Declarer_leadsBack σ (nI c) = some (b01 (cirB K N W c)) := by
  have hN := h.1
  have m4 := h.M4
  unfold p_Declarer_leadsBack cirB
  rw [if_pos (q_inR (by omega) (by decide)), q_tn (by omega), hx c hc, lp_M abv_cl (fun s hs => abv_cl c s hc hs) (show cC (tr K N) ≤ 40 by omega)]
  exact cleadL h hx hc (cC (tr K N)) 0 FU _ (by omega) (by unfold FU; omega) (fun s hs => abv_cl c s hc hs)
/-- circles are cut, class by class -/
def an2 (K : Nat → Int32) (N : Nat) (W : Nat → Int64) (c u : Nat) : Int32 × Int32 := if ro K u = 6 ∧ cls K u < c then an0 K N W u else an1 K N W u
def YI (K : Nat → Int32) (N : Nat) (W : Nat → Int64) (σ0 : Sto) (c : Nat) (σ : Sto) : Prop := FD σ0 σ ∧ (∀ u, σ.2.1 11 u = if u < N then (an2 K N W c u).1 else -1) ∧ (∀ u, σ.2.1 17 u = if u < N then (an2 K N W c u).2 else 0) ∧ (∀ u, σ.2.1 12 u = tyd K N W N u) ∧ (∀ d, σ.2.1 14 d = if d < c then oI (parF (abv K N W) 40 d) else -1) ∧ (∀ d, d < cC (tr K N) → σ.2.1 21 d = oI (abv K N W d))
theorem an0_6 {u : Nat} (r : ro K u = 6) : an0 K N W u = (clw K N W (W u)).elim (-1, 4) (fun c => if cirB K N W (cls K u) = true then (-1, 8) else (nI (ctA K c N), 0)) := by
  unfold an0
  rw [if_neg (by rw [r]; decide), if_neg (by rw [r]; decide), if_pos r]
theorem an0_1 {u : Nat} (r : ¬ ro K u = 6) : an0 K N W u = an1 K N W u := by
  unfold an0 an1
  by_cases e1 : ro K u = 1
  · rw [if_pos e1, if_pos e1]
  · rw [if_neg e1, if_neg e1]
    by_cases e7 : ro K u = 7 ∨ ro K u = 8
    · rw [if_pos e7, if_pos (Or.inr e7)]
    · rw [if_neg e7, if_neg r, if_neg (show ¬ (ro K u = 6 ∨ ro K u = 7 ∨ ro K u = 8) from fun z => z.elim r e7)]
/-- what the declarer leaves -/
def DE (K : Nat → Int32) (N : Nat) (W : Nat → Int64) (σ0 σ : Sto) : Prop := FD σ0 σ ∧ (∀ u, σ.2.1 11 u = if u < N then (an0 K N W u).1 else -1) ∧ (∀ u, σ.2.1 17 u = if u < N then (an0 K N W u).2 else 0) ∧ (∀ u, σ.2.1 12 u = tyd K N W N u) ∧ (∀ d, d < cC (tr K N) → σ.2.1 14 d = oI (parF (abv K N W) 40 d))
theorem ccutL (h0 : SC K N σ0) : ∀ (j c fuel : Nat) (σ : Sto), j + c = cC (tr K N) → j < fuel → YI K N W σ0 c σ → ∃ σ', p_Declarer_tieSuperclasses_L63 fuel σ (nI c) = some σ' ∧ YI K N W σ0 (cC (tr K N)) σ' := by
  have hN := h0.1
  have m4 := h0.M4
  intro j
  induction j with
  | zero =>
    intro c fuel σ hj hf X
    obtain ⟨n, rfl⟩ : ∃ n, fuel = n + 1 := ⟨fuel - 1, by omega⟩
    have h := h0.fd X.1
    unfold p_Declarer_tieSuperclasses_L63
    rw [h.2.2.2.2.1, if_pos ((q_le (by omega) (by omega)).mpr (by omega))]
    exact ⟨σ, rfl, by rw [show cC (tr K N) = c by omega]; exact X⟩
  | succ j ih =>
    intro c fuel σ hj hf X
    obtain ⟨n, rfl⟩ : ∃ n, fuel = n + 1 := ⟨fuel - 1, by omega⟩
    have h := h0.fd X.1
    obtain ⟨g1, g2, g3, g4, g5, g6⟩ := X
    have hc : c < cC (tr K N) := by omega
    have rc : inR (nI c) 30 := q_inR (by omega) (by decide)
    have rcn : (nI c).toNatClampNeg = c := q_tn (by omega)
    obtain ⟨l2, r6, kc⟩ := ct2 h.2.1 hc
    -- only the name behind this class's extends changes
    have an : ∀ u, u < N → ¬ (u = ctA K c N + 2 ∧ K (ctA K c N + 1) = 5) → an2 K N W (c + 1) u = an2 K N W c u := by
      intro u hu ne
      unfold an2
      by_cases r : ro K u = 6
      · obtain ⟨q1, q2⟩ := ro6 h.2.1 hu r
        by_cases e : cls K u = c
        · exfalso
          rw [e] at q2
          refine ne ⟨q2, ?_⟩
          rw [q2] at r
          exact r6.mp r
        · by_cases l : cls K u < c
          · rw [if_pos ⟨r, by omega⟩, if_pos ⟨r, l⟩]
          · rw [if_neg (fun z => by omega), if_neg (fun z => by omega)]
      · rw [if_neg (fun z => r z.1), if_neg (fun z => r z.1)]
    -- no circle here
    have no : cirB K N W c = false → ∃ σ', p_Declarer_tieSuperclasses_L63 n (sA σ 14 c (σ.2.1 21 c)) (nI c + 1) = some σ' ∧ YI K N W σ0 (cC (tr K N)) σ' := by
      intro hcir
      rw [nI_1]
      have same : ∀ u, u < N → an2 K N W (c + 1) u = an2 K N W c u := by
        intro u hu
        by_cases ne : u = ctA K c N + 2 ∧ K (ctA K c N + 1) = 5
        · obtain ⟨rfl, q⟩ := ne
          have r := r6.mpr q
          have ec := (kc q).1
          unfold an2
          rw [if_pos ⟨r, by omega⟩, if_neg (fun z => by omega), an0_6 r, an1_6 (Or.inl r), ec]
          cases clw K N W (W (ctA K c N + 2)) with
          | none => rfl
          | some d =>
            show (if cirB K N W c = true then ((-1, 8) : Int32 × Int32) else (nI (ctA K d N), 0)) = (nI (ctA K d N), 0)
            rw [hcir, if_neg (by decide)]
        · exact an u hu ne
      refine ih (c + 1) n _ (by omega) (by omega) ⟨⟨g1.1, fun a p1 p2 p3 p4 p5 => by rw [q_An p3]; exact g1.2.1 a p1 p2 p3 p4 p5, g1.2.2⟩, fun u => ?_, fun u => ?_, fun u => by rw [q_An (by decide)]; exact g4 u, fun d => ?_, fun d hd => by rw [q_An (by decide)]; exact g6 d hd⟩
      · rw [q_An (by decide), g2]
        by_cases l : u < N
        · rw [if_pos l, if_pos l, same u l]
        · rw [if_neg l, if_neg l]
      · rw [q_An (by decide), g3]
        by_cases l : u < N
        · rw [if_pos l, if_pos l, same u l]
        · rw [if_neg l, if_neg l]
      · rw [q_A2, if_pos rfl, g5]
        by_cases e : d = c
        · rw [if_pos e, if_pos (by omega), g6 c hc, e]
          unfold parF
          have hcir' : lp (abv K N W) c 40 (abv K N W c) = false := hcir
          rw [hcir', if_neg (by decide)]
        · rw [if_neg e]
          by_cases l : d < c
          · rw [if_pos l, if_pos (by omega)]
          · rw [if_neg l, if_neg (by omega)]
    unfold p_Declarer_tieSuperclasses_L63
    rw [h.2.2.2.2.1, if_neg (fun z => by have := (q_le (by omega) (by omega)).mp z; omega), csup h hc, q_bd1]
    by_cases q : K (ctA K c N + 1) = 5
    · rw [if_pos q, if_neg (q_neg (by omega)), clead h g6 hc, q_bd1]
      cases hcir : cirB K N W c
      · rw [if_pos (show b01 false = 0 from rfl), if_pos rc, if_pos rc, rcn]
        exact no hcir
      · rw [if_neg (show ¬ b01 true = 0 by decide), if_pos (q_inR (by omega) (by decide))]
        simp only [q_tn (show ctA K c N + 2 < 2147483648 by omega)]
        rw [cmark (by omega), q_bd1, nI_1]
        have r := r6.mpr q
        obtain ⟨ec, _⟩ := kc q
        have ea : abv K N W c = clw K N W (W (ctA K c N + 2)) := by unfold abv; rw [if_pos q]
        have hs : ∃ d, clw K N W (W (ctA K c N + 2)) = some d := by
          cases e : clw K N W (W (ctA K c N + 2)) with
          | none =>
            exfalso
            unfold cirB at hcir
            rw [ea, e] at hcir
            exact absurd hcir (by simp [lp])
          | some d => exact ⟨d, rfl⟩
        obtain ⟨d, hd⟩ := hs
        have e1 : an1 K N W (ctA K c N + 2) = (nI (ctA K d N), 0) := by rw [an1_6 (Or.inl r), hd]; rfl
        have e0 : an0 K N W (ctA K c N + 2) = (-1, 8) := by
          rw [an0_6 r, hd, ec]
          show (if cirB K N W c = true then ((-1, 8) : Int32 × Int32) else (nI (ctA K d N), 0)) = (-1, 8)
          rw [hcir, if_pos rfl]
        have b1 : an2 K N W c (ctA K c N + 2) = (nI (ctA K d N), 0) := by
          unfold an2
          rw [if_neg (fun z => by omega), e1]
        have b2 : an2 K N W (c + 1) (ctA K c N + 2) = (-1, 8) := by
          unfold an2
          rw [if_pos ⟨r, by omega⟩, e0]
        have mv : (sA σ 11 (ctA K c N + 2) (-1)).2.1 17 (ctA K c N + 2) ||| ((1 : Int32) <<< ((3 : Int32) &&& 31)) = 8 := by
          rw [q_An (by decide), g3, if_pos l2, b1]
          show (0 : Int32) ||| ((1 : Int32) <<< ((3 : Int32) &&& 31)) = 8
          decide
        rw [mv]
        refine ih (c + 1) n _ (by omega) (by omega) ⟨⟨g1.1, fun a p1 p2 p3 p4 p5 => by rw [q_An p4, q_An p1]; exact g1.2.1 a p1 p2 p3 p4 p5, g1.2.2⟩, fun u => ?_, fun u => ?_, fun u => by rw [q_An (by decide), q_An (by decide)]; exact g4 u, fun d => ?_, fun d hd => by rw [q_An (by decide), q_An (by decide)]; exact g6 d hd⟩
        · rw [q_An (by decide), q_A2, if_pos rfl]
          by_cases e : u = ctA K c N + 2
          · rw [if_pos e, if_pos (by omega), e, b2]
          · rw [if_neg e, g2]
            by_cases l : u < N
            · rw [if_pos l, if_pos l, an u l (fun z => e z.1)]
            · rw [if_neg l, if_neg l]
        · rw [q_A2, if_pos rfl]
          by_cases e : u = ctA K c N + 2
          · rw [if_pos e, if_pos (by omega), e, b2]
          · rw [if_neg e, q_An (by decide), g3]
            by_cases l : u < N
            · rw [if_pos l, if_pos l, an u l (fun z => e z.1)]
            · rw [if_neg l, if_neg l]
        · rw [q_An (by decide), q_An (by decide), g5]
          by_cases e : d = c
          · rw [if_neg (by omega), if_pos (by omega), e]
            unfold parF
            have hcir' : lp (abv K N W) c 40 (abv K N W c) = true := hcir
            rw [hcir', if_pos rfl]
            rfl
          · by_cases l : d < c
            · rw [if_pos l, if_pos (by omega)]
            · rw [if_neg l, if_neg (by omega)]
    · have hcir : cirB K N W c = false := by
        unfold cirB abv
        rw [if_neg q]
        rfl
      rw [if_neg q, if_pos rfl, if_pos rc, if_pos rc, rcn]
      exact no hcir
theorem declC (h0 : SC K N σ0) (hW : WW K N σ0.2.2 W) (h11 : ∀ u, σ0.2.1 11 u = -1) (h14 : ∀ u, σ0.2.1 14 u = -1) (h17 : ∀ u, σ0.2.1 17 u = 0) (h12 : ∀ u, σ0.2.1 12 u = if u < N ∧ cS (tr K u) = 2 then nI (cC (tr K u)) else -2) : ∃ σ', p_Declarer_declare σ0 = some σ' ∧ DE K N W σ0 σ' := by
  have hN := h0.1
  have m4 := h0.M4
  have e1 : cS (tr K 0) = 1 := rfl
  obtain ⟨σ1, r1, D⟩ := cdecL h0 hW N 0 FU σ0 (by omega) (by unfold FU; omega) ⟨FD.refl _, fun u => by rw [if_neg (by omega)]; exact h11 u, fun u => by rw [if_neg (by omega)]; exact h17 u, fun u => by
    rw [h12]
    unfold tyd
    by_cases q : u < N ∧ cS (tr K u) = 2
    · rw [if_pos q, if_pos q]
    · rw [if_neg q, if_neg q, if_neg (fun z => by omega)], h14, fun z => by rw [e1] at z; exact absurd z (by decide), fun z => by rw [e1] at z; exact absurd z (by decide)⟩
  obtain ⟨g1, g2, g3, g4, g5, _, _⟩ := D
  obtain ⟨σ2, r2, X⟩ := cextL (W := W) h0 (cC (tr K N)) 0 FU σ1 (by omega) (by unfold FU; omega) ⟨g1, g2, g3, g4, g5, fun d hd => by omega⟩
  obtain ⟨x1, x2, x3, x4, x5, x6⟩ := X
  have a2 : ∀ u, an2 K N W 0 u = an1 K N W u := fun u => by
    unfold an2
    rw [if_neg (fun z => by omega)]
  obtain ⟨σ3, r3, Y⟩ := ccutL (W := W) h0 (cC (tr K N)) 0 FU σ2 (by omega) (by unfold FU; omega) ⟨x1, fun u => by rw [a2]; exact x2 u, fun u => by rw [a2]; exact x3 u, x4, fun d => by rw [if_neg (by omega)]; exact x5 d, x6⟩
  obtain ⟨y1, y2, y3, y4, y5, _⟩ := Y
  have a3 : ∀ u, u < N → an2 K N W (cC (tr K N)) u = an0 K N W u := fun u hu => by
    unfold an2
    by_cases r : ro K u = 6
    · rw [if_pos ⟨r, (ro6 h0.2.1 hu r).1⟩]
    · rw [if_neg (fun z => r z.1), an0_1 r]
  refine ⟨σ3, ?_, y1, fun u => ?_, fun u => ?_, y4, fun d hd => by rw [y5, if_pos hd]⟩
  · unfold p_Declarer_declare
    have r1' : p_Declarer_declare_L2 FU σ0 0 = _ := r1
    rw [r1']
    unfold p_Declarer_tieSuperclasses
    have r2' : p_Declarer_tieSuperclasses_L2 FU σ1 0 = _ := r2
    have r3' : p_Declarer_tieSuperclasses_L63 FU σ2 0 = some σ3 := r3
    rw [r2', r3', q_bd1]
  · rw [y2]
    by_cases l : u < N
    · rw [if_pos l, if_pos l, a3 u l]
    · rw [if_neg l, if_neg l]
  · rw [y3]
    by_cases l : u < N
    · rw [if_pos l, if_pos l, a3 u l]
    · rw [if_neg l, if_neg l]
end TIE
