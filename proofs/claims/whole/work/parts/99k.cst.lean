/-! what a good parse leaves in the class, and what the class reads out of it -/
def SC (K : Nat → Int32) (N : Nat) (σ : Sto) : Prop := N ≤ 121 ∧ cS (tr K N) = 1 ∧ (∀ u, N ≤ u → K u = 0) ∧ σ.1 3 = nI N ∧ σ.1 4 = nI (cC (tr K N)) ∧ (∀ u, σ.2.1 9 u = if u < N then ro K u else 0) ∧ (∀ u, σ.2.1 10 u = nI (ac K N u)) ∧ (∀ c, c < cC (tr K N) → σ.2.1 13 c = nI (ctA K c N)) ∧ σ.2.1 13 (cC (tr K N)) = nI N ∧ (∀ u, u < N → SK (σ.2.1 6 u) (K u))
theorem CR.sc {K : Nat → Int32} {N : Nat} {σ0 σ : Sto} (hT : TKC K N σ0) (h : CR K N σ0 σ) : SC K N σ := by
  obtain ⟨s1, hF, h3, h4, h9, h10, h12, h13, h13e⟩ := h
  refine ⟨hT.1, s1, hT.2.2.2, h3, h4, h9, h10, fun c hc => ?_, h13e, fun u hu => ?_⟩
  · obtain ⟨a, b, d⟩ := ct_ok N c hc
    have := h13 (ctA K c N) a b
    rw [d] at this
    exact this
  · rw [hF.2.1 6 (by decide) (by decide) (by decide) (by decide) (by decide) (by decide) (by decide) (by decide)]
    exact hT.2.2.1 u hu
theorem SC.keep {K : Nat → Int32} {N : Nat} {σ σ' : Sto} (h : SC K N σ) (e3 : σ'.1 3 = σ.1 3) (e4 : σ'.1 4 = σ.1 4) (e6 : σ'.2.1 6 = σ.2.1 6) (e9 : σ'.2.1 9 = σ.2.1 9) (e10 : σ'.2.1 10 = σ.2.1 10) (e13 : σ'.2.1 13 = σ.2.1 13) : SC K N σ' := by
  unfold SC at h ⊢
  rw [e3, e4, e6, e9, e10, e13]
  exact h
def RL : List Int32 := [0, 1, 2, 3, 4, 5, 6, 7, 8, 9, 10, 11, 12, 13, 14, 15, 16, 17, 18, 19, 20, 21, 22, 23, 24]
theorem mem_ite {L : List Int32} {c : Prop} [Decidable c] {a b : Int32} (ha : a ∈ L) (hb : b ∈ L) : (if c then a else b) ∈ L := by
  by_cases h : c
  · rw [if_pos h]; exact ha
  · rw [if_neg h]; exact hb
theorem rb_mem (s k k2 : Int32) : rb s k k2 ∈ RL := by
  unfold rb oprR talR
  (repeat' apply mem_ite) <;> (unfold RL; decide)
theorem up_mem : ∀ r ∈ RL, upR r ∈ RL := by
  unfold RL
  decide
theorem ro_mem (K : Nat → Int32) (u : Nat) : ro K u ∈ RL := by
  unfold ro
  split
  · exact up_mem _ (rb_mem _ _ _)
  · exact rb_mem _ _ _
theorem mask_i : ∀ r ∈ RL, (((2 : Int32) >>> (r &&& 31) &&& 1 = 1) ↔ r = 1) ∧ (((12 : Int32) >>> (r &&& 31) &&& 1 = 1) ↔ (r = 2 ∨ r = 3)) ∧ (((48 : Int32) >>> (r &&& 31) &&& 1 = 1) ↔ (r = 4 ∨ r = 5)) := by
  unfold RL
  decide
/-- how spellings and words go together -/
def WW (K : Nat → Int32) (N : Nat) (V W : Nat → Int64) : Prop := ∀ u v, u < N → v < N → K u = 1 → K v = 1 → (V u = V v ↔ W u = W v)
section CST
variable {K : Nat → Int32} {N : Nat} {σ : Sto} {W : Nat → Int64}
theorem SC.M4 (h : SC K N σ) : 4 * cC (tr K N) ≤ N := (WG_all N (by rw [h.2.1]; decide)).1 h.2.1
theorem SC.al (h : SC K N σ) {t : Nat} (ht : t ≤ N) : cS (tr K t) ≠ 0 := tr_alive' ht (by rw [h.2.1]; decide)
theorem SC.rl (h : SC K N σ) {u : Nat} (hu : u < N) : σ.2.1 9 u = ro K u := by rw [h.2.2.2.2.2.1, if_pos hu]
theorem SC.nm (h : SC K N σ) {u : Nat} (hu : u < N) (hr : rr (ro K u) ≠ 0) : K u = 1 := nameK (h.al (by omega)) hr
theorem cfndL (h3 : σ.1 3 = nI N) (hN : N ≤ 121) (x1 : Int32) (w : Int64) (mask : Int32) {b : Nat} (hb : b < 1000) : ∀ (j a fuel : Nat), j = min b N - a → a < 1000 → j < fuel → p_Outline_find_L7 σ x1 (nI b) w mask fuel (nI a) = some (oI (fi1 (fun u => decide ((mask >>> (σ.2.1 9 u &&& 31)) &&& 1 = 1 ∧ σ.2.2 u = w)) j a)) := by
  intro j
  induction j with
  | zero =>
    intro a fuel hj ha hf
    obtain ⟨n, rfl⟩ : ∃ n, fuel = n + 1 := ⟨fuel - 1, by omega⟩
    unfold p_Outline_find_L7
    by_cases l : b ≤ a
    · rw [if_pos ((q_le (by omega) (by omega)).mpr l)]
      rfl
    · rw [if_neg (fun z => l ((q_le (by omega) (by omega)).mp z)), h3, if_pos ((q_le (by omega) (by omega)).mpr (by omega))]
      rfl
  | succ j ih =>
    intro a fuel hj ha hf
    obtain ⟨n, rfl⟩ : ∃ n, fuel = n + 1 := ⟨fuel - 1, by omega⟩
    have nx := ih (a + 1) n (by omega) (by omega) (by omega)
    unfold p_Outline_find_L7
    rw [if_neg (fun z => by have := (q_le (by omega) (by omega)).mp z; omega), h3, if_neg (fun z => by have := (q_le (by omega) (by omega)).mp z; omega), if_pos (q_inR (by omega) (by decide))]
    simp only [q_tn (show a < 2147483648 by omega), nI_1]
    unfold fi1
    by_cases e : (mask >>> (σ.2.1 9 a &&& 31)) &&& 1 = 1
    · rw [if_pos e, if_pos (q_inR (by omega) (by decide))]
      by_cases e2 : σ.2.2 a = w
      · rw [if_pos ((q_cmp0 _ _).mpr e2), if_pos (decide_eq_true ⟨e, e2⟩)]
        rfl
      · rw [if_neg (fun z => e2 ((q_cmp0 _ _).mp z)), if_neg (fun z => e2 (of_decide_eq_true z).2)]
        exact nx
    · rw [if_neg e, if_neg (fun z => e (of_decide_eq_true z).1)]
      exact nx
theorem cfnd (h3 : σ.1 3 = nI N) (hN : N ≤ 121) (w : Int64) (mask : Int32) {a b : Nat} (hb : b < 1000) (ha : a < 1000) : p_Outline_find σ (nI a) (nI b) w mask = some (oI (fi1 (fun u => decide ((mask >>> (σ.2.1 9 u &&& 31)) &&& 1 = 1 ∧ σ.2.2 u = w)) (min b N - a) a)) := by
  unfold p_Outline_find
  rw [if_neg (q_pos (by omega))]
  exact cfndL h3 hN (nI a) w mask hb (min b N - a) a FU rfl ha (by unfold FU; omega)
/-- the class that a word names -/
theorem ccls (h : SC K N σ) (hW : WW K N σ.2.2 W) {t : Nat} (ht : t < N) (k1 : K t = 1) : p_Outline_find σ 0 (nI N) (σ.2.2 t) 2 = some (oI ((clw K N W (W t)).map (fun c => ctA K c N))) := by
  have hN := h.1
  have m4 := h.M4
  have := cfnd (σ := σ) h.2.2.2.1 hN (σ.2.2 t) 2 (a := 0) (b := N) (by omega) (by omega)
  rw [show nI 0 = (0 : Int32) from rfl] at this
  rw [this]
  congr 2
  have mk : ∀ u, u < N → ((2 : Int32) >>> (σ.2.1 9 u &&& 31) &&& 1 = 1 ∧ σ.2.2 u = σ.2.2 t ↔ cS (tr K u) = 2 ∧ W u = W t) := by
    intro u hu
    rw [h.rl hu, (mask_i _ (ro_mem K u)).1, (ro_i K u).1]
    constructor
    · rintro ⟨a, b⟩
      have ku : K u = 1 := h.nm hu (by rw [(ro_i K u).1.mpr a]; decide)
      exact ⟨a, (hW u t hu ht ku k1).mp b⟩
    · rintro ⟨a, b⟩
      have ku : K u = 1 := h.nm hu (by rw [(ro_i K u).1.mpr a]; decide)
      exact ⟨a, (hW u t hu ht ku k1).mpr b⟩
  cases q : clw K N W (W t) with
  | none =>
    show _ = none
    refine fi1_no (fun v v1 v2 => decide_eq_false (fun z => ?_))
    obtain ⟨a, b⟩ := (mk v (by omega)).mp z
    have := fi1_none q (cC (tr K v)) (Nat.zero_le _) (by have := ct_in (N := N) (by omega : v < N) a; omega)
    rw [ct_of (by omega) a] at this
    exact of_decide_eq_false this b
  | some c =>
    obtain ⟨_, q2, q3, q4⟩ := fi1_some q
    have hc : c < cC (tr K N) := by omega
    obtain ⟨a, b, d⟩ := ct_ok (K := K) N c hc
    show _ = some (ctA K c N)
    refine fi1_is (Nat.zero_le _) (by omega) (decide_eq_true ((mk _ a).mpr ⟨b, of_decide_eq_true q3⟩)) (fun v v1 v2 => decide_eq_false (fun z => ?_))
    obtain ⟨a', b'⟩ := (mk v (by omega)).mp z
    have hv : v < N := by omega
    have lt : cC (tr K v) < c := by
      have := ct_in hv a'
      have e := ct_of hv a'
      by_cases l : cC (tr K v) < c
      · exact l
      · by_cases l2 : c < cC (tr K v)
        · have := ct_mono (N := N) l2 this
          rw [e] at this
          omega
        · have : cC (tr K v) = c := by omega
          rw [this] at e
          omega
    have := q4 (cC (tr K v)) (Nat.zero_le _) lt
    rw [ct_of hv a'] at this
    exact of_decide_eq_false this b'
/-- the end of a class -/
def ctE (K : Nat → Int32) (N s : Nat) : Nat := if s + 1 < cC (tr K N) then ctA K (s + 1) N else N
theorem SC.e13 (h : SC K N σ) {s : Nat} (hs : s < cC (tr K N)) : σ.2.1 13 (s + 1) = nI (ctE K N s) := by
  unfold ctE
  by_cases e : s + 1 < cC (tr K N)
  · rw [if_pos e]; exact h.2.2.2.2.2.2.2.1 (s + 1) e
  · rw [if_neg e, show s + 1 = cC (tr K N) by omega]; exact h.2.2.2.2.2.2.2.2.1
theorem ctE_le {s : Nat} : ctE K N s ≤ N := by
  unfold ctE
  by_cases e : s + 1 < cC (tr K N)
  · rw [if_pos e]; exact Nat.le_of_lt (ct_ok N _ e).1
  · rw [if_neg e]; exact Nat.le_refl _
/-- the members of a class stand between its name and its end -/
theorem span {s u : Nat} (hs : s < cC (tr K N)) (hu : u < N) (s7 : cS (tr K u) = 7) : (ctA K s N ≤ u ∧ u < ctE K N s) ↔ cls K u = s := by
  have a1 : cS (tr K u) ≠ 0 := by rw [s7]; decide
  have c1 : 1 ≤ cC (tr K u) := (WG_all u a1).2.2.2.2 (by rw [s7]; decide)
  have e : cls K u = cC (tr K u) - 1 := by unfold cls; rw [if_neg (by rw [s7]; decide)]
  have nt : ∀ c, c < cC (tr K N) → ctA K c N ≠ u := fun c hc z => by
    have := (ct_ok (K := K) N c hc).2.1
    rw [z, s7] at this
    exact absurd this (by decide)
  have l1 := ct_lt (K := K) (N := N) (u := u) hs
  have mono := cC_mono K u N (by omega)
  have n1 := nt s hs
  rw [e]
  unfold ctE
  by_cases q : s + 1 < cC (tr K N)
  · rw [if_pos q]
    have l2 := ct_lt (K := K) (N := N) (u := u) q
    have n2 := nt (s + 1) q
    constructor
    · rintro ⟨a, b⟩
      have := l1.mp (by omega)
      have : ¬ s + 1 < cC (tr K u) := fun z => by have := l2.mpr z; omega
      omega
    · intro z
      have := l1.mpr (by omega)
      have : ¬ ctA K (s + 1) N < u := fun y => by have := l2.mp y; omega
      omega
  · rw [if_neg q]
    constructor
    · rintro ⟨a, b⟩
      have := l1.mp (by omega)
      omega
    · intro z
      have := l1.mpr (by omega)
      omega
theorem cmem (h : SC K N σ) (hW : WW K N σ.2.2 W) {t s : Nat} (ht : t < N) (k1 : K t = 1) (hs : s < cC (tr K N)) : fi1 (fun u => decide ((12 : Int32) >>> (σ.2.1 9 u &&& 31) &&& 1 = 1 ∧ σ.2.2 u = σ.2.2 t)) (min (ctE K N s) N - ctA K s N) (ctA K s N) = mem K N W (W t) s := by
  have ce := ctE_le (K := K) (N := N) (s := s)
  refine fi1_ext (fun u => ?_)
  rw [decide_eq_true_iff, decide_eq_true_iff]
  have key : u < N → ((12 : Int32) >>> (σ.2.1 9 u &&& 31) &&& 1 = 1 ↔ (ro K u = 2 ∨ ro K u = 3)) := fun hu => by rw [h.rl hu]; exact (mask_i _ (ro_mem K u)).2.1
  constructor
  · rintro ⟨a, b, c, d⟩
    have hu : u < N := by omega
    have r := (key hu).mp c
    have s7 := (ro_i K u).2.2.2.2.2.1.mp r
    have ku : K u = 1 := h.nm hu (by rcases r with z | z <;> rw [z] <;> decide)
    exact ⟨Nat.zero_le _, by omega, r, (span hs hu s7).mp ⟨a, by omega⟩, (hW u t hu ht ku k1).mp d⟩
  · rintro ⟨a, b, r, c, d⟩
    have hu : u < N := by omega
    have s7 := (ro_i K u).2.2.2.2.2.1.mp r
    have ku : K u = 1 := h.nm hu (by rcases r with z | z <;> rw [z] <;> decide)
    obtain ⟨x, y⟩ := (span hs hu s7).mpr c
    exact ⟨x, by omega, (key hu).mpr r, (hW u t hu ht ku k1).mpr d⟩
theorem cisc (h : SC K N σ) {o : Option Nat} (ho : ∀ s, o = some s → s < cC (tr K N)) : p_Outline_isClass σ (oI o) = some (b01 o.isSome) := by
  have hN := h.1
  have m4 := h.M4
  unfold p_Outline_isClass
  cases o with
  | none => rw [if_pos (show oI none < 0 by decide)]; rfl
  | some s =>
    have hs := ho s rfl
    have n0 : ¬ oI (some s) < 0 := q_pos (show s < 2147483648 by omega)
    rw [if_neg n0, h.2.2.2.2.1, if_neg (fun z => by have := (q_le (by omega) (by omega)).mp z; omega)]
    rfl
theorem cfmL (h : SC K N σ) (hW : WW K N σ.2.2 W) (hp : ∀ c, c < cC (tr K N) → σ.2.1 14 c = oI (parF (abv K N W) 40 c)) (x1 : Int32) {t : Nat} (ht : t < N) (k1 : K t = 1) : ∀ (n i fuel : Nat) (o : Option Nat), n + i = cC (tr K N) → n < fuel → (∀ s, o = some s → s < cC (tr K N)) → p_Outline_findMember_L6 σ x1 (σ.2.2 t) fuel (oI o) (nI i) = some (oI (fm (parF (abv K N W) 40) (mem K N W (W t)) n o)) := by
  have hN := h.1
  have m4 := h.M4
  intro n
  induction n with
  | zero =>
    intro i fuel o hi hf ho
    obtain ⟨m, rfl⟩ : ∃ m, fuel = m + 1 := ⟨fuel - 1, by omega⟩
    unfold p_Outline_findMember_L6
    rw [h.2.2.2.2.1, if_pos ((q_le (by omega) (by omega)).mpr (by omega))]
    rfl
  | succ n ih =>
    intro i fuel o hi hf ho
    obtain ⟨m, rfl⟩ : ∃ m, fuel = m + 1 := ⟨fuel - 1, by omega⟩
    unfold p_Outline_findMember_L6
    rw [h.2.2.2.2.1, if_neg (fun z => by have := (q_le (by omega) (by omega)).mp z; omega), cisc h ho, q_bd1]
    cases o with
    | none =>
      rw [if_pos (show b01 (none : Option Nat).isSome = 0 from rfl), fm_none]
      rfl
    | some s =>
      have hs := ho s rfl
      have ca := (ct_ok (K := K) N s hs).1
      have ce := ctE_le (K := K) (N := N) (s := s)
      rw [if_neg (show ¬ b01 (some s).isSome = 0 from (by decide : ¬ (1 : Int32) = 0)), show oI (some s) = nI s from rfl, nI_1, if_pos (q_inR (by omega) (by decide)), if_pos (q_inR (by omega) (by decide))]
      simp only [q_tn (show s < 2147483648 by omega), q_tn (show s + 1 < 2147483648 by omega), h.2.2.2.2.2.2.2.1 s hs, h.e13 hs]
      rw [cfnd h.2.2.2.1 hN _ _ (by omega) (by omega), q_bd1, cmem h hW ht k1 hs]
      show _ = some (oI ((mem K N W (W t) s).elim (fm (parF (abv K N W) 40) (mem K N W (W t)) n (parF (abv K N W) 40 s)) some))
      cases q : mem K N W (W t) s with
      | none =>
        rw [if_pos (show oI none = -1 from rfl), if_pos (q_inR (by omega) (by decide)), hp s hs, nI_1]
        exact ih (i + 1) m _ (by omega) (by omega) (fun r hr => parF_cl abv_cl s r hs hr)
      | some u =>
        have hu := (fi1_some q).2.1
        rw [if_neg (show ¬ oI (some u) = -1 from q_neg (by omega))]
        rfl
theorem cfm (h : SC K N σ) (hW : WW K N σ.2.2 W) (hp : ∀ c, c < cC (tr K N) → σ.2.1 14 c = oI (parF (abv K N W) 40 c)) {t : Nat} (ht : t < N) (k1 : K t = 1) {o : Option Nat} (ho : ∀ s, o = some s → s < cC (tr K N)) : p_Outline_findMember σ (oI o) (σ.2.2 t) = some (oI (fm (parF (abv K N W) 40) (mem K N W (W t)) (cC (tr K N)) o)) := by
  have hN := h.1
  have m4 := h.M4
  exact cfmL h hW hp (oI o) ht k1 (cC (tr K N)) 0 FU o (by omega) (by unfold FU; omega) ho
theorem cfitL (h : SC K N σ) (hp : ∀ c, c < cC (tr K N) → σ.2.1 14 c = oI (parF (abv K N W) 40 c)) (x1 : Int32) {c : Nat} (hc : c < cC (tr K N)) : ∀ (n i fuel : Nat) (o : Option Nat), n + i = cC (tr K N) → n < fuel → (∀ s, o = some s → s < cC (tr K N)) → p_Outline_isRight_L24 σ x1 (nI c) fuel (oI o) (nI i) = some (b01 (lp (parF (abv K N W) 40) c n o)) := by
  have hN := h.1
  have m4 := h.M4
  intro n
  induction n with
  | zero =>
    intro i fuel o hi hf ho
    obtain ⟨m, rfl⟩ : ∃ m, fuel = m + 1 := ⟨fuel - 1, by omega⟩
    unfold p_Outline_isRight_L24
    rw [h.2.2.2.2.1, if_pos ((q_le (by omega) (by omega)).mpr (by omega))]
    rfl
  | succ n ih =>
    intro i fuel o hi hf ho
    obtain ⟨m, rfl⟩ : ∃ m, fuel = m + 1 := ⟨fuel - 1, by omega⟩
    unfold p_Outline_isRight_L24
    rw [h.2.2.2.2.1, if_neg (fun z => by have := (q_le (by omega) (by omega)).mp z; omega)]
    cases o with
    | none =>
      rw [if_pos (show oI none < 0 by decide)]
      rfl
    | some s =>
      have hs := ho s rfl
      have n0 : ¬ oI (some s) < 0 := q_pos (show s < 2147483648 by omega)
      rw [if_neg n0, show oI (some s) = nI s from rfl, if_neg (fun z => by have := (q_le (by omega) (by omega)).mp z; omega)]
      unfold lp
      by_cases e : s = c
      · rw [if_pos e, if_pos (by rw [e])]
        rfl
      · rw [if_neg e, if_neg (fun z => e ((q_eq (by omega) (by omega)).mp z)), if_pos (q_inR (by omega) (by decide)), q_tn (by omega), hp s hs, nI_1]
        exact ih (i + 1) m _ (by omega) (by omega) (fun r hr => parF_cl abv_cl s r hs hr)
theorem cfit (h : SC K N σ) (hp : ∀ c, c < cC (tr K N) → σ.2.1 14 c = oI (parF (abv K N W) 40 c)) {x y : Int32} (hx : TV K N x) (hy : TV K N y) : p_Outline_isRight σ x y = some (b01 (fitB K N W x y)) := by
  have hN := h.1
  have m4 := h.M4
  unfold p_Outline_isRight fitB
  by_cases ex : x = -2
  · rw [if_pos ex, decide_eq_true (Or.inl ex)]; rfl
  rw [if_neg ex]
  by_cases ey : y = -2
  · rw [if_pos ey, decide_eq_true (Or.inr (Or.inl ey))]; rfl
  rw [if_neg ey]
  by_cases e : x = y
  · rw [if_pos e, decide_eq_true (Or.inr (Or.inr e))]; rfl
  rw [if_neg e, decide_eq_false (fun q => q.elim ex (fun q => q.elim ey e)), Bool.false_or]
  rcases hx with z | z | ⟨c, hc, rfl⟩
  · exact absurd z ex
  · subst z
    rw [decide_eq_false (fun q => q.1 (by decide)), Bool.false_and, FU_s]
    unfold p_Outline_isRight_L24
    by_cases q : σ.1 4 ≤ 0
    · rw [if_pos q]; rfl
    · rw [if_neg q, if_pos (by decide)]; rfl
  · rcases hy with z | z | ⟨d, hd, rfl⟩
    · exact absurd z ey
    · subst z
      rw [decide_eq_false (fun q => q.2 (by decide)), Bool.false_and]
      have ne : ∀ (n i fuel : Nat) (o : Option Nat), n + i = cC (tr K N) → n < fuel → (∀ s, o = some s → s < cC (tr K N)) → p_Outline_isRight_L24 σ (nI c) (-1) fuel (oI o) (nI i) = some 0 := by
        intro n
        induction n with
        | zero =>
          intro i fuel o hi hf ho
          obtain ⟨m, rfl⟩ : ∃ m, fuel = m + 1 := ⟨fuel - 1, by omega⟩
          unfold p_Outline_isRight_L24
          rw [h.2.2.2.2.1, if_pos ((q_le (by omega) (by omega)).mpr (by omega))]
        | succ n ih =>
          intro i fuel o hi hf ho
          obtain ⟨m, rfl⟩ : ∃ m, fuel = m + 1 := ⟨fuel - 1, by omega⟩
          unfold p_Outline_isRight_L24
          rw [h.2.2.2.2.1, if_neg (fun z => by have := (q_le (by omega) (by omega)).mp z; omega)]
          cases o with
          | none => rw [if_pos (show oI none < 0 by decide)]
          | some s =>
            have hs := ho s rfl
            have n0 : ¬ oI (some s) < 0 := q_pos (show s < 2147483648 by omega)
            rw [if_neg n0, show oI (some s) = nI s from rfl, if_neg (fun z => by have := (q_le (by omega) (by omega)).mp z; omega), if_neg (q_neg (by omega)), if_pos (q_inR (by omega) (by decide)), q_tn (by omega), hp s hs, nI_1]
            exact ih (i + 1) m _ (by omega) (by omega) (fun r hr => parF_cl abv_cl s r hs hr)
      exact ne (cC (tr K N)) 0 FU (some c) (by omega) (by unfold FU; omega) (fun s hs => by rw [← Option.some.inj hs]; exact hc)
    · rw [q_tn (by omega), q_tn (by omega), decide_eq_true (show ¬ nI c < 0 ∧ ¬ nI d < 0 from ⟨q_pos (by omega), q_pos (by omega)⟩), Bool.true_and]
      exact cfitL h hp (nI c) hd (cC (tr K N)) 0 FU (some c) (by omega) (by unfold FU; omega) (fun s hs => by rw [← Option.some.inj hs]; exact hc)
end CST
