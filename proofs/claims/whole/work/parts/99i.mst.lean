/-! what a good parse leaves in the reference, and what the reference reads out of it -/
def SM (K : Nat → Int32) (N : Nat) (μ : Sto) : Prop := N ≤ 121 ∧ cS (tr K N) = 1 ∧ μ.1 3 = nI N ∧ (∀ u, u < 124 → μ.2.1 3 u = K u) ∧ (∀ u, N ≤ u → K u = 0) ∧ μ.1 6 = nI (cC (tr K N)) ∧ (∀ u, u < N → μ.2.1 7 u = rr (ro K u)) ∧ (∀ u, u < N → rr (ro K u) ≠ 0 → μ.2.1 8 u = nI (cls K u) ∧ μ.2.1 9 u = mth K u) ∧ (∀ u, u < 124 → μ.2.1 10 u = if u < N ∧ cS (tr K u) = 14 ∧ ¬ K u = 125 then bg K u else 0) ∧ (∀ u, u < N → cS (tr K u) = 14 → ¬ K u = 125 → μ.2.1 8 u = nI (cls K u) ∧ μ.2.1 9 u = mth K u) ∧ (∀ c, c < cC (tr K N) → μ.2.1 11 c = nI (ctA K c N) ∧ μ.2.1 12 c = if K (ctA K c N + 1) = 5 then nI (ctA K c N + 2) else -1)
theorem FI.sm {K : Nat → Int32} {N : Nat} {μ0 μ : Sto} (hT : TKM K N μ0) (h3 : μ0.1 3 = nI N) (h : FI K N μ0 N μ) : SM K N μ := by
  obtain ⟨hF, ⟨_, g5, g4, ga, gl, j1, j2, j3, j4⟩, s1, hJ, h6⟩ := h
  have hT' := hT.ff hF
  refine ⟨hT.1, s1, (hF.1 3 (by decide) (by decide) (by decide) (by decide)).trans h3, hT'.2.1, hT.2.2.1, h6, fun u hu => by rw [j1 u (by have := hT.1; omega), if_pos hu], j2, fun u hu4 => ?_, fun u hu h14 h125 => ?_, fun c hc => ?_⟩
  · rw [j3 u hu4]
    by_cases q : (u < N ∨ u = 1000) ∧ cS (tr K u) = 14 ∧ ¬ K u = 125
    · rw [if_pos q, if_pos ⟨q.1.resolve_right (fun z => by rw [z] at q; exact not1000 hT q.2.1), q.2⟩]
    · rw [if_neg q, if_neg (fun z => q ⟨Or.inl z.1, z.2⟩)]
  · have := hT.1
    exact j4 u hu (by omega) h14 h125
  · obtain ⟨a, b, d⟩ := ct_ok N c hc
    have l : ctA K c N + 1 < N := Decidable.byContradiction (fun z => by
      have e : N = ctA K c N + 1 := by omega
      have h1 : cS (tr K (ctA K c N + 1)) = 1 := by rw [← e]; exact s1
      rw [trS, b] at h1
      by_cases k : K (ctA K c N) = 1
      · rw [k] at h1; simp +decide only [nxt, if_true, if_false] at h1
      · simp +decide only [nxt, k, if_true, if_false] at h1)
    have := hJ (ctA K c N) l b
    rw [d] at this
    exact this
theorem SM.rl {K : Nat → Int32} {N : Nat} {μ : Sto} (h : SM K N μ) {u : Nat} (hu : u < N) : μ.2.1 7 u = rr (ro K u) := h.2.2.2.2.2.2.1 u hu
theorem SM.bgn {K : Nat → Int32} {N : Nat} {μ : Sto} (h : SM K N μ) {u : Nat} (hu : u < 124) : μ.2.1 10 u = if u < N ∧ cS (tr K u) = 14 ∧ ¬ K u = 125 then bg K u else 0 := h.2.2.2.2.2.2.2.2.1 u hu
theorem SM.keep {K : Nat → Int32} {N : Nat} {μ μ' : Sto} (h : SM K N μ) (e3 : μ'.1 3 = μ.1 3) (e6 : μ'.1 6 = μ.1 6) (ea : ∀ a, a < 13 → μ'.2.1 a = μ.2.1 a) : SM K N μ' := by
  unfold SM at h ⊢
  rw [e3, e6, ea 3 (by decide), ea 7 (by decide), ea 8 (by decide), ea 9 (by decide), ea 10 (by decide), ea 11 (by decide), ea 12 (by decide)]
  exact h
/-- the class that a word names -/
def clw (K : Nat → Int32) (N : Nat) (W : Nat → Int64) (w : Int64) : Option Nat := fi1 (fun c => decide (W (ctA K c N) = w)) (cC (tr K N)) 0
def abv (K : Nat → Int32) (N : Nat) (W : Nat → Int64) (c : Nat) : Option Nat := if K (ctA K c N + 1) = 5 then clw K N W (W (ctA K c N + 2)) else none
def mem (K : Nat → Int32) (N : Nat) (W : Nat → Int64) (w : Int64) (s : Nat) : Option Nat := fi1 (fun u => decide ((ro K u = 2 ∨ ro K u = 3) ∧ cls K u = s ∧ W u = w)) N 0
def dcl (K : Nat → Int32) (N : Nat) (W : Nat → Int64) (t : Nat) : Int32 := if K (t - 1) = 3 then -1 else tI (clw K N W (W (t - 1)))
def loc (K : Nat → Int32) (W : Nat → Int64) (t b : Nat) : Option Nat := fi1 (fun k => decide ((ro K k = 4 ∨ ro K k = 5) ∧ mth K k = mth K t ∧ cls K k = cls K t ∧ W k = W t)) b 0
theorem clw_lt {K : Nat → Int32} {N : Nat} {W : Nat → Int64} {w : Int64} {c : Nat} (h : clw K N W w = some c) : c < cC (tr K N) := by
  have := (fi1_some h).2.1
  omega
theorem abv_cl {K : Nat → Int32} {N : Nat} {W : Nat → Int64} : Cl (abv K N W) (cC (tr K N)) := by
  intro c s hc h
  unfold abv at h
  by_cases e : K (ctA K c N + 1) = 5
  · rw [if_pos e] at h; exact clw_lt h
  · rw [if_neg e] at h; exact absurd h (by simp)
theorem rr_i (r : Int32) : (rr r = 1 ↔ r = 1) ∧ (rr r = 2 ↔ r = 7) ∧ (rr r = 3 ↔ r = 6) ∧ (rr r = 4 ↔ r = 8) ∧ (rr r = 5 ↔ r = 2) ∧ (rr r = 6 ↔ r = 3) ∧ (rr r = 7 ↔ r = 4) ∧ (rr r = 8 ↔ r = 5) ∧ (rr r = 9 ↔ r = 9) ∧ (rr r = 10 ↔ r = 10) ∧ (rr r = 11 ↔ r = 11) ∧ (rr r = 12 ↔ r = 12) := by
  unfold rr
  (repeat' split) <;> simp_all +decide
section MST
variable {K : Nat → Int32} {N : Nat} {μ : Sto}
theorem SM.M4 (h : SM K N μ) : 4 * cC (tr K N) ≤ N := (WG_all N (by rw [h.2.1]; decide)).1 h.2.1
theorem SM.al (h : SM K N μ) {t : Nat} (ht : t ≤ N) : cS (tr K t) ≠ 0 := tr_alive' ht (by rw [h.2.1]; decide)
theorem cls_le (u : Nat) (hu : u ≤ N) : cls K u ≤ cC (tr K N) := by
  have := cC_mono K u N hu
  unfold cls
  split <;> omega
theorem mclsL (h : SM K N μ) {t : Nat} (ht : t < 124) : ∀ (j c fuel : Nat), j + c = cC (tr K N) → j < fuel → p_Mo_classOf_L2 μ (nI t) fuel (nI c) = some (tI (fi1 (fun c => decide (μ.2.2 (ctA K c N) = μ.2.2 t)) j c)) := by
  have m4 := h.M4
  have hN := h.1
  intro j
  induction j with
  | zero =>
    intro c fuel hj hf
    obtain ⟨n, rfl⟩ : ∃ n, fuel = n + 1 := ⟨fuel - 1, by omega⟩
    unfold p_Mo_classOf_L2
    rw [h.2.2.2.2.2.1, if_pos ((q_le (by omega) (by omega)).mpr (by omega))]
    rfl
  | succ j ih =>
    intro c fuel hj hf
    obtain ⟨n, rfl⟩ : ∃ n, fuel = n + 1 := ⟨fuel - 1, by omega⟩
    obtain ⟨cn, _⟩ := h.2.2.2.2.2.2.2.2.2.2 c (by omega)
    have cl := (ct_ok (K := K) N c (by omega)).1
    unfold p_Mo_classOf_L2
    rw [h.2.2.2.2.2.1, if_neg (fun z => by have := (q_le (by omega) (by omega)).mp z; omega), if_pos (q_inR (by omega) (by decide)), q_tn (by omega), cn, if_pos (q_inR (by omega) (by decide)), if_pos (q_inR ht (by decide)), q_tn (by omega), q_tn (by omega), nI_1]
    unfold fi1
    by_cases e : μ.2.2 (ctA K c N) = μ.2.2 t
    · rw [if_pos ((q_cmp0 _ _).mpr e), if_pos (decide_eq_true e)]
      rfl
    · rw [if_neg (fun z => e ((q_cmp0 _ _).mp z)), if_neg (by simpa using e)]
      exact ih (c + 1) n (by omega) (by omega)
theorem mcls (h : SM K N μ) {t : Nat} (ht : t < 124) : p_Mo_classOf μ (nI t) = some (tI (clw K N μ.2.2 (μ.2.2 t))) := by
  have m4 := h.M4
  have hN := h.1
  exact mclsL h ht (cC (tr K N)) 0 FU (by omega) (by unfold FU; omega)
theorem mabv (h : SM K N μ) {c : Nat} (hc : c < cC (tr K N)) : p_Mo_above μ (nI c) = some (oI (abv K N μ.2.2 c)) := by
  have m4 := h.M4
  have hN := h.1
  obtain ⟨_, ce⟩ := h.2.2.2.2.2.2.2.2.2.2 c hc
  have cl := (ct_ok (K := K) N c hc).1
  unfold p_Mo_above abv
  rw [if_pos (q_inR (by omega) (by decide))]
  simp only [q_tn (show c < 2147483648 by omega), ce]
  by_cases e : K (ctA K c N + 1) = 5
  · have z0 : (0 : Int32) ≤ nI (ctA K c N + 2) := (q_Lle (by decide) (by omega)).mpr (Nat.zero_le _)
    rw [if_pos e, if_pos e, if_pos z0, if_pos (q_inR (by omega) (by decide)), mcls h (by omega), q_bd1]
    cases q : clw K N μ.2.2 (μ.2.2 (ctA K c N + 2)) with
    | none => rfl
    | some s =>
      have := clw_lt q
      rw [if_neg (show ¬ tI (some s) = -2 from q_neg2 (by omega))]
      rfl
  · rw [if_neg e, if_neg e, if_neg (by decide)]
    rfl
theorem mcirL (h : SM K N μ) {c : Nat} (hc : c < cC (tr K N)) : ∀ (n k fuel : Nat) (o : Option Nat), n + k = 40 → n < fuel → (∀ s, o = some s → s < cC (tr K N)) → p_Mo_circles_L8 μ (nI c) fuel (oI o) (nI k) = some (b01 (lp (abv K N μ.2.2) c n o)) := by
  have m4 := h.M4
  have hN := h.1
  intro n
  induction n with
  | zero =>
    intro k fuel o hk hf ho
    obtain ⟨m, rfl⟩ : ∃ m, fuel = m + 1 := ⟨fuel - 1, by omega⟩
    unfold p_Mo_circles_L8
    rw [if_pos ((q_Lle (by decide) (by omega)).mpr (show 40 ≤ k by omega))]
    rfl
  | succ n ih =>
    intro k fuel o hk hf ho
    obtain ⟨m, rfl⟩ : ∃ m, fuel = m + 1 := ⟨fuel - 1, by omega⟩
    unfold p_Mo_circles_L8
    rw [if_neg (fun z => by have : 40 ≤ k := (q_Lle (by decide) (by omega)).mp z; omega)]
    cases o with
    | none =>
      rw [if_pos (show oI none < 0 by decide)]
      rfl
    | some s =>
      have hs := ho s rfl
      have n0 : ¬ oI (some s) < 0 := q_pos (show s < 2147483648 by omega)
      rw [if_neg n0]
      unfold lp
      by_cases e : s = c
      · rw [if_pos e, if_pos (show oI (some s) = nI c by rw [e]; rfl)]
        rfl
      · rw [if_neg e, if_neg (show ¬ oI (some s) = nI c from fun z => e ((q_eq (by omega) (by omega)).mp z))]
        rw [show oI (some s) = nI s from rfl, mabv h hs, q_bd1, nI_1]
        exact ih (k + 1) m (abv K N μ.2.2 s) (by omega) (by omega) (fun r hr => abv_cl s r hs hr)
theorem mcir (h : SM K N μ) {c : Nat} (hc : c < cC (tr K N)) : p_Mo_circles μ (nI c) = some (b01 (lp (abv K N μ.2.2) c 40 (abv K N μ.2.2 c))) := by
  unfold p_Mo_circles
  rw [mabv h hc, q_bd1]
  exact mcirL h hc 40 0 FU _ rfl (by unfold FU; omega) (fun s hs => abv_cl c s hc hs)
theorem mprt (h : SM K N μ) {c : Nat} (hc : c < cC (tr K N)) : p_Mo_parent μ (nI c) = some (oI (parF (abv K N μ.2.2) 40 c)) := by
  unfold p_Mo_parent parF
  rw [mcir h hc, q_bd1]
  cases q : lp (abv K N μ.2.2) c 40 (abv K N μ.2.2 c)
  · rw [if_pos (show b01 false = 0 from rfl), if_neg (by decide), mabv h hc, q_bd1]
  · rw [if_neg (show ¬ b01 true = 0 by decide), if_pos rfl]
    rfl
theorem mdcs (r : Int32) : p_Mo_declares (rr r) = some (b01 (decide (r = 2 ∨ r = 3))) := by
  obtain ⟨_, _, _, _, i5, i6, _⟩ := rr_i r
  unfold p_Mo_declares
  by_cases e : r = 2
  · rw [if_pos (i5.mpr e)]; simp [e, b01]
  · rw [if_neg (fun z => e (i5.mp z))]
    by_cases e2 : r = 3
    · rw [if_pos (i6.mpr e2)]; simp [e2, b01]
    · rw [if_neg (fun z => e2 (i6.mp z))]; simp [e, e2, b01]
theorem mmemL (h : SM K N μ) (x1 : Int32) (w : Int64) (k3 : Int32 → Option Int32) {s : Nat} (hs : s < cC (tr K N)) : ∀ (j t fuel : Nat), j + t = N → j < fuel → p_Mo_find_L11 μ x1 w k3 fuel (nI s) (nI t) = (fi1 (fun u => decide ((ro K u = 2 ∨ ro K u = 3) ∧ cls K u = s ∧ μ.2.2 u = w)) j t).elim (bd1 (p_Mo_parent μ (nI s)) k3) (fun u => some (nI u)) := by
  have m4 := h.M4
  have hN := h.1
  intro j
  induction j with
  | zero =>
    intro t fuel hj hf
    obtain ⟨n, rfl⟩ : ∃ n, fuel = n + 1 := ⟨fuel - 1, by omega⟩
    unfold p_Mo_find_L11
    rw [h.2.2.1, if_pos ((q_le (by omega) (by omega)).mpr (by omega))]
    rfl
  | succ j ih =>
    intro t fuel hj hf
    obtain ⟨n, rfl⟩ : ∃ n, fuel = n + 1 := ⟨fuel - 1, by omega⟩
    have nx := ih (t + 1) n (by omega) (by omega)
    unfold p_Mo_find_L11
    rw [h.2.2.1, if_neg (fun z => by have := (q_le (by omega) (by omega)).mp z; omega), if_pos (q_inR (by omega) (by decide))]
    simp only [q_tn (show t < 2147483648 by omega), h.rl (show t < N by omega), mdcs, q_bd1, nI_1]
    unfold fi1
    by_cases e : ro K t = 2 ∨ ro K t = 3
    · have r0 : rr (ro K t) ≠ 0 := by rcases e with z | z <;> rw [z] <;> decide
      obtain ⟨i8, i9⟩ := h.2.2.2.2.2.2.2.1 t (by omega) r0
      have cb := cls_le (K := K) (N := N) t (by omega)
      rw [if_neg (by rw [decide_eq_true e]; decide), if_pos (q_inR (by omega) (by decide)), i8]
      by_cases e2 : cls K t = s
      · rw [if_pos (by rw [e2]), if_pos (q_inR (by omega) (by decide))]
        by_cases e3 : μ.2.2 t = w
        · rw [if_pos ((q_cmp0 _ _).mpr e3), if_pos (decide_eq_true ⟨e, e2, e3⟩)]
          rfl
        · rw [if_neg (fun z => e3 ((q_cmp0 _ _).mp z)), if_neg (fun z => e3 (of_decide_eq_true z).2.2)]
          exact nx
      · rw [if_neg (fun z => e2 ((q_eq (by omega) (by omega)).mp z)), if_neg (fun z => e2 (of_decide_eq_true z).2.1)]
        exact nx
    · rw [if_pos (by rw [decide_eq_false e]; rfl), if_neg (fun z => e (of_decide_eq_true z).1)]
      exact nx
theorem mfndL (h : SM K N μ) (x1 : Int32) (w : Int64) : ∀ (n fuel : Nat) (o : Option Nat), n < fuel → (∀ s, o = some s → s < cC (tr K N)) → sq (parF (abv K N μ.2.2) 40) o n = none → p_Mo_find_L3 μ x1 w fuel (oI o) = some (oI (fm (parF (abv K N μ.2.2) 40) (mem K N μ.2.2 w) n o)) := by
  have m4 := h.M4
  have hN := h.1
  intro n
  induction n with
  | zero =>
    intro fuel o hf ho hq
    obtain ⟨m, rfl⟩ : ∃ m, fuel = m + 1 := ⟨fuel - 1, by omega⟩
    have e : o = none := hq
    subst e
    unfold p_Mo_find_L3
    rw [if_pos (show oI none < 0 by decide), fm_none]
    rfl
  | succ n ih =>
    intro fuel o hf ho hq
    obtain ⟨m, rfl⟩ : ∃ m, fuel = m + 1 := ⟨fuel - 1, by omega⟩
    unfold p_Mo_find_L3
    cases o with
    | none =>
      rw [if_pos (show oI none < 0 by decide), fm_none]
      rfl
    | some s =>
      have hs := ho s rfl
      have n0 : ¬ oI (some s) < 0 := q_pos (show s < 2147483648 by omega)
      rw [if_neg n0, show oI (some s) = nI s from rfl, show (0 : Int32) = nI 0 from rfl, mmemL h x1 w _ hs N 0 FU (by omega) (by unfold FU; omega), mprt h hs, q_bd1]
      show _ = some (oI ((mem K N μ.2.2 w s).elim (fm (parF (abv K N μ.2.2) 40) (mem K N μ.2.2 w) n (parF (abv K N μ.2.2) 40 s)) some))
      unfold mem
      cases q : fi1 (fun u => decide ((ro K u = 2 ∨ ro K u = 3) ∧ cls K u = s ∧ μ.2.2 u = w)) N 0 with
      | none =>
        rw [sq_s] at hq
        exact ih m _ (by omega) (fun r hr => parF_cl abv_cl s r hs hr) hq
      | some u => rfl
theorem mfnd (h : SM K N μ) {c : Nat} (hc : c < cC (tr K N)) (w : Int64) : p_Mo_find μ (nI c) w = some (oI (fm (parF (abv K N μ.2.2) 40) (mem K N μ.2.2 w) (cC (tr K N)) (some c))) := by
  have m4 := h.M4
  have hN := h.1
  exact mfndL h (nI c) w (cC (tr K N)) FU (some c) (by unfold FU; omega) (fun s hs => by rw [← Option.some.inj hs]; exact hc) (par_end abv_cl (by omega) (fun s hs => by rw [← Option.some.inj hs]; exact hc))
theorem mdcl (h : SM K N μ) {t : Nat} (h1 : 1 ≤ t) (ht : t ≤ 124) : p_Mo_declared μ (nI t) = some (dcl K N μ.2.2 t) := by
  unfold p_Mo_declared dcl
  rw [show nI t - 1 = nI (t - 1) from q_subL h1, if_pos (q_inR (by omega) (by decide)), q_tn (by omega), h.2.2.2.1 (t - 1) (by omega)]
  by_cases e : K (t - 1) = 3
  · rw [if_pos e, if_pos e]
  · rw [if_neg e, if_neg e, mcls h (by omega), q_bd1]
theorem mlocL (h : SM K N μ) {t b : Nat} (ht : t < 124) (h8 : μ.2.1 8 t = nI (cls K t)) (h9 : μ.2.1 9 t = mth K t) (tN : t ≤ N) (hb : b ≤ N) : ∀ (j k fuel : Nat), j + k = b → j < fuel → p_Mo_local_L2 μ (nI t) (nI b) fuel (nI k) = some (oI (fi1 (fun k => decide ((ro K k = 4 ∨ ro K k = 5) ∧ mth K k = mth K t ∧ cls K k = cls K t ∧ μ.2.2 k = μ.2.2 t)) j k)) := by
  have m4 := h.M4
  have hN := h.1
  intro j
  induction j with
  | zero =>
    intro k fuel hj hf
    obtain ⟨n, rfl⟩ : ∃ n, fuel = n + 1 := ⟨fuel - 1, by omega⟩
    unfold p_Mo_local_L2
    rw [if_pos ((q_le (by omega) (by omega)).mpr (by omega))]
    rfl
  | succ j ih =>
    intro k fuel hj hf
    obtain ⟨n, rfl⟩ : ∃ n, fuel = n + 1 := ⟨fuel - 1, by omega⟩
    have nx := ih (k + 1) n (by omega) (by omega)
    have c1 := cls_le (K := K) (N := N) t tN
    have c2 := cls_le (K := K) (N := N) k (by omega)
    obtain ⟨_, _, _, _, _, _, i7, i8, _⟩ := rr_i (ro K k)
    have rk : inR (nI k) 124 := q_inR (by omega) (by decide)
    have rt : inR (nI t) 124 := q_inR ht (by decide)
    have rkn : (nI k).toNatClampNeg = k := q_tn (by omega)
    have rtn : (nI t).toNatClampNeg = t := q_tn (by omega)
    unfold p_Mo_local_L2
    rw [if_neg (fun z => by have := (q_le (by omega) (by omega)).mp z; omega), if_pos rk]
    simp only [rkn, h.rl (show k < N by omega), if_pos rk, nI_1]
    unfold fi1
    by_cases e : ro K k = 4 ∨ ro K k = 5
    · have r0 : rr (ro K k) ≠ 0 := by rcases e with z | z <;> rw [z] <;> decide
      obtain ⟨j8, j9⟩ := h.2.2.2.2.2.2.2.1 k (by omega) r0
      have eb : p_Mo_local_b29 μ (nI t) (nI b) (p_Mo_local_L2 μ (nI t) (nI b) n) (nI k) = if mth K k = mth K t ∧ cls K k = cls K t ∧ μ.2.2 k = μ.2.2 t then some (nI k) else p_Mo_local_L2 μ (nI t) (nI b) n (nI (k + 1)) := by
        unfold p_Mo_local_b29
        simp only [if_pos rk, if_pos rt, rkn, rtn, j8, j9, h8, h9, nI_1]
        by_cases e1 : mth K k = mth K t
        · rw [if_pos e1]
          by_cases e2 : cls K k = cls K t
          · rw [if_pos (by rw [e2])]
            by_cases e3 : μ.2.2 k = μ.2.2 t
            · rw [if_pos ((q_cmp0 _ _).mpr e3), if_pos ⟨e1, e2, e3⟩]
            · rw [if_neg (fun z => e3 ((q_cmp0 _ _).mp z)), if_neg (fun z => e3 z.2.2)]
          · rw [if_neg (fun z => e2 ((q_eq (by omega) (by omega)).mp z)), if_neg (fun z => e2 z.2.1)]
        · rw [if_neg e1, if_neg (fun z => e1 z.1)]
      have e7 : (if rr (ro K k) = 7 then p_Mo_local_b29 μ (nI t) (nI b) (p_Mo_local_L2 μ (nI t) (nI b) n) (nI k) else if rr (ro K k) = 8 then p_Mo_local_b29 μ (nI t) (nI b) (p_Mo_local_L2 μ (nI t) (nI b) n) (nI k) else p_Mo_local_L2 μ (nI t) (nI b) n (nI (k + 1))) = p_Mo_local_b29 μ (nI t) (nI b) (p_Mo_local_L2 μ (nI t) (nI b) n) (nI k) := by
        rcases e with z | z
        · rw [if_pos (i7.mpr z)]
        · by_cases q : rr (ro K k) = 7
          · rw [if_pos q]
          · rw [if_neg q, if_pos (i8.mpr z)]
      rw [e7, eb]
      by_cases e4 : mth K k = mth K t ∧ cls K k = cls K t ∧ μ.2.2 k = μ.2.2 t
      · rw [if_pos e4, if_pos (decide_eq_true ⟨e, e4⟩)]
        rfl
      · rw [if_neg e4, if_neg (fun z => e4 (of_decide_eq_true z).2)]
        exact nx
    · rw [if_neg (fun z => e (Or.inl (i7.mp z))), if_neg (fun z => e (Or.inr (i8.mp z))), if_neg (fun z => e (of_decide_eq_true z).1)]
      exact nx
theorem mloc (h : SM K N μ) {t b : Nat} (ht : t < 124) (h8 : μ.2.1 8 t = nI (cls K t)) (h9 : μ.2.1 9 t = mth K t) (tN : t ≤ N) (hb : b ≤ N) : p_Mo_local μ (nI t) (nI b) = some (oI (loc K μ.2.2 t b)) := by
  have hN := h.1
  exact mlocL h ht h8 h9 tN hb b 0 FU (by omega) (by unfold FU; omega)
end MST
