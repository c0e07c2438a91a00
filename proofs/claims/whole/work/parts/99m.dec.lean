/-! names: what the class's declarer tells of them -/
/-- as an0, before circles are cut -/
def an1 (K : Nat → Int32) (N : Nat) (W : Nat → Int64) (u : Nat) : Int32 × Int32 :=
  if ro K u = 1 then (if clw K N W (W u) = some (cC (tr K u)) then (nI u, 0) else (-1, 2))
  else if ro K u = 6 ∨ ro K u = 7 ∨ ro K u = 8 then ((clw K N W (W u)).elim (-1, 4) (fun c => (nI (ctA K c N), 0)))
  else if ro K u = 2 ∨ ro K u = 3 then (if dup K W u = none then (nI u, 0) else (-1, 16))
  else if ro K u = 4 ∨ ro K u = 5 then (if loc K W u u = none then (nI u, 0) else (-1, 32))
  else (-1, 0)
def tyd (K : Nat → Int32) (N : Nat) (W : Nat → Int64) (t u : Nat) : Int32 := if u < N ∧ cS (tr K u) = 2 then nI (cC (tr K u)) else if u < t ∧ (ro K u = 2 ∨ ro K u = 3 ∨ ro K u = 4 ∨ ro K u = 5) then dcl K N W u else -2
def FD (σ0 σ : Sto) : Prop := (∀ k, k ≠ 10 → k ≠ 11 → σ.1 k = σ0.1 k) ∧ (∀ a, a ≠ 11 → a ≠ 12 → a ≠ 14 → a ≠ 17 → a ≠ 21 → σ.2.1 a = σ0.2.1 a) ∧ σ.2.2 = σ0.2.2
theorem FD.refl (σ : Sto) : FD σ σ := ⟨fun _ _ _ => rfl, fun _ _ _ _ _ _ => rfl, rfl⟩
theorem FD.trans {a b c : Sto} (h : FD a b) (g : FD b c) : FD a c := ⟨fun k p q => (g.1 k p q).trans (h.1 k p q), fun x p1 p2 p3 p4 p5 => (g.2.1 x p1 p2 p3 p4 p5).trans (h.2.1 x p1 p2 p3 p4 p5), g.2.2.trans h.2.2⟩
theorem SC.fd {K : Nat → Int32} {N : Nat} {σ0 σ : Sto} (h : SC K N σ0) (g : FD σ0 σ) : SC K N σ := h.keep (g.1 3 (by decide) (by decide)) (g.1 4 (by decide) (by decide)) (g.2.1 6 (by decide) (by decide) (by decide) (by decide) (by decide)) (g.2.1 9 (by decide) (by decide) (by decide) (by decide) (by decide)) (g.2.1 10 (by decide) (by decide) (by decide) (by decide) (by decide)) (g.2.1 13 (by decide) (by decide) (by decide) (by decide) (by decide))
/-- one token's meaning and marks are told -/
def TD (σ : Sto) (t : Nat) (p : Int32 × Int32) (r : Option Sto) : Prop := ∃ σ', r = some σ' ∧ σ'.1 = σ.1 ∧ (∀ a, a ≠ 11 → a ≠ 17 → σ'.2.1 a = σ.2.1 a) ∧ σ'.2.2 = σ.2.2 ∧ (∀ u, σ'.2.1 11 u = if u = t then p.1 else σ.2.1 11 u) ∧ (∀ u, σ'.2.1 17 u = if u = t then p.2 else σ.2.1 17 u)
theorem cmark {σ : Sto} {t : Nat} (ht : t < 121) (k : Int32) : p_Complaints_mark σ (nI t) k = some (sA σ 17 t (σ.2.1 17 t ||| ((1 : Int32) <<< (k &&& 31)))) := by
  unfold p_Complaints_mark
  rw [if_pos (q_inR ht (by decide)), if_pos (q_inR ht (by decide)), q_tn (by omega)]
theorem TD.mean {σ : Sto} {t : Nat} {v : Int32} (h17 : σ.2.1 17 t = 0) : TD σ t (v, 0) (some (sA σ 11 t v)) := by
  refine ⟨_, rfl, rfl, fun a p q => q_An p, rfl, fun u => ?_, fun u => ?_⟩
  · rw [q_A2, if_pos rfl]
  · rw [q_An (by decide)]
    by_cases e : u = t
    · rw [if_pos e, e, h17]
    · rw [if_neg e]
theorem TD.mark {σ : Sto} {t : Nat} {v d : Int32} (h11 : σ.2.1 11 t = -1) (hv : v = d) : TD σ t (-1, d) (some (sA σ 17 t v)) := by
  refine ⟨_, rfl, rfl, fun a p q => q_An q, rfl, fun u => ?_, fun u => ?_⟩
  · rw [q_An (by decide)]
    by_cases e : u = t
    · rw [if_pos e, e, h11]
    · rw [if_neg e]
  · rw [q_A2, if_pos rfl, hv]
theorem ctell {σ : Sto} {t : Nat} {x2 mask kind d : Int32} {o : Option Nat} (ht : t < 121) (hf : p_Outline_find σ x2 (nI t) (σ.2.2 t) mask = some (oI o)) (ho : ∀ s, o = some s → s < 2147483648) (h11 : σ.2.1 11 t = -1) (h17 : σ.2.1 17 t = 0) (hd : (0 : Int32) ||| ((1 : Int32) <<< (kind &&& 31)) = d) : TD σ t (if o = none then (nI t, 0) else (-1, d)) (p_Declarer_tell σ (nI t) x2 mask kind) := by
  unfold p_Declarer_tell
  rw [if_pos (q_inR ht (by decide))]
  simp only [q_tn (show t < 2147483648 by omega)]
  rw [hf, q_bd1]
  by_cases e : o = none
  · rw [if_pos e, if_pos ((oI_m1 ho).mpr e), if_pos (q_inR ht (by decide))]
    exact TD.mean h17
  · rw [if_neg e, if_neg (fun z => e ((oI_m1 ho).mp z)), cmark ht, q_bd1]
    exact TD.mark h11 (by rw [h17]; exact hd)
section DEC
variable {K : Nat → Int32} {N : Nat} {σ : Sto} {W : Nat → Int64}
theorem fi1_lt {P : Nat → Bool} {n a : Nat} (h : a + n < 2147483648) : ∀ s, fi1 P n a = some s → s < 2147483648 := fun s hs => by
  have := (fi1_some hs).2.1
  omega
theorem d_cls (h : SC K N σ) (hW : WW K N σ.2.2 W) {t : Nat} (ht : t < N) (s2 : cS (tr K t) = 2) : fi1 (fun u => decide ((2 : Int32) >>> (σ.2.1 9 u &&& 31) &&& 1 = 1 ∧ σ.2.2 u = σ.2.2 t)) (min t N - 0) 0 = none ↔ clw K N W (W t) = some (cC (tr K t)) := by
  have k1 : K t = 1 := h.nm ht (by rw [(ro_i K t).1.mpr s2]; decide)
  have mk : ∀ u, u < N → ((2 : Int32) >>> (σ.2.1 9 u &&& 31) &&& 1 = 1 ∧ σ.2.2 u = σ.2.2 t ↔ cS (tr K u) = 2 ∧ W u = W t) := by
    intro u hu
    rw [h.rl hu, (mask_i _ (ro_mem K u)).1, (ro_i K u).1]
    constructor
    · rintro ⟨a, b⟩
      exact ⟨a, (hW u t hu ht (h.nm hu (by rw [(ro_i K u).1.mpr a]; decide)) k1).mp b⟩
    · rintro ⟨a, b⟩
      exact ⟨a, (hW u t hu ht (h.nm hu (by rw [(ro_i K u).1.mpr a]; decide)) k1).mpr b⟩
  have ci := ct_in (N := N) ht s2
  have co := ct_of (N := N) ht s2
  constructor
  · intro q
    refine fi1_is (Nat.zero_le _) (by omega) (decide_eq_true (by rw [co])) (fun v _ v2 => decide_eq_false (fun z => ?_))
    obtain ⟨a, b, d⟩ := ct_ok (K := K) N v (by omega)
    have lt := ct_mono (N := N) v2 ci
    rw [co] at lt
    have := fi1_none q (ctA K v N) (Nat.zero_le _) (by omega)
    exact of_decide_eq_false this ((mk _ a).mpr ⟨b, z⟩)
  · intro q
    obtain ⟨_, _, _, q4⟩ := fi1_some q
    refine fi1_no (fun v _ v2 => decide_eq_false (fun z => ?_))
    have hv : v < N := by omega
    obtain ⟨a, b⟩ := (mk v hv).mp z
    have cv := ct_of (N := N) hv a
    have lt : cC (tr K v) < cC (tr K t) := by
      have := cC_mono K (v + 1) t (by omega)
      rw [trC, if_pos a] at this
      omega
    have := q4 (cC (tr K v)) (Nat.zero_le _) lt
    rw [cv] at this
    exact of_decide_eq_false this b
theorem d_mem (h : SC K N σ) (hW : WW K N σ.2.2 W) {t : Nat} (ht : t < N) (s7 : cS (tr K t) = 7) : fi1 (fun u => decide ((12 : Int32) >>> (σ.2.1 9 u &&& 31) &&& 1 = 1 ∧ σ.2.2 u = σ.2.2 t)) (min t N - ctA K (cC (tr K t) - 1) N) (ctA K (cC (tr K t) - 1) N) = dup K W t := by
  have r7 : ro K t = 2 ∨ ro K t = 3 := (ro_i K t).2.2.2.2.2.1.mpr s7
  have k1 : K t = 1 := h.nm ht (by rcases r7 with z | z <;> rw [z] <;> decide)
  have c1 := (WG_all t (h.al (by omega))).2.2.2.2 (by rw [s7]; decide)
  have mo := cC_mono K t N (by omega)
  have ec : cls K t = cC (tr K t) - 1 := by unfold cls; rw [if_neg (by rw [s7]; decide)]
  have hs : cC (tr K t) - 1 < cC (tr K N) := by omega
  obtain ⟨sp1, sp2⟩ := (span hs ht s7).mpr ec
  unfold dup
  rw [ec]
  refine fi1_ext (fun u => ?_)
  rw [decide_eq_true_iff, decide_eq_true_iff]
  have key : u < N → ((12 : Int32) >>> (σ.2.1 9 u &&& 31) &&& 1 = 1 ↔ (ro K u = 2 ∨ ro K u = 3)) := fun hu => by rw [h.rl hu]; exact (mask_i _ (ro_mem K u)).2.1
  constructor
  · rintro ⟨a, b, c, d⟩
    have hu : u < N := by omega
    have r := (key hu).mp c
    have su := (ro_i K u).2.2.2.2.2.1.mp r
    have ku : K u = 1 := h.nm hu (by rcases r with z | z <;> rw [z] <;> decide)
    exact ⟨Nat.zero_le _, by omega, r, (span hs hu su).mp ⟨a, by omega⟩, (hW u t hu ht ku k1).mp d⟩
  · rintro ⟨a, b, r, c, d⟩
    have hu : u < N := by omega
    have su := (ro_i K u).2.2.2.2.2.1.mp r
    have ku : K u = 1 := h.nm hu (by rcases r with z | z <;> rw [z] <;> decide)
    obtain ⟨x, y⟩ := (span hs hu su).mpr c
    exact ⟨x, by omega, (key hu).mpr r, (hW u t hu ht ku k1).mpr d⟩
/-- variables of a method, up to a token -/
theorem d_loc (h : SC K N σ) (hW : WW K N σ.2.2 W) {t b : Nat} (ht : t < N) (k1 : K t = 1) (s8 : 8 < cS (tr K t)) (hb : b ≤ t) : fi1 (fun u => decide ((48 : Int32) >>> (σ.2.1 9 u &&& 31) &&& 1 = 1 ∧ σ.2.2 u = σ.2.2 t)) (min b N - cM (tr K t)) (cM (tr K t)) = loc K W t b := by
  have hN := h.1
  have s7 : 7 < cS (tr K t) := Int32.lt_trans (by decide) s8
  obtain ⟨mt, m7, inn⟩ := inM t s7
  have et : mth K t = nI (cM (tr K t)) := by unfold mth; rw [if_pos s8]
  have n2 : ∀ {u}, 7 < cS (tr K u) → ¬ cS (tr K u) = 2 := fun q z => by rw [z] at q; exact absurd q (by decide)
  unfold loc
  refine fi1_ext (fun u => ?_)
  rw [decide_eq_true_iff, decide_eq_true_iff]
  have key : u < N → ((48 : Int32) >>> (σ.2.1 9 u &&& 31) &&& 1 = 1 ↔ (ro K u = 4 ∨ ro K u = 5)) := fun hu => by rw [h.rl hu]; exact (mask_i _ (ro_mem K u)).2.2
  have s45 : (ro K u = 4 ∨ ro K u = 5) → 8 < cS (tr K u) := fun r => by
    rcases r with z | z
    · rw [(ro_i K u).2.2.1.mp z]; decide
    · rw [(ro_i K u).2.2.2.1.mp z]; decide
  constructor
  · rintro ⟨a, b', c, d⟩
    have hu : u < N := by omega
    have r := (key hu).mp c
    have su := s45 r
    have ku : K u = 1 := h.nm hu (by rcases r with z | z <;> rw [z] <;> decide)
    have ne : cM (tr K t) ≠ u := fun z => by rw [← z, m7] at su; exact absurd su (by decide)
    obtain ⟨_, i2, i3⟩ := inn u (by omega) (by omega)
    refine ⟨Nat.zero_le _, by omega, r, ?_, ?_, (hW u t hu ht ku k1).mp d⟩
    · rw [et]; unfold mth; rw [if_pos su, i2]
    · unfold cls
      rw [if_neg (n2 (Int32.lt_trans (by decide) su)), if_neg (n2 s7), i3]
  · rintro ⟨a, b', r, c, e, d⟩
    have hu : u < N := by omega
    have su := s45 r
    have ku : K u = 1 := h.nm hu (by rcases r with z | z <;> rw [z] <;> decide)
    have um := (WF_all u (h.al (by omega))).2.2.2.2.1 (Int32.lt_trans (by decide) su)
    have em : cM (tr K u) = cM (tr K t) := by
      rw [et] at c
      unfold mth at c
      rw [if_pos su] at c
      exact (q_eq (by omega) (by omega)).mp c
    exact ⟨by omega, by omega, (key hu).mpr r, (hW u t hu ht ku k1).mpr d⟩
/-- before a declared name stands its type -/
theorem typ7 {u : Nat} (ha : cS (tr K u) ≠ 0) (s : cS (tr K u) = 7 ∨ cS (tr K u) = 11 ∨ cS (tr K u) = 15) : 1 ≤ u ∧ (K (u - 1) = 3 ∨ (K (u - 1) = 1 ∧ rbT K (u - 1) = 7)) := by
  have u1 : 1 ≤ u := (WF_all u ha).2.2.2.2.2.2.1 (by rcases s with z | z | z <;> rw [z] <;> decide)
  refine ⟨u1, ?_⟩
  obtain ⟨t, rfl⟩ : ∃ t, u = t + 1 := ⟨u - 1, by omega⟩
  rw [Nat.add_sub_cancel]
  have w := ways (k := K t) (k2 := K (t + 1)) (d := cD (tr K t)) (call := callB (tr K t)) (e := cE (tr K t)) ((tr_mem K t).resolve_left (tr_alive ha)) ha
  rw [trS] at s
  unfold Way at w
  unfold rbT
  rcases w with ⟨hs, hk, hs2, hsd⟩ | ⟨hs, hk, hs2, hsd⟩ | ⟨hs, hk, hs2, hsd⟩ | ⟨hs, hk, hs2, hsd⟩ | ⟨hs, hk, hs2, hsd⟩ | ⟨hs, hk, hs2, hsd⟩ | ⟨hs, hk, hs2, hsd⟩ | ⟨hs, hk, hs2, hsd⟩ | ⟨hs, hk, hs2, hsd⟩ | ⟨hs, hk, hs2, hsd⟩ | ⟨hs, hk, hs2, hsd⟩ | ⟨hs, hk, hs2, hsd⟩ | ⟨hs, hk, hs2, hsd⟩ | ⟨hs, hk, hs2, hsd⟩ | ⟨hs, hk, hs2, hsd⟩ | ⟨hs, hk, hs2, hsd⟩ | ⟨hs, hk, hs2, hsd⟩ | ⟨hs, hk, hs2, hsd⟩ | ⟨hs, hk, hs2, hsd⟩ | ⟨hs, hk, hs2, hsd⟩ | ⟨hs, hk, hs2, hsd⟩ | ⟨hs, hk, hs2, hsd⟩ | ⟨hs, hk, hs2, hsd⟩ | ⟨hs, hk, hs2, hsd⟩ | ⟨hs, hk, hs2, hsd⟩ | ⟨hs, hk, hs2, hsd⟩ | ⟨hs, hk, hs2, hsd⟩ | ⟨hs, hk, hs2, hsd⟩ | ⟨hs, hk, hs2, hsd⟩ | ⟨hs, hk, hs2, hsd⟩ | ⟨hs, hk, hs2, hsd⟩ | ⟨hs, hk, hs2, hsd⟩ | ⟨hs, hk, hs2, hsd⟩ | ⟨hs, hk, hs2, hsd⟩ | ⟨hs, hk, hs2, hsd⟩ | ⟨hs, hk, hs2, hsd⟩ | ⟨hs, hk, hs2, hsd⟩ | ⟨hs, hk, hs2, hsd⟩ | ⟨hs, hk, hs2, hsd⟩ | ⟨hs, hk, hs2, hsd⟩ | ⟨hs, hk, hs2, hsd⟩ | ⟨hs, hk, hs2, hsd⟩ | ⟨hs, hk, hs2, hsd⟩ | ⟨hs, hk, hs2, hsd⟩ | ⟨hs, hk, hs2, hsd⟩ | ⟨hs, hk, hs2, hsd⟩ | ⟨hs, hk, hs2, hsd⟩ | ⟨hs, hk, hs2, hsd⟩ | ⟨hs, hk, hs2, hsd⟩ | ⟨hs, hk, hs2, hsd⟩ | ⟨hs, hk, hs2, hsd⟩ | ⟨hs, hk, hs2, hsd⟩ | ⟨hs, hk, hs2, hsd⟩ | ⟨hs, hk, hs2, hsd⟩ | ⟨hs, hk, hs2, hsd⟩ | ⟨hs, hk, hs2, hsd⟩ | ⟨hs, hk, hs2, hsd⟩ | ⟨hs, hk, hs2, hsd⟩ <;> first | exact Or.inl hk | (right; refine ⟨hk, ?_⟩; rw [hs, hk]; first | (simp +decide only [rb, if_true, if_false]; done) | (rw [hsd]; simp +decide only [rb, and_self, if_true, if_false]; done)) | (exfalso; rw [hs2] at s; revert s; decide)
end DEC
