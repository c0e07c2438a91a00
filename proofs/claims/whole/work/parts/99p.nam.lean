/-! names in expressions -/
def bfo (x : Int32) : Option Nat := if x < 0 then none else some x.toNatClampNeg
def fnd0 (K : Nat → Int32) (N : Nat) (W : Nat → Int64) (t : Nat) (bef : Int32) : Option Nat := fm (parF (abv K N W) 40) (mem K N W (W t)) (cC (tr K N)) (bfo bef)
/-- a member, if it is of the kind that is wanted -/
def want0 (K : Nat → Int32) (N : Nat) (W : Nat → Int64) (t : Nat) (bef w : Int32) : Option Nat := (fnd0 K N W t bef).elim none (fun u => if ro K u = w then some u else none)
def isCall (K : Nat → Int32) (t : Nat) : Prop := ro K t = 10 ∨ ro K t = 12
abbrev isCallD (K : Nat → Int32) (t : Nat) : Decidable (isCall K t) := inferInstanceAs (Decidable (_ ∨ _))
def mng (K : Nat → Int32) (N : Nat) (W : Nat → Int64) (t st : Nat) (bef : Int32) : Option Nat :=
  if bef = -2 then none
  else (if ro K t = 9 then loc K W t st else none).elim (want0 K N W t bef (if ro K t = 10 ∨ ro K t = 12 then 3 else 2)) some
noncomputable def mbt (K : Nat → Int32) (N : Nat) (W : Nat → Int64) (t st : Nat) (bef : Int32) : Int32 :=
  if bef = -2 then 0 else (mng K N W t st bef).elim (if ro K t = 9 ∨ ro K t = 10 then 64 else 128) (fun m => if (ro K t = 10 ∨ ro K t = 12) ∧ ¬ ac K N m = ac K N t then 256 else 0)
def mty (K : Nat → Int32) (N : Nat) (W : Nat → Int64) (o : Option Nat) : Int32 := o.elim (-2) (fun m => dcl K N W m)
theorem fm_mem {f g : Nat → Option Nat} : ∀ {n : Nat} {o : Option Nat} {u : Nat}, fm f g n o = some u → ∃ s, g s = some u
  | 0, o, u, h => absurd h (by simp [fm])
  | n + 1, none, u, h => absurd h (by simp [fm])
  | n + 1, some s, u, h => by
    have h' : (g s).elim (fm f g n (f s)) some = some u := h
    cases q : g s with
    | none => rw [q] at h'; exact fm_mem h'
    | some v => rw [q] at h'; exact ⟨s, by rw [q]; exact h'⟩
theorem fnd0_ok {K : Nat → Int32} {N : Nat} {W : Nat → Int64} {t : Nat} {bef : Int32} {u : Nat} (h : fnd0 K N W t bef = some u) : u < N ∧ (ro K u = 2 ∨ ro K u = 3) := by
  obtain ⟨s, hs⟩ := fm_mem h
  obtain ⟨_, a, b, _⟩ := fi1_some hs
  exact ⟨by omega, (of_decide_eq_true b).1⟩
theorem want0_ok {K : Nat → Int32} {N : Nat} {W : Nat → Int64} {t : Nat} {bef w : Int32} {u : Nat} (h : want0 K N W t bef w = some u) : u < N ∧ (ro K u = 2 ∨ ro K u = 3) ∧ ro K u = w := by
  unfold want0 at h
  cases q : fnd0 K N W t bef with
  | none => rw [q] at h; exact absurd h (by simp)
  | some v =>
    rw [q] at h
    have h' : (if ro K v = w then some v else none) = some u := h
    by_cases e : ro K v = w
    · rw [if_pos e] at h'
      have := Option.some.inj h'
      subst this
      exact ⟨(fnd0_ok q).1, (fnd0_ok q).2, e⟩
    · rw [if_neg e] at h'; exact absurd h' (by simp)
theorem mng_ok {K : Nat → Int32} {N : Nat} {W : Nat → Int64} {t st : Nat} {bef : Int32} {u : Nat} (hst : st ≤ N) (h : mng K N W t st bef = some u) : u < N ∧ (ro K u = 2 ∨ ro K u = 3 ∨ ro K u = 4 ∨ ro K u = 5) ∧ (isCall K t → ro K u = 3) := by
  unfold mng at h
  by_cases e : bef = -2
  · rw [if_pos e] at h; exact absurd h (by simp)
  rw [if_neg e] at h
  by_cases e9 : ro K t = 9
  · rw [if_pos e9] at h
    cases q : loc K W t st with
    | none =>
      rw [q] at h
      obtain ⟨a, b, c⟩ := want0_ok h
      exact ⟨a, b.imp id Or.inl, fun z => by unfold isCall at z; rw [e9] at z; exact absurd z (by decide)⟩
    | some v =>
      rw [q] at h
      have := Option.some.inj h
      subst this
      obtain ⟨_, a, b, _⟩ := fi1_some q
      exact ⟨by omega, Or.inr (Or.inr (of_decide_eq_true b).1), fun z => by unfold isCall at z; rw [e9] at z; exact absurd z (by decide)⟩
  · rw [if_neg e9] at h
    obtain ⟨a, b, c⟩ := want0_ok h
    exact ⟨a, b.imp id Or.inl, fun z => by unfold isCall at z; rw [if_pos z] at c; exact c⟩
theorem dcl_tv {K : Nat → Int32} {N : Nat} {W : Nat → Int64} (m : Nat) : TV K N (dcl K N W m) := by
  unfold dcl
  by_cases e : K (m - 1) = 3
  · rw [if_pos e]; exact Or.inr (Or.inl rfl)
  · rw [if_neg e]
    cases q : clw K N W (W (m - 1)) with
    | none => exact Or.inl rfl
    | some c => exact Or.inr (Or.inr ⟨c, clw_lt q, rfl⟩)
theorem mty_tv {K : Nat → Int32} {N : Nat} {W : Nat → Int64} (o : Option Nat) : TV K N (mty K N W o) := by
  cases o with
  | none => exact Or.inl rfl
  | some m => exact dcl_tv m
section NAMC
variable {K : Nat → Int32} {N : Nat} {σ : Sto} {W : Nat → Int64}
theorem bfo_tv {x : Int32} (h : TV K N x) (n2 : ¬ x = -2) (hM : cC (tr K N) < 2147483648) : oI (bfo x) = x ∧ ∀ s, bfo x = some s → s < cC (tr K N) := by
  unfold bfo
  rcases h with z | z | ⟨c, hc, rfl⟩
  · exact absurd z n2
  · subst z
    rw [if_pos (by decide)]
    exact ⟨rfl, fun s hs => absurd hs (by simp)⟩
  · rw [if_neg (q_pos (by omega)), q_tn (by omega)]
    exact ⟨rfl, fun s hs => by rw [← Option.some.inj hs]; exact hc⟩
theorem cuse (h : SC K N σ) (hW : WW K N σ.2.2 W) (hp : ∀ c, c < cC (tr K N) → σ.2.1 14 c = oI (parF (abv K N W) 40 c)) {t : Nat} (ht : t < N) (k1 : K t = 1) {bef w kd b : Int32} (hb : TV K N bef) (hw : w = 2 ∨ w = 3) (h11 : σ.2.1 11 t = -1) (h17 : σ.2.1 17 t = 0) (hbit : (0 : Int32) ||| ((1 : Int32) <<< (kd &&& 31)) = b) : TD σ t (if bef = -2 then (-1, 0) else (want0 K N W t bef w).elim (-1, b) (fun u => (nI u, if w = 3 ∧ ¬ ac K N u = ac K N t then 256 else 0))) (p_Judge_useMember σ (nI t) bef w kd) := by
  have hN := h.1
  have m4 := h.M4
  have rt : inR (nI t) 121 := q_inR (by omega) (by decide)
  have rtn : (nI t).toNatClampNeg = t := q_tn (by omega)
  unfold p_Judge_useMember
  by_cases e : bef = -2
  · rw [if_pos e, if_pos e]
    refine ⟨σ, rfl, rfl, fun _ _ _ => rfl, rfl, fun u => ?_, fun u => ?_⟩
    · by_cases q : u = t
      · rw [if_pos q, q, h11]
      · rw [if_neg q]
    · by_cases q : u = t
      · rw [if_pos q, q, h17]
      · rw [if_neg q]
  rw [if_neg e, if_neg e, if_pos rt]
  simp only [rtn]
  obtain ⟨o1, o2⟩ := bfo_tv hb e (by omega)
  have f := cfm h hW hp ht k1 o2
  rw [o1] at f
  rw [f, q_bd1]
  have ef : fm (parF (abv K N W) 40) (mem K N W (W t)) (cC (tr K N)) (bfo bef) = fnd0 K N W t bef := rfl
  rw [ef]
  unfold want0
  cases q : fnd0 K N W t bef with
  | none =>
    rw [if_pos (show oI none = -1 from rfl), cmark (by omega), q_bd1]
    exact TD.mark h11 (by rw [h17]; exact hbit)
  | some u =>
    obtain ⟨ul, ur⟩ := fnd0_ok q
    have ru : inR (oI (some u)) 121 := q_inR (show u < 121 by omega) (by decide)
    have run : (oI (some u)).toNatClampNeg = u := q_tn (show u < 2147483648 by omega)
    rw [if_neg (show ¬ oI (some u) = -1 from q_neg (by omega)), if_pos ru]
    simp only [run, h.rl ul]
    show TD σ t ((if ro K u = w then some u else none).elim (-1, b) (fun u => (nI u, if w = 3 ∧ ¬ ac K N u = ac K N t then 256 else 0))) _
    by_cases e2 : ro K u = w
    · rw [if_pos e2, if_pos e2, if_pos rt]
      show TD σ t (nI u, if w = 3 ∧ ¬ ac K N u = ac K N t then 256 else 0) _
      by_cases e3 : w = 3
      · have a1 : (sA σ 11 t (oI (some u))).2.1 10 u = nI (ac K N u) := by rw [q_An (by decide)]; exact h.2.2.2.2.2.2.1 u
        have a2 : (sA σ 11 t (oI (some u))).2.1 10 t = nI (ac K N t) := by rw [q_An (by decide)]; exact h.2.2.2.2.2.2.1 t
        have l1 := ac_le (K := K) u N
        have l2 := ac_le (K := K) t N
        rw [if_pos e3, if_pos ru, if_pos rt, a1, a2]
        by_cases e4 : ac K N u = ac K N t
        · rw [if_pos (show nI (ac K N u) = nI (ac K N t) by rw [e4]), if_neg (show ¬ (w = 3 ∧ ¬ ac K N u = ac K N t) from fun z => z.2 e4)]
          exact TD.mean h17
        · rw [if_neg (show ¬ nI (ac K N u) = nI (ac K N t) from fun z => e4 ((q_eq (by omega) (by omega)).mp z)), if_pos (show w = 3 ∧ ¬ ac K N u = ac K N t from ⟨e3, e4⟩), cmark (by omega), q_bd1]
          refine ⟨_, rfl, rfl, fun a p q => by rw [q_An q, q_An p], rfl, fun v => ?_, fun v => ?_⟩
          · rw [q_An (by decide), q_A2, if_pos rfl]; rfl
          · rw [q_A2, if_pos rfl, q_An (by decide), h17]; rfl
      · rw [if_neg e3, if_neg (fun z => e3 z.1)]
        exact TD.mean h17
    · rw [if_neg e2, if_neg e2, cmark (by omega), q_bd1]
      exact TD.mark h11 (by rw [h17]; exact hbit)
/-- an operand that is a name is judged -/
def TJ (σ : Sto) (t D : Nat) (p q y : Int32) (r : Option Sto) : Prop := ∃ σ', r = some σ' ∧ σ'.1 = σ.1 ∧ (∀ a, a ≠ 11 → a ≠ 17 → a ≠ 27 → σ'.2.1 a = σ.2.1 a) ∧ σ'.2.2 = σ.2.2 ∧ (∀ u, σ'.2.1 11 u = if u = t then p else σ.2.1 11 u) ∧ (∀ u, σ'.2.1 17 u = if u = t then q else σ.2.1 17 u) ∧ (∀ l, σ'.2.1 27 l = if l = D then y else σ.2.1 27 l)
theorem tyd_m {u : Nat} (hu : u < N) (r : ro K u = 2 ∨ ro K u = 3 ∨ ro K u = 4 ∨ ro K u = 5) : tyd K N W N u = dcl K N W u := by
  unfold tyd
  rw [if_neg (fun z => by have := (ro_i K u).1.mpr z.2; rw [this] at r; exact absurd r (by decide)), if_pos ⟨hu, r⟩]
theorem ctyn2 (h : SC K N σ) (h12 : ∀ u, u < N → σ.2.1 12 u = tyd K N W N u) {t : Nat} (ht : t < N) {o : Option Nat} (ho : ∀ u, o = some u → u < N ∧ (ro K u = 2 ∨ ro K u = 3 ∨ ro K u = 4 ∨ ro K u = 5)) (h11 : σ.2.1 11 t = oI o) : p_Outline_typeNamed σ (nI t) = some (mty K N W o) := by
  have hN := h.1
  unfold p_Outline_typeNamed
  rw [if_pos (q_inR (by omega) (by decide))]
  simp only [q_tn (show t < 2147483648 by omega), h11]
  cases o with
  | none =>
    rw [if_pos (show oI none = -1 from rfl)]
    rfl
  | some u =>
    obtain ⟨ul, ur⟩ := ho u rfl
    have e1 : oI (some u) = nI u := rfl
    rw [e1, if_neg (q_neg (by omega)), if_pos (q_inR (by omega) (by decide)), if_pos (q_inR (by omega) (by decide)), q_tn (by omega), h12 _ ul, tyd_m ul ur]
    rfl
theorem TD.ty {t D : Nat} {p q : Int32} {r : Option Sto} {o : Option Nat} (h : SC K N σ) (h12 : ∀ u, u < N → σ.2.1 12 u = tyd K N W N u) (ht : t < N) (hD : σ.1 12 = nI D) (hD8 : D ≤ 8) (ho : ∀ u, o = some u → u < N ∧ (ro K u = 2 ∨ ro K u = 3 ∨ ro K u = 4 ∨ ro K u = 5)) (hp : p = oI o) (T : TD σ t (p, q) r) : TJ σ t D p q (mty K N W o) (bd1 r fun σ1 => bd1 (p_Outline_typeNamed σ1 (nI t)) fun v => if inR (σ1.1 12) 9 then some (sA σ1 27 ((σ1.1 12).toNatClampNeg) v) else none) := by
  obtain ⟨σ1, r1, a1, a2, a3, a4, a5⟩ := T
  have h1 : SC K N σ1 := h.keep (by rw [a1]) (by rw [a1]) (a2 6 (by decide) (by decide)) (a2 9 (by decide) (by decide)) (a2 10 (by decide) (by decide)) (a2 13 (by decide) (by decide))
  rw [r1, q_bd1, ctyn2 (W := W) h1 (fun u hu => by rw [a2 12 (by decide) (by decide)]; exact h12 u hu) ht ho (by rw [a4, if_pos rfl]; exact hp), q_bd1, a1, hD, if_pos (q_inR (by omega) (by decide)), q_tn (by omega)]
  refine ⟨_, rfl, a1, fun a p1 p2 p3 => by rw [q_An p3]; exact a2 a p1 p2, a3, fun u => by rw [q_An (by decide)]; exact a4 u, fun u => by rw [q_An (by decide)]; exact a5 u, fun l => ?_⟩
  rw [q_A2, if_pos rfl, a2 27 (by decide) (by decide)]
theorem cname (h : SC K N σ) (hW : WW K N σ.2.2 W) (hp : ∀ c, c < cC (tr K N) → σ.2.1 14 c = oI (parF (abv K N W) 40 c)) (h12 : ∀ u, u < N → σ.2.1 12 u = tyd K N W N u) {t st D : Nat} (ht : t < N) (hst : st ≤ t) (hr : ro K t = 9 ∨ ro K t = 10 ∨ ro K t = 11 ∨ ro K t = 12) (h8 : 8 < cS (tr K t)) (hm : σ.1 14 = nI (cM (tr K t))) (hs : σ.1 16 = nI st) (ho : σ.1 13 = nI (cls K t)) (hD : σ.1 12 = nI D) (hD8 : D ≤ 8) (h11 : σ.2.1 11 t = -1) (h17 : σ.2.1 17 t = 0) {bef : Int32} (hb : TV K N bef) (eb : bef = if ro K t = 9 ∨ ro K t = 10 then nI (cls K t) else σ.2.1 27 D) : TJ σ t D (oI (mng K N W t st bef)) (mbt K N W t st bef) (mty K N W (mng K N W t st bef)) (p_Judge_takeOperand σ (nI t) (ro K t)) := by
  have hN := h.1
  have m4 := h.M4
  have rt : inR (nI t) 121 := q_inR (by omega) (by decide)
  have rtn : (nI t).toNatClampNeg = t := q_tn (by omega)
  have k1 : K t = 1 := h.nm ht (by rcases hr with z | z | z | z <;> rw [z] <;> decide)
  have rD : inR (nI D) 9 := q_inR (by omega) (by decide)
  have rDn : (nI D).toNatClampNeg = D := q_tn (by omega)
  have ok : ∀ u, mng K N W t st bef = some u → u < N ∧ (ro K u = 2 ∨ ro K u = 3 ∨ ro K u = 4 ∨ ro K u = 5) := fun u hu => ⟨(mng_ok (by omega) hu).1, (mng_ok (by omega) hu).2.1⟩
  -- members only
  have memb : ∀ (w kd b : Int32), (w = 2 ∨ w = 3) → (0 : Int32) ||| ((1 : Int32) <<< (kd &&& 31)) = b → (ro K t = 10 ∨ ro K t = 12 ↔ w = 3) → ¬ ro K t = 9 → (b = if ro K t = 9 ∨ ro K t = 10 then 64 else 128) → TD σ t (oI (mng K N W t st bef), mbt K N W t st bef) (p_Judge_useMember σ (nI t) bef w kd) := by
    intro w kd b hw hbit hwc n9 hbb
    have T := cuse h hW hp ht k1 hb hw h11 h17 hbit
    have ew : (if ro K t = 10 ∨ ro K t = 12 then (3 : Int32) else 2) = w := by
      by_cases q : ro K t = 10 ∨ ro K t = 12
      · rw [if_pos q]; exact (hwc.mp q).symm
      · rw [if_neg q]; exact (hw.resolve_right (fun z => q (hwc.mpr z))).symm
    have em : (if bef = -2 then ((-1, 0) : Int32 × Int32) else (want0 K N W t bef w).elim (-1, b) (fun u => (nI u, if w = 3 ∧ ¬ ac K N u = ac K N t then 256 else 0))) = (oI (mng K N W t st bef), mbt K N W t st bef) := by
      unfold mbt
      have e1 : mng K N W t st bef = if bef = -2 then none else want0 K N W t bef w := by
        unfold mng
        rw [if_neg n9, ew]
        rfl
      rw [e1]
      by_cases q : bef = -2
      · rw [if_pos q, if_pos q, if_pos q]; rfl
      · rw [if_neg q, if_neg q, if_neg q]
        cases q2 : want0 K N W t bef w with
        | none => rw [hbb]; rfl
        | some u =>
          show (nI u, if w = 3 ∧ ¬ ac K N u = ac K N t then (256 : Int32) else 0) = (nI u, if (ro K t = 10 ∨ ro K t = 12) ∧ ¬ ac K N u = ac K N t then 256 else 0)
          by_cases q3 : ac K N u = ac K N t
          · rw [if_neg (fun z => z.2 q3), if_neg (fun z => z.2 q3)]
          · by_cases q4 : w = 3
            · rw [if_pos ⟨q4, q3⟩, if_pos ⟨hwc.mpr q4, q3⟩]
            · rw [if_neg (fun z => q4 z.1), if_neg (fun z => q4 (hwc.mp z.1))]
    rw [em] at T
    exact T
  unfold p_Judge_takeOperand
  rcases hr with z | z | z | z
  · -- a variable
    rw [z, if_pos rfl]
    have eb' : bef = nI (cls K t) := by rw [eb, if_pos (Or.inl z)]
    have cl := cls_le (K := K) (N := N) t (by omega)
    have n2 : ¬ bef = -2 := by rw [eb']; exact q_neg2 (by omega)
    have s7' : 7 < cS (tr K t) := Int32.lt_trans (by decide) h8
    have mt := (inM t s7').1
    have ff := cfnd (σ := σ) h.2.2.2.1 hN (σ.2.2 t) 48 (a := cM (tr K t)) (b := st) (by omega) (by omega)
    rw [d_loc h hW ht k1 h8 hst] at ff
    have uv : p_Judge_useVariable σ (nI t) = some (b01 (loc K W t st).isSome, sA σ 11 t (oI (loc K W t st))) := by
      unfold p_Judge_useVariable
      rw [if_pos rt]
      simp only [rtn, hm, hs, ff, q_bd1, if_pos rt]
      cases q : loc K W t st with
      | none =>
        rw [if_pos (show (sA σ 11 t (oI none)).2.1 11 t = -1 by rw [q_A2, if_pos rfl, if_pos rfl]; rfl)]
        rfl
      | some u =>
        have ul := (fi1_some q).2.1
        rw [if_neg (show ¬ (sA σ 11 t (oI (some u))).2.1 11 t = -1 by rw [q_A2, if_pos rfl, if_pos rfl]; exact q_neg (show u < 2147483648 by omega))]
        rfl
    rw [uv, q_bd2]
    cases q : loc K W t st with
    | none =>
      rw [if_pos (show b01 (none : Option Nat).isSome = 0 from rfl)]
      have h' : SC K N (sA σ 11 t (oI none)) := h.keep rfl rfl (q_An (by decide)) (q_An (by decide)) (q_An (by decide)) (q_An (by decide))
      have T := cuse (σ := sA σ 11 t (oI none)) (w := 2) (kd := 6) (b := 64) h' hW (fun c hc => by rw [q_An (by decide)]; exact hp c hc) ht k1 hb (Or.inl rfl) (by rw [q_A2, if_pos rfl, if_pos rfl]; rfl) (by rw [q_An (by decide)]; exact h17) (by decide)
      have e1 : mng K N W t st bef = want0 K N W t bef 2 := by
        unfold mng
        rw [if_neg n2, if_pos z, q, if_neg (by rw [z]; decide)]
        rfl
      have em : (if bef = -2 then ((-1, 0) : Int32 × Int32) else (want0 K N W t bef 2).elim (-1, 64) (fun u => (nI u, if (2 : Int32) = 3 ∧ ¬ ac K N u = ac K N t then 256 else 0))) = (oI (mng K N W t st bef), mbt K N W t st bef) := by
        unfold mbt
        rw [e1, if_neg n2, if_neg n2]
        cases q2 : want0 K N W t bef 2 with
        | none => rw [if_pos (Or.inl z)]; rfl
        | some u =>
          show (nI u, if (2 : Int32) = 3 ∧ ¬ ac K N u = ac K N t then (256 : Int32) else 0) = (nI u, if (ro K t = 10 ∨ ro K t = 12) ∧ ¬ ac K N u = ac K N t then 256 else 0)
          rw [if_neg (fun y => absurd y.1 (by decide)), if_neg (fun y => by rw [z] at y; exact absurd y.1 (by decide))]
      rw [em] at T
      have ho' : (sA σ 11 t (oI none)).1 13 = bef := by rw [eb']; exact ho
      rw [ho']
      have J := TD.ty (σ := sA σ 11 t (oI none)) (W := W) h' (fun u hu => by rw [q_An (by decide)]; exact h12 u hu) ht hD hD8 ok rfl T
      obtain ⟨σ', r1, b1, b2, b3, b4, b5, b6⟩ := J
      refine ⟨σ', r1, b1, fun a p1 p2 p3 => by rw [b2 a p1 p2 p3, q_An p1], b3, fun u => ?_, fun u => by rw [b5, q_An (by decide)], fun l => by rw [b6, q_An (by decide)]⟩
      rw [b4, q_A2, if_pos rfl]
      by_cases q2 : u = t
      · rw [if_pos q2, if_pos q2]
      · rw [if_neg q2, if_neg q2, if_neg q2]
    | some u =>
      rw [if_neg (show ¬ b01 (some u).isSome = 0 from (by decide : ¬ (1 : Int32) = 0))]
      have e1 : mng K N W t st bef = some u := by
        unfold mng
        rw [if_neg n2, if_pos z, q]
        rfl
      have e2 : mbt K N W t st bef = 0 := by
        unfold mbt
        rw [if_neg n2, e1]
        show (if (ro K t = 10 ∨ ro K t = 12) ∧ ¬ ac K N u = ac K N t then (256 : Int32) else 0) = 0
        rw [if_neg (fun y => by rw [z] at y; exact absurd y.1 (by decide))]
      have T : TD σ t (oI (some u), 0) (some (sA σ 11 t (oI (some u)))) := TD.mean h17
      have J := TD.ty (W := W) (o := mng K N W t st bef) h h12 ht hD hD8 ok (by rw [e1]) T
      rw [q_bd1] at J
      rw [e1, e2]
      rw [e1] at J
      exact J
  · rw [z, if_neg (by decide), if_pos rfl]
    have eb' : bef = nI (cls K t) := by rw [eb, if_pos (Or.inr z)]
    have T := memb 3 6 64 (Or.inr rfl) (by decide) ⟨fun _ => rfl, fun _ => Or.inl z⟩ (by rw [z]; decide) (by rw [if_pos (Or.inr z)])
    have ho' : σ.1 13 = bef := by rw [eb']; exact ho
    rw [ho']
    exact TD.ty (W := W) h h12 ht hD hD8 ok rfl T
  · rw [z, if_neg (by decide), if_neg (by decide), if_pos rfl, hD, if_pos rD, rDn]
    have eb' : bef = σ.2.1 27 D := by rw [eb, if_neg (by rw [z]; decide)]
    have T := memb 2 7 128 (Or.inl rfl) (by decide) ⟨fun y => by rw [z] at y; exact absurd y (by decide), fun y => absurd y (by decide)⟩ (by rw [z]; decide) (by rw [if_neg (by rw [z]; decide)])
    rw [← eb']
    exact TD.ty (W := W) h h12 ht hD hD8 ok rfl T
  · rw [z, if_neg (by decide), if_neg (by decide), if_neg (by decide), if_neg (by decide), if_neg (by decide)]
    unfold p_Judge_takeOperand_b123
    rw [hD, if_pos rD, rDn]
    have eb' : bef = σ.2.1 27 D := by rw [eb, if_neg (by rw [z]; decide)]
    have T := memb 3 7 128 (Or.inr rfl) (by decide) ⟨fun _ => rfl, fun _ => Or.inr z⟩ (by rw [z]; decide) (by rw [if_neg (by rw [z]; decide)])
    rw [← eb']
    exact TD.ty (W := W) h h12 ht hD hD8 ok rfl T
end NAMC
