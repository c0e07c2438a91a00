/-! names in expressions: the reference -/
/-- a name is judged, at a depth -/
def TK (μ : Sto) (t D : Nat) (p q y : Int32) (μ' : Sto) : Prop := μ'.1 = μ.1 ∧ (∀ a, a ≠ 13 → a ≠ 14 → a ≠ 19 → μ'.2.1 a = μ.2.1 a) ∧ μ'.2.2 = μ.2.2 ∧ (∀ u, μ'.2.1 14 u = if u = t then p else μ.2.1 14 u) ∧ (∀ u, μ'.2.1 13 u = if u = t then q else μ.2.1 13 u) ∧ (∀ l, μ'.2.1 19 l = if l = D then y else μ.2.1 19 l)
/-- arguments are opened -/
def opnR (μ : Sto) (D : Nat) (x v : Int32) : Sto := sA (sA (sA (sA (sA (sA (sA (sS μ 7 (nI (D + 1))) 16 (D + 1) 1) 21 (D + 1) 0) 23 (D + 1) v) 17 (D + 1) x) 18 (D + 1) x) 20 (D + 1) 0) 19 (D + 1) (-2)
theorem mstart {μ : Sto} {D : Nat} (h7 : μ.1 7 = nI D) (hD : D < 10) (x : Int32) : p_Mo_start μ x = some (sA (sA (sA (sA μ 17 D x) 18 D x) 20 D 0) 19 D (-2)) := by
  unfold p_Mo_start
  simp only [q_A1, h7, if_pos (q_inR hD (by decide : 10 < 2147483648)), q_tn (show D < 2147483648 by omega)]
  rfl
section MNAM
variable {K : Nat → Int32} {N : Nat} {μ : Sto}
theorem mb50 (h : SM K N μ) {t : Nat} (ht : t < N) {x2 bef x4 w : Int32} (hb : TV K N bef) (n2 : ¬ bef = -2) (hw : (x4 = 1 ∧ w = 3) ∨ (x4 = 0 ∧ w = 2)) : p_Mo_means_b50 μ (nI t) x2 bef x4 (-1) = some (oI (want0 K N μ.2.2 t bef w)) := by
  have hN := h.1
  have m4 := h.M4
  unfold p_Mo_means_b50
  rw [if_pos (by decide)]
  unfold want0 fnd0 bfo
  rcases hb with z | z | ⟨c, hc, rfl⟩
  · exact absurd z n2
  · subst z
    rw [if_pos (by decide), if_pos (by decide), fm_none]
    unfold p_Mo_means_b79
    rw [if_pos (by decide)]
    rfl
  · rw [if_neg (q_pos (by omega)), if_neg (q_pos (by omega)), if_pos (q_inR (by omega) (by decide)), q_tn (by omega), q_tn (by omega), mfnd h hc, q_bd1]
    unfold p_Mo_means_b79
    cases q : fm (parF (abv K N μ.2.2) 40) (mem K N μ.2.2 (μ.2.2 t)) (cC (tr K N)) (some c) with
    | none =>
      rw [if_pos (show oI none < 0 by decide)]
      rfl
    | some u =>
      have q' : fnd0 K N μ.2.2 t (nI c) = some u := by
        unfold fnd0 bfo
        rw [if_neg (q_pos (by omega)), q_tn (by omega)]
        exact q
      obtain ⟨ul, ur⟩ := fnd0_ok q'
      have i6 := (rr_i (ro K u)).2.2.2.2.2.1
      rw [if_neg (show ¬ oI (some u) < 0 from q_pos (by omega)), if_pos (show inR (oI (some u)) 124 from q_inR (by omega) (by decide)), show (oI (some u)).toNatClampNeg = u from q_tn (by omega), h.rl ul]
      show _ = some (oI (if ro K u = w then some u else none))
      unfold p_Mo_means_b103
      rcases ur with r | r
      · rw [if_neg (fun z => by rw [i6.mp z] at r; exact absurd r (by decide)), r]
        rcases hw with ⟨a, b⟩ | ⟨a, b⟩
        · rw [a, b]; rfl
        · rw [a, b]; rfl
      · rw [if_pos (i6.mpr r), r]
        rcases hw with ⟨a, b⟩ | ⟨a, b⟩
        · rw [a, b]; rfl
        · rw [a, b]; rfl
theorem rr_same {r : Int32} (hr : r = 9 ∨ r = 10 ∨ r = 11 ∨ r = 12) : rr r = r := by rcases hr with z | z | z | z <;> rw [z] <;> decide
theorem mmeans (h : SM K N μ) {t st : Nat} (ht : t < N) (hst : st ≤ t) (hr : ro K t = 9 ∨ ro K t = 10 ∨ ro K t = 11 ∨ ro K t = 12) {bef : Int32} (hb : TV K N bef) (n2 : ¬ bef = -2) : p_Mo_means μ (nI t) (nI st) bef = some (oI (mng K N μ.2.2 t st bef)) := by
  have hN := h.1
  have rt : inR (nI t) 124 := q_inR (by omega) (by decide)
  have rtn : (nI t).toNatClampNeg = t := q_tn (by omega)
  have r0 : rr (ro K t) ≠ 0 := by rcases hr with z | z | z | z <;> rw [z] <;> decide
  obtain ⟨t8, t9⟩ := h.2.2.2.2.2.2.2.1 t ht r0
  have er : μ.2.1 7 t = ro K t := by rw [h.rl ht, rr_same hr]
  unfold p_Mo_means p_Mo_means_b22 p_Mo_means_b27 mng
  simp only [if_pos rt, rtn, er]
  rw [if_neg n2]
  rcases hr with z | z | z | z
  · rw [if_neg (show ¬ ro K t = 10 by rw [z]; decide), if_neg (show ¬ ro K t = 12 by rw [z]; decide), if_pos z, if_pos z, mloc h (by omega) t8 t9 (by omega) (by omega), q_bd1, if_neg (show ¬ (ro K t = 10 ∨ ro K t = 12) by rw [z]; decide)]
    cases q : loc K μ.2.2 t st with
    | none => exact mb50 h ht hb n2 (Or.inr ⟨rfl, rfl⟩)
    | some u =>
      have ul := (fi1_some q).2.1
      unfold p_Mo_means_b50
      rw [if_neg (show ¬ oI (some u) < 0 from q_pos (by omega))]
      rfl
  · rw [if_pos z, if_neg (show ¬ ro K t = 9 by rw [z]; decide), if_neg (show ¬ ro K t = 9 by rw [z]; decide), if_pos (Or.inl z)]
    exact mb50 h ht hb n2 (Or.inl ⟨rfl, rfl⟩)
  · rw [if_neg (show ¬ ro K t = 10 by rw [z]; decide), if_neg (show ¬ ro K t = 12 by rw [z]; decide), if_neg (show ¬ ro K t = 9 by rw [z]; decide), if_neg (show ¬ ro K t = 9 by rw [z]; decide), if_neg (show ¬ (ro K t = 10 ∨ ro K t = 12) by rw [z]; decide)]
    exact mb50 h ht hb n2 (Or.inr ⟨rfl, rfl⟩)
  · rw [if_neg (show ¬ ro K t = 10 by rw [z]; decide), if_pos z, if_neg (show ¬ ro K t = 9 by rw [z]; decide), if_neg (show ¬ ro K t = 9 by rw [z]; decide), if_pos (Or.inr z)]
    exact mb50 h ht hb n2 (Or.inl ⟨rfl, rfl⟩)
/-- the diagnostics before the count of arguments -/
def mb1 (K : Nat → Int32) (N : Nat) (W : Nat → Int64) (t st : Nat) (bef : Int32) : Int32 := if bef = -2 then 0 else (mng K N W t st bef).elim (if ro K t = 9 ∨ ro K t = 10 then 64 else 128) (fun _ => 0)
theorem mtk0 (h : SM K N μ) {t st D : Nat} (ht : t < N) (hst : st ≤ t) (hr : ro K t = 9 ∨ ro K t = 10 ∨ ro K t = 11 ∨ ro K t = 12) (hD : μ.1 7 = nI D) (hD9 : D < 10) (h13 : μ.2.1 13 t = 0) (h14 : μ.2.1 14 t = -1) {bef : Int32} (hb : TV K N bef) (eb : bef = if ro K t = 9 ∨ ro K t = 10 then nI (cls K t) else μ.2.1 19 D) : ∃ μ1, T1 μ t (oI (mng K N μ.2.2 t st bef), mb1 K N μ.2.2 t st bef) (some μ1) ∧ p_Mo_takeName μ (nI t) (nI st) = p_Mo_takeName_b119 (nI t) (nI st) μ1 (oI (mng K N μ.2.2 t st bef)) (mty K N μ.2.2 (mng K N μ.2.2 t st bef)) := by
  have hN := h.1
  have rt : inR (nI t) 124 := q_inR (by omega) (by decide)
  have rtn : (nI t).toNatClampNeg = t := q_tn (by omega)
  have r0 : rr (ro K t) ≠ 0 := by rcases hr with z | z | z | z <;> rw [z] <;> decide
  obtain ⟨t8, t9⟩ := h.2.2.2.2.2.2.2.1 t ht r0
  have er : μ.2.1 7 t = ro K t := by rw [h.rl ht, rr_same hr]
  have al := h.al (t := t) (by omega)
  -- which name stands before
  have hb16 : ∃ x3, (x3 = 0 ∧ (ro K t = 9 ∨ ro K t = 10) ∨ x3 = 1 ∧ ¬ (ro K t = 9 ∨ ro K t = 10)) ∧ p_Mo_takeName μ (nI t) (nI st) = p_Mo_takeName_b39 (nI t) (nI st) μ x3 bef := by
    unfold p_Mo_takeName p_Mo_takeName_b16
    simp only [if_pos rt, rtn, er]
    by_cases c : ro K t = 9 ∨ ro K t = 10
    · refine ⟨0, Or.inl ⟨rfl, c⟩, ?_⟩
      rw [if_pos c] at eb
      have le : ro K t ≤ 10 := by rcases c with z | z <;> rw [z] <;> decide
      rw [if_pos le, if_pos trivial, t8, eb]
    · refine ⟨1, Or.inr ⟨rfl, c⟩, ?_⟩
      rw [if_neg c] at eb
      have le : ¬ ro K t ≤ 10 := by
        rcases hr with z | z | z | z
        · exact absurd (Or.inl z) c
        · exact absurd (Or.inr z) c
        · rw [z]; decide
        · rw [z]; decide
      rw [if_neg le, if_neg (by decide), hD, if_pos (q_inR hD9 (by decide)), q_tn (by omega), eb]
  obtain ⟨x3, hx3, e1⟩ := hb16
  have b90 : ∀ (ν : Sto) (m : Option Nat), SM K N ν → ν.2.2 = μ.2.2 → (∀ u, m = some u → u < N ∧ (ro K u = 2 ∨ ro K u = 3 ∨ ro K u = 4 ∨ ro K u = 5)) → p_Mo_takeName_b90 (nI t) (nI st) ν (oI m) = p_Mo_takeName_b119 (nI t) (nI st) (m.elim ν (fun u => sA ν 14 t (nI u))) (oI m) (mty K N μ.2.2 m) := by
    intro ν m hν hw hm
    unfold p_Mo_takeName_b90 p_Mo_takeName_b103
    cases m with
    | none =>
      rw [if_pos (show oI none < 0 by decide), if_neg (show ¬ (0 : Int32) ≤ oI none by decide)]
      rfl
    | some u =>
      obtain ⟨ul, ur⟩ := hm u rfl
      have z0 : (0 : Int32) ≤ oI (some u) := (q_Lle (by decide) (show u < 2147483648 by omega)).mpr (Nat.zero_le _)
      have u1 : 1 ≤ u := by
        have s : cS (tr K u) = 7 ∨ cS (tr K u) = 11 ∨ cS (tr K u) = 15 := by
          have ri := ro_i K u
          rcases ur with z | z | z | z
          · exact Or.inl (ri.2.2.2.2.2.1.mp (Or.inl z))
          · exact Or.inl (ri.2.2.2.2.2.1.mp (Or.inr z))
          · exact Or.inr (Or.inl (ri.2.2.1.mp z))
          · exact Or.inr (Or.inr (ri.2.2.2.1.mp z))
        exact (typ7 (h.al (by omega)) s).1
      have hν' : SM K N (sA ν 14 t (nI u)) := hν.f2 ((F2.refl ν).A (by decide))
      rw [if_neg (show ¬ oI (some u) < 0 from q_pos (by omega)), if_pos rt, rtn, if_pos z0, show oI (some u) = nI u from rfl, mdcl hν' u1 (by omega), q_bd1]
      show p_Mo_takeName_b119 (nI t) (nI st) (sA ν 14 t (nI u)) (nI u) (dcl K N ν.2.2 u) = p_Mo_takeName_b119 (nI t) (nI st) (sA ν 14 t (nI u)) (nI u) (dcl K N μ.2.2 u)
      rw [hw]
  have ok : ∀ u, mng K N μ.2.2 t st bef = some u → u < N ∧ (ro K u = 2 ∨ ro K u = 3 ∨ ro K u = 4 ∨ ro K u = 5) := fun u hu => ⟨(mng_ok (by omega) hu).1, (mng_ok (by omega) hu).2.1⟩
  rw [e1]
  unfold p_Mo_takeName_b39
  by_cases n2 : bef = -2
  · have em : mng K N μ.2.2 t st bef = none := by unfold mng; rw [if_pos n2]
    have e2 : mb1 K N μ.2.2 t st bef = 0 := by unfold mb1; rw [if_pos n2]
    rw [if_pos n2]
    unfold p_Mo_takeName_b60
    rw [if_neg (by decide), if_pos n2, em, e2]
    refine ⟨μ, T1.none h13 h14, ?_⟩
    exact b90 μ none h rfl (fun u hu => absurd hu (by simp))
  · rw [if_neg n2, mmeans h ht hst hr hb n2, q_bd1]
    unfold p_Mo_takeName_b60
    cases q : mng K N μ.2.2 t st bef with
    | none =>
      have e2 : mb1 K N μ.2.2 t st bef = if ro K t = 9 ∨ ro K t = 10 then 64 else 128 := by unfold mb1; rw [if_neg n2, q]; rfl
      rw [if_neg (show ¬ (0 : Int32) ≤ oI none by decide), if_neg n2, e2]
      rcases hx3 with ⟨a, b⟩ | ⟨a, b⟩
      · rw [if_pos a, if_pos b]
        unfold p_Mo_takeName_b87
        rw [mnote (by omega), q_bd1, h13, show (0 : Int32) ||| ((1 : Int32) <<< ((6 : Int32) &&& 31)) = 64 by decide]
        refine ⟨sA μ 13 t 64, T1.mark h14 rfl, ?_⟩
        exact b90 _ none (h.f2 ((F2.refl μ).A (by decide))) rfl (fun u hu => absurd hu (by simp))
      · rw [if_neg (show ¬ x3 = 0 by rw [a]; decide), if_neg b]
        unfold p_Mo_takeName_b87
        rw [mnote (by omega), q_bd1, h13, show (0 : Int32) ||| ((1 : Int32) <<< ((7 : Int32) &&& 31)) = 128 by decide]
        refine ⟨sA μ 13 t 128, T1.mark h14 rfl, ?_⟩
        exact b90 _ none (h.f2 ((F2.refl μ).A (by decide))) rfl (fun u hu => absurd hu (by simp))
    | some u =>
      obtain ⟨ul, ur⟩ := ok u q
      have e2 : mb1 K N μ.2.2 t st bef = 0 := by unfold mb1; rw [if_neg n2, q]; rfl
      have z0 : (0 : Int32) ≤ oI (some u) := (q_Lle (by decide) (show u < 2147483648 by omega)).mpr (Nat.zero_le _)
      rw [if_pos z0, e2]
      refine ⟨_, T1.mean h13, ?_⟩
      exact b90 μ (some u) h rfl (fun v hv => by rw [← Option.some.inj hv]; exact ⟨ul, ur⟩)
theorem T1.tk {t D : Nat} {p q y : Int32} {μ1 : Sto} (T : T1 μ t (p, q) (some μ1)) : TK μ t D p q y (sA μ1 19 D y) := by
  obtain ⟨μ', e, F, a, b⟩ := T
  have := Option.some.inj e
  subst this
  refine ⟨F.1, fun x p1 p2 p3 => by rw [q_An p3]; exact F.2.1 x p1 p2, F.2.2, fun u => by rw [q_An (by decide)]; exact a u, fun u => by rw [q_An (by decide)]; exact b u, fun l => ?_⟩
  rw [q_A2, if_pos rfl, F.2.1 19 (by decide) (by decide)]
theorem mname (h : SM K N μ) {t st D : Nat} (ht : t < N) (hst : st ≤ t) (hr : ro K t = 9 ∨ ro K t = 11) (hD : μ.1 7 = nI D) (hD9 : D < 10) (h13 : μ.2.1 13 t = 0) (h14 : μ.2.1 14 t = -1) {bef : Int32} (hb : TV K N bef) (eb : bef = if ro K t = 9 ∨ ro K t = 10 then nI (cls K t) else μ.2.1 19 D) : ∃ μ', p_Mo_takeName μ (nI t) (nI st) = some μ' ∧ TK μ t D (oI (mng K N μ.2.2 t st bef)) (mbt K N μ.2.2 t st bef) (mty K N μ.2.2 (mng K N μ.2.2 t st bef)) μ' := by
  have hN := h.1
  have rt : inR (nI t) 124 := q_inR (by omega) (by decide)
  have rtn : (nI t).toNatClampNeg = t := q_tn (by omega)
  have hr4 : ro K t = 9 ∨ ro K t = 10 ∨ ro K t = 11 ∨ ro K t = 12 := hr.elim Or.inl (fun z => Or.inr (Or.inr (Or.inl z)))
  obtain ⟨μ1, T, e⟩ := mtk0 h ht hst hr4 hD hD9 h13 h14 hb eb
  have T' := T
  obtain ⟨ν, e', F, a, b⟩ := T'
  have := Option.some.inj e'
  subst this
  have h1 := h.f2 F
  have er : μ1.2.1 7 t = ro K t := by rw [h1.rl ht, rr_same hr4]
  have eb2 : mb1 K N μ.2.2 t st bef = mbt K N μ.2.2 t st bef := by
    unfold mb1 mbt
    have nc : ¬ (ro K t = 10 ∨ ro K t = 12) := by rcases hr with z | z <;> rw [z] <;> decide
    by_cases q : bef = -2
    · rw [if_pos q, if_pos q]
    · rw [if_neg q, if_neg q]
      cases mng K N μ.2.2 t st bef with
      | none => rfl
      | some m =>
        show (0 : Int32) = if (ro K t = 10 ∨ ro K t = 12) ∧ ¬ ac K N m = ac K N t then 256 else 0
        rw [if_neg (fun z => nc z.1)]
  refine ⟨sA μ1 19 D (mty K N μ.2.2 (mng K N μ.2.2 t st bef)), ?_, by rw [← eb2]; exact T.tk⟩
  rw [e]
  unfold p_Mo_takeName_b119
  simp only [if_pos rt, rtn, er, F.1, hD, if_pos (q_inR hD9 (by decide : 10 < 2147483648)), q_tn (show D < 2147483648 by omega)]
  rcases hr with z | z
  · rw [if_pos z]
  · rw [if_neg (show ¬ ro K t = 9 by rw [z]; decide), if_pos z]
theorem mb204 {ν : Sto} {D : Nat} (hD : ν.1 7 = nI D) (hD9 : D < 9) (t n : Nat) (hn : n < 1000) (x2 x5 x6 x8 : Int32) : p_Mo_takeName_b204 (nI t) x2 ν x5 x6 (nI n) x8 = if n = 0 then some (sA ν 19 D x6) else some (opnR (sA ν 19 D x6) D (nI (t + 2)) (if x8 = 0 then -1 else x5)) := by
  have rD : inR (nI D) 10 := q_inR (by omega) (by decide)
  have rDn : (nI D).toNatClampNeg = D := q_tn (by omega)
  have rE : inR (nI (D + 1)) 10 := q_inR (by omega) (by decide)
  have rEn : (nI (D + 1)).toNatClampNeg = D + 1 := q_tn (by omega)
  have s7 : ∀ (τ : Sto) (v : Int32), (sS τ 7 v).1 7 = v := fun τ v => rfl
  have ex : nI t + 2 = nI (t + 2) := q_addL t 2
  unfold p_Mo_takeName_b204
  simp only [q_A1, hD, if_pos rD, rDn, nI_1, s7, if_pos rE, rEn, ex]
  by_cases e : n = 0
  · subst e
    rw [if_pos (show nI 0 = (0 : Int32) from rfl), if_pos rfl]
  · rw [if_neg (fun z => e ((q_eqL (by omega) (by decide)).mp z)), if_neg e]
    have ms : ∀ v, p_Mo_start (sA (sA (sA (sS (sA ν 19 D x6) 7 (nI (D + 1))) 16 (D + 1) 1) 21 (D + 1) 0) 23 (D + 1) v) (nI (t + 2)) = some (opnR (sA ν 19 D x6) D (nI (t + 2)) v) := fun v => mstart (D := D + 1) rfl (by omega) _
    by_cases e8 : x8 = 0
    · rw [if_pos e8, if_pos e8, ms, q_bd1]
    · rw [if_neg e8, if_neg e8, ms, q_bd1]
theorem mcall (h : SM K N μ) {t st D : Nat} (ht : t + 1 < N) (hst : st ≤ t) (hr : ro K t = 10 ∨ ro K t = 12) (s20 : cS (tr K (t + 1)) = 20) (k40 : K (t + 1) = 40) (hD : μ.1 7 = nI D) (hD9 : D < 9) (h13 : μ.2.1 13 t = 0) (h14 : μ.2.1 14 t = -1) {bef : Int32} (hb : TV K N bef) (eb : bef = if ro K t = 9 ∨ ro K t = 10 then nI (cls K t) else μ.2.1 19 D) : ∃ μ', TK μ t D (oI (mng K N μ.2.2 t st bef)) (mbt K N μ.2.2 t st bef) (mty K N μ.2.2 (mng K N μ.2.2 t st bef)) μ' ∧ p_Mo_takeName μ (nI t) (nI st) = if ac K N t = 0 then some μ' else some (opnR μ' D (nI (t + 2)) ((mng K N μ.2.2 t st bef).elim (-1) (fun m => if ac K N m = ac K N t then nI m else -1))) := by
  have hN := h.1
  have rt : inR (nI t) 124 := q_inR (by omega) (by decide)
  have rtn : (nI t).toNatClampNeg = t := q_tn (by omega)
  have hr4 : ro K t = 9 ∨ ro K t = 10 ∨ ro K t = 11 ∨ ro K t = 12 := hr.elim (fun z => Or.inr (Or.inl z)) (fun z => Or.inr (Or.inr (Or.inr z)))
  obtain ⟨μ1, T, e⟩ := mtk0 h (by omega) hst hr4 hD (by omega) h13 h14 hb eb
  have T' := T
  obtain ⟨ν, e', F, a, b⟩ := T'
  have := Option.some.inj e'
  subst this
  have h1 := h.f2 F
  have er : μ1.2.1 7 t = ro K t := by rw [h1.rl (by omega), rr_same hr4]
  have hD1 : μ1.1 7 = nI D := by rw [F.1]; exact hD
  have al := ac_le (K := K) t N
  rw [e]
  unfold p_Mo_takeName_b119
  simp only [if_pos rt, rtn, er]
  rw [if_neg (show ¬ ro K t = 9 by rcases hr with z | z <;> rw [z] <;> decide), if_neg (show ¬ ro K t = 11 by rcases hr with z | z <;> rw [z] <;> decide), nI_1, marg h1 s20 k40 ht, q_bd1]
  cases q : mng K N μ.2.2 t st bef with
  | none =>
    have eb2 : mbt K N μ.2.2 t st bef = mb1 K N μ.2.2 t st bef := by unfold mbt mb1; rw [q]; rfl
    rw [q] at T
    refine ⟨sA μ1 19 D (mty K N μ.2.2 none), by rw [eb2]; exact T.tk, ?_⟩
    rw [if_pos (show oI none < 0 by decide)]
    unfold p_Mo_takeName_b184 p_Mo_takeName_b185
    rw [if_pos (show oI none < 0 by decide), mb204 hD1 hD9 t (ac K N t) (by omega)]
    rfl
  | some m =>
    obtain ⟨ml, mr, mc⟩ := mng_ok (by omega) q
    have m3 := mc hr
    have s7 := (ro_i K m).2.2.2.2.2.1.mp (Or.inr m3)
    have am := ac_le (K := K) m N
    have n2 : ¬ bef = -2 := fun z => by unfold mng at q; rw [if_pos z] at q; exact absurd q (by simp)
    have e1 : mb1 K N μ.2.2 t st bef = 0 := by unfold mb1; rw [if_neg n2, q]; rfl
    rw [q, e1] at T
    rw [if_neg (show ¬ oI (some m) < 0 from q_pos (by omega)), show oI (some m) = nI m from rfl, mpof h1 s7 ml, q_bd1]
    by_cases ea : ac K N m = ac K N t
    · have eb2 : mbt K N μ.2.2 t st bef = 0 := by
        unfold mbt; rw [if_neg n2, q]
        show (if (ro K t = 10 ∨ ro K t = 12) ∧ ¬ ac K N m = ac K N t then (256 : Int32) else 0) = 0
        rw [if_neg (fun z => z.2 ea)]
      refine ⟨sA μ1 19 D (mty K N μ.2.2 (some m)), by rw [eb2]; exact T.tk, ?_⟩
      rw [if_pos (show nI (ac K N m) = nI (ac K N t) by rw [ea])]
      unfold p_Mo_takeName_b185
      rw [if_neg (show ¬ nI m < 0 from q_pos (by omega)), if_neg (show ¬ (1 : Int32) = 0 by decide), mb204 hD1 hD9 t (ac K N t) (by omega)]
      show _ = if ac K N t = 0 then _ else some (opnR _ D (nI (t + 2)) (if ac K N m = ac K N t then nI m else -1))
      rw [if_pos ea]
      rfl
    · have eb2 : mbt K N μ.2.2 t st bef = 256 := by
        unfold mbt; rw [if_neg n2, q]
        show (if (ro K t = 10 ∨ ro K t = 12) ∧ ¬ ac K N m = ac K N t then (256 : Int32) else 0) = 256
        rw [if_pos ⟨hr, ea⟩]
      have b13 : μ1.2.1 13 t = 0 := by
        obtain ⟨ν', e'', F', a', b'⟩ := T
        have := Option.some.inj e''
        subst this
        rw [b', if_pos rfl]
      have hD2 : (sA μ1 13 t 256).1 7 = nI D := hD1
      refine ⟨sA (sA μ1 13 t 256) 19 D (mty K N μ.2.2 (some m)), ?_, ?_⟩
      · rw [eb2]
        obtain ⟨ν', e'', F', a', b'⟩ := T
        have := Option.some.inj e''
        subst this
        refine ⟨F'.1, fun x p1 p2 p3 => by rw [q_An p3, q_An p1]; exact F'.2.1 x p1 p2, F'.2.2, fun u => by rw [q_An (by decide), q_An (by decide)]; exact a' u, fun u => ?_, fun l => ?_⟩
        · rw [q_An (by decide), q_A2, if_pos rfl, b']
          by_cases eu : u = t
          · rw [if_pos eu, if_pos eu]
          · rw [if_neg eu, if_neg eu, if_neg eu]
        · rw [q_A2, if_pos rfl, q_An (by decide), F'.2.1 19 (by decide) (by decide)]
      · rw [if_neg (show ¬ nI (ac K N m) = nI (ac K N t) from fun z => ea ((q_eq (by omega) (by omega)).mp z))]
        unfold p_Mo_takeName_b184 p_Mo_takeName_b185
        rw [if_neg (show ¬ nI m < 0 from q_pos (by omega)), if_pos rfl, mnote (by omega), q_bd1, b13, show (0 : Int32) ||| ((1 : Int32) <<< ((8 : Int32) &&& 31)) = 256 by decide, mb204 hD2 hD9 t (ac K N t) (by omega)]
        show _ = if ac K N t = 0 then _ else some (opnR _ D (nI (t + 2)) (if ac K N m = ac K N t then nI m else -1))
        rw [if_neg ea]
        rfl
end MNAM
