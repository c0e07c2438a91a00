/-- a part of a world has changed, the rest is as it was -/
theorem fr_P {D : va_G} {cl : List vw_C} {F : Nat → Prop} {w1 wc wc' w2 : va_W} {H H1 : Heap} (hP : va_P D cl (w1 ++ (wc ++ w2)) H) (hD : va_D F (w1 ++ (wc ++ w2))) (had : wc'.map Prod.fst = wc.map Prod.fst) (h1 : va_P D cl wc' H1) (hk : ∀ q : Nat, q < H.size → (∀ (k : Nat) (x : Nat × va_E), wc[k]? = some x → q ≠ x.1) → H1[q]? = H[q]?) : va_P D cl (w1 ++ (wc' ++ w2)) H1 := by
  have hl : wc'.length = wc.length := by rw [← List.length_map (f := Prod.fst), had, List.length_map]
  have keep : ∀ (i : Nat) (x : Nat × va_E), (w1 ++ (wc ++ w2))[i]? = some x → (i < w1.length ∨ w1.length + wc.length ≤ i) → va_at D cl x H1 := by
    intro i x hx hi
    refine (hP i x hx).kept (hk _ (hP i x hx).lt (fun k y hy e => ?_))
    have hky : (w1 ++ (wc ++ w2))[w1.length + k]? = some y := by
      rw [List.getElem?_append_right (Nat.le_add_right _ _), Nat.add_sub_cancel_left, List.getElem?_append_left (List.getElem?_eq_some_iff.mp hy).1]
      exact hy
    have hkl : k < wc.length := (List.getElem?_eq_some_iff.mp hy).1
    have := hD.1 i (w1.length + k) x y hx hky e
    omega
  intro i x hx
  by_cases hi : i < w1.length
  · rw [List.getElem?_append_left hi] at hx
    exact keep i x (by rw [List.getElem?_append_left hi]; exact hx) (Or.inl hi)
  · rw [List.getElem?_append_right (Nat.le_of_not_lt hi)] at hx
    by_cases hj : i - w1.length < wc'.length
    · rw [List.getElem?_append_left hj] at hx
      exact h1 _ _ hx
    · rw [List.getElem?_append_right (Nat.le_of_not_lt hj)] at hx
      refine keep i x ?_ (Or.inr (by omega))
      rw [List.getElem?_append_right (Nat.le_of_not_lt hi), List.getElem?_append_right (by omega), ← hl]
      exact hx
theorem fr_D {F : Nat → Prop} {ws ws' : va_W} (hD : va_D F ws) (had : ws'.map Prod.fst = ws.map Prod.fst) : va_D F ws' := by
  have hg : ∀ (i : Nat) (x : Nat × va_E), ws'[i]? = some x → ∃ y, ws[i]? = some y ∧ y.1 = x.1 := by
    intro i x hx
    have h : (ws'.map Prod.fst)[i]? = some x.1 := by rw [List.getElem?_map, hx]; rfl
    rw [had, List.getElem?_map] at h
    obtain ⟨y, hy, e⟩ := Option.map_eq_some_iff.mp h
    exact ⟨y, hy, e⟩
  refine ⟨fun i j a b ha hb e => ?_, fun k q hk => ?_⟩
  · obtain ⟨a', ha', ea⟩ := hg i a ha
    obtain ⟨b', hb', eb⟩ := hg j b hb
    exact hD.1 i j a' b' ha' hb' (by rw [ea, eb]; exact e)
  · obtain ⟨y, hy, e⟩ := hg k q hk
    rw [← e]; exact hD.2 k y hy
theorem mid_P {D : va_G} {cl : List vw_C} {w1 wc w2 : va_W} {H : Heap} (hP : va_P D cl (w1 ++ (wc ++ w2)) H) : va_P D cl wc H := by
  intro k x hx
  refine hP (w1.length + k) x ?_
  rw [List.getElem?_append_right (Nat.le_add_right _ _), Nat.add_sub_cancel_left, List.getElem?_append_left (List.getElem?_eq_some_iff.mp hx).1]
  exact hx
theorem mid_D {F G : Nat → Prop} {w1 wc w2 : va_W} (hD : va_D F (w1 ++ (wc ++ w2))) (hG : ∀ (k : Nat) (x : Nat × va_E), wc[k]? = some x → G x.1) : va_D G wc := by
  have hx : ∀ (k : Nat) (x : Nat × va_E), wc[k]? = some x → (w1 ++ (wc ++ w2))[w1.length + k]? = some x := by
    intro k x hx
    rw [List.getElem?_append_right (Nat.le_add_right _ _), Nat.add_sub_cancel_left, List.getElem?_append_left (List.getElem?_eq_some_iff.mp hx).1]
    exact hx
  refine ⟨fun i j a b ha hb e => ?_, hG⟩
  have := hD.1 _ _ a b (hx i a ha) (hx j b hb) e
  omega
theorem app_map {α β : Type} {f : α → β} {w1 wc wc' w2 : List α} (h : wc'.map f = wc.map f) : (w1 ++ (wc' ++ w2)).map f = (w1 ++ (wc ++ w2)).map f := by
  simp only [List.map_append, h]
theorem wR_ad (K : Kst) (A : Nat → Nat) (σ σ' : Sto) : (wR K A σ').map Prod.fst = (wR K A σ).map Prod.fst := rfl
theorem wR_in {K : Kst} {A : Nat → Nat} {σ : Sto} {k : Nat} {x : Nat × va_E} (h : (wR K A σ)[k]? = some x) : RF A x.1 := by
  have h1 : ((wR K A σ).map Prod.fst)[k]? = some x.1 := by rw [List.getElem?_map, h]; rfl
  have h2 : (wR K A σ).map Prod.fst = (List.range 29).map A := rfl
  rw [h2, List.getElem?_map] at h1
  obtain ⟨y, hy, e⟩ := Option.map_eq_some_iff.mp h1
  have := List.mem_range.mp (List.mem_of_getElem? hy)
  exact ⟨y, this, e.symm⟩
theorem wR_of {K : Kst} {A : Nat → Nat} (σ : Sto) {q : Nat} (h : RF A q) : ∃ (k : Nat) (x : Nat × va_E), (wR K A σ)[k]? = some x ∧ q = x.1 := by
  obtain ⟨k, hk, e⟩ := h
  have h2 : ((wR K A σ).map Prod.fst)[k]? = some (A k) := by
    have h3 : (wR K A σ).map Prod.fst = (List.range 29).map A := rfl
    rw [h3, List.getElem?_map, List.getElem?_range hk]
    rfl
  rw [List.getElem?_map] at h2
  obtain ⟨y, hy, e2⟩ := Option.map_eq_some_iff.mp h2
  exact ⟨k, y, hy, by rw [e, e2]⟩
section FRAME
variable {p : Program} {l : Launch} {e : Env} {R : Room} {s : State} {m : MethodId} {args : Array Value} {below : List Frame} {meth : Method} {c : Code} {H H0 : Heap} {locs : List Loc} {cells slots : Nat} {Q : State → Prop}
variable {cc : ByteArray} {pc : Nat} {ls : Array Slot} {rest st0 : List Value} {a : Array Value} {K : Kst} {A B : Nat → Nat} {σ σ' τ τ' : Sto} {w1 w2 : va_W} {F : Nat → Prop}
theorem G_sub (hP : va_P K.1 vwCl (w1 ++ (wR K A σ ++ w2)) H) (hD : va_D F (w1 ++ (wR K A σ ++ w2))) : va_P K.1 vwCl (wR K A σ) H ∧ va_D (RF A) (wR K A σ) := ⟨mid_P hP, mid_D hD (fun _ _ h => wR_in h)⟩
theorem G_in (hD : va_D F (w1 ++ (wR K A σ ++ w2))) {q : Nat} (h : RF A q) : F q := by
  obtain ⟨k, x, hx, e⟩ := wR_of (K := K) σ h
  rw [e]
  refine hD.2 (w1.length + k) x ?_
  rw [List.getElem?_append_right (Nat.le_add_right _ _), Nat.add_sub_cancel_left, List.getElem?_append_left (List.getElem?_eq_some_iff.mp hx).1]
  exact hx
theorem G_back {H1 : Heap} (hP : va_P K.1 vwCl (w1 ++ (wR K A σ ++ w2)) H) (hD : va_D F (w1 ++ (wR K A σ ++ w2))) (h1 : va_P K.1 vwCl (wR K A σ') H1) (hk : ∀ q : Nat, q < H.size → ¬ RF A q → H1[q]? = H[q]?) : va_P K.1 vwCl (w1 ++ (wR K A σ' ++ w2)) H1 ∧ va_D F (w1 ++ (wR K A σ' ++ w2)) := by
  refine ⟨fr_P hP hD (wR_ad K A σ σ') h1 (fun q hq hx => hk q hq (fun h => ?_)), fr_D hD (app_map (wR_ad K A σ σ'))⟩
  obtain ⟨k, x, h3, h4⟩ := wR_of (K := K) σ h
  exact hx k x h3 h4
theorem G_calli {r : Int32} (hr : va_Run p l e R s m args below meth c H locs cells slots 0 0 (F0 m pc ls st0) rest (RQi K A r σ' a) (RF A)) (hP : va_P K.1 vwCl (w1 ++ (wR K A σ ++ w2)) H) (hD : va_D F (w1 ++ (wR K A σ ++ w2))) (hS : va_S F H0 H locs)
    (kk : ∀ (H1 : Heap) (locs1 : List Loc), va_P K.1 vwCl (w1 ++ (wR K A σ' ++ w2)) H1 → va_D F (w1 ++ (wR K A σ' ++ w2)) → va_S F H0 H1 locs1 → W p l e R s m args below meth c H1 locs1 cells slots Q (F0 m (pc + 3) ls (.int r :: rest))) : W p l e R s m args below meth c H locs cells slots Q (F0 m pc ls st0) := by
  refine va_calli hr hS (fun q _ h => G_in hD h) (fun q h => G_in hD h) (fun v u t H1 locs1 ht hvm hw hB hz hk hS1 => ?_)
  subst hw
  obtain ⟨h1, -, h3⟩ := hB
  rw [ht] at h1
  obtain ⟨g1, g2⟩ := G_back hP hD h1 hk
  exact kk H1 locs1 g1 g2 hS1
theorem G_callv (hr : va_Run p l e R s m args below meth c H locs cells slots 0 0 (F0 m pc ls st0) rest (RQv K A σ' a) (RF A)) (hP : va_P K.1 vwCl (w1 ++ (wR K A σ ++ w2)) H) (hD : va_D F (w1 ++ (wR K A σ ++ w2))) (hS : va_S F H0 H locs)
    (kk : ∀ (H1 : Heap) (locs1 : List Loc), va_P K.1 vwCl (w1 ++ (wR K A σ' ++ w2)) H1 → va_D F (w1 ++ (wR K A σ' ++ w2)) → va_S F H0 H1 locs1 → W p l e R s m args below meth c H1 locs1 cells slots Q (F0 m (pc + 3) ls rest)) : W p l e R s m args below meth c H locs cells slots Q (F0 m pc ls st0) := by
  refine va_callv hr hS (fun q _ h => G_in hD h) (fun q h => G_in hD h) (fun u t H1 locs1 ht hvm hw hB hz hk hS1 => ?_)
  obtain ⟨h1, -, h3⟩ := hB
  rw [ht] at h1
  obtain ⟨g1, g2⟩ := G_back hP hD h1 hk
  exact kk H1 locs1 g1 g2 hS1
end FRAME
