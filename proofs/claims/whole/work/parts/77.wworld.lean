/-- all that the law has made: the object's world, the long, the reference's world -/
def wW (K : Kst) (a : Nat) (A B : Nat → Nat) (σ τ : Sto) (o : Nat) (f : Nat → Int64) (Y : Nat → Nat) (μ : Sto) : va_W := wH K a A B σ τ o f ++ wY K Y μ
theorem wY_ad (K : Kst) (Y : Nat → Nat) (μ μ' : Sto) : (wY K Y μ').map Prod.fst = (wY K Y μ).map Prod.fst := rfl
theorem wY_in {K : Kst} {Y : Nat → Nat} {μ : Sto} {k : Nat} {x : Nat × va_E} (h : (wY K Y μ)[k]? = some x) : YF Y x.1 := by
  have h1 : ((wY K Y μ).map Prod.fst)[k]? = some x.1 := by rw [List.getElem?_map, h]; rfl
  have h2 : (wY K Y μ).map Prod.fst = (List.range 24).map Y := rfl
  rw [h2, List.getElem?_map] at h1
  obtain ⟨y, hy, e⟩ := Option.map_eq_some_iff.mp h1
  have := List.mem_range.mp (List.mem_of_getElem? hy)
  exact ⟨y, this, e.symm⟩
theorem wY_of {K : Kst} {Y : Nat → Nat} (μ : Sto) {q : Nat} (h : YF Y q) : ∃ (k : Nat) (x : Nat × va_E), (wY K Y μ)[k]? = some x ∧ q = x.1 := by
  obtain ⟨k, hk, e⟩ := h
  have h2 : ((wY K Y μ).map Prod.fst)[k]? = some (Y k) := by
    have h3 : (wY K Y μ).map Prod.fst = (List.range 24).map Y := rfl
    rw [h3, List.getElem?_map, List.getElem?_range hk]
    rfl
  rw [List.getElem?_map] at h2
  obtain ⟨y, hy, e2⟩ := Option.map_eq_some_iff.mp h2
  exact ⟨k, y, hy, by rw [e, e2]⟩
section WW0
variable {K : Kst} {a o : Nat} {A B A' B' Y : Nat → Nat} {σ σ' τ τ' μ μ' : Sto} {f f' : Nat → Int64} {H H1 : Heap} {G : Nat → Prop}
theorem H_is {k : Nat} {x : Nat × va_E} (h : (wH K a A B σ τ o f)[k]? = some x) : HF a A B o x.1 := by
  have h : (wL K a A B σ τ ++ [(o, .inl (K.2.2.1, 1, .inr (.inl f)))])[k]? = some x := h
  by_cases hk : k < (wL K a A B σ τ).length
  · rw [List.getElem?_append_left hk] at h
    exact Or.inl (L_is h)
  · rw [List.getElem?_append_right (Nat.le_of_not_lt hk)] at h
    have h9 := List.mem_of_getElem? h
    simp only [List.mem_singleton] at h9
    subst h9
    exact Or.inr rfl
theorem W_dH (hD : va_D G (wW K a A B σ τ o f Y μ)) : va_D (HF a A B o) (wH K a A B σ τ o f) := mid_D (w1 := []) (w2 := wY K Y μ) hD (fun _ _ h => H_is h)
theorem W_gH (hD : va_D G (wW K a A B σ τ o f Y μ)) {q : Nat} (h : HF a A B o q) : G q := by
  obtain ⟨k, x, h1, h2⟩ := H_in (K := K) (σ := σ) (τ := τ) (f := f) h
  rw [h2]
  refine hD.2 k x ?_
  show (wH K a A B σ τ o f ++ _)[k]? = some x
  rw [List.getElem?_append_left (List.getElem?_eq_some_iff.mp h1).1]; exact h1
theorem W_dY (hD : va_D G (wW K a A B σ τ o f Y μ)) : va_D (YF Y) (wY K Y μ) := by
  have h : va_D G (wH K a A B σ τ o f ++ (wY K Y μ ++ [])) := by rw [List.append_nil]; exact hD
  exact mid_D h (fun _ _ h => wY_in h)
theorem W_gY (hD : va_D G (wW K a A B σ τ o f Y μ)) {q : Nat} (h : YF Y q) : G q := by
  obtain ⟨k, x, h1, h2⟩ := wY_of (K := K) μ h
  rw [h2]
  refine hD.2 ((wH K a A B σ τ o f).length + k) x ?_
  show (wH K a A B σ τ o f ++ wY K Y μ)[_]? = some x
  rw [List.getElem?_append_right (Nat.le_add_right _ _), Nat.add_sub_cancel_left]; exact h1
theorem W_apart (hD : va_D G (wW K a A B σ τ o f Y μ)) {q : Nat} (h1 : HF a A B o q) (h2 : YF Y q) : False := by
  obtain ⟨i, x, hx, e1⟩ := H_in (K := K) (σ := σ) (τ := τ) (f := f) h1
  obtain ⟨j, y, hy, e2⟩ := wY_of (K := K) μ h2
  have hi : i < (wH K a A B σ τ o f).length := (List.getElem?_eq_some_iff.mp hx).1
  have g1 : (wW K a A B σ τ o f Y μ)[i]? = some x := by
    show (wH K a A B σ τ o f ++ _)[i]? = some x
    rw [List.getElem?_append_left hi]; exact hx
  have g2 : (wW K a A B σ τ o f Y μ)[(wH K a A B σ τ o f).length + j]? = some y := by
    show (wH K a A B σ τ o f ++ wY K Y μ)[_]? = some y
    rw [List.getElem?_append_right (Nat.le_add_right _ _), Nat.add_sub_cancel_left]; exact hy
  have := hD.1 _ _ x y g1 g2 (by rw [← e1, e2])
  omega
theorem W_join (hD : va_D G (wW K a A B σ τ o f Y μ)) (hH : ∀ q, HF a A' B' o q → HF a A B o q) (hD1 : va_D (HF a A' B' o) (wH K a A' B' σ' τ' o f')) : va_D G (wW K a A' B' σ' τ' o f' Y μ') := by
  have hY : va_D G (wY K Y μ') := fr_D ((W_dY hD).weaken (fun _ _ _ h => W_gY hD h)) (wY_ad K Y μ μ')
  refine (hD1.weaken (fun _ _ _ h => W_gH hD (hH _ h))).app hY ?_
  intro i j x y hx hy e
  exact W_apart hD (hH _ (H_is hx)) (by rw [e]; exact wY_in hy)
end WW0
theorem H_blind {K : Kst} {a o : Nat} {A B : Nat → Nat} {σ τ : Sto} {f : Nat → Int64} {As : List Value} : FrameBlind (va_Pc As (HB K a A B σ τ o f)) := fun _ _ _ _ q => ⟨q.1, q.2.1, ⟨⟨RK.same rfl q.2.2.1.1.1, XK.same rfl q.2.2.1.1.2.1, ⟨xs.moved (Vm.Alike.refl _) q.2.2.1.1.2.2.1, xs.moved (Vm.Alike.refl _) q.2.2.1.1.2.2.2⟩⟩, NC.moved (Vm.Alike.refl _) q.2.2.1.2⟩, q.2.2.2⟩
section WCALL
variable {p : Program} {l : Launch} {e : Env} {R : Room} {s : State} {m : MethodId} {args : Array Value} {below : List Frame} {meth : Method} {c : Code} {H H0 : Heap} {locs : List Loc} {cells slots : Nat} {Q : State → Prop}
variable {cc : ByteArray} {pc : Nat} {ls : Array Slot} {rest st0 : List Value} {av : Array Value} {K : Kst} {a o : Nat} {A B A' B' Y : Nat → Nat} {σ σ' τ τ' μ μ' : Sto} {f f' : Nat → Int64} {G : Nat → Prop}
theorem W_pH {As : List Value} (hHK : HK K G s) (hS : va_S G s.heap H locs) (hP : va_P K.1 vwCl (wW K a A B σ τ o f Y μ) H) (hD : va_D G (wW K a A B σ τ o f Y μ)) : PreS s H (va_Pc As (HB K a A B σ τ o f)) As :=
  ⟨H_blind, fun U hU hW => ⟨rfl, by rw [hU]; exact P_l hP, ⟨⟨RK.warm hW hHK.1.1, hHK.1.2.1.warm hW, hHK.1.2.2.to hS hW.alike (fun q _ _ => by rw [hU]) (fun q h => W_gH hD h)⟩, hHK.2.moved hW.alike⟩, W_dH hD⟩⟩
theorem W_callH {r : Int32} (hr : va_Run p l e R s m args below meth c H locs cells slots 1 6 (F0 m pc ls st0) rest (va_Qi (S := Unit) (fun v _ => v = r) (fun _ t => HB K a A' B' σ' τ' o f' t) (HF a A B o) av) (HF a A B o)) (hP : va_P K.1 vwCl (wW K a A B σ τ o f Y μ) H) (hD : va_D G (wW K a A B σ τ o f Y μ)) (hS : va_S G H0 H locs) (hH : ∀ q, HF a A' B' o q → HF a A B o q)
    (kk : ∀ (H1 : Heap) (locs1 : List Loc), va_P K.1 vwCl (wW K a A' B' σ' τ' o f' Y μ) H1 → va_D G (wW K a A' B' σ' τ' o f' Y μ) → va_S G H0 H1 locs1 → W p l e R s m args below meth c H1 locs1 (cells + 1) (slots + 6) Q (F0 m (pc + 3) ls (.int r :: rest))) : W p l e R s m args below meth c H locs cells slots Q (F0 m pc ls st0) := by
  refine va_calli hr hS (fun q _ h => W_gH hD h) (fun q h => W_gH hD h) (fun v u t H1 locs1 ht hvm hw hB hz hk hS1 => ?_)
  subst hw
  obtain ⟨h1, -, h3⟩ := hB
  rw [ht] at h1
  have hY : va_P K.1 vwCl (wY K Y μ) H1 := (P_r hP).kept fun k x hx => hk _ ((P_r hP) k x hx).lt (fun h => W_apart hD h (wY_in hx))
  exact kk H1 locs1 (h1.app hY) (W_join hD hH h3) hS1
theorem W_pY {As : List Value} (hK : RK K s) (hP : va_P K.1 vwCl (wW K a A B σ τ o f Y μ) H) (hD : va_D G (wW K a A B σ τ o f Y μ)) : PreV s H "LanguageServerModel" (Y 0) (va_Pc (.ref (Y 0) :: As) (YB K Y μ)) As :=
  Y_pv_0 hK (P_r hP) (W_dY hD)
theorem W_callY {r : Int32} (hr : va_Run p l e R s m args below meth c H locs cells slots 0 0 (F0 m pc ls st0) rest (YQi K Y r μ' av) (YF Y)) (hP : va_P K.1 vwCl (wW K a A B σ τ o f Y μ) H) (hD : va_D G (wW K a A B σ τ o f Y μ)) (hS : va_S G H0 H locs)
    (kk : ∀ (H1 : Heap) (locs1 : List Loc), va_P K.1 vwCl (wW K a A B σ τ o f Y μ') H1 → va_D G (wW K a A B σ τ o f Y μ') → va_S G H0 H1 locs1 → W p l e R s m args below meth c H1 locs1 cells slots Q (F0 m (pc + 3) ls (.int r :: rest))) : W p l e R s m args below meth c H locs cells slots Q (F0 m pc ls st0) := by
  refine va_calli hr hS (fun q _ h => W_gY hD h) (fun q h => W_gY hD h) (fun v u t H1 locs1 ht hvm hw hB hz hk hS1 => ?_)
  subst hw
  obtain ⟨h1, -, h3⟩ := hB
  rw [ht] at h1
  have hX : va_P K.1 vwCl (wH K a A B σ τ o f) H1 := (P_l hP).kept fun k x hx => hk _ ((P_l hP) k x hx).lt (fun h => W_apart hD (H_is hx) h)
  exact kk H1 locs1 (hX.app h1) (W_join hD (fun _ h => h) (W_dH hD)) hS1
theorem W_pL {As : List Value} (hHK : HK K G s) (hS : va_S G s.heap H locs) (hP : va_P K.1 vwCl (wW K a A B σ τ o f Y μ) H) (hD : va_D G (wW K a A B σ τ o f Y μ)) : PreV s H "LanguageServer" a (va_Pc (.ref a :: As) (LB K a A B σ τ)) As :=
  ⟨L_blind, va_recv hHK.1.1.1 (P_l (P_l hP)) (ci := 0) (q := ("LanguageServer", T_LS, 2)) (q0 := 0) rfl rfl, fun U hU hW => ⟨rfl, by rw [hU]; exact P_l (P_l hP), ⟨RK.warm hW hHK.1.1, hHK.1.2.1.warm hW, hHK.1.2.2.to hS hW.alike (fun q _ _ => by rw [hU]) (fun q h => W_gH hD (Or.inl h))⟩, H_dL (W_dH hD)⟩⟩
theorem W_callL {r : Int32} (hr : va_Run p l e R s m args below meth c H locs cells slots 0 0 (F0 m pc ls st0) rest (va_Qi (S := Unit) (fun v _ => v = r) (fun _ t => LB K a A B σ' τ' t) (LF a A B) av) (LF a A B)) (hP : va_P K.1 vwCl (wW K a A B σ τ o f Y μ) H) (hD : va_D G (wW K a A B σ τ o f Y μ)) (hS : va_S G H0 H locs)
    (kk : ∀ (H1 : Heap) (locs1 : List Loc), va_P K.1 vwCl (wW K a A B σ' τ' o f Y μ) H1 → va_D G (wW K a A B σ' τ' o f Y μ) → va_S G H0 H1 locs1 → W p l e R s m args below meth c H1 locs1 cells slots Q (F0 m (pc + 3) ls (.int r :: rest))) : W p l e R s m args below meth c H locs cells slots Q (F0 m pc ls st0) := by
  refine va_calli hr hS (fun q _ h => W_gH hD (Or.inl h)) (fun q h => W_gH hD (Or.inl h)) (fun v u t H1 locs1 ht hvm hw hB hz hk hS1 => ?_)
  subst hw
  obtain ⟨h1, -, h3⟩ := hB
  rw [ht] at h1
  obtain ⟨g1, g2⟩ := H_back (P_l hP) (W_dH hD) h1 hk
  have hY : va_P K.1 vwCl (wY K Y μ) H1 := (P_r hP).kept fun k x hx => hk _ ((P_r hP) k x hx).lt (fun h => W_apart hD (Or.inl h) (wY_in hx))
  exact kk H1 locs1 (g1.app hY) (W_join hD (fun _ h => h) g2) hS1
end WCALL
