/-! the new text, as the reference writes it -/
/-- only the text, its length and the word about a failure change -/
def TFr (μ μ' : Sto) : Prop := (∀ k, k ≠ 0 → k ≠ 1 → μ'.1 k = μ.1 k) ∧ ∀ a, a ≠ 1 → μ'.2.1 a = μ.2.1 a
theorem TFr.refl (μ : Sto) : TFr μ μ := ⟨fun _ _ _ => rfl, fun _ _ => rfl⟩
theorem TFr.trans {a b c : Sto} (h : TFr a b) (g : TFr b c) : TFr a c := ⟨fun k p q => (g.1 k p q).trans (h.1 k p q), fun x p => (g.2 x p).trans (h.2 x p)⟩
theorem TFr.S {μ μ' : Sto} {k : Nat} {v : Int32} (h : TFr μ μ') (hk : k = 0 ∨ k = 1) : TFr μ (sS μ' k v) := ⟨fun j p q => by rw [q_S1, if_neg (by omega)]; exact h.1 j p q, h.2⟩
theorem TFr.A {μ μ' : Sto} {i : Nat} {v : Int32} (h : TFr μ μ') : TFr μ (sA μ' 1 i v) := ⟨h.1, fun a p => by rw [q_An p]; exact h.2 a p⟩
theorem ins_fr (x1 x2 : Int32) : ∀ (fuel : Nat) (μ : Sto) (x3 v : Int32) (μ' : Sto), p_Mo_insert_L51 x1 x2 fuel μ x3 = some (v, μ') → TFr μ μ' := by
  intro fuel
  induction fuel with
  | zero => intro μ x3 v μ' h; exact absurd h (by simp [p_Mo_insert_L51])
  | succ m ih =>
    intro μ x3 v μ' h
    unfold p_Mo_insert_L51 at h
    by_cases c : x3 ≤ x1
    · rw [if_pos c] at h
      by_cases d : inR x1 240
      · rw [if_pos d] at h
        have := (Prod.mk.inj (Option.some.inj h)).2
        rw [← this]
        exact (TFr.refl μ).A.S (by decide)
      · rw [if_neg d] at h; exact absurd h (by simp)
    · rw [if_neg c] at h
      by_cases d : inR (x3 - 1) 240
      · rw [if_pos d] at h
        by_cases e : inR x3 240
        · rw [if_pos e] at h
          exact ((TFr.refl μ).A).trans (ih _ _ _ _ h)
        · rw [if_neg e] at h; exact absurd h (by simp)
      · rw [if_neg d] at h; exact absurd h (by simp)
theorem del_fr (x1 x2 : Int32) : ∀ (fuel : Nat) (μ : Sto) (x3 v : Int32) (μ' : Sto), p_Mo_delete_L39 x1 x2 fuel μ x3 = some (v, μ') → TFr μ μ' := by
  intro fuel
  induction fuel with
  | zero => intro μ x3 v μ' h; exact absurd h (by simp [p_Mo_delete_L39])
  | succ m ih =>
    intro μ x3 v μ' h
    unfold p_Mo_delete_L39 at h
    by_cases c : μ.1 1 ≤ x3 + x2
    · rw [if_pos c] at h
      have := (Prod.mk.inj (Option.some.inj h)).2
      rw [← this]
      exact (TFr.refl μ).S (by decide)
    · rw [if_neg c] at h
      by_cases d : inR (x3 + x2) 240
      · rw [if_pos d] at h
        by_cases e : inR x3 240
        · rw [if_pos e] at h
          exact ((TFr.refl μ).A).trans (ih _ _ _ _ h)
        · rw [if_neg e] at h; exact absurd h (by simp)
      · rw [if_neg d] at h; exact absurd h (by simp)
theorem mins {μ : Sto} {a p c : Nat} (h1 : μ.1 1 = nI a) (ha : a < 240) (hp : p ≤ a) (hc : p_LanguageServer_isCode (nI c) = some 1) : ∃ v μ', p_Mo_insert μ (nI p) (nI c) = some (v, μ') ∧ μ'.1 1 = nI (a + 1) ∧ TFr μ μ' ∧ ∀ i, μ'.2.1 1 i = if i = p then nI c else if p < i ∧ i ≤ a then μ.2.1 1 (i - 1) else μ.2.1 1 i := by
  obtain ⟨μ', m1, m2, m3⟩ := mo_ins p (nI c) (a - p) FU (sS μ 0 0) (by unfold FU; omega) (by omega)
  rw [show p + (a - p) = a by omega] at m1 m3
  have e1 : (sS μ 0 0).1 1 = nI a := h1
  refine ⟨(sS μ 0 0).1 1 + 1, μ', ?_, ?_, ((TFr.refl μ).S (Or.inl rfl)).trans (ins_fr _ _ _ _ _ _ _ m1), fun i => m3 i⟩
  · unfold p_Mo_insert
    rw [if_neg (q_pos (by omega)), e1, if_neg (fun z => by have := (q_lt (by omega) (by omega)).mp z; omega), code_eq, hc, q_bd1, if_neg (by decide), if_neg (fun z => by have : a = 240 := (q_eqL (by omega) (by decide)).mp z; omega)]
    exact m1.trans (by rw [e1])
  · rw [m2, if_pos rfl, e1, nI_1]
theorem mdel {μ : Sto} {a p d : Nat} (h1 : μ.1 1 = nI a) (ha : a ≤ 240) (hp : p + d ≤ a) : ∃ v μ', p_Mo_delete μ (nI p) (nI d) = some (v, μ') ∧ μ'.1 1 = nI (a - d) ∧ TFr μ μ' ∧ ∀ i, μ'.2.1 1 i = if p ≤ i ∧ i + d < a then μ.2.1 1 (i + d) else μ.2.1 1 i := by
  obtain ⟨μ', m1, m2, m3⟩ := mo_del p d (a - (p + d)) FU (sS μ 0 0) a p rfl (by unfold FU; omega) h1 ha (by omega) (Nat.le_refl _) (by omega)
  have e1 : (sS μ 0 0).1 1 = nI a := h1
  refine ⟨nI (a - d), μ', ?_, ?_, ((TFr.refl μ).S (Or.inl rfl)).trans (del_fr _ _ _ _ _ _ _ m1), fun i => m3 i⟩
  · unfold p_Mo_delete
    rw [if_neg (q_pos (by omega)), if_neg (q_pos (by omega)), e1, if_neg (fun z => by have := (q_lt (by omega) (by omega)).mp z; omega), q_sub (show p ≤ a by omega), if_pos ((q_le (by omega) (by omega)).mpr (by omega))]
    exact m1
  · rw [m2, if_pos rfl]
section REP
variable {x : Int64} {l L s a0 : Nat} {μ0 : Sto}
theorem repL (l1 : 1 ≤ l) (l8 : l ≤ 8) (hb : ∀ i, i < l → p_LanguageServer_isCode (nI (bN x i)) = some 1) (x2 : Int32) (ha : a0 ≤ 240) (hs : s + L ≤ a0) (h240 : a0 - L + l ≤ 240) : ∀ (j fuel : Nat) (μ : Sto), j ≤ l → j < fuel → μ.1 1 = nI (a0 - L + (l - j)) → TFr μ0 μ → (∀ i, i < s → μ.2.1 1 i = μ0.2.1 1 i) → (∀ i, i < l - j → μ.2.1 1 (s + i) = nI (Bf x l i)) → (∀ i, s + L + i < a0 → μ.2.1 1 (s + (l - j) + i) = μ0.2.1 1 (s + L + i)) → ∃ μ', p_Mo_replace_L13 (nI s) x2 x (nI l) fuel μ (nI j + (-1)) = some μ' ∧ μ'.1 1 = nI (a0 - L + l) ∧ TFr μ0 μ' ∧ (∀ i, i < s → μ'.2.1 1 i = μ0.2.1 1 i) ∧ (∀ i, i < l → μ'.2.1 1 (s + i) = nI (Bf x l i)) ∧ (∀ i, s + L + i < a0 → μ'.2.1 1 (s + l + i) = μ0.2.1 1 (s + L + i)) := by
  intro j
  induction j with
  | zero =>
    intro fuel μ hj hf h1 fr lo mi hi
    obtain ⟨f, rfl⟩ : ∃ f, fuel = f + 1 := ⟨fuel - 1, by omega⟩
    refine ⟨μ, ?_, h1, fr, lo, mi, hi⟩
    unfold p_Mo_replace_L13
    rw [q_dec0, if_pos (by decide)]
  | succ j ih =>
    intro fuel μ hj hf h1 fr lo mi hi
    obtain ⟨f, rfl⟩ : ∃ f, fuel = f + 1 := ⟨fuel - 1, by omega⟩
    obtain ⟨v, μ', e1, e2, e3, e4⟩ := mins (μ := μ) (p := s + (l - (j + 1))) (c := bN x j) h1 (by omega) (by omega) (hb j (by omega))
    have pos : nI s + nI l - 1 - nI j = nI (s + (l - (j + 1))) := by
      rw [q_add, show nI (s + l) - 1 = nI (s + l - 1) from q_subL (by omega), q_sub (by omega)]
      congr 1; omega
    obtain ⟨μ2, r1, r2⟩ := ih f μ' (by omega) (by omega) (by rw [e2, show a0 - L + (l - (j + 1)) + 1 = a0 - L + (l - j) by omega]) (fr.trans e3) (fun i hi' => by rw [e4, if_neg (by omega), if_neg (by omega)]; exact lo i hi') (fun i hi' => by
      rw [e4]
      by_cases c : i = l - (j + 1)
      · rw [if_pos (by omega), c]
        unfold Bf
        rw [show l - 1 - (l - (j + 1)) = j by omega]
      · rw [if_neg (by omega), if_neg (by omega)]
        exact mi i (by omega)) (fun i hi' => by
      rw [e4, if_neg (by omega), if_pos (by omega), show s + (l - j) + i - 1 = s + (l - (j + 1)) + i by omega]
      exact hi i hi')
    refine ⟨μ2, ?_, r2⟩
    unfold p_Mo_replace_L13
    rw [q_dec (show 1 ≤ j + 1 by omega), Nat.add_sub_cancel, if_neg (q_pos (by omega)), byteOf_eq x (by omega), q_bd1, pos, e1, q_bd2]
    exact r1
theorem mrep (l1 : 1 ≤ l) (l8 : l ≤ 8) (hb : ∀ i, i < l → p_LanguageServer_isCode (nI (bN x i)) = some 1) (h1 : μ0.1 1 = nI a0) (ha : a0 ≤ 240) (hs : s + L ≤ a0) (h240 : a0 - L + l ≤ 240) : ∃ μ', p_Mo_replace μ0 (nI s) (nI L) x (nI l) = some μ' ∧ μ'.1 1 = nI (a0 - L + l) ∧ TFr μ0 μ' ∧ (∀ i, i < s → μ'.2.1 1 i = μ0.2.1 1 i) ∧ (∀ i, i < l → μ'.2.1 1 (s + i) = nI (Bf x l i)) ∧ (∀ i, s + L + i < a0 → μ'.2.1 1 (s + l + i) = μ0.2.1 1 (s + L + i)) := by
  obtain ⟨v, μ1, e1, e2, e3, e4⟩ := mdel (μ := μ0) (p := s) (d := L) h1 ha hs
  obtain ⟨μ', r1, r2⟩ := repL (x := x) (μ0 := μ0) l1 l8 hb (nI L) ha hs h240 l FU μ1 (Nat.le_refl _) (by unfold FU; omega) (by rw [e2, Nat.sub_self, Nat.add_zero]) e3 (fun i hi => by rw [e4, if_neg (by omega)]) (fun i hi => by omega) (fun i hi => by
    rw [e4, Nat.sub_self, Nat.add_zero, if_pos (by omega), show s + i + L = s + L + i by omega])
  refine ⟨μ', ?_, r2⟩
  unfold p_Mo_replace
  rw [e1, q_bd2, show nI l - 1 = nI (l - 1) from q_subL l1, ← q_dec l1]
  exact r1
end REP
/-- what follows when all is written -/
def finR (x5 x6 x8 : Int32) (σ : Sto) : Option (Int32 × Sto) :=
  bd1 (p_Mo_analyse σ) fun σ_157 =>
    (if (σ_157.1 5) = 0 then
      bd1 (p_Mo_diagnosticCount σ_157) fun v_168 =>
      (if v_168 = x8 then
        bd1 (p_Mo_same σ_157 x5) fun v_179 =>
        (if v_179 = 0 then
          bd2 (p_Mo_back σ_157) fun v_186 σ_186 =>
          some (v_186, σ_186)
        else
          some (x6, sS σ_157 0 0))
      else
        bd2 (p_Mo_back σ_157) fun v_186 σ_186 =>
        some (v_186, σ_186))
    else
      bd2 (p_Mo_back σ_157) fun v_186 σ_186 =>
      some (v_186, σ_186))
/-- all tokens from one on are written -/
def RS (C : Nat → Nat) (n N : Nat) (U : Nat → Bool) (l : Nat) (B : Nat → Nat) (A : Nat → Int32) (x : Nat) : Prop := (∀ i, i < oE C n x → A i = nI (C i)) ∧ (∀ t, x ≤ t → t < N → PC C n U l B A (oE C n x + (nE C n U l t - nE C n U l x)) t) ∧ ∀ i, i < n - oE C n N → A (oE C n x + (nE C n U l N - nE C n U l x) + i) = nI (C (oE C n N + i))
section WRT
variable {C : Nat → Nat} {n N : Nat} {U : Nat → Bool} {l L : Nat} {x : Int64} {μ0 : Sto}
theorem wrtL (hN : N ≤ 121) (l1 : 1 ≤ l) (l8 : l ≤ 8) (hb : ∀ i, i < l → p_LanguageServer_isCode (nI (bN x i)) = some 1) (hn : n ≤ 240) (hs : ∀ t, t < N → tS C n t < n) (hL : ∀ t, t < N → U t = true → en C n (tS C n t) - tS C n t = L) (h240 : nE C n U l N + (n - oE C n N) ≤ 240) (m5 : ∀ t, t < N → μ0.2.1 5 t = nI (tS C n t)) {u0 : Nat} (hu : u0 < N) (mU : ∀ t, t < N → (U t = true ↔ μ0.2.1 15 t = μ0.2.1 15 u0)) (x1 x6 x8 : Int32) : ∀ (w fuel : Nat) (μ : Sto), w ≤ N → w < fuel → TFr μ0 μ → μ.1 1 = nI (oE C n w + (nE C n U l N - nE C n U l w) + (n - oE C n N)) → RS C n N U l (Bf x l) (μ.2.1 1) w → ∃ μ', p_Mo_rename_L112 x1 x (nI l) fuel μ (nI u0) x6 (nI L) x8 (nI w + (-1)) = finR (nI u0) x6 x8 μ' ∧ TFr μ0 μ' ∧ μ'.1 1 = nI (nE C n U l N + (n - oE C n N)) ∧ RT C n N U l (Bf x l) (μ'.2.1 1) (nE C n U l N + (n - oE C n N)) := by
  have oN := fun t ht => oE_le (C := C) (n := n) (N := N) hs t ht
  have len : ∀ w, w ≤ N → oE C n w + (nE C n U l N - nE C n U l w) + (n - oE C n N) ≤ 240 := fun w hw => by
    have mo := nE_mono (C := C) (n := n) (U := U) (l := l) hw
    have o1 := oN N (Nat.le_refl _)
    by_cases c : L ≤ l
    · have := nE_gr hL c w hw
      omega
    · have := nE_sh hL (show l ≤ L by omega) (x := w) N hw (Nat.le_refl _)
      omega
  intro w
  induction w with
  | zero =>
    intro fuel μ hw hf fr h1 rs
    obtain ⟨f, rfl⟩ : ∃ f, fuel = f + 1 := ⟨fuel - 1, by omega⟩
    have z1 : oE C n 0 = 0 := rfl
    have z2 : nE C n U l 0 = 0 := rfl
    obtain ⟨_, r2, r3⟩ := rs
    simp only [z1, z2, Nat.zero_add, Nat.sub_zero] at h1 r2 r3
    refine ⟨μ, ?_, fr, h1, rfl, fun t ht => r2 t (Nat.zero_le _) ht, r3⟩
    unfold p_Mo_rename_L112
    rw [q_dec0, if_pos (by decide)]
    rfl
  | succ w ih =>
    intro fuel μ hw hf fr h1 rs
    obtain ⟨f, rfl⟩ : ∃ f, fuel = f + 1 := ⟨fuel - 1, by omega⟩
    have wN : w < N := by omega
    obtain ⟨r1, r2, r3⟩ := rs
    have os := oE_s (C := C) (n := n) (t := w)
    have o1 := oE_1 (C := C) (n := n) (t := w)
    have eg := en_gt (C := C) (n := n) (p := tS C n w)
    have e1 := nE_1 (C := C) (n := n) (U := U) (l := l) (t := w)
    have mN := nE_mono (C := C) (n := n) (U := U) (l := l) (show w + 1 ≤ N by omega)
    have mt : ∀ t, w + 1 ≤ t → nE C n U l (w + 1) ≤ nE C n U l t := fun t ht => nE_mono ht
    have ln := len w (by omega)
    have ln1 := len (w + 1) (by omega)
    have e15 : μ.2.1 15 = μ0.2.1 15 := fr.2 15 (by decide)
    have e5 : μ.2.1 5 = μ0.2.1 5 := fr.2 5 (by decide)
    unfold p_Mo_rename_L112
    rw [q_dec (show 1 ≤ w + 1 by omega), Nat.add_sub_cancel, if_neg (q_pos (by omega)), if_pos (q_inR (by omega) (by decide)), if_pos (q_inR (by omega) (by decide))]
    simp only [q_tn (show w < 2147483648 by omega), q_tn (show u0 < 2147483648 by omega), e15, e5]
    cases u : U w
    · rw [u, if_neg (by decide)] at e1
      rw [if_neg (fun z => by rw [(mU w wN).mpr z] at u; exact absurd u (by decide))]
      refine ih f μ (by omega) (by omega) fr ?_ ⟨fun i hi => r1 i (by omega), fun t t1 t2 => ?_, fun i hi => ?_⟩
      · rw [h1, show oE C n (w + 1) + (nE C n U l N - nE C n U l (w + 1)) + (n - oE C n N) = oE C n w + (nE C n U l N - nE C n U l w) + (n - oE C n N) by omega]
      · by_cases c : t = w
        · subst c
          rw [Nat.sub_self, Nat.add_zero]
          refine ⟨fun i hi => r1 _ (by omega), fun _ i hi => ?_, fun z => by rw [u] at z; exact absurd z (by decide)⟩
          rw [show oE C n t + (tS C n t - oE C n t) + i = tS C n t + i by omega]
          exact r1 _ (by omega)
        · have m1 := mt t (by omega)
          have := r2 t (by omega) t2
          rw [show oE C n (w + 1) + (nE C n U l t - nE C n U l (w + 1)) = oE C n w + (nE C n U l t - nE C n U l w) by omega] at this
          exact this
      · have := r3 i hi
        rw [show oE C n (w + 1) + (nE C n U l N - nE C n U l (w + 1)) = oE C n w + (nE C n U l N - nE C n U l w) by omega] at this
        exact this
    · rw [u, if_pos rfl] at e1
      have eL := hL w wN u
      obtain ⟨μ', a1, a2, a3, a4, a5, a6⟩ := mrep (x := x) (s := tS C n w) (L := L) l1 l8 hb h1 ln1 (by omega) (by omega)
      rw [if_pos ((mU w wN).mp u), if_pos (q_inR (by omega) (by decide)), m5 w wN, a1, q_bd1]
      refine ih f μ' (by omega) (by omega) (fr.trans a3) ?_ ⟨fun i hi => by rw [a4 i (by omega)]; exact r1 i (by omega), fun t t1 t2 => ?_, fun i hi => ?_⟩
      · rw [a2, show oE C n (w + 1) + (nE C n U l N - nE C n U l (w + 1)) + (n - oE C n N) - L + l = oE C n w + (nE C n U l N - nE C n U l w) + (n - oE C n N) by omega]
      · by_cases c : t = w
        · subst c
          rw [Nat.sub_self, Nat.add_zero]
          refine ⟨fun i hi => by rw [a4 _ (by omega)]; exact r1 _ (by omega), fun z => by rw [u] at z; exact absurd z (by decide), fun _ i hi => ?_⟩
          rw [show oE C n t + (tS C n t - oE C n t) = tS C n t by omega]
          exact a5 i hi
        · have m1 := mt t (by omega)
          have m2 := nE_mono (C := C) (n := n) (U := U) (l := l) (show t + 1 ≤ N by omega)
          have e2 := nE_1 (C := C) (n := n) (U := U) (l := l) (t := t)
          have key : ∀ i, i < tS C n t - oE C n t + (if U t = true then l else en C n (tS C n t) - tS C n t) → μ'.2.1 1 (oE C n w + (nE C n U l t - nE C n U l w) + i) = μ.2.1 1 (oE C n (w + 1) + (nE C n U l t - nE C n U l (w + 1)) + i) := fun i hi => by
            have := a6 (nE C n U l t - nE C n U l (w + 1) + i) (by omega)
            rw [show tS C n w + l + (nE C n U l t - nE C n U l (w + 1) + i) = oE C n w + (nE C n U l t - nE C n U l w) + i by omega, show tS C n w + L + (nE C n U l t - nE C n U l (w + 1) + i) = oE C n (w + 1) + (nE C n U l t - nE C n U l (w + 1)) + i by omega] at this
            exact this
          obtain ⟨p1, p2, p3⟩ := r2 t (by omega) t2
          refine ⟨fun i hi => by rw [key i (by omega)]; exact p1 i hi, fun z i hi => ?_, fun z i hi => ?_⟩
          · rw [Nat.add_assoc, key _ (by rw [z, if_neg (by decide)]; omega), ← Nat.add_assoc]; exact p2 z i hi
          · rw [Nat.add_assoc, key _ (by rw [z, if_pos rfl]; omega), ← Nat.add_assoc]; exact p3 z i hi
      · have := a6 (nE C n U l N - nE C n U l (w + 1) + i) (by omega)
        rw [show tS C n w + l + (nE C n U l N - nE C n U l (w + 1) + i) = oE C n w + (nE C n U l N - nE C n U l w) + i by omega, show tS C n w + L + (nE C n U l N - nE C n U l (w + 1) + i) = oE C n (w + 1) + (nE C n U l N - nE C n U l (w + 1)) + i by omega] at this
        rw [this]
        exact r3 i hi
end WRT
