/-! the text's own calls -/
def SimF (FR : Sto → Prop) (σ _τ μ : Sto) : Prop := TX σ μ ∧ (σ.1 0 = 1 ∨ (σ.1 0 = 0 ∧ FR σ))
theorem TX.thr {σ μ : Sto} {k : Int32} (h : TX σ μ) : TX σ (sS μ 0 k) := h
theorem code_eq (x : Int32) : p_Mo_code x = p_LanguageServer_isCode x := rfl
theorem code_cd {x : Int32} (h : p_LanguageServer_isCode x = some 1) : cdR x := by
  unfold p_LanguageServer_isCode at h
  by_cases h1 : x < 32
  · rw [if_pos h1] at h; exact absurd h (by decide)
  · rw [if_neg h1] at h
    by_cases h2 : (126 : Int32) < x
    · rw [if_pos h2] at h; exact absurd h (by decide)
    · exact ⟨Int32.not_lt.mp h1, Int32.not_lt.mp h2⟩
theorem code_01 (x : Int32) : p_LanguageServer_isCode x = some 0 ∨ p_LanguageServer_isCode x = some 1 := by
  unfold p_LanguageServer_isCode
  by_cases h1 : x < 32
  · rw [if_pos h1]; exact Or.inl rfl
  · rw [if_neg h1]
    by_cases h2 : (126 : Int32) < x
    · rw [if_pos h2]; exact Or.inl rfl
    · rw [if_neg h2]; exact Or.inr rfl
section TXT
variable {FR : Sto → Prop} {σ τ μ : Sto}
theorem sx_of {cs : List (Nat × Int32)} {Sim : Sto → Sto → Sto → Prop} {pl : Option Lr} {pm : Option (Int32 × Sto)} (q : Nat × Int32) {v b : Int32} {σ' τ' μ' : Sto} (hq : q ∈ cs) (h1 : pl = some (q.1, v, σ', τ')) (h2 : pm = some (b, μ')) (h3 : μ'.1 0 = q.2) (h4 : q.2 = 0 → v = b) (h5 : q.1 ≠ 4) (h6 : Sim σ' τ' μ') : Sx Sim pl pm cs :=
  ⟨q, hq, v, σ', τ', b, μ', h1, h2, h3, h4, by rw [if_neg h5]; exact h6⟩
theorem mo_ins (p : Nat) (x2 : Int32) : ∀ (j fuel : Nat) (μ : Sto), j < fuel → p + j ≤ 239 → ∃ μ', p_Mo_insert_L51 (nI p) x2 fuel μ (nI (p + j)) = some (μ.1 1 + 1, μ') ∧ (∀ k, μ'.1 k = if k = 1 then μ.1 1 + 1 else μ.1 k) ∧ ∀ i, μ'.2.1 1 i = if i = p then x2 else if p < i ∧ i ≤ p + j then μ.2.1 1 (i - 1) else μ.2.1 1 i := by
  intro j
  induction j with
  | zero =>
    intro fuel μ hf hp
    obtain ⟨n, rfl⟩ : ∃ n, fuel = n + 1 := ⟨fuel - 1, by omega⟩
    refine ⟨sS (sA μ 1 p x2) 1 (μ.1 1 + 1), ?_, fun k => rfl, fun i => ?_⟩
    · unfold p_Mo_insert_L51
      rw [if_pos ((q_le (by omega) (by omega)).mpr (by omega)), if_pos (q_inR (by omega) (by omega)), q_tn (by omega)]
      rfl
    · rw [q_S2, q_A2, if_pos rfl]
      by_cases hi : i = p
      · rw [if_pos hi, if_pos hi]
      · rw [if_neg hi, if_neg hi, if_neg (by omega)]
  | succ j ih =>
    intro fuel μ hf hp
    obtain ⟨n, rfl⟩ : ∃ n, fuel = n + 1 := ⟨fuel - 1, by omega⟩
    obtain ⟨μ', h1, h2, h3⟩ := ih n (sA μ 1 (p + (j + 1)) (μ.2.1 1 (p + j))) (by omega) (by omega)
    refine ⟨μ', ?_, h2, fun i => ?_⟩
    · unfold p_Mo_insert_L51
      have e1 : nI (p + (j + 1)) - 1 = nI (p + j) := q_sub (a := p + (j + 1)) (b := 1) (by omega)
      have e2 : nI (p + (j + 1)) + (-1) = nI (p + j) := q_dec (by omega)
      rw [if_neg (fun h => by have := (q_le (by omega) (by omega)).mp h; omega), e1, e2, if_pos (q_inR (by omega) (by omega)), if_pos (q_inR (by omega) (by omega)), q_tn (by omega), q_tn (by omega)]
      exact h1
    · rw [h3 i]
      simp only [q_A2, if_true]
      (repeat' split) <;> first | rfl | (exfalso; omega) | (rw [show i - 1 = p + j by omega])
theorem ok_insert (h : SimF FR σ τ μ) (x1 x2 : Int32) : Sx (SimF FR) (p_LanguageServer_insert σ τ x1 x2) (p_Mo_insert μ x1 x2) [(0, 0), (1, 1), (2, 2)] := by
  obtain ⟨⟨n, hn, hσ, hμ, ht⟩, hst⟩ := h
  have hT : ∀ k, TX σ (sS (sS μ 0 0) 0 k) := fun k => ⟨n, hn, hσ, hμ, ht⟩
  unfold p_LanguageServer_insert p_Mo_insert
  by_cases c1 : x1 < 0
  · rw [if_pos c1, if_pos c1]
    exact sx_of (1, 1) (by simp) rfl rfl rfl (fun h => absurd h (by decide)) (by decide) ⟨hT 1, hst⟩
  rw [if_neg c1, if_neg c1]
  obtain ⟨p, hp, rfl⟩ := nI_of c1
  have e1 : (sS μ 0 0).1 1 = nI n := hμ
  rw [e1, hσ]
  by_cases c2 : nI n < nI p
  · rw [if_pos c2, if_pos c2]
    exact sx_of (1, 1) (by simp) rfl rfl rfl (fun h => absurd h (by decide)) (by decide) ⟨hT 1, hst⟩
  rw [if_neg c2, if_neg c2, code_eq]
  have hpn : p ≤ n := by
    have := mt (q_lt (a := n) (b := p) (by omega) hp).mpr c2
    omega
  rcases code_01 x2 with c3 | c3
  · simp only [c3, q_bd1, if_true]
    exact sx_of (1, 1) (by simp) rfl rfl rfl (fun h => absurd h (by decide)) (by decide) ⟨hT 1, hst⟩
  simp only [c3, q_bd1, z10, if_false]
  by_cases c4 : n = 240
  · subst c4
    rw [if_neg (by decide), if_pos (show nI 240 = 240 from rfl)]
    exact sx_of (2, 2) (by simp) rfl rfl rfl (fun h => absurd h (by decide)) (by decide) ⟨hT 2, hst⟩
  have c5 : nI n < 240 := (q_ltL (by omega) (by omega)).mpr (by omega)
  have c6 : ¬ nI n = 240 := fun h => c4 ((q_eqL (by omega) (by omega)).mp h)
  rw [if_pos c5, if_neg c6]
  obtain ⟨μ', m1, m2, m3⟩ := mo_ins p x2 (n - p) FU (sS μ 0 0) (by unfold FU; omega) (by omega)
  rw [show p + (n - p) = n by omega] at m1 m3
  have e5 : nI n - nI p = nI (n - p) := q_sub hpn
  have e6 : nI p + 1 = nI (p + 1) := nI_1 p
  have hput : p_Text_put σ (nI p) x2 = some (sS (sA (sC σ 2 p (p + 1) (n - p)) 2 p x2) 1 (nI n + 1)) := by
    unfold p_Text_put
    simp only [hσ, e5, e6, q_tn (show p < 2147483648 by omega), q_tn (show p + 1 < 2147483648 by omega), q_tn (show n - p < 2147483648 by omega)]
    rw [if_pos ⟨q_pos (by omega), q_pos (by omega), q_pos (by omega), by omega, by omega⟩, if_pos (q_inR (by omega) (by omega)), q_A1, q_C1, hσ]
  rw [hput, q_bd1]
  have m1' : p_Mo_insert_L51 (nI p) x2 FU (sS μ 0 0) (nI n) = some (nI n + 1, μ') := by rw [m1]; rw [e1]
  refine sx_of (0, 0) (by simp) (v := nI n + 1) (b := nI n + 1) (μ' := μ') rfl m1' ?_ (fun _ => rfl) (by decide) ⟨⟨n + 1, by omega, ?_, ?_, ?_⟩, Or.inl rfl⟩
  · rw [m2]; rfl
  · exact nI_1 n
  · rw [m2, if_pos rfl, e1, nI_1]
  · intro i hi
    have hi2 : i < n + 1 := hi
    rw [m3 i]
    show (sS (sS (sA (sC σ 2 p (p + 1) (n - p)) 2 p x2) 1 (nI n + 1)) 0 1).2.1 2 i = _ ∧ _
    rw [q_S2, q_S2, q_A2, if_pos rfl, q_C2, if_pos rfl]
    by_cases h1 : i = p
    · rw [if_pos h1, if_pos h1]; exact ⟨rfl, code_cd c3⟩
    · rw [if_neg h1, if_neg h1]
      by_cases h2 : p < i ∧ i ≤ n
      · rw [if_pos h2, if_pos (by omega), show p + (i - (p + 1)) = i - 1 by omega]
        exact ht (i - 1) (by omega)
      · rw [if_neg h2, if_neg (by omega)]
        exact ht i (by omega)
end TXT
