section TXT2
variable {FR : Sto → Prop} {σ τ μ : Sto}
theorem nI_lit {a b : Nat} (h : a = b) : nI a = nI b := by rw [h]
/-- all bytes from one on are codes -/
def okB (x : Int64) (a n : Nat) : Prop := ∀ k, a ≤ k → k < n → p_LanguageServer_isCode (nI (bN x k)) = some 1
theorem areC (x : Int64) (n : Nat) (hn : n ≤ 8) : ∀ (j a fuel : Nat), j = n - a → a ≤ n → j < fuel → p_LanguageServer_areCodes_L2 x (nI n) fuel (nI a) = some 1 ∧ okB x a n ∨ p_LanguageServer_areCodes_L2 x (nI n) fuel (nI a) = some 0 ∧ ¬ okB x a n := by
  intro j
  induction j with
  | zero =>
    intro a fuel hj ha hf
    obtain ⟨m, rfl⟩ : ∃ m, fuel = m + 1 := ⟨fuel - 1, by omega⟩
    left
    unfold p_LanguageServer_areCodes_L2
    rw [if_pos ((q_le (by omega) (by omega)).mpr (by omega))]
    exact ⟨rfl, fun k h1 h2 => by omega⟩
  | succ j ih =>
    intro a fuel hj ha hf
    obtain ⟨m, rfl⟩ : ∃ m, fuel = m + 1 := ⟨fuel - 1, by omega⟩
    unfold p_LanguageServer_areCodes_L2
    rw [if_neg (fun h => by have := (q_le (by omega) (by omega)).mp h; omega), byteAt_eq x (by omega), q_bd1]
    rcases code_01 (nI (bN x a)) with c | c
    · right
      simp only [c, q_bd1, if_true]
      refine ⟨trivial, fun h => ?_⟩
      have := h a (Nat.le_refl _) (by omega)
      rw [c] at this
      exact absurd this (by decide)
    · simp only [c, q_bd1, z10, if_false, nI_1]
      rcases ih (a + 1) m (by omega) (by omega) (by omega) with ⟨h1, h2⟩ | ⟨h1, h2⟩
      · left
        refine ⟨h1, fun k h3 h4 => ?_⟩
        by_cases h5 : k = a
        · rw [h5]; exact c
        · exact h2 k (by omega) h4
      · right
        exact ⟨h1, fun h => h2 (fun k h3 h4 => h k (by omega) h4)⟩
theorem mo_app2 (x : Int64) (x3 : Int32) : ∀ (j fuel : Nat) (μ : Sto) (n : Nat), j < fuel → j ≤ 8 → μ.1 1 = nI n → n + j ≤ 240 → ∃ μ', p_Mo_append_L78 x x3 fuel μ (nI j + (-1)) = some (nI (n + j), μ') ∧ (∀ k, μ'.1 k = if k = 1 then nI (n + j) else μ.1 k) ∧ ∀ i, μ'.2.1 1 i = if n ≤ i ∧ i < n + j then nI (bN x (n + j - 1 - i)) else μ.2.1 1 i := by
  intro j
  induction j with
  | zero =>
    intro fuel μ n hf hj hμ hn
    obtain ⟨m, rfl⟩ : ∃ m, fuel = m + 1 := ⟨fuel - 1, by omega⟩
    refine ⟨μ, ?_, fun k => ?_, fun i => ?_⟩
    · unfold p_Mo_append_L78
      rw [q_dec0, if_pos (by decide), hμ]; rfl
    · split
      · next h => rw [h, hμ]; rfl
      · rfl
    · rw [if_neg (by omega)]
  | succ j ih =>
    intro fuel μ n hf hj hμ hn
    obtain ⟨m, rfl⟩ : ∃ m, fuel = m + 1 := ⟨fuel - 1, by omega⟩
    obtain ⟨μ', h1, h2, h3⟩ := ih m (sS (sA μ 1 n (nI (bN x j))) 1 (nI n + 1)) (n + 1) (by omega) (by omega) (nI_1 n) (by omega)
    refine ⟨μ', ?_, fun k => ?_, fun i => ?_⟩
    · unfold p_Mo_append_L78
      rw [q_dec (by omega), show j + 1 - 1 = j from rfl, if_neg (q_pos (by omega)), byteOf_eq x (by omega), q_bd1, hμ, if_pos (q_inR (by omega) (by omega)), q_tn (by omega), q_A1, hμ, h1, show n + 1 + j = n + (j + 1) by omega]
    · rw [h2 k, q_S1, show n + 1 + j = n + (j + 1) by omega]
      (repeat' split) <;> first | rfl | omega
    · rw [h3 i, q_S2, q_A2, if_pos rfl]
      (repeat' split) <;> first | rfl | (exfalso; omega) | (rw [show n + 1 + j - 1 - i = n + (j + 1) - 1 - i by omega]) | (rw [show n + (j + 1) - 1 - i = j by omega])
theorem mo_app1 (x : Int64) (n : Nat) (hn : n ≤ 8) (hn1 : 1 ≤ n) : ∀ (j a fuel : Nat) (μ : Sto) (L : Nat), j = n - a → a ≤ n → j < fuel → μ.1 1 = nI L → L ≤ 240 →
    (¬ okB x a n → p_Mo_append_L25 x (nI n) fuel μ (nI a) = some (0, sS μ 0 1)) ∧ (okB x a n → p_Mo_append_L25 x (nI n) fuel μ (nI a) = if L + n ≤ 240 then p_Mo_append_L78 x (nI n) FU μ (nI n + (-1)) else some (0, sS μ 0 2)) := by
  intro j
  induction j with
  | zero =>
    intro a fuel μ L hj ha hf hμ hL
    obtain ⟨m, rfl⟩ : ∃ m, fuel = m + 1 := ⟨fuel - 1, by omega⟩
    refine ⟨fun h => absurd (fun k h1 h2 => by omega) h, fun _ => ?_⟩
    unfold p_Mo_append_L25
    rw [if_pos ((q_le (by omega) (by omega)).mpr (by omega)), hμ, q_add]
    by_cases h : L + n ≤ 240
    · rw [if_pos ((q_leL (by omega) (by decide)).mpr h), if_pos h, q_dec (by omega), q_subL (by exact hn1)]
    · rw [if_neg (fun h2 => h ((q_leL (by omega) (by decide)).mp h2)), if_neg h]
      rfl
  | succ j ih =>
    intro a fuel μ L hj ha hf hμ hL
    obtain ⟨m, rfl⟩ : ∃ m, fuel = m + 1 := ⟨fuel - 1, by omega⟩
    obtain ⟨i1, i2⟩ := ih (a + 1) m μ L (by omega) (by omega) (by omega) hμ hL
    have e : p_Mo_append_L25 x (nI n) (m + 1) μ (nI a) = bd1 (p_LanguageServer_isCode (nI (bN x a))) fun v => if v = 0 then some (0, sS μ 0 1) else p_Mo_append_L25 x (nI n) m μ (nI (a + 1)) := by
      conv => lhs; unfold p_Mo_append_L25
      rw [if_neg (fun h => by have := (q_le (by omega) (by omega)).mp h; omega), byteOf_eq x (by omega), q_bd1, nI_1]
      rfl
    rw [e]
    rcases code_01 (nI (bN x a)) with c | c
    · simp only [c, q_bd1, if_true]
      refine ⟨fun _ => trivial, fun h => ?_⟩
      have := h a (Nat.le_refl _) (by omega)
      rw [c] at this
      exact absurd this (by decide)
    · simp only [c, q_bd1, z10, if_false]
      refine ⟨fun h => i1 (fun h2 => h (fun k h3 h4 => ?_)), fun h => i2 (fun k h3 h4 => h k (by omega) h4)⟩
      by_cases h5 : k = a
      · rw [h5]; exact c
      · exact h2 k (by omega) h4
theorem tx_add (x : Int64) (x3 : Int32) : ∀ (j fuel : Nat) (σ : Sto) (n : Nat), j < fuel → j ≤ 8 → σ.1 1 = nI n → n + j ≤ 240 → ∃ σ', p_Text_addBytes_L5 x x3 fuel σ (nI j + (-1)) = some σ' ∧ (∀ k, σ'.1 k = if k = 1 then nI (n + j) else σ.1 k) ∧ (∀ a i, σ'.2.1 a i = if a = 2 ∧ n ≤ i ∧ i < n + j then nI (bN x (n + j - 1 - i)) else σ.2.1 a i) ∧ σ'.2.2 = σ.2.2 := by
  intro j
  induction j with
  | zero =>
    intro fuel σ n hf hj hσ hn
    obtain ⟨m, rfl⟩ : ∃ m, fuel = m + 1 := ⟨fuel - 1, by omega⟩
    refine ⟨σ, ?_, fun k => ?_, fun a i => ?_, rfl⟩
    · unfold p_Text_addBytes_L5
      rw [q_dec0, if_pos (by decide)]
    · split
      · next h => rw [h, hσ]; rfl
      · rfl
    · rw [if_neg (by omega)]
  | succ j ih =>
    intro fuel σ n hf hj hσ hn
    obtain ⟨m, rfl⟩ : ∃ m, fuel = m + 1 := ⟨fuel - 1, by omega⟩
    obtain ⟨σ', h1, h2, h3, h4⟩ := ih m (sS (sA σ 2 n (nI (bN x j))) 1 (nI n + 1)) (n + 1) (by omega) (by omega) (nI_1 n) (by omega)
    refine ⟨σ', ?_, fun k => ?_, fun a i => ?_, h4⟩
    · unfold p_Text_addBytes_L5 p_Text_add
      rw [q_dec (by omega), show j + 1 - 1 = j from rfl, if_neg (q_pos (by omega)), byteAt_eq x (by omega), q_bd1, hσ, if_neg (fun h => by have := (q_Lle (by decide) (by omega)).mp h; omega), if_pos (q_inR (by omega) (by omega)), q_bd1, q_tn (by omega), q_A1, hσ, h1]
    · rw [h2 k, q_S1, show n + 1 + j = n + (j + 1) by omega]
      (repeat' split) <;> first | rfl | omega
    · rw [h3 a i, q_S2, q_A2]
      (repeat' split) <;> first | rfl | (exfalso; omega) | (rw [show n + 1 + j - 1 - i = n + (j + 1) - 1 - i by omega]) | (rw [show n + (j + 1) - 1 - i = j by omega])
theorem ok_append (h : SimF FR σ τ μ) (x1 : Int64) (x3 : Int32) : Sx (SimF FR) (p_LanguageServer_append σ τ x1 x3) (p_Mo_append μ x1 x3) [(0, 0), (1, 1), (2, 2)] := by
  obtain ⟨⟨L, hL, hσ, hμ, ht⟩, hst⟩ := h
  have hT : ∀ k, TX σ (sS (sS μ 0 0) 0 k) := fun k => ⟨L, hL, hσ, hμ, ht⟩
  unfold p_LanguageServer_append p_Mo_append
  by_cases c1 : x3 < 1
  · rw [if_pos c1, if_pos c1]
    exact sx_of (1, 1) (by simp) rfl rfl rfl (fun h => absurd h (by decide)) (by decide) ⟨hT 1, hst⟩
  rw [if_neg c1, if_neg c1]
  by_cases c2 : (8 : Int32) < x3
  · rw [if_pos c2, if_neg (Int32.not_le.mpr c2)]
    exact sx_of (1, 1) (by simp) rfl rfl rfl (fun h => absurd h (by decide)) (by decide) ⟨hT 1, hst⟩
  rw [if_neg c2, if_pos (Int32.not_lt.mp c2)]
  have c0 : ¬ x3 < 0 := fun h => c1 (Int32.lt_trans h (by decide))
  obtain ⟨n, hn, rfl⟩ := nI_of c0
  have n8 : n ≤ 8 := by
    have := mt (q_Llt (k := 8) (t := n) (by decide) hn).mpr c2
    have : ¬ 8 < n := this
    omega
  have n1 : 1 ≤ n := by
    have := mt (q_ltL (k := 1) (t := n) hn (by decide)).mpr c1
    have : ¬ n < 1 := this
    omega
  have e1 : (sS μ 0 0).1 1 = nI L := hμ
  obtain ⟨i1, i2⟩ := mo_app1 x1 n n8 n1 n 0 FU (sS μ 0 0) L (by omega) (by omega) (by unfold FU; omega) e1 hL
  unfold p_LanguageServer_areCodes
  rcases areC x1 n n8 n 0 FU (by omega) (by omega) (by unfold FU; omega) with ⟨a1, a2⟩ | ⟨a1, a2⟩
  · rw [show p_LanguageServer_areCodes_L2 x1 (nI n) FU 0 = some 1 from a1, show p_Mo_append_L25 x1 (nI n) FU (sS μ 0 0) 0 = _ from i2 a2]
    simp only [q_bd1, z10, if_false, hσ, q_add]
    by_cases h : L + n ≤ 240
    · rw [if_pos ((q_leL (by omega) (by decide)).mpr h), if_pos h]
      obtain ⟨μ', m1, m2, m3⟩ := mo_app2 x1 (nI n) n FU (sS μ 0 0) L (by unfold FU; omega) n8 e1 h
      obtain ⟨σ', s1, s2, s3, s4⟩ := tx_add x1 (nI n) n FU σ L (by unfold FU; omega) n8 hσ h
      have s1' : p_Text_addBytes σ x1 (nI n) = some σ' := by
        unfold p_Text_addBytes
        rw [← s1, q_dec n1, q_subL (by exact n1)]
      rw [s1', q_bd1]
      refine sx_of (0, 0) (by simp) (v := nI (L + n)) (b := nI (L + n)) (μ' := μ') (σ' := sS σ' 0 1) (τ' := τ) ?_ m1 ?_ (fun _ => rfl) (by decide) ⟨⟨L + n, h, ?_, ?_, ?_⟩, Or.inl rfl⟩
      · show some (0, (sS σ' 0 1).1 1, sS σ' 0 1, τ) = _
        rw [show (sS σ' 0 1).1 1 = σ'.1 1 from rfl, s2]
        rfl
      · rw [m2]; rfl
      · show σ'.1 1 = _
        rw [s2]; rfl
      · rw [m2]; rfl
      · intro i hi
        rw [m3 i]
        show σ'.2.1 2 i = _ ∧ _
        rw [s3 2 i]
        by_cases h1 : L ≤ i
        · rw [if_pos ⟨rfl, h1, hi⟩, if_pos ⟨h1, hi⟩]
          exact ⟨rfl, code_cd (a2 _ (by omega) (by omega))⟩
        · rw [if_neg (by omega), if_neg (by omega)]
          exact ht i (by omega)
    · rw [if_neg (fun h2 => h ((q_leL (by omega) (by decide)).mp h2)), if_neg h]
      exact sx_of (2, 2) (by simp) rfl rfl rfl (fun h => absurd h (by decide)) (by decide) ⟨hT 2, hst⟩
  · rw [show p_LanguageServer_areCodes_L2 x1 (nI n) FU 0 = some 0 from a1, show p_Mo_append_L25 x1 (nI n) FU (sS μ 0 0) 0 = _ from i1 a2]
    simp only [q_bd1, if_true]
    exact sx_of (1, 1) (by simp) rfl rfl rfl (fun h => absurd h (by decide)) (by decide) ⟨hT 1, hst⟩
theorem mo_del (p d : Nat) : ∀ (j fuel : Nat) (μ : Sto) (L k : Nat), j = L - (k + d) → j < fuel → μ.1 1 = nI L → L ≤ 240 → d ≤ L → p ≤ k → k ≤ L → ∃ μ', p_Mo_delete_L39 (nI p) (nI d) fuel μ (nI k) = some (nI (L - d), μ') ∧ (∀ q, μ'.1 q = if q = 1 then nI (L - d) else μ.1 q) ∧ ∀ i, μ'.2.1 1 i = if k ≤ i ∧ i + d < L then μ.2.1 1 (i + d) else μ.2.1 1 i := by
  intro j
  induction j with
  | zero =>
    intro fuel μ L k hj hf hμ hL hd hp hk
    obtain ⟨m, rfl⟩ : ∃ m, fuel = m + 1 := ⟨fuel - 1, by omega⟩
    refine ⟨sS μ 1 (nI (L - d)), ?_, fun q => rfl, fun i => ?_⟩
    · unfold p_Mo_delete_L39
      rw [hμ, q_add, if_pos ((q_le (by omega) (by omega)).mpr (by omega)), q_sub hd]
      rfl
    · rw [if_neg (by omega)]
      rfl
  | succ j ih =>
    intro fuel μ L k hj hf hμ hL hd hp hk
    obtain ⟨m, rfl⟩ : ∃ m, fuel = m + 1 := ⟨fuel - 1, by omega⟩
    obtain ⟨μ', h1, h2, h3⟩ := ih m (sA μ 1 k (μ.2.1 1 (k + d))) L (k + 1) (by omega) (by omega) hμ hL hd (by omega) (by omega)
    refine ⟨μ', ?_, h2, fun i => ?_⟩
    · unfold p_Mo_delete_L39
      rw [hμ, q_add, if_neg (fun h => by have := (q_le (by omega) (by omega)).mp h; omega), if_pos (q_inR (by omega) (by omega)), if_pos (q_inR (by omega) (by omega)), q_tn (by omega), q_tn (by omega), nI_1]
      exact h1
    · rw [h3 i, q_A2, q_A2, if_pos rfl, if_pos rfl]
      by_cases e : i = k
      · subst e
        rw [if_neg (by omega), if_pos rfl, if_pos (by omega)]
      · by_cases h5 : k + 1 ≤ i ∧ i + d < L
        · rw [if_pos h5, if_neg (by omega), if_pos (by omega)]
        · rw [if_neg h5, if_neg e, if_neg (by omega)]
theorem ok_delete (h : SimF FR σ τ μ) (x1 x2 : Int32) : Sx (SimF FR) (p_LanguageServer_delete σ τ x1 x2) (p_Mo_delete μ x1 x2) [(0, 0), (1, 1)] := by
  obtain ⟨⟨L, hL, hσ, hμ, ht⟩, hst⟩ := h
  have hT : ∀ k, TX σ (sS (sS μ 0 0) 0 k) := fun k => ⟨L, hL, hσ, hμ, ht⟩
  have bad : Sx (SimF FR) (some (1, 0, σ, τ)) (some (0, sS (sS μ 0 0) 0 1)) [(0, 0), (1, 1)] := sx_of (1, 1) (by simp) rfl rfl rfl (fun h => absurd h (by decide)) (by decide) ⟨hT 1, hst⟩
  unfold p_LanguageServer_delete p_Mo_delete
  by_cases c1 : x1 < 0
  · rw [if_pos c1, if_pos c1]
    exact bad
  rw [if_neg c1, if_neg c1]
  obtain ⟨p, hp, rfl⟩ := nI_of c1
  have e1 : (sS μ 0 0).1 1 = nI L := hμ
  rw [e1, hσ]
  by_cases c3 : x2 < 0
  · rw [if_pos c3, if_pos c3]
    by_cases c2 : nI L < nI p
    · rw [if_pos c2]; exact bad
    · rw [if_neg c2]; exact bad
  rw [if_neg c3, if_neg c3]
  obtain ⟨d, hd, rfl⟩ := nI_of c3
  by_cases c2 : nI L < nI p
  · rw [if_pos c2, if_pos c2]; exact bad
  rw [if_neg c2, if_neg c2]
  have hpL : p ≤ L := by
    have := mt (q_lt (a := L) (b := p) (by omega) hp).mpr c2
    omega
  rw [q_sub hpL]
  by_cases c4 : nI d ≤ nI (L - p)
  · rw [if_pos c4, if_pos c4]
    have hdL : d ≤ L - p := (q_le hd (by omega)).mp c4
    obtain ⟨μ', m1, m2, m3⟩ := mo_del p d (L - (p + d)) FU (sS μ 0 0) L p rfl (by unfold FU; omega) e1 hL (by omega) (Nat.le_refl _) hpL
    have hput : p_Text_take σ (nI p) (nI d) = some (sS (sC σ 2 (p + d) p (L - p - d)) 1 (nI (L - d))) := by
      unfold p_Text_take
      simp only [hσ, q_sub hpL, q_sub hdL, q_add, q_C1, q_sub (show d ≤ L by omega), q_tn (show p < 2147483648 by omega), q_tn (show p + d < 2147483648 by omega), q_tn (show L - p - d < 2147483648 by omega)]
      rw [if_pos ⟨q_pos (by omega), q_pos (by omega), q_pos (by omega), by omega, by omega⟩]
    rw [hput, q_bd1]
    refine sx_of (0, 0) (by simp) (v := nI (L - d)) (b := nI (L - d)) (μ' := μ') rfl m1 ?_ (fun _ => rfl) (by decide) ⟨⟨L - d, by omega, rfl, ?_, ?_⟩, Or.inl rfl⟩
    · rw [m2]; rfl
    · rw [m2]; rfl
    · intro i hi
      rw [m3 i]
      show (sS (sS (sC σ 2 (p + d) p (L - p - d)) 1 (nI (L - d))) 0 1).2.1 2 i = _ ∧ _
      rw [q_S2, q_S2, q_C2, if_pos rfl]
      by_cases h1 : p ≤ i
      · rw [if_pos (by omega), if_pos (by omega), show p + d + (i - p) = i + d by omega]
        exact ht (i + d) (by omega)
      · rw [if_neg (by omega), if_neg (by omega)]
        exact ht i (by omega)
  · rw [if_neg c4, if_neg c4]; exact bad
theorem ok_text (h : SimF FR σ τ μ) (x1 : Int32) : Sx (SimF FR) (p_LanguageServer_text σ τ x1) (p_Mo_text μ x1) [(0, 0), (3, 1)] := by
  obtain ⟨⟨L, hL, hσ, hμ, ht⟩, hst⟩ := h
  have hT : ∀ k, TX σ (sS (sS μ 0 0) 0 k) := fun k => ⟨L, hL, hσ, hμ, ht⟩
  have bad : Sx (SimF FR) (some (3, 0, σ, τ)) (some (0, sS (sS μ 0 0) 0 1)) [(0, 0), (3, 1)] := sx_of (3, 1) (by simp) rfl rfl rfl (fun h => absurd h (by decide)) (by decide) ⟨hT 1, hst⟩
  unfold p_LanguageServer_text p_Mo_text
  by_cases c1 : x1 < 0
  · rw [if_pos c1, if_pos c1]
    exact bad
  rw [if_neg c1, if_neg c1]
  obtain ⟨p, hp, rfl⟩ := nI_of c1
  have e1 : (sS μ 0 0).1 1 = nI L := hμ
  rw [e1, hσ]
  by_cases c2 : nI p < nI L
  · have hpL : p < L := (q_lt hp (by omega)).mp c2
    rw [if_pos c2, if_pos c2, if_pos (q_inR (by omega) (by omega)), if_pos (q_inR (by omega) (by omega)), q_tn (by omega)]
    exact sx_of (0, 0) (by simp) (μ' := sS μ 0 0) rfl rfl rfl (fun _ => (ht p hpL).1) (by decide) ⟨⟨L, hL, hσ, hμ, ht⟩, hst⟩
  · rw [if_neg c2, if_neg c2]
    exact bad
end TXT2
