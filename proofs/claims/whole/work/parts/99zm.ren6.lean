/-! rename -/
section REN2
variable {σ τ μ : Sto} {n N m : Nat} {C : Nat → Nat} {z0 : Sto × Sto}
theorem uses_f (tc : TC σ n C) (iN : isNt C n N) (tkm : TkM C n μ N) (eb : EB z0 (KK C n N) N μ.2.2 N σ μ) (dm : Dcl (KK C n N) N μ.2.2 m) : N ≤ 120 ∧ n ≤ tS C n N ∧ (∀ t, t < N → kdN C n t (tS C n t) ≠ 9) ∧ σ.2.1 11 m = nI m ∧ ∀ t, t < N → σ.2.1 11 t = nI m → isLN (C (tS C n t)) = true ∧ en C n (tS C n t) - tS C n t = en C n (tS C n m) - tS C n m := by
  obtain ⟨sc, hW, hp, h12, sm, ew, ag, rs, _⟩ := eb
  have hN := sc.1
  have mN := dm.1
  have k9 : ∀ t, t < N → kdN C n t (tS C n t) ≠ 9 := fun t ht e => by
    refine kd9 (K := KK C n N) (t := t) (sc.al (by omega)) ?_
    unfold KK
    rw [if_pos ht, e]
    rfl
  have N120 : N ≤ 120 := by
    by_cases c : N ≤ 120
    · exact c
    · refine absurd ?_ (k9 120 (by omega))
      unfold kdN
      rw [if_pos rfl]
  have fin : n ≤ tS C n N := by
    rcases iN.2.2.2 with z | z | ⟨t, z1, z2⟩
    · omega
    · exact z
    · exact absurd z2 (k9 t (by omega))
  have mm : σ.2.1 11 m = nI m := by
    rw [(rs.2.2 m mN).1 (fun y => ?_)]
    · exact dm.2.1
    · rcases dm.2.2 with r | r | r | r | r <;> rw [r] at y <;> exact absurd y (by decide)
  have k1 : ∀ t, t < N → σ.2.1 11 t = nI m → KK C n N t = 1 := fun t ht z => by
    refine nameK (sc.al (by omega)) (fun r0 => ?_)
    have := (rs.2.2 t ht).1 (fun y => by rcases y with y | y | y | y <;> rw [y] at r0 <;> exact absurd r0 (by decide))
    rw [z, an0_0 r0] at this
    exact q_neg (show m < 2147483648 by omega) this
  have f : ∀ t, t < N → σ.2.1 11 t = nI m → isLN (C (tS C n t)) = true ∧ wdO (wN C (tS C n t) (en C n (tS C n t) - tS C n t)) (en C n (tS C n t) - tS C n t) ∧ μ.2.2 t = lN (wN C (tS C n t) (en C n (tS C n t) - tS C n t)) := fun t ht z => by
    have kw := k1 t ht z
    unfold KK at kw
    rw [if_pos ht] at kw
    have g := kdN_ge C n t (tS C n t)
    have kd : kdN C n t (tS C n t) = 1 := (q_eqL (by omega) (by decide)).mp kw
    have tl := iN.2.1 t ht
    obtain ⟨l, e8⟩ := kd1 kd (fun i _ hi => (tc.2.2 i hi).2.1) tl
    exact ⟨l, en_wd tc tl l e8, (tkm t ht).2.2.2 l e8⟩
  refine ⟨N120, fin, k9, mm, fun t ht z => ?_⟩
  obtain ⟨a1, a2, a3⟩ := f t ht z
  obtain ⟨b1, b2, b3⟩ := f m mN mm
  refine ⟨a1, ?_⟩
  have wq : μ.2.2 m = μ.2.2 t := by
    rcases (rs.2.2 t ht).2 with y | ⟨m', y, dm', wm⟩
    · rw [z] at y
      exact absurd y (q_neg (by omega))
    · rw [z] at y
      have ml := dm'.1
      have : m = m' := (q_eq (by omega) (by omega)).mp y
      rw [this]; exact wm
  rw [a3, b3] at wq
  have t1 := wdO_lt a2
  have t2 := wdO_lt b2
  have e := (lN_inj (by omega) (by omega)).mp wq
  rw [e] at b2
  exact wdO_len a2 b2
/-- one text for both -/
theorem rt_chars {σ μ : Sto} {U : Nat → Bool} {l n' : Nat} {B : Nat → Nat} (hC : ∀ i, i < n → 32 ≤ C i ∧ C i ≤ 126) (hB : ∀ i, i < l → 48 ≤ B i ∧ B i ≤ 122) (hs : ∀ t, t < N → tS C n t < n) (h240 : n' ≤ 240) (s1 : σ.1 1 = nI n') (m1 : μ.1 1 = nI n') (rs : RT C n N U l B (σ.2.1 2) n') (rm : RT C n N U l B (μ.2.1 1) n') : ∃ D, TC σ n' D ∧ TM μ n' D := by
  have cd : ∀ i, i < n' → ∃ c, σ.2.1 2 i = nI c ∧ 32 ≤ c ∧ c ≤ 126 := fun i hi => by
    rcases rt_all rs hs hi with ⟨j, j1, j2⟩ | ⟨j, j1, j2⟩
    · exact ⟨_, j2, hC j j1⟩
    · exact ⟨_, j2, by have := hB j j1; omega⟩
  have nc : ∀ i, i < n' → σ.2.1 2 i = nI (σ.2.1 2 i).toNatClampNeg ∧ 32 ≤ (σ.2.1 2 i).toNatClampNeg ∧ (σ.2.1 2 i).toNatClampNeg ≤ 126 := fun i hi => by
    obtain ⟨c, c1, c2⟩ := cd i hi
    rw [c1, q_tn (by omega)]
    exact ⟨rfl, c2⟩
  refine ⟨fun i => (σ.2.1 2 i).toNatClampNeg, ⟨h240, s1, nc⟩, h240, m1, fun i hi => ?_⟩
  rw [← (rt_uq rs rm).2 i hi]
  exact nc i hi
theorem ren_cap {U : Nat → Bool} {l L : Nat} (hn : n ≤ 240) (hN : N ≤ 120) (hs : ∀ t, t < N → tS C n t < n) (l8 : l ≤ 8) (hL : ∀ t, t < N → U t = true → en C n (tS C n t) - tS C n t = L) (h : nI n + nI (cn U N 0) * (nI l - nI L) ≤ 240) : nE C n U l N + (n - oE C n N) ≤ 240 := by
  have e := nE_len (l := l) hL N (Nat.le_refl _)
  have oN := oE_le (C := C) (n := n) (N := N) hs N (Nat.le_refl _)
  have cl := cn_le U N 0
  by_cases c : L ≤ l
  · rw [q_sub c, q_mul, q_add] at h
    have b : cn U N 0 * (l - L) ≤ 120 * 8 := Nat.mul_le_mul (by omega) (by omega)
    have h' : n + cn U N 0 * (l - L) ≤ 240 := (q_leL (by omega) (by decide)).mp h
    rw [Nat.mul_sub] at h'
    have : cn U N 0 * L ≤ cn U N 0 * l := Nat.mul_le_mul_left _ c
    omega
  · have : cn U N 0 * l ≤ cn U N 0 * L := Nat.mul_le_mul_left _ (by omega)
    omega
theorem ren_main {x : Int64} {l u : Nat} {D0 : Nat} {x1 : Int32} (h : SimF FR σ τ μ) (hz : σ.1 0 = 0) (tc : TC σ n C) (tm : TM μ n C) (iN : isNt C n N) (tk : TkC C n σ N) (tkm : TkM C n μ N) (eb : EB z0 (KK C n N) N μ.2.2 N σ μ) (hu : u < N) (dm : Dcl (KK C n N) N μ.2.2 m) (mu : σ.2.1 11 u = nI m) (d0 : D0 < 2000) (tot : p_Complaints_total σ = some (nI D0)) (l1 : 1 ≤ l) (l8 : l ≤ 8) (hg : ∀ i, i < l → gB x l i = true) (hw : wkN (wN (Bf x l) 0 l) = 1) (cap : nI n + nI (cn (fun t => decide (σ.2.1 11 t = nI m)) N 0) * (nI l - nI (en C n (tS C n m) - tS C n m)) ≤ 240) : Sx (SimF FR) (bd1 (p_Reading_takeRenamed τ σ (nI m) x (nI l)) fun σ_134 => bd1 (p_Reading_refresh σ_134) fun σ_141 => bd1 (p_Reading_agreesWith σ_141 σ (nI m)) fun v_154 => if v_154 = 0 then some (2, 0, σ, σ_141) else some (4, nI (cn (fun t => decide (σ.2.1 11 t = nI m)) N 0), σ, σ_141)) (bd1 (p_Mo_save μ) fun σ_101 => p_Mo_rename_L112 x1 x (nI l) FU σ_101 (nI u) (nI (cn (fun t => decide (σ.2.1 11 t = nI m)) N 0)) (nI (en C n (tS C n m) - tS C n m)) (nI D0) ((σ_101.1 3) - 1)) [(4, 0), (3, 1), (1, 2), (2, 3)] := by
  obtain ⟨N120, fin, k9, mm, uf⟩ := uses_f tc iN tkm eb dm
  have mN := dm.1
  have hn := tc.1
  have hs := iN.2.1
  have s3 := eb.1.2.2.2.1
  have m3 := eb.2.2.2.2.1.2.2.1
  have ag := eb.2.2.2.2.2.2.1
  generalize hU : (fun t => decide (σ.2.1 11 t = nI m)) = U at cap ⊢
  generalize hLd : en C n (tS C n m) - tS C n m = L at cap ⊢
  have Ui : ∀ t, U t = true ↔ σ.2.1 11 t = nI m := fun t => by rw [← hU]; exact decide_eq_true_iff
  have hL : ∀ t, t < N → U t = true → en C n (tS C n t) - tS C n t = L := fun t ht z => by rw [← hLd]; exact (uf t ht ((Ui t).mp z)).2
  have h240 := ren_cap hn N120 hs l8 hL cap
  have bB : ∀ i, i < l → 48 ≤ Bf x l i ∧ Bf x l i ≤ 122 := fun i hi => ld_c (gB_ok hg i hi)
  -- the class
  obtain ⟨σ1, e1, s10, s11, rt1⟩ := tkrL (C := C) (n := n) (N := N) (U := U) (l := l) (x := x) (ρ := σ) hn (by omega) l8 l1 s3 tc.2.1 (fun t ht => ⟨(tk t ht).1, (tk t ht).2.1⟩) (fun i hi => (tc.2.2 i hi).1) hs (fun t _ => Ui t) h240 N 0 FU (sS τ 1 0) 0 (by omega) (by unfold FU; omega) (Nat.le_refl _) (fun t t1 t2 => by omega) rfl (fun t ht => by omega)
  have e1' : p_Reading_takeRenamed τ σ (nI m) x (nI l) = some σ1 := e1
  -- the reference
  obtain ⟨μs, v1, v2, v3, v4, v5⟩ := mo_save (μ := μ) (N := N) (by omega) m3
  have ms3 : μs.1 3 = nI N := by rw [v2, if_neg (by decide)]; exact m3
  have s15 : ∀ t, t < N → μs.2.1 15 t = σ.2.1 11 t := fun t ht => by rw [v5 t (by omega), if_pos ht]; exact (ag.1 t ht).symm
  have hbc : ∀ i, i < l → p_LanguageServer_isCode (nI (bN x i)) = some 1 := fun i hi => by
    have b := bB (l - 1 - i) (by omega)
    unfold Bf at b
    rw [show l - 1 - (l - 1 - i) = i by omega] at b
    unfold p_LanguageServer_isCode
    rw [if_neg (fun z => by have : bN x i < 32 := (q_ltL (by omega) (by decide)).mp z; omega), if_neg (fun z => by have : 126 < bN x i := (q_Llt (by decide) (by omega)).mp z; omega)]
  obtain ⟨μ2, w1, w2, w3, rt2⟩ := wrtL (C := C) (n := n) (N := N) (U := U) (l := l) (L := L) (x := x) (μ0 := μs) (by omega) l1 l8 hbc hn hs hL h240 (fun t ht => by rw [v3 5 (by decide) (by decide)]; exact (tkm t ht).1) hu (fun t ht => by rw [s15 t ht, s15 u hu, mu]; exact Ui t) x1 (nI (cn U N 0)) (nI D0) N FU μs (Nat.le_refl _) (by unfold FU; omega) (TFr.refl μs) (by
      rw [v2, if_neg (by decide), tm.2.1, Nat.sub_self, Nat.add_zero]
      have := oE_le (C := C) (n := n) (N := N) hs N (Nat.le_refl _)
      rw [show oE C n N + (n - oE C n N) = n by omega]) ⟨fun i hi => by
      rw [v3 1 (by decide) (by decide)]
      have := oE_le (C := C) (n := n) (N := N) hs N (Nat.le_refl _)
      exact (tm.2.2 i (by omega)).1, fun t t1 t2 => by omega, fun i hi => by
      rw [v3 1 (by decide) (by decide), Nat.sub_self, Nat.add_zero]
      exact (tm.2.2 _ (by omega)).1⟩
  obtain ⟨C1, tc1, tm1⟩ := rt_chars (σ := σ1) (μ := μ2) (fun i hi => (tc.2.2 i hi).2) bB hs h240 s11 w3 rt1 rt2
  obtain ⟨σ3, μ3, r1, r2, rd, tc3, tm3, z3, af⟩ := core tc1 tm1 s10
  have fr3 : FR σ3 := by
    obtain ⟨σ', f1, _, f2, _⟩ := fresh (σ := σ1) (τ := τ) (μ := μ2) ⟨TX.of tc1 tm1, Or.inl s10⟩
    rw [r1] at f1
    rw [Option.some.inj f1]; exact f2
  have ms1 : nI N - 1 = nI N + (-1) := by rw [show nI N - 1 = nI (N - 1) from q_subL (by omega), q_dec (by omega)]
  rw [e1', q_bd1, r1, q_bd1, v1, q_bd1, ms3, ms1, w1]
  unfold finR
  rw [r2, q_bd1]
  -- failing
  obtain ⟨μ4, b1, b2, b3⟩ := mo_back (μ := μ3)
  have tx4 : TX σ (sS μ4 0 3) := by
    refine TX.of tc ⟨hn, ?_, fun i hi => ?_⟩
    · show μ4.1 1 = _
      rw [b2, af.1 2 (by decide), w2.1 2 (by decide) (by decide), v2, if_pos rfl]
      exact tm.2.1
    · show μ4.2.1 1 i = _ ∧ _
      rw [b3 i (by omega), af.2 2 (by decide), w2.2 2 (by decide), v4 i (by omega)]
      exact tm.2.2 i hi
  have frσ : FR σ := by
    rcases h.2 with y | y
    · rw [hz] at y; exact absurd y (by decide)
    · exact y.2
  have bad : Sx (SimF FR) (some (2, 0, σ, σ3)) (some (0, sS μ4 0 3)) [(4, 0), (3, 1), (1, 2), (2, 3)] := sx_of (2, 3) (by simp) rfl rfl rfl (fun h => absurd h (by decide)) (by decide) ⟨tx4, Or.inr ⟨hz, frσ⟩⟩
  have ag0 : σ3.2.1 11 m = -1 → p_Reading_agreesWith σ3 σ (nI m) = some 0 := fun y => by
    unfold p_Reading_agreesWith
    rw [if_pos (q_inR (by omega) (by decide)), q_tn (by omega), if_pos y]
  rcases rd with rd | rd
  · obtain ⟨D, dl, d1, d2, _⟩ := rd.dia
    obtain ⟨n2, N2, C2, z2, tc2, tm2, iN2, tk2, tkm2, eb2, f5, g5⟩ := rd
    have uq := tc3.uq tc2
    have en2 := uq.1
    subst en2
    have cc : ∀ i, i < nE C n U l N + (n - oE C n N) → ∀ c, c < 2147483648 → σ1.2.1 2 i = nI c → C2 i = c := fun i hi c hc y => by
      rw [← uq.2 i hi]
      have a := (tc1.2.2 i hi).1
      have b := (tc1.2.2 i hi).2
      rw [y] at a
      exact ((q_eq hc (by omega)).mp a).symm
    have cr : ∀ i, i < n → C i < 2147483648 := fun i hi => by have := (tc.2.2 i hi).2; omega
    have iN2' : isNt C2 (nE C n U l N + (n - oE C n N)) N := by
      refine rt_tok (C := C) (n := n) (N := N) (U := U) (l := l) (B := Bf x l) N120 hs k9 fin (fun t ht y => (uf t ht ((Ui t).mp y)).1) l1 l8 (gB_0 l1 hg) (gB_ok hg) hw rfl (fun t ht => ?_) (fun i hi => ?_)
      · obtain ⟨a1, a2, a3⟩ := rt1.2.1 t ht
        have mo := nE_mono (C := C) (n := n) (U := U) (l := l) (show t + 1 ≤ N by omega)
        have e := nE_1 (C := C) (n := n) (U := U) (l := l) (t := t)
        have st := hs t ht
        have os := oE_s (C := C) (n := n) (t := t)
        have el := en_le (C := C) st
        have eg := en_gt (C := C) (n := n) (p := tS C n t)
        refine ⟨fun i hi => cc _ (by omega) _ (cr _ (by omega)) (a1 i hi), fun y i hi => ?_, fun y i hi => ?_⟩
        · rw [y, if_neg (by decide)] at e
          exact cc _ (by omega) _ (cr _ (by omega)) (a2 y i hi)
        · rw [y, if_pos rfl] at e
          exact cc _ (by omega) _ (by have := bB i hi; omega) (a3 y i hi)
      · have := oE_le (C := C) (n := n) (N := N) hs N (Nat.le_refl _)
        exact cc _ (by omega) _ (cr _ (by omega)) (rt1.2.2 i hi)
    have eN : N2 = N := isNt_uq iN2 iN2'
    subst eN
    have sc2 := eb2.1
    have sm2 := eb2.2.2.2.2.1
    have ag2 := eb2.2.2.2.2.2.2.1
    have rs2 := eb2.2.2.2.2.2.2.2.1
    have o15 : ∀ t, t < 124 → μ3.2.1 15 t = if t < N2 then σ.2.1 11 t else -1 := fun t ht => by
      rw [af.2 15 (by decide), w2.2 15 (by decide), v5 t ht]
      by_cases c : t < N2
      · rw [if_pos c, if_pos c]; exact (ag.1 t c).symm
      · rw [if_neg c, if_neg c]
    have sgi : ∀ t, t < 124 → (sG μ3 N2 u t ↔ (t < N2 → (σ.2.1 11 t = nI m ↔ (σ3.2.1 11 t = σ3.2.1 11 u ∧ ¬ σ3.2.1 11 t < 0)))) := fun t ht => by
      unfold sG
      rw [o15 t ht, o15 u (by omega), if_pos hu, mu]
      by_cases c : t < N2
      · rw [if_pos c, ← ag2.1 t c, ← ag2.1 u hu]
        exact ⟨fun y _ => ⟨fun a => (y.mp a).2, fun a => y.mpr ⟨c, a⟩⟩, fun y => ⟨fun a => ⟨c, (y c).mp a⟩, fun a => (y c).mpr a.2⟩⟩
      · rw [if_neg c]
        exact ⟨fun _ y => absurd y c, fun _ => ⟨fun a => absurd a.symm (q_neg (by omega)), fun a => absurd a.1 c⟩⟩
    rw [if_pos g5, d2, q_bd1]
    by_cases cD : nI D = nI D0
    · rw [if_pos cD]
      have sm := samL (μ := μ3) (N := N2) (u := u) (by omega) sm2.2.2.1 hu 124 0 FU (by omega) (by unfold FU; omega)
      have se : p_Mo_same μ3 (nI u) = p_Mo_same_L2 μ3 (nI u) FU (nI 0) := rfl
      have al := agrL (σ := σ3) (ρ := σ) (N := N2) (m := m) (by omega) sc2.2.2.2.1 (σ3.2.1 11 m) N2 0 FU (by omega) (by unfold FU; omega)
      have ae : ¬ σ3.2.1 11 m = -1 → p_Reading_agreesWith σ3 σ (nI m) = p_Reading_agreesWith_L37 σ3 σ (nI m) FU (σ3.2.1 11 m) (nI 0) := fun y => by
        unfold p_Reading_agreesWith
        rw [if_pos (q_inR (by omega) (by decide)), q_tn (by omega), if_neg y, d1, q_bd1, tot, q_bd1, if_pos cD]
        rfl
      have neg : ∀ t, t < N2 → (¬ σ3.2.1 11 t = -1 ↔ ¬ σ3.2.1 11 t < 0) := fun t ht => by
        rcases (rs2.2.2 t ht).2 with y | ⟨k, y, dk, _⟩
        · rw [y]; exact ⟨fun a => absurd rfl a, fun a => absurd (show (-1 : Int32) < 0 by decide) a⟩
        · have kl := dk.1
          rw [y]; exact ⟨fun _ => q_pos (by omega), fun _ => q_neg (by omega)⟩
      by_cases ok : ¬ σ3.2.1 11 m = -1 ∧ ∀ k, k < N2 → (σ3.2.1 11 k = σ3.2.1 11 m ↔ σ.2.1 11 k = nI m)
      · obtain ⟨ok1, ok2⟩ := ok
        have gu : σ3.2.1 11 u = σ3.2.1 11 m := (ok2 u hu).mpr mu
        rw [ae ok1, al.1 (fun k _ hk => ok2 k hk), q_bd1, if_neg (by decide), se, sm.1 (fun k _ hk => (sgi k hk).mpr (fun kN => ?_)), q_bd1, if_neg (by decide)]
        · refine ⟨(4, 0), by simp, _, σ, σ3, _, _, rfl, rfl, rfl, fun _ => rfl, ?_⟩
          rw [if_pos rfl]
          exact ⟨TX.of tc3 (tm3.keep rfl rfl), Or.inr ⟨z3, fr3⟩⟩
        · rw [gu]
          constructor
          · intro y
            have g := (ok2 k kN).mpr y
            exact ⟨g, by rw [g]; exact (neg m mN).mp ok1⟩
          · intro y
            exact (ok2 k kN).mp y.1
      · have ns : p_Mo_same μ3 (nI u) = some 0 := by
          rw [se]
          refine sm.2 (Classical.byContradiction (fun no => ok ?_))
          have all : ∀ k, k < N2 → (σ.2.1 11 k = nI m ↔ (σ3.2.1 11 k = σ3.2.1 11 u ∧ ¬ σ3.2.1 11 k < 0)) := fun k hk => by
            have : sG μ3 N2 u k := Classical.byContradiction (fun y => no ⟨k, Nat.zero_le _, by omega, y⟩)
            exact (sgi k (by omega)).mp this hk
          obtain ⟨a1, a2⟩ := (all m mN).mp mm
          refine ⟨(neg m mN).mpr a2, fun k hk => ⟨fun y => (all k hk).mpr ⟨y.trans a1, by rw [y]; exact a2⟩, fun y => ((all k hk).mp y).1.trans a1.symm⟩⟩
        have na : p_Reading_agreesWith σ3 σ (nI m) = some 0 := by
          by_cases y : σ3.2.1 11 m = -1
          · exact ag0 y
          · rw [ae y]
            refine al.2 (Classical.byContradiction (fun no => ok ⟨y, fun k hk => ?_⟩))
            exact Classical.byContradiction (fun y2 => no ⟨k, Nat.zero_le _, hk, y2⟩)
        rw [na, q_bd1, if_pos rfl, ns, q_bd1, if_pos rfl, b1, q_bd2]
        exact bad
    · rw [if_neg cD, b1, q_bd2]
      have na : p_Reading_agreesWith σ3 σ (nI m) = some 0 := by
        by_cases y : σ3.2.1 11 m = -1
        · exact ag0 y
        · unfold p_Reading_agreesWith
          rw [if_pos (q_inR (by omega) (by decide)), q_tn (by omega), if_neg y, d1, q_bd1, tot, q_bd1, if_neg cD]
      rw [na, q_bd1, if_pos rfl]
      exact bad
  · obtain ⟨T, q, tl, ql, _, _, _, _, _, m5, _, a11, _⟩ := rd
    rw [ag0 (a11 m), q_bd1, if_pos rfl, m5, if_neg (by decide), b1, q_bd2]
    exact bad
end REN2
section Q5
variable {σ τ μ : Sto}
theorem ok_rename (h : SimF FR σ τ μ) (x1 : Int32) (x2 : Int64) (x4 : Int32) : Sx (SimF FR) (p_LanguageServer_rename σ τ x1 x2 x4) (p_Mo_rename μ x1 x2 x4) [(4, 0), (3, 1), (1, 2), (2, 3)] := by
  obtain ⟨σ', μ', e, em, rd, si, si', z, _⟩ := qpre h
  have hz : σ'.1 0 = 0 := by
    obtain ⟨σ'', f1, f2, _⟩ := fresh h
    rw [e] at f1
    rw [Option.some.inj f1]; exact f2
  obtain ⟨D0, d0, tot, cnt, _⟩ := dia_all rd
  have bad2 : Sx (SimF FR) (some (1, 0, σ', τ)) (some (0, sS μ' 0 2)) [(4, 0), (3, 1), (1, 2), (2, 3)] := sx_of (1, 2) (by simp) rfl rfl rfl (fun h => absurd h (by decide)) (by decide) (si 2)
  have bad3 : Sx (SimF FR) (some (2, 0, σ', τ)) (some (0, sS μ' 0 3)) [(4, 0), (3, 1), (1, 2), (2, 3)] := sx_of (2, 3) (by simp) rfl rfl rfl (fun h => absurd h (by decide)) (by decide) (si 3)
  unfold p_LanguageServer_rename p_Mo_rename p_LanguageServer_declarationFor
  rw [e, q_bd1, named_eq em]
  rcases nmd_all rd x1 with ⟨a, b⟩ | ⟨n, N, u, m, C, z0, tc, tm, iN, tk, tkm, eb, f5, g5, hu, dm, m1, m2, a, b⟩
  · rw [a, b, q_bd1, q_bd2, if_pos rfl, if_neg (show ¬ (0 : Int32) ≤ -1 by decide)]
    exact sx_of (3, 1) (by simp) rfl rfl rfl (fun h => absurd h (by decide)) (by decide) (si 1)
  · have hN := iN.1
    have ml := dm.1
    have z0' : (0 : Int32) ≤ nI u := (q_Lle (by decide) (by omega)).mpr (Nat.zero_le _)
    obtain ⟨_, _, _, mm, uf⟩ := uses_f tc iN tkm eb dm
    obtain ⟨ua, ub⟩ := uses_eq eb.1.2.2.2.1 eb.2.2.2.2.1.2.2.1 hN eb.2.2.2.2.2.2.1 (nI m)
    rw [a, b, q_bd1, q_bd2, if_neg (q_neg (by omega)), if_pos z0']
    show Sx (SimF FR) (if x4 < 1 then some (1, 0, σ', τ) else (if (8 : Int32) < x4 then some (1, 0, σ', τ) else bd1 (p_Tokens_isName x2 x4) fun v_30 => (if v_30 = 0 then some (1, 0, σ', τ) else bd1 (p_Reading_uses σ' (nI m)) fun v_52 => if inR (nI m) 121 then if inR (nI m) 121 then (if ((σ'.1 1) + (v_52 * (x4 - ((σ'.2.1 5 (nI m).toNatClampNeg) - (σ'.2.1 4 (nI m).toNatClampNeg))))) ≤ 240 then bd1 (p_Reading_takeRenamed τ σ' (nI m) x2 x4) fun σ_134 => bd1 (p_Reading_refresh σ_134) fun σ_141 => bd1 (p_Reading_agreesWith σ_141 σ' (nI m)) fun v_154 => (if v_154 = 0 then some (2, 0, σ', σ_141) else some (4, v_52, σ', σ_141)) else some (2, 0, σ', τ)) else none else none))) _ _
    by_cases c1 : x4 < 1
    · have nn : p_Mo_newName μ' x2 x4 = some 0 := by unfold p_Mo_newName; rw [if_pos c1]
      rw [if_pos c1, nn, q_bd1, if_pos rfl]
      exact bad2
    by_cases c2 : (8 : Int32) < x4
    · have nn : p_Mo_newName μ' x2 x4 = some 0 := by unfold p_Mo_newName; rw [if_neg c1, if_neg (Int32.not_le.mpr c2)]
      rw [if_neg c1, if_pos c2, nn, q_bd1, if_pos rfl]
      exact bad2
    rw [if_neg c1, if_neg c2]
    have c0 : ¬ x4 < 0 := fun h => c1 (Int32.lt_trans h (by decide))
    obtain ⟨l, hl, rfl⟩ := nI_of c0
    have l8 : l ≤ 8 := by
      have := mt (q_Llt (k := 8) (t := l) (by decide) hl).mpr c2
      have : ¬ 8 < l := this
      omega
    have l1 : 1 ≤ l := by
      have := mt (q_ltL (k := 1) (t := l) hl (by decide)).mpr c1
      have : ¬ l < 1 := this
      omega
    rcases nam_eq (x := x2) l1 l8 μ' with ⟨n1, n2⟩ | ⟨n1, n2, hg, hw⟩
    · rw [n1, n2, q_bd1, q_bd1, if_pos rfl, if_pos rfl]
      exact bad2
    rw [n1, n2, q_bd1, q_bd1, if_neg (by decide), if_neg (by decide), ua, q_bd1, if_pos (q_inR (by omega) (by decide)), if_pos (q_inR (by omega) (by decide)), if_pos (q_inR (by omega) (by decide))]
    have lu := (uf u hu m1).2
    have sm := iN.2.1 m ml
    have su := iN.2.1 u hu
    have gm := en_gt (C := C) (n := n) (p := tS C n m)
    have gu := en_gt (C := C) (n := n) (p := tS C n u)
    have em1 := en_le (C := C) sm
    have eu1 := en_le (C := C) su
    have hn := tc.1
    simp only [q_tn (show u < 2147483648 by omega), q_tn (show m < 2147483648 by omega), m2, ub, q_bd1, cnt, (tk m ml).1, (tk m ml).2.1, (tkm u hu).1, (tkm u hu).2.1, tc.2.1, tm.2.1, q_sub (show tS C n m ≤ en C n (tS C n m) by omega), q_sub (show tS C n u ≤ en C n (tS C n u) by omega), lu, if_pos (q_inR (show u < 124 by omega) (by decide : 124 < 2147483648))]
    by_cases cap : nI n + nI (cn (fun t => decide (σ'.2.1 11 t = nI m)) N 0) * (nI l - nI (en C n (tS C n m) - tS C n m)) ≤ 240
    · rw [if_pos cap, if_pos cap]
      exact ren_main si' hz tc tm iN tk tkm eb hu dm m1 d0 tot l1 l8 hg hw cap
    · rw [if_neg cap, if_neg cap]
      exact bad3
end Q5
