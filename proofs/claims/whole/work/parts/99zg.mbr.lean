/-! questions: members -/
theorem sq_ad (f : Nat → Option Nat) (o : Option Nat) (a : Nat) : ∀ b, sq f o (a + b) = sq f (sq f o a) b
  | 0 => rfl
  | b + 1 => by
    show (sq f o (a + b)).bind f = (sq f (sq f o a) b).bind f
    rw [sq_ad f o a b]
theorem sq_inj {f : Nat → Option Nat} {o : Option Nat} {M i j s : Nat} (hM : sq f o M = none) (hij : i < j) (hi : sq f o i = some s) (hj : sq f o j = some s) : False := by
  have k : ∀ m, sq f o (i + m * (j - i)) = some s := by
    intro m
    induction m with
    | zero => rw [Nat.zero_mul, Nat.add_zero]; exact hi
    | succ m ih =>
      rw [Nat.succ_mul, ← Nat.add_assoc, sq_ad, ih, ← hi, ← sq_ad, show i + (j - i) = j by omega, hi]
      exact hj
  have l : M ≤ i + M * (j - i) := by
    have : M * 1 ≤ M * (j - i) := Nat.mul_le_mul_left M (by omega)
    omega
  exact sq_pre l (by rw [k M]; simp) hM
theorem fm_sq {f g : Nat → Option Nat} : ∀ {n : Nat} {o : Option Nat} {u : Nat}, fm f g n o = some u → ∃ i s, sq f o i = some s ∧ g s = some u
  | 0, o, u, h => absurd h (by simp [fm])
  | n + 1, none, u, h => absurd h (by simp [fm])
  | n + 1, some s, u, h => by
    have h' : (g s).elim (fm f g n (f s)) some = some u := h
    cases q : g s with
    | none =>
      rw [q] at h'
      obtain ⟨i, r, a, b⟩ := fm_sq (n := n) (o := f s) (u := u) h'
      exact ⟨i + 1, r, by rw [sq_s]; exact a, b⟩
    | some v =>
      rw [q] at h'
      exact ⟨0, s, rfl, q.trans h'⟩
def Hm (K : Nat → Int32) (N : Nat) (W : Nat → Int64) (c u : Nat) : Bool := decide (u < N ∧ (ro K u = 2 ∨ ro K u = 3) ∧ fm (parF (abv K N W) 40) (mem K N W (W u)) (cC (tr K N)) (some c) = some u)
section MBR
variable {K : Nat → Int32} {N : Nat} {W : Nat → Int64} {c : Nat} {σ σ0 μ : Sto}
theorem hm_i {u : Nat} : Hm K N W c u = true ↔ (u < N ∧ (ro K u = 2 ∨ ro K u = 3) ∧ fm (parF (abv K N W) 40) (mem K N W (W u)) (cC (tr K N)) (some c) = some u) := decide_eq_true_iff
theorem hm_sq {u : Nat} (h : Hm K N W c u = true) : ∃ i, sq (parF (abv K N W) 40) (some c) i = some (cls K u) := by
  obtain ⟨_, _, h3⟩ := hm_i.mp h
  obtain ⟨i, s, a, b⟩ := fm_sq h3
  have := of_decide_eq_true (fi1_some b).2.2.1
  rw [this.2.1]
  exact ⟨i, a⟩
theorem hm_uq {u w : Nat} (hu : Hm K N W c u = true) (hw : Hm K N W c w = true) (e : W u = W w) : u = w := by
  have a := (hm_i.mp hu).2.2
  have b := (hm_i.mp hw).2.2
  rw [e, b] at a
  exact (Option.some.inj a).symm
theorem fm_lt {w : Int64} {n : Nat} {o : Option Nat} {u : Nat} (h : fm (parF (abv K N W) 40) (mem K N W w) n o = some u) : u < N := by
  obtain ⟨s, hs⟩ := fm_mem h
  have := (fi1_some hs).2.1
  omega
theorem SC.lf (h : SC K N σ) {σ' : Sto} (f : LFr σ σ') : SC K N σ' := h.keep (by rw [f.1]) (by rw [f.1]) (f.2.2 6 (by decide)) (f.2.2 9 (by decide)) (f.2.2 10 (by decide)) (f.2.2 13 (by decide))
/-- one class of the chain -/
theorem lsL (h0 : SC K N σ0) (hW : WW K N σ0.2.2 W) (hp : ∀ c, c < cC (tr K N) → σ0.2.1 14 c = oI (parF (abv K N W) 40 c)) (hc : c < cC (tr K N)) {s : Nat} (hs : s < cC (tr K N)) (k7 : Sto → Int32 → Int32 → Int32 → Option (Int32 × Sto)) (x4 : Int32) : ∀ (j x fuel : Nat) (σ : Sto) (P : Nat → Bool) (k : Nat), j + x = ctE K N s → j < fuel → LFr σ0 σ → LI (fun u => (σ0.2.2 u).toInt) P N k (σ.2.1 15) → (∀ u, P u = true → Hm K N W c u = true) → (∀ u, x ≤ u → u < ctE K N s → Hm K N W c u = true → P u = false) → ∃ (σ' : Sto) (P' : Nat → Bool) (k' : Nat), p_Outline_listMembers_L32 (nI c) k7 fuel σ (nI k) (nI s) x4 (nI x) = k7 σ' (nI k') (oI (parF (abv K N W) 40 s)) (x4 + 1) ∧ LFr σ0 σ' ∧ LI (fun u => (σ0.2.2 u).toInt) P' N k' (σ'.2.1 15) ∧ (∀ u, P' u = true ↔ (P u = true ∨ (Hm K N W c u = true ∧ x ≤ u ∧ u < ctE K N s))) := by
  have hN := h0.1
  have m4 := h0.M4
  have ce := ctE_le (K := K) (N := N) (s := s)
  intro j
  induction j with
  | zero =>
    intro x fuel σ P k hj hf fr li pH nP
    obtain ⟨m, rfl⟩ : ∃ m, fuel = m + 1 := ⟨fuel - 1, by omega⟩
    refine ⟨σ, P, k, ?_, fr, li, fun u => ⟨Or.inl, fun z => z.elim id (fun y => by omega)⟩⟩
    unfold p_Outline_listMembers_L32
    have e13 := (h0.lf fr).e13 hs
    rw [nI_1, if_pos (q_inR (by omega) (by decide)), q_tn (by omega), e13, if_pos ((q_le (by omega) (by omega)).mpr (by omega)), if_pos (q_inR (by omega) (by decide)), q_tn (by omega), fr.2.2 14 (by decide), hp s hs]
  | succ j ih =>
    intro x fuel σ P k hj hf fr li pH nP
    obtain ⟨m, rfl⟩ : ∃ m, fuel = m + 1 := ⟨fuel - 1, by omega⟩
    have sc := h0.lf fr
    have xN : x < N := by omega
    have e13 := sc.e13 hs
    have key : ((12 : Int32) >>> (σ.2.1 9 x &&& 31) &&& 1 = 1 ↔ (ro K x = 2 ∨ ro K x = 3)) := by rw [sc.rl xN]; exact (mask_i _ (ro_mem K x)).2.1
    -- not a member: go on
    have skip : Hm K N W c x = false → ∃ (σ' : Sto) (P' : Nat → Bool) (k' : Nat), p_Outline_listMembers_L32 (nI c) k7 m σ (nI k) (nI s) x4 (nI (x + 1)) = k7 σ' (nI k') (oI (parF (abv K N W) 40 s)) (x4 + 1) ∧ LFr σ0 σ' ∧ LI (fun u => (σ0.2.2 u).toInt) P' N k' (σ'.2.1 15) ∧ (∀ u, P' u = true ↔ (P u = true ∨ (Hm K N W c u = true ∧ x ≤ u ∧ u < ctE K N s))) := fun hx => by
      obtain ⟨σ', P', k', a, b, d, e⟩ := ih (x + 1) m σ P k (by omega) (by omega) fr li pH (fun u u1 u2 u3 => nP u (by omega) u2 u3)
      refine ⟨σ', P', k', a, b, d, fun u => (e u).trans ⟨fun z => z.imp id (fun y => ⟨y.1, by omega, y.2.2⟩), fun z => z.imp id (fun y => ⟨y.1, ?_, y.2.2⟩)⟩⟩
      by_cases q : u = x
      · rw [q, hx] at y; exact absurd y.1 (by decide)
      · omega
    unfold p_Outline_listMembers_L32
    rw [nI_1, if_pos (q_inR (by omega) (by decide)), q_tn (by omega), e13, if_neg (fun z => by have := (q_le (by omega) (by omega)).mp z; omega), sc.2.2.2.1, if_neg (fun z => by have := (q_le (by omega) (by omega)).mp z; omega), if_pos (q_inR (by omega) (by decide)), q_tn (by omega)]
    by_cases r : ro K x = 2 ∨ ro K x = 3
    · rw [if_pos (key.mpr r)]
      have k1 : K x = 1 := h0.nm xN (by rcases r with z | z <;> rw [z] <;> decide)
      have cf := cfm (o := some c) sc (by rw [fr.2.1]; exact hW) (fun d hd => by rw [fr.2.2 14 (by decide)]; exact hp d hd) xN k1 (fun d hd => by rw [← Option.some.inj hd]; exact hc)
      unfold p_Outline_listMembers_b75
      rw [if_neg (by decide), if_pos (q_inR (by omega) (by decide)), q_tn (by omega), show nI c = oI (some c) from rfl, cf, q_bd1, show oI (some c) = nI c from rfl, nI_1]
      by_cases q : fm (parF (abv K N W) 40) (mem K N W (W x)) (cC (tr K N)) (some c) = some x
      · have hx : Hm K N W c x = true := hm_i.mpr ⟨xN, r, q⟩
        have px := nP x (Nat.le_refl _) (by omega) hx
        rw [q, if_pos (show oI (some x) = nI x from rfl)]
        obtain ⟨σ1, e1, f1, l1⟩ := li.ins (σ := σ) (x := x) hN (fun u _ => by rw [fr.2.1]) xN px (fun u pu z => by
          have hu := pH u pu
          have uN := (hm_i.mp hu).1
          have ku : K u = 1 := h0.nm uN (by rcases (hm_i.mp hu).2.1 with y | y <;> rw [y] <;> decide)
          have e : u = x := hm_uq hu hx ((hW u x uN xN ku k1).mp (Int64.toInt_inj.mp z))
          rw [e, px] at pu
          exact absurd pu (by decide))
        rw [e1, q_bd1, nI_1]
        obtain ⟨σ', P', k', a, b, d, e⟩ := ih (x + 1) m σ1 _ (k + 1) (by omega) (by omega) (fr.trans f1) l1 (fun u hu => by
          simp only [Bool.or_eq_true, decide_eq_true_eq] at hu
          rcases hu with z | z
          · rw [z]; exact hx
          · exact pH u z) (fun u u1 u2 u3 => by
          rw [nP u (by omega) u2 u3, decide_eq_false (by omega)]; rfl)
        refine ⟨σ', P', k', a, b, d, fun u => (e u).trans ?_⟩
        simp only [Bool.or_eq_true, decide_eq_true_eq]
        constructor
        · rintro ((z | z) | ⟨z1, z2, z3⟩)
          · rw [z]; exact Or.inr ⟨hx, by omega, by omega⟩
          · exact Or.inl z
          · exact Or.inr ⟨z1, by omega, z3⟩
        · rintro (z | ⟨z1, z2, z3⟩)
          · exact Or.inl (Or.inr z)
          · by_cases y : u = x
            · exact Or.inl (Or.inl y)
            · exact Or.inr ⟨z1, by omega, z3⟩
      · have hx : Hm K N W c x = false := decide_eq_false (fun z => q z.2.2)
        rw [if_neg (fun z => q ?_)]
        · rw [nI_1]; exact skip hx
        · cases o : fm (parF (abv K N W) 40) (mem K N W (W x)) (cC (tr K N)) (some c) with
          | none =>
            rw [o] at z
            exact absurd z.symm (q_neg (show x < 2147483648 by omega))
          | some u =>
            rw [o] at z
            have ul := fm_lt o
            rw [(q_eq (by omega) (by omega)).mp (show nI u = nI x from z)]
    · rw [if_neg (fun z => r (key.mp z))]
      unfold p_Outline_listMembers_b75
      rw [if_pos rfl, nI_1]
      exact skip (decide_eq_false (fun z => r z.2.1))
theorem lsA (h0 : SC K N σ0) (hW : WW K N σ0.2.2 W) (hp : ∀ c, c < cC (tr K N) → σ0.2.1 14 c = oI (parF (abv K N W) 40 c)) (hc : c < cC (tr K N)) : ∀ (n i fuel : Nat) (σ : Sto) (P : Nat → Bool) (k : Nat) (o : Option Nat), n + i = cC (tr K N) → n < fuel → o = sq (parF (abv K N W) 40) (some c) i → LFr σ0 σ → LI (fun u => (σ0.2.2 u).toInt) P N k (σ.2.1 15) → (∀ u, P u = true ↔ (Hm K N W c u = true ∧ ∃ j, j < i ∧ sq (parF (abv K N W) 40) (some c) j = some (cls K u))) → ∃ (σ' : Sto) (P' : Nat → Bool) (k' : Nat), p_Outline_listMembers_L7 (nI c) fuel σ (nI k) (oI o) (nI i) = some (nI k', σ') ∧ LFr σ0 σ' ∧ LI (fun u => (σ0.2.2 u).toInt) P' N k' (σ'.2.1 15) ∧ (∀ u, P' u = Hm K N W c u) := by
  have hN := h0.1
  have m4 := h0.M4
  have cl : ∀ s, some c = some s → s < cC (tr K N) := fun s hs => by rw [← Option.some.inj hs]; exact hc
  have fin := par_end (f := abv K N W) (n := 40) abv_cl (by omega) cl
  have done : ∀ {i : Nat} {P : Nat → Bool}, sq (parF (abv K N W) 40) (some c) i = none → (∀ u, P u = true ↔ (Hm K N W c u = true ∧ ∃ j, j < i ∧ sq (parF (abv K N W) 40) (some c) j = some (cls K u))) → ∀ u, P u = Hm K N W c u := fun {i P} hi hP u => by
    cases q : Hm K N W c u
    · cases q2 : P u
      · rfl
      · rw [((hP u).mp q2).1] at q
        exact absurd q (by decide)
    · obtain ⟨j, hj⟩ := hm_sq q
      refine (hP u).mpr ⟨q, j, ?_, hj⟩
      by_cases l : j < i
      · exact l
      · exact absurd hi (sq_pre (show i ≤ j by omega) (by rw [hj]; simp))
  have clp := parF_cl (n := 40) (abv_cl (K := K) (N := N) (W := W))
  have sl : ∀ i s, sq (parF (abv K N W) 40) (some c) i = some s → s < cC (tr K N) := by
    intro i
    induction i with
    | zero => exact cl
    | succ i ih =>
      intro s hs
      have h' : (sq (parF (abv K N W) 40) (some c) i).bind (parF (abv K N W) 40) = some s := hs
      cases q : sq (parF (abv K N W) 40) (some c) i with
      | none => rw [q] at h'; exact absurd h' (by simp)
      | some r => rw [q] at h'; exact clp r s (ih r q) h'
  intro n
  induction n with
  | zero =>
    intro i fuel σ P k o hj hf ho fr li hP
    obtain ⟨m, rfl⟩ : ∃ m, fuel = m + 1 := ⟨fuel - 1, by omega⟩
    refine ⟨σ, P, k, ?_, fr, li, done (i := i) (by rw [show i = cC (tr K N) by omega]; exact fin) hP⟩
    unfold p_Outline_listMembers_L7
    rw [(h0.lf fr).2.2.2.2.1, if_pos ((q_le (by omega) (by omega)).mpr (by omega))]
  | succ n ih =>
    intro i fuel σ P k o hj hf ho fr li hP
    obtain ⟨m, rfl⟩ : ∃ m, fuel = m + 1 := ⟨fuel - 1, by omega⟩
    have sc := h0.lf fr
    unfold p_Outline_listMembers_L7
    rw [sc.2.2.2.2.1, if_neg (fun z => by have := (q_le (by omega) (by omega)).mp z; omega), cisc sc (o := o) (fun s hs => sl i s (by rw [← ho]; exact hs)), q_bd1]
    cases o with
    | none =>
      rw [if_pos (show b01 (none : Option Nat).isSome = 0 from rfl)]
      exact ⟨σ, P, k, rfl, fr, li, done ho.symm hP⟩
    | some s =>
      have hs := sl i s ho.symm
      have ca := (ct_ok (K := K) N s hs).1
      have cae : ctA K s N ≤ ctE K N s := by
        unfold ctE
        by_cases e : s + 1 < cC (tr K N)
        · rw [if_pos e]; exact Nat.le_of_lt (ct_mono (by omega) e)
        · rw [if_neg e]; omega
      have ce := ctE_le (K := K) (N := N) (s := s)
      rw [if_neg (show ¬ b01 (some s).isSome = 0 from (by decide : ¬ (1 : Int32) = 0)), show oI (some s) = nI s from rfl, if_pos (q_inR (by omega) (by decide)), q_tn (by omega), sc.2.2.2.2.2.2.2.1 s hs]
      have hcl : ∀ u, Hm K N W c u = true → ((ctA K s N ≤ u ∧ u < ctE K N s) ↔ cls K u = s) := fun u hu => span hs (hm_i.mp hu).1 ((ro_i K u).2.2.2.2.2.1.mp (hm_i.mp hu).2.1)
      obtain ⟨σ1, P1, k1, e1, f1, l1, h1⟩ := lsL h0 hW hp hc hs (p_Outline_listMembers_L7 (nI c) m) (nI i) (ctE K N s - ctA K s N) (ctA K s N) FU σ P k (by omega) (by unfold FU; omega) fr li (fun u hu => ((hP u).mp hu).1) (fun u u1 u2 u3 => by
        cases q : P u
        · rfl
        · obtain ⟨_, j, j1, j2⟩ := (hP u).mp q
          rw [(hcl u u3).mp ⟨u1, u2⟩] at j2
          exact (sq_inj fin j1 j2 ho.symm).elim)
      rw [e1, nI_1]
      refine ih (i + 1) m σ1 P1 k1 _ (by omega) (by omega) ?_ f1 l1 (fun u => (h1 u).trans ⟨fun z => ?_, fun z => ?_⟩)
      · show _ = (sq (parF (abv K N W) 40) (some c) i).bind (parF (abv K N W) 40)
        rw [← ho]; rfl
      · rcases z with z | ⟨z1, z2⟩
        · obtain ⟨a, j, j1, j2⟩ := (hP u).mp z
          exact ⟨a, j, by omega, j2⟩
        · exact ⟨z1, i, by omega, by rw [(hcl u z1).mp z2]; exact ho.symm⟩
      · obtain ⟨a, j, j1, j2⟩ := z
        by_cases e : j = i
        · rw [e, ← ho] at j2
          exact Or.inr ⟨a, (hcl u a).mpr (Option.some.inj j2).symm⟩
        · exact Or.inl ((hP u).mpr ⟨a, j, by omega, j2⟩)
theorem cls_mbr (h0 : SC K N σ) (hW : WW K N σ.2.2 W) (hp : ∀ c, c < cC (tr K N) → σ.2.1 14 c = oI (parF (abv K N W) 40 c)) (hc : c < cC (tr K N)) : ∃ σ', p_Outline_listMembers σ (nI c) = some (nI (cn (Hm K N W c) N 0), σ') ∧ LFr σ σ' ∧ LI (fun u => (σ.2.2 u).toInt) (Hm K N W c) N (cn (Hm K N W c) N 0) (σ'.2.1 15) := by
  have hN := h0.1
  have m4 := h0.M4
  obtain ⟨σ', P', k', a, b, d, e⟩ := lsA h0 hW hp hc (cC (tr K N)) 0 FU σ (fun _ => false) 0 (some c) (by omega) (by unfold FU; omega) rfl (LFr.refl σ) ⟨(cn_0 (fun _ _ _ => rfl)).symm, fun u h => absurd h Bool.false_ne_true, fun u w h => absurd h Bool.false_ne_true, fun i hi => by omega⟩ (fun u => ⟨fun h => absurd h Bool.false_ne_true, fun ⟨_, j, h, _⟩ => by omega⟩)
  have eP : P' = Hm K N W c := funext e
  subst eP
  have ek : k' = cn (Hm K N W c) N 0 := d.1
  subst ek
  exact ⟨σ', a, b, d⟩
/-- the reference's way -/
theorem mhas (h : SM K N μ) (hc : c < cC (tr K N)) {u : Nat} (hu : u < N) : p_Mo_hasMember μ (nI c) (nI u) = some (b01 (Hm K N μ.2.2 c u)) := by
  have hN := h.1
  unfold p_Mo_hasMember
  rw [if_pos (q_inR (by omega) (by decide))]
  simp only [q_tn (show u < 2147483648 by omega), h.rl hu, mdcs, q_bd1, if_pos (q_inR (show u < 124 by omega) (by decide : 124 < 2147483648))]
  by_cases r : ro K u = 2 ∨ ro K u = 3
  · rw [if_neg (by rw [decide_eq_true r]; decide), mfnd h hc, q_bd1]
    by_cases q : fm (parF (abv K N μ.2.2) 40) (mem K N μ.2.2 (μ.2.2 u)) (cC (tr K N)) (some c) = some u
    · rw [q, if_pos (show oI (some u) = nI u from rfl), hm_i.mpr ⟨hu, r, q⟩]
      rfl
    · rw [if_neg (fun z => q ?_), show Hm K N μ.2.2 c u = false from decide_eq_false (fun z => q z.2.2)]
      · rfl
      · cases o : fm (parF (abv K N μ.2.2) 40) (mem K N μ.2.2 (μ.2.2 u)) (cC (tr K N)) (some c) with
        | none =>
          rw [o] at z
          exact absurd z.symm (q_neg (show u < 2147483648 by omega))
        | some v =>
          rw [o] at z
          have ul := fm_lt o
          rw [(q_eq (by omega) (by omega)).mp (show nI v = nI u from z)]
  · rw [if_pos (by rw [decide_eq_false r]; rfl), show Hm K N μ.2.2 c u = false from decide_eq_false (fun z => r z.2.1)]
    rfl
theorem mmbs (h : SM K N μ) (hc : c < cC (tr K N)) : ∀ (j t fuel : Nat) (x : Int32), j + t = N → j < fuel → p_Mo_members_L31 (nI c) fuel μ x (nI t) = some (x + nI (cn (Hm K N μ.2.2 c) j t), μ) := by
  have hN := h.1
  intro j
  induction j with
  | zero =>
    intro t fuel x hj hf
    obtain ⟨m, rfl⟩ : ∃ m, fuel = m + 1 := ⟨fuel - 1, by omega⟩
    unfold p_Mo_members_L31
    rw [h.2.2.1, if_pos ((q_le (by omega) (by omega)).mpr (by omega))]
    show some (x, μ) = some (x + 0, μ)
    rw [Int32.add_zero]
  | succ j ih =>
    intro t fuel x hj hf
    obtain ⟨m, rfl⟩ : ∃ m, fuel = m + 1 := ⟨fuel - 1, by omega⟩
    unfold p_Mo_members_L31 cn
    rw [h.2.2.1, if_neg (fun z => by have := (q_le (by omega) (by omega)).mp z; omega), mhas h hc (by omega), q_bd1, nI_1]
    cases e : Hm K N μ.2.2 c t
    · rw [if_pos (show b01 false = 0 from rfl), if_neg (by decide), ih (t + 1) m x (by omega) (by omega), Nat.zero_add]
    · rw [if_neg (show ¬ b01 true = 0 by decide), if_pos rfl, ih (t + 1) m (x + 1) (by omega) (by omega), nI_add1]
theorem mbef (h : SM K N μ) (hc : c < cC (tr K N)) {V : Nat → Int64} (hV : ∀ w, w < N → K w = 1 → p_Mo_aligned (μ.2.2 w) = some (V w)) {u : Nat} (uN : u < N) (ku : K u = 1) (hk : ∀ w, w < N → rr (ro K w) ≠ 0 → K w = 1) : ∀ (j t fuel : Nat) (x : Int32), j + t = N → j < fuel → p_Mo_before_L5 μ (nI c) (nI u) fuel x (nI t) = some (x + nI (cn (fun w => Hm K N μ.2.2 c w && decide ((V w).toInt < (V u).toInt)) j t)) := by
  have hN := h.1
  intro j
  induction j with
  | zero =>
    intro t fuel x hj hf
    obtain ⟨m, rfl⟩ : ∃ m, fuel = m + 1 := ⟨fuel - 1, by omega⟩
    unfold p_Mo_before_L5
    rw [h.2.2.1, if_pos ((q_le (by omega) (by omega)).mpr (by omega))]
    show some x = some (x + 0)
    rw [Int32.add_zero]
  | succ j ih =>
    intro t fuel x hj hf
    obtain ⟨m, rfl⟩ : ∃ m, fuel = m + 1 := ⟨fuel - 1, by omega⟩
    unfold p_Mo_before_L5 cn
    rw [h.2.2.1, if_neg (fun z => by have := (q_le (by omega) (by omega)).mp z; omega), mhas h hc (by omega), q_bd1, nI_1]
    cases e : Hm K N μ.2.2 c t
    · rw [if_pos (show b01 false = 0 from rfl), if_neg (by rw [Bool.false_and]; decide), ih (t + 1) m x (by omega) (by omega), Nat.zero_add]
    · have kt : K t = 1 := hk t (by omega) (by rcases (hm_i.mp e).2.1 with y | y <;> rw [y] <;> decide)
      have cg := cmp_ge (V t) (V u)
      rw [if_neg (show ¬ b01 true = 0 by decide), if_pos (q_inR (by omega) (by decide)), q_tn (by omega), hV t (by omega) kt, q_bd1, if_pos (q_inR (by omega) (by decide)), q_tn (by omega), hV u uN ku, q_bd1]
      by_cases l : (V t).toInt < (V u).toInt
      · rw [if_neg (fun z => by have := cg.mp z; omega), if_pos (by rw [decide_eq_true l]; rfl), ih (t + 1) m (x + 1) (by omega) (by omega), nI_add1]
      · rw [if_pos (cg.mpr (by omega)), if_neg (by rw [decide_eq_false l]; decide), ih (t + 1) m x (by omega) (by omega), Nat.zero_add]
theorem mmb (h : SM K N μ) (hc : c < cC (tr K N)) {V : Nat → Int64} (hV : ∀ w, w < N → K w = 1 → p_Mo_aligned (μ.2.2 w) = some (V w)) (hk : ∀ w, w < N → rr (ro K w) ≠ 0 → K w = 1) (x2 : Int32) : ∀ (j t fuel : Nat), j + t = N → j < fuel → p_Mo_member_L29 (nI c) x2 fuel μ (nI t) = (fi1 (fun u => Hm K N μ.2.2 c u && decide (nI (rk (fun w => (V w).toInt) (Hm K N μ.2.2 c) N u) = x2)) j t).elim (some (0, sS μ 0 1)) (fun u => some (μ.2.1 5 u, μ)) := by
  have hN := h.1
  intro j
  induction j with
  | zero =>
    intro t fuel hj hf
    obtain ⟨m, rfl⟩ : ∃ m, fuel = m + 1 := ⟨fuel - 1, by omega⟩
    unfold p_Mo_member_L29
    rw [h.2.2.1, if_pos ((q_le (by omega) (by omega)).mpr (by omega))]
    rfl
  | succ j ih =>
    intro t fuel hj hf
    obtain ⟨m, rfl⟩ : ∃ m, fuel = m + 1 := ⟨fuel - 1, by omega⟩
    unfold p_Mo_member_L29 fi1
    rw [h.2.2.1, if_neg (fun z => by have := (q_le (by omega) (by omega)).mp z; omega), mhas h hc (by omega), q_bd1, nI_1]
    cases e : Hm K N μ.2.2 c t
    · rw [if_pos (show b01 false = 0 from rfl), if_neg (by rw [Bool.false_and]; decide)]
      exact ih (t + 1) m (by omega) (by omega)
    · have kt : K t = 1 := hk t (by omega) (by rcases (hm_i.mp e).2.1 with y | y <;> rw [y] <;> decide)
      have mb := mbef h hc hV (show t < N by omega) kt hk N 0 FU 0 (by omega) (by unfold FU; omega)
      rw [z_add] at mb
      have mb' : p_Mo_before μ (nI c) (nI t) = some (nI (rk (fun w => (V w).toInt) (Hm K N μ.2.2 c) N t)) := mb
      rw [if_neg (show ¬ b01 true = 0 by decide), mb', q_bd1]
      by_cases l : nI (rk (fun w => (V w).toInt) (Hm K N μ.2.2 c) N t) = x2
      · rw [if_pos l, if_pos (q_inR (by omega) (by decide)), q_tn (by omega), if_pos (by rw [decide_eq_true l]; rfl)]
        rfl
      · rw [if_neg l, if_neg (by rw [decide_eq_false l]; decide)]
        exact ih (t + 1) m (by omega) (by omega)
end MBR
theorem RDg.lf {σ σ' μ : Sto} (h : RDg σ μ) (f : LFr σ σ') : RDg σ' μ := by
  obtain ⟨n, N, C, z0, tc, tm, iN, tk, tkm, eb, f5, g5⟩ := h
  obtain ⟨sc, hW, hp, h12, sm, ew, ag, rs, _⟩ := eb
  refine ⟨n, N, C, (σ', μ), tc.keep (by rw [f.1]) (f.2.2 2 (by decide)), tm, iN, fun u hu => ?_, tkm, ⟨sc.lf f, by rw [f.2.1]; exact hW, fun c hc => by rw [f.2.2 14 (by decide)]; exact hp c hc, fun u hu => by rw [f.2.2 12 (by decide)]; exact h12 u hu, sm, ew, ⟨fun u hu => by rw [f.2.2 11 (by decide)]; exact ag.1 u hu, fun u hu => by rw [f.2.2 17 (by decide)]; exact ag.2 u hu⟩, rs.same (f.2.2 11 (by decide)) (f.2.2 17 (by decide)), fun _ _ => rfl, fun _ _ _ _ => rfl, rfl, fun _ _ _ => rfl, fun _ _ => rfl, rfl⟩, by rw [f.1]; exact f5, g5⟩
  rw [f.2.2 4 (by decide), f.2.2 5 (by decide), f.2.2 6 (by decide), f.2.1]
  exact tk u hu
theorem RDb.lf {σ σ' μ : Sto} (h : RDb σ μ) (f : LFr σ σ') : RDb σ' μ := by
  obtain ⟨T, q, tl, ql, s3, m3, s4, m6, s5, m5, mp, a11, m13⟩ := h
  exact ⟨T, q, tl, ql, by rw [f.1]; exact s3, m3, by rw [f.1]; exact s4, m6, by rw [f.1]; exact s5, m5, mp, fun u => by rw [f.2.2 11 (by decide)]; exact a11 u, m13⟩
theorem TX.lf {σ σ' μ : Sto} (h : TX σ μ) (f : LFr σ σ') : TX σ' μ := by
  obtain ⟨n, h1, h2, h3, h4⟩ := h
  exact ⟨n, h1, by rw [f.1]; exact h2, h3, fun i hi => by rw [f.2.2 2 (by decide)]; exact h4 i hi⟩
theorem LFr.symm {σ σ' : Sto} (f : LFr σ σ') : LFr σ' σ := ⟨f.1.symm, f.2.1.symm, fun a ha => (f.2.2 a ha).symm⟩
theorem FR.lf {σ σ' : Sto} (h : FR σ) (f : LFr σ σ') : FR σ' := fun μ tx => by
  obtain ⟨μ', a, b, c⟩ := h μ (tx.lf f.symm)
  exact ⟨μ', a, b.imp (fun z => z.lf f) (fun z => z.lf f), c⟩
theorem SimF.lf {σ σ' τ μ : Sto} (h : SimF FR σ τ μ) (f : LFr σ σ') : SimF FR σ' τ μ := ⟨h.1.lf f, by rw [f.1]; exact h.2.imp id (fun z => ⟨z.1, z.2.lf f⟩)⟩
section Q4
variable {σ τ μ : Sto}
/-- what is asked of a class -/
theorem mbr_all (h : RDg σ μ ∨ RDb σ μ) (x1 : Int32) : (p_Outline_isClass σ x1 = some 0 ∧ (x1 < 0 ∨ ¬ x1 < μ.1 6)) ∨ ∃ (k : Nat) (σ' : Sto), p_Outline_isClass σ x1 = some 1 ∧ ¬ x1 < 0 ∧ x1 < μ.1 6 ∧ p_Outline_listMembers σ x1 = some (nI k, σ') ∧ k ≤ 121 ∧ LFr σ σ' ∧ p_Mo_members_L31 x1 FU μ 0 0 = some (nI k, μ) ∧ (∀ i, i < k → ∃ u, u < 121 ∧ σ'.2.1 15 i = nI u ∧ p_Mo_member_L29 x1 (nI i) FU μ 0 = some (σ.2.1 4 u, μ)) ∧ (∀ x2, (∀ i, i < k → x2 ≠ nI i) → p_Mo_member_L29 x1 x2 FU μ 0 = some (0, sS μ 0 1)) := by
  rcases h with ⟨n, N, C, z0, tc, tm, iN, tk, tkm, eb, f5, g5⟩ | ⟨T, q, tl, ql, s3, m3, s4, m6, _⟩
  · obtain ⟨sc, hW, hp, h12, sm, ew, ag, rs, _⟩ := eb
    have hN := sc.1
    have m4 := sc.M4
    have e4 := sc.2.2.2.2.1
    have e6 := sm.2.2.2.2.2.1
    by_cases c1 : x1 < 0
    · refine Or.inl ⟨?_, Or.inl c1⟩
      unfold p_Outline_isClass
      rw [if_pos c1]
    · obtain ⟨c, hc, rfl⟩ := nI_of c1
      by_cases l : c < cC (tr (KK C n N) N)
      · refine Or.inr ?_
        obtain ⟨σ', a1, a2, a3⟩ := cls_mbr sc hW hp l
        have cl := cn_le (Hm (KK C n N) N μ.2.2 c) N 0
        have f : ∀ w, w < N → KK C n N w = 1 → p_Mo_aligned (μ.2.2 w) = some (σ.2.2 w) := by
          intro w hw kw
          unfold KK at kw
          rw [if_pos hw] at kw
          have g := kdN_ge C n w (tS C n w)
          have kd : kdN C n w (tS C n w) = 1 := (q_eqL (by omega) (by decide)).mp kw
          have tl := iN.2.1 w hw
          obtain ⟨l, e8⟩ := kd1 kd (fun i _ hi => (tc.2.2 i hi).2.1) tl
          rw [(tkm w hw).2.2.2 l e8, algn (en_wd tc tl l e8), (tk w hw).2.2.2, spN_8 C e8]
        have mm := mmbs sm l N 0 FU 0 (by omega) (by unfold FU; omega)
        rw [z_add] at mm
        have m1 := fun x2 => mmb sm l f (fun w hw hr => sc.nm hw hr) x2 N 0 FU (by omega) (by unfold FU; omega)
        refine ⟨_, σ', ?_, c1, ?_, a1, by omega, a2, mm, fun i hi => ?_, fun x2 hx => ?_⟩
        · unfold p_Outline_isClass
          rw [if_neg c1, e4, if_neg (fun z => by have := (q_le (by omega) (by omega)).mp z; omega)]
        · rw [e6]; exact (q_lt (by omega) (by omega)).mpr l
        · obtain ⟨u, u1, u2, u3⟩ := a3.2.2.2 i hi
          have uN := (hm_i.mp u2).1
          refine ⟨u, by omega, u1, ?_⟩
          have e := m1 (nI i)
          rw [fi1_is (u := u) (Nat.zero_le _) (by omega) (by rw [u2, decide_eq_true (by rw [u3])]; rfl) (fun v _ vu => by
            cases pv : Hm (KK C n N) N μ.2.2 c v
            · rfl
            · have := (a3.at pv).1
              rw [Bool.true_and]
              refine decide_eq_false (fun z => ?_)
              have := (q_eq (by omega) (by omega)).mp z
              have := a3.2.2.1 u v u2 pv (rk_uq (P := Hm (KK C n N) N μ.2.2 c) (N := N) uN (by omega) u2 pv (by rw [u3]; exact this.symm))
              omega)] at e
          rw [(tk u uN).1, ← (tkm u uN).1]
          exact e
        · have e := m1 x2
          rw [fi1_no (fun v _ vu => by
            cases pv : Hm (KK C n N) N μ.2.2 c v
            · rfl
            · have := (a3.at pv).1
              rw [Bool.true_and]
              exact decide_eq_false (fun z => hx _ this z.symm))] at e
          exact e
      · refine Or.inl ⟨?_, Or.inr ?_⟩
        · unfold p_Outline_isClass
          rw [if_neg c1, e4, if_pos ((q_le (by omega) (by omega)).mpr (by omega))]
        · rw [e6]; exact fun z => l ((q_lt (by omega) (by omega)).mp z)
  · refine Or.inl ⟨?_, ?_⟩
    · unfold p_Outline_isClass
      by_cases c1 : x1 < 0
      · rw [if_pos c1]
      · rw [if_neg c1, s4, if_pos (Int32.not_lt.mp c1)]
    · by_cases c1 : x1 < 0
      · exact Or.inl c1
      · rw [m6]; exact Or.inr c1
theorem ok_members (h : SimF FR σ τ μ) (x1 : Int32) : Sx (SimF FR) (p_LanguageServer_members σ τ x1) (p_Mo_members μ x1) [(0, 0), (3, 1)] := by
  obtain ⟨σ', μ', e, em, rd, si, si', z, _⟩ := qpre h
  have bad : Sx (SimF FR) (some (3, 0, σ', τ)) (some (0, sS μ' 0 1)) [(0, 0), (3, 1)] := sx_of (3, 1) (by simp) rfl rfl rfl (fun h => absurd h (by decide)) (by decide) (si 1)
  unfold p_LanguageServer_members p_Mo_members
  rw [e, q_bd1, em, q_bd1]
  rcases mbr_all rd x1 with ⟨a, b⟩ | ⟨k, σ2, a, b1, b2, d, kl, fr, mm, _⟩
  · rw [a, q_bd1, if_pos rfl]
    rcases b with b | b
    · rw [if_pos b]; exact bad
    · by_cases c : x1 < 0
      · rw [if_pos c]; exact bad
      · rw [if_neg c, if_neg b]; exact bad
  · rw [a, q_bd1, if_neg (by decide), if_neg b1, if_pos b2, d, q_bd2, mm]
    exact sx_of (0, 0) (by simp) rfl rfl z (fun _ => rfl) (by decide) (si'.lf fr)
theorem ok_member (h : SimF FR σ τ μ) (x1 x2 : Int32) : Sx (SimF FR) (p_LanguageServer_member σ τ x1 x2) (p_Mo_member μ x1 x2) [(0, 0), (3, 1)] := by
  obtain ⟨σ', μ', e, em, rd, si, si', z, _⟩ := qpre h
  have bad : Sx (SimF FR) (some (3, 0, σ', τ)) (some (0, sS μ' 0 1)) [(0, 0), (3, 1)] := sx_of (3, 1) (by simp) rfl rfl rfl (fun h => absurd h (by decide)) (by decide) (si 1)
  unfold p_LanguageServer_member p_Mo_member
  rw [e, q_bd1, em, q_bd1]
  rcases mbr_all rd x1 with ⟨a, b⟩ | ⟨k, σ2, a, b1, b2, d, kl, fr, mm, m1, m2⟩
  · rw [a, q_bd1, if_pos rfl]
    rcases b with b | b
    · rw [if_pos b]; exact bad
    · by_cases c : x1 < 0
      · rw [if_pos c]; exact bad
      · rw [if_neg c, if_neg b]; exact bad
  · rw [a, q_bd1, if_neg (by decide), if_neg b1, if_pos b2]
    by_cases c : x2 < 0
    · rw [if_pos c, m2 x2 (fun i hi y => absurd (y ▸ c) (q_pos (by omega)))]
      exact bad
    · rw [if_neg c, d, q_bd2]
      obtain ⟨i, hi, rfl⟩ := nI_of c
      by_cases l : i < k
      · obtain ⟨u, ul, u1, u2⟩ := m1 i l
        rw [if_pos ((q_lt (by omega) (by omega)).mpr l), if_pos (q_inR (by omega) (by decide)), q_tn (by omega), u1, if_pos (q_inR (by omega) (by decide)), q_tn (by omega), u2]
        exact sx_of (0, 0) (by simp) rfl rfl z (fun _ => by rw [fr.2.2 4 (by decide)]) (by decide) (si'.lf fr)
      · rw [if_neg (fun y => l ((q_lt (by omega) (by omega)).mp y)), m2 (nI i) (fun j hj y => by
          have := (q_eq (by omega) (by omega)).mp y
          omega)]
        exact sx_of (3, 1) (by simp) rfl rfl rfl (fun h => absurd h (by decide)) (by decide) ((si 1).lf fr)
end Q4
