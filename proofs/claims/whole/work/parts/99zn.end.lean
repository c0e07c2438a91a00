/-! all calls -/
theorem FR_0 : FR σR := fun μ tx => by
  obtain ⟨n, C, tc, tm⟩ := tx.chars
  have n0 : n = 0 := by
    have := tc.2.1
    have h : nI 0 = nI n := this
    exact ((q_eq (by decide) (by have := tc.1; omega)).mp h).symm
  subst n0
  obtain ⟨σ', μ', _, em, _, tc', tm', _, af, rd0⟩ := core1 (σ := sS σR 0 1) (tc.keep rfl rfl) tm rfl
  obtain ⟨n2, N2, C2, z2, tc2, tm2, iN2, tk2, tkm2, eb2, f5, g5⟩ := rd0 rfl
  have e2 : n2 = 0 := (tc'.uq tc2).1.symm
  subst e2
  have eN : N2 = 0 := Decidable.byContradiction (fun z => by have := iN2.2.1 0 (by omega); omega)
  subst eN
  obtain ⟨sc, hW, hp, h12, sm, ew, ag, rs, _⟩ := eb2
  refine ⟨μ', em, Or.inl ⟨0, 0, C2, (σR, μ'), ⟨by omega, rfl, fun i hi => by omega⟩, tm2, iN2, fun u hu => by omega, fun u hu => by omega, ⟨⟨by omega, rfl, sc.2.2.1, rfl, rfl, fun u => by rw [if_neg (by omega)]; rfl, fun u => rfl, fun c hc => absurd hc (Nat.not_lt_zero c), rfl, fun u hu => by omega⟩, fun u v hu => by omega, fun c hc => absurd hc (Nat.not_lt_zero c), fun u hu => by omega, sm, rfl, ⟨fun u hu => by omega, fun u hu => ?_⟩, ⟨fun u _ hu => by omega, ⟨fun u => ⟨0, by decide, rfl⟩, fun u _ => rfl⟩, fun u hu => by omega⟩, fun _ _ => rfl, fun _ _ _ _ => rfl, rfl, fun _ _ _ => rfl, fun _ _ => rfl, rfl⟩, rfl, g5⟩, af⟩
  rw [← ag.2 u hu, rs.2.1.2 u (Nat.zero_le _)]
  rfl
theorem hs_0 : SimF FR σR σR σR0 := ⟨⟨0, by omega, rfl, rfl, fun i hi => by omega⟩, Or.inr ⟨rfl, FR_0⟩⟩
theorem hSt_all : Stps (SimF FR) := fun σ τ μ h => ⟨fun x1 x2 => ok_insert h x1 x2, fun x1 x3 => ok_append h x1 x3, fun x1 x2 => ok_delete h x1 x2, fun x1 => ok_text h x1, ok_diagnostics h, fun x1 x2 => ok_diagnostic h x1 x2, fun x1 => ok_definition h x1, fun x1 => ok_type h x1, fun x1 => ok_references h x1, fun x1 x2 => ok_reference h x1 x2, fun x1 => ok_members h x1, fun x1 x2 => ok_member h x1 x2, fun x1 x2 x4 => ok_rename h x1 x2 x4, fun x1 => ok_count h x1⟩
theorem i_vc : Claimed_1_1 ∧ Claimed_1_2 := i_vc_of hs_0 hSt_all
