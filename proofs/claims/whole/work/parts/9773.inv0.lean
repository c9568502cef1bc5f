set_option maxRecDepth 100000 in
theorem rg0 : RG xR0 8 20 32 40 := ⟨fun _ _ _ _ => rfl, by decide +kernel, by decide +kernel, Or.inl ⟨rfl, rfl⟩, Or.inl ⟨rfl, rfl⟩⟩
set_option maxRecDepth 100000 in
theorem m0_3 (i : Nat) : xM0 3 i = 0 := by rfl
set_option maxRecDepth 100000 in
theorem m0_a : xM0 104 0 = xM0 1 0 ∧ (∀ t, t < 4 → xM0 6 t = -1 ∧ xM0 106 t = -1) ∧ xM0 2 1 = 0 ∧ xM0 104 6 = 0 ∧ xM0 104 13 = xM0 2 12 ∧ xM0 104 14 = xM0 2 13 := by decide +kernel
set_option maxRecDepth 100000 in
theorem m0_b : xM0 8 0 = 0 ∧ xM0 8 1 = 0 ∧ xM0 104 30 = 0 ∧ xM0 104 31 = 0 ∧ xM0 48 0 = 0 ∧ xM0 104 59 = 0 ∧ xM0 48 4 = 0 ∧ xM0 104 60 = 0 ∧ xM0 48 10 = 0 ∧ xM0 104 61 = 0 ∧ xM0 48 11 = 99 ∧ xM0 104 62 = 99 := by decide +kernel
set_option maxRecDepth 100000 in
theorem m0_c : (∀ h, h < 48 → xM0 154 h = xM0 57 h) ∧ xM0 62 9 = -1 ∧ xM0 62 0 = 0 ∧ xM0 48 13 = 1 ∧ xM0 104 74 = -1 ∧ xM0 104 77 = -1 ∧ xM0 104 78 = 0 ∧ xM0 32 0 = 0 ∧ xM0 104 40 = 0 := by decide +kernel
set_option maxRecDepth 100000 in
theorem m0_d : xM0 78 6 = -1 ∧ xM0 104 90 < 1 ∧ xM0 104 94 = xM0 78 11 ∧ xM0 93 6 = 0 ∧ xM0 104 99 = -1 ∧ xM0 93 11 = 0 ∧ xM0 104 106 < 1 := by decide +kernel
theorem iv0 : IvR xR0 xM0 := by
  obtain ⟨a1, a2, a3, a4, a5, a6⟩ := m0_a
  obtain ⟨b1, b2, b3, b4, b5, b6, b7, b8, b9, b10, b11, b12⟩ := m0_b
  obtain ⟨c1, c2, c3, c4, c5, c6, c7, c8, c9⟩ := m0_c
  obtain ⟨d1, d2, d3, d4, d5, d6, d7⟩ := m0_d
  refine ⟨8, 20, 32, 40, rg0, a1, fun t ht => Or.inl (a2 t ht), ⟨by omega, fun i hi => by omega, fun i => by rw [m0_3]; decide, a5, a6⟩, ⟨⟨by omega, by omega, fun c hc => by omega, fun c hc => by omega⟩, ⟨by omega, by omega, by omega, by omega⟩, fun r hr => by omega, fun r hr => by omega, c1⟩, ⟨c2, by omega, fun z => by omega⟩, ⟨c5, c6, c7⟩, ⟨0, 0, by decide, by decide, c8, c9, fun i hi => absurd hi (Nat.not_lt_zero i), fun i hi => absurd hi (Nat.not_lt_zero i)⟩, Or.inl ⟨d1, d2⟩, d3, ⟨by omega, by omega, Or.inr ⟨d4, d5⟩, fun k hk => by omega⟩, Or.inl ⟨d6, d7⟩⟩
