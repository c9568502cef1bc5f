theorem within_eq {R : xR} {pn ps ln ls : Nat} (hR : RG R pn ps ln ls) {M : xM} {t n : Nat} {L : Int} (ht : t < 4) (hn : n ≤ 60) : ((∀ i, i < n → 0 ≤ M 5 (60 * t + i) ∧ M 5 (60 * t + i) ≤ L) ∧ f_Y_areWithin R 4 (t : Int) (n : Int) L M = some 1) ∨ ((∃ i, i < n ∧ ¬ (0 ≤ M 5 (60 * t + i) ∧ M 5 (60 * t + i) ≤ L)) ∧ f_Y_areWithin R 4 (t : Int) (n : Int) L M = some 0) := by
  have h := within_F3 hR (M := M) (L := L) ht hn n xfu 0 (by have : xfu = 1000000 := rfl; omega) (by omega)
  by_cases q : ∀ i, i < n → 0 ≤ M 5 (60 * t + i) ∧ M 5 (60 * t + i) ≤ L
  · exact Or.inl ⟨q, h.1 fun i _ hi => q i hi⟩
  · have q2 : ∃ i, i < n ∧ ¬ (0 ≤ M 5 (60 * t + i) ∧ M 5 (60 * t + i) ≤ L) := Classical.byContradiction fun z => q fun i hi => Classical.byContradiction fun y => z ⟨i, hi, y⟩
    obtain ⟨i, i1, i2⟩ := q2
    exact Or.inr ⟨⟨i, i1, i2⟩, h.2 ⟨i, by omega, i1, i2⟩⟩
theorem op_gauge {R : xR} {M : xM} {pn ps ln ls : Nat} (hR : RG R pn ps ln ls) (hT : TrOK (M 6) (M 7) (M 5) (M 105) (M 106) (M 107)) (a b c d : Int) :
    ∃ (r : Int) (M1 M2 : xM), f_X_gauge R 1 a b c d M = some (r, M1) ∧ f_M_gauge R 104 a b c d M1 = some (r, M2) ∧ ((∃ w, M2 = den w M) ∨ (GgOK M2 ∧ GF M M2)) := by
  have r2 : R 104 2 = 106 := by rw [hR.at 104 2 (by decide) (by decide)]; exact xR0_104.2.1
  have r11 : R 1 11 = 93 := hR.2.1.2.2.2.2.2.2.2.2.2.2
  have xf : xfu = 1000000 := rfl
  unfold f_X_gauge f_M_gauge
  simp only [isTray_eq, isTrayM_eq, isSpan_eq, xb1_some, x01_0, refuse_eq, refuseM_eq, xb2_some, r2, r11, hR.2.1.2.1]
  by_cases h1 : 0 ≤ a ∧ a < 4
  · simp only [if_neg (show ¬¬(0 ≤ a ∧ a < 4) from fun q => q h1), xch_pos h1]
    by_cases h2 : 0 ≤ b ∧ b < 4
    · simp only [if_neg (show ¬¬(0 ≤ b ∧ b < 4) from fun q => q h2), xch_pos h2]
      by_cases h3 : c < 1
      · simp only [if_pos h3]
        exact ⟨-1, _, _, rfl, rfl, Or.inl ⟨1, rfl⟩⟩
      · simp only [if_neg h3]
        by_cases h4 : 10 < c
        · simp only [if_pos h4]
          exact ⟨-1, _, _, rfl, rfl, Or.inl ⟨1, rfl⟩⟩
        · simp only [if_neg h4]
          by_cases h5 : d < 0
          · simp only [if_pos h5, if_pos (show ¬ (0 ≤ d ∧ d ≤ 1000) by omega)]
            exact ⟨-1, _, _, rfl, rfl, Or.inl ⟨1, rfl⟩⟩
          · simp only [if_neg h5]
            by_cases h6 : 1000 < d
            · simp only [if_pos h6, if_pos (show ¬ (0 ≤ d ∧ d ≤ 1000) by omega)]
              exact ⟨-1, _, _, rfl, rfl, Or.inl ⟨1, rfl⟩⟩
            · simp only [if_neg h6, if_neg (show ¬¬ (0 ≤ d ∧ d ≤ 1000) by omega)]
              obtain ⟨t, rfl⟩ : ∃ t : Nat, a = t := ⟨a.toNat, by omega⟩
              obtain ⟨u, rfl⟩ : ∃ u : Nat, b = u := ⟨b.toNat, by omega⟩
              obtain ⟨n, rfl⟩ : ∃ n : Nat, c = n := ⟨c.toNat, by omega⟩
              have ht : t < 4 := by omega
              have hu : u < 4 := by omega
              rw [bothSt_eq hR ht hu (by omega) (by omega), xb1_some]
              simp only [Int.toNat_natCast]
              have o6 : ∀ w, xu M 1 0 w 106 = M 106 := fun w => xu1_c _ _ (by decide)
              rcases hT t ht with ⟨e1, e2⟩ | ⟨e1, -, e3, e4, e5⟩
              · rw [if_pos e1, if_neg (by decide)]
                refine ⟨-1, _, den 2 M, rfl, ?_, Or.inl ⟨2, rfl⟩⟩
                rw [o6, if_pos e2]
                rfl
              · rw [if_neg (show M 6 t ≠ -1 by omega)]
                rcases hT u hu with ⟨f1, f2⟩ | ⟨f1, -, f3, f4, f5⟩
                · rw [if_pos f1, if_neg (by decide)]
                  refine ⟨-1, _, den 2 M, rfl, ?_, Or.inl ⟨2, rfl⟩⟩
                  rw [o6, if_neg (by omega), if_pos f2]
                  rfl
                · rw [if_neg (show M 6 u ≠ -1 by omega)]
                  by_cases h7 : M 7 t < n
                  · rw [if_pos h7, if_neg (by decide)]
                    refine ⟨-1, _, den 3 M, rfl, ?_, Or.inl ⟨3, rfl⟩⟩
                    rw [o6, if_neg (by omega), if_neg (by omega), if_pos (by omega)]
                    rfl
                  · rw [if_neg h7]
                    by_cases h8 : M 7 u < n
                    · rw [if_pos h8, if_neg (by decide)]
                      refine ⟨-1, _, den 3 M, rfl, ?_, Or.inl ⟨3, rfl⟩⟩
                      rw [o6, if_neg (by omega), if_neg (by omega), if_neg (by omega), if_pos (by omega)]
                      rfl
                    · rw [if_neg h8, if_pos rfl]
                      have g1 : ∀ i, i < n → M 107 (60 * t + i) = M 5 (60 * t + i) := fun i hi => (e5 i (by omega)).symm
                      have g2 : ∀ i, i < n → M 107 (60 * u + i) = M 5 (60 * u + i) := fun i hi => (f5 i (by omega)).symm
                      have o7 : ∀ w, xu M 1 0 w 107 = M 107 := fun w => xu1_c _ _ (by decide)
                      rcases within_eq hR (M := M) (L := 999) ht (show n ≤ 60 by omega) with ⟨w1, w2⟩ | ⟨w1, w2⟩
                      · rw [w2, xb1_some, if_neg (by decide)]
                        rcases within_eq hR (M := M) (L := 99999) hu (show n ≤ 60 by omega) with ⟨w3, w4⟩ | ⟨w3, w4⟩
                        · rw [w4, xb1_some, if_neg (by decide)]
                          obtain ⟨r, M1, M2, k1, k2, k3, k4, k5⟩ := gauge_in hR ht hu (show n ≤ 10 by omega) (d := d) (by omega) (fun i hi => ⟨w1 i hi, w3 i hi⟩) g1 g2
                          refine ⟨r, M1, M2, k1, ?_, Or.inr ⟨k4, k5⟩⟩
                          rw [k2 106 (by decide), if_neg (by omega), if_neg (by omega), if_neg (by omega), if_neg (by omega)]
                          exact k3
                        · rw [w4, xb1_some, if_pos rfl]
                          refine ⟨-1, _, den 1 M, rfl, ?_, Or.inl ⟨1, rfl⟩⟩
                          rw [o6, if_neg (by omega), if_neg (by omega), if_neg (by omega), if_neg (by omega)]
                          refine ((gauge_F99 hR ht (show n ≤ 10 by omega) (u : Int) d _ _ n xfu 0 (by omega) (by omega)).1 (fun i _ hi => by rw [o7, g1 i hi]; exact w1 i hi)).trans ?_
                          refine (gauge_F142 hR hu (show n ≤ 10 by omega) (t : Int) d _ _ n xfu 0 (by omega) (by omega)).2 ?_
                          obtain ⟨i, i1, i2⟩ := w3
                          exact ⟨i, by omega, i1, by rw [o7, g2 i i1]; exact i2⟩
                      · rw [w2, xb1_some, if_pos rfl]
                        refine ⟨-1, _, den 1 M, rfl, ?_, Or.inl ⟨1, rfl⟩⟩
                        rw [o6, if_neg (by omega), if_neg (by omega), if_neg (by omega), if_neg (by omega)]
                        refine (gauge_F99 hR ht (show n ≤ 10 by omega) (u : Int) d _ _ n xfu 0 (by omega) (by omega)).2 ?_
                        obtain ⟨i, i1, i2⟩ := w1
                        exact ⟨i, by omega, i1, by rw [o7, g1 i i1]; exact i2⟩
    · simp only [if_pos h2]
      exact ⟨-1, _, _, rfl, rfl, Or.inl ⟨1, rfl⟩⟩
  · simp only [if_pos h1]
    exact ⟨-1, _, _, rfl, rfl, Or.inl ⟨1, rfl⟩⟩
