theorem GP.of {M N : xM} (h4 : N 104 104 = M 104 104) (h5 : N 104 105 = M 104 105) (h2 : N 172 = M 172) (h3 : N 173 = M 173) (h : GP M) : GP N := by
  unfold GP at *
  rw [h4, h5, h2, h3]
  exact h
theorem Lin.of {M N : xM} (h4 : N 104 104 = M 104 104) (h5 : N 104 105 = M 104 105) (h2 : N 172 = M 172) (h3 : N 173 = M 173) (e2 : N 102 = M 102) (e3 : N 103 = M 103) (h : Lin M) : Lin N := by
  unfold Lin Fit Fit1 at *
  rw [h4, h5, h2, h3, e2, e3]
  exact h
theorem op_gaugeTold {R : xR} {M : xM} {pn ps ln ls : Nat} (hR : RG R pn ps ln ls) (hT : GgOK M) (a b : Int) :
    ∃ (r : Int) (M1 M2 : xM), f_X_gaugeTold R 1 a b M = some (r, M1) ∧ f_M_gaugeTold R 104 a b M1 = some (r, M2) ∧ ∃ w, M2 = den w M := by
  have r11 : R 1 11 = 93 := hR.2.1.2.2.2.2.2.2.2.2.2.2
  have xf : xfu = 1000000 := rfl
  unfold f_X_gaugeTold f_M_gaugeTold
  simp only [refuse_eq, refuseM_eq, xb2_some, r11]
  by_cases h1 : a < 0
  · simp only [if_pos h1]
    exact ⟨-1, _, _, rfl, rfl, 1, rfl⟩
  · simp only [if_neg h1]
    by_cases h2 : 999 < a
    · simp only [if_pos h2]
      exact ⟨-1, _, _, rfl, rfl, 1, rfl⟩
    · simp only [if_neg h2]
      by_cases h3 : b < 0
      · simp only [if_pos h3]
        exact ⟨-1, _, _, rfl, rfl, 1, rfl⟩
      · simp only [if_neg h3]
        by_cases h4 : 1 < b
        · simp only [if_pos h4]
          exact ⟨-1, _, _, rfl, rfl, 1, rfl⟩
        · simp only [if_neg h4]
          rcases hT with ⟨t1, t2⟩ | ⟨t1, t2, t3, t4⟩
          · have hl := least_0 hR t1 a 100 xfu 0 (by omega) (by omega)
            have e1 : f_P_leastTold R 93 a M = some (-1) := hl.1
            have e2 : f_P_mostTold R 93 a M = some (-1) := hl.2
            rw [e1, e2, xb1_some, told_J49]
            refine ⟨-1, xu M 1 0 6, den 6 M, ?_, ?_, 6, rfl⟩
            · by_cases z : b = 0
              · rw [if_pos z]; rfl
              · rw [if_neg z]; rfl
            · rw [xu1_104, if_pos t2]; rfl
          · have hB : LinB M := fun m hm => ⟨(t3 m hm).1, (t3 m hm).2.1⟩
            have hlo : ∀ i, i < 100 → 0 ≤ M 102 i := fun i hi => (hB i hi).1.1
            have e1 : f_P_leastTold R 93 a M = some (tlS (M 102) (M 103) a 100 0 (-1)) := least_F4 hR hB t1 (by omega) (by omega) 100 xfu 0 (-1) (by omega) (by omega)
            have e2 : f_P_mostTold R 93 a M = some (tmS (M 102) (M 103) a 100 0 (-1)) := most_F4 hR hB t1 (by omega) (by omega) 100 xfu 0 (-1) (by omega) (by omega)
            obtain ⟨r, hr⟩ : ∃ r, r = if b = 0 then tlS (M 102) (M 103) a 100 0 (-1) else tmS (M 102) (M 103) a 100 0 (-1) := ⟨_, rfl⟩
            have hX : (if b = 0 then xb1 (f_P_leastTold R 93 a M) fun r_18 => X_gaugeTold_J49 R 1 r_18 M else xb1 (f_P_mostTold R 93 a M) fun r_27 => X_gaugeTold_J49 R 1 r_27 M) = some (r, xu M 1 0 (if r = -1 then 6 else 0)) := by
              rw [e1, e2, xb1_some, xb1_some, told_J49, told_J49, hr]
              by_cases z : b = 0
              · simp only [if_pos z]
              · simp only [if_neg z]
            rw [hX]
            by_cases c1 : M 104 106 < 1
            · have hn := cntS_none 100 0 0 (lo := M 102) (hi := M 103) (by omega)
              have hr1 : r = -1 := by
                rw [hr, tlS_none _ _ _ hn, tmS_none _ _ _ hn]
                by_cases z : b = 0
                · rw [if_pos z]
                · rw [if_neg z]
              rw [hr1, if_pos rfl]
              refine ⟨-1, xu M 1 0 6, den 6 M, rfl, ?_, 6, rfl⟩
              rw [xu1_104, if_pos c1]; rfl
            · have hs := cntS_some 100 0 0 (lo := M 102) (hi := M 103) (by omega)
              have hr1 : 0 ≤ r := by
                rw [hr]
                by_cases z : b = 0
                · rw [if_pos z]
                  exact tlS_pos (by omega) hlo 100 0 (-1) (by omega) (by omega) (Or.inr hs)
                · rw [if_neg z]
                  exact tmS_pos (by omega) hlo 100 0 (-1) (by omega) (by omega) (Or.inr hs)
              rw [if_neg (show ¬ r = -1 by omega)]
              refine ⟨r, xu M 1 0 0, den 0 M, rfl, ?_, 0, rfl⟩
              rw [xu1_104, if_neg c1]
              have g := told_F46 hR (M := xu M 1 0 0) (h := a) (w := b) (GP.of (xu1_104 _ _ _) (xu1_104 _ _ _) (xu1_c _ _ (by decide)) (xu1_c _ _ (by decide)) t2) (Lin.of (xu1_104 _ _ _) (xu1_104 _ _ _) (xu1_c _ _ (by decide)) (xu1_c _ _ (by decide)) (xu1_c _ _ (by decide)) (xu1_c _ _ (by decide)) t3) (by omega) (by omega) 100 xfu 0 (-1) (by omega) (by omega) (by omega)
              rw [xu1_c _ _ (show (102 : Nat) ≠ 1 by decide), xu1_c _ _ (show (103 : Nat) ≠ 1 by decide), ← hr] at g
              exact g
