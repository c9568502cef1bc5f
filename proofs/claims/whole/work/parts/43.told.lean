/-! ===== tornTold, knockSet, rowAt ===== -/
set_option maxRecDepth 100000 in
theorem xR0_rw : xR0 93 5 = 99 ∧ xR0 104 98 = 169 := by decide +kernel
theorem xu1_c (M : xM) (w : Int) {c : Nat} (h : c ≠ 1) : xu M 1 0 w c = M c := xu_cell M 0 w h
/-- what the hunt remembers of a torn cloth, and the model -/
def TnOK (M : xM) : Prop := (M 78 6 = -1 ∧ M 104 90 < 1) ∨ (M 78 6 ≠ -1 ∧ 1 ≤ M 104 90 ∧ M 104 91 = M 78 6 ∧ M 104 92 = M 78 7 ∧ M 104 93 = M 78 8)
theorem op_tornTold {R : xR} {M : xM} {pn ps ln ls : Nat} (hR : RG R pn ps ln ls) (hT : TnOK M) (a : Int) :
    ∃ (r : Int) (M1 M2 : xM), f_X_tornTold R 1 a M = some (r, M1) ∧ f_M_tornTold 104 a M1 = some (r, M2) ∧ ∃ w, M2 = den w M := by
  have r10 : R 1 10 = 78 := hR.2.1.2.2.2.2.2.2.2.2.2.1
  unfold f_X_tornTold f_M_tornTold
  simp only [refuse_eq, refuseM_eq, answer_eq, gives_eq, xb2_some, r10]
  by_cases h1 : a < 0
  · simp only [if_pos h1]
    exact ⟨-1, _, _, rfl, rfl, 1, rfl⟩
  · simp only [if_neg h1]
    by_cases h2 : 2 < a
    · simp only [if_pos h2]
      exact ⟨-1, _, _, rfl, rfl, 1, rfl⟩
    · simp only [if_neg h2]
      rcases hT with ⟨e, e'⟩ | ⟨e, e', q1, q2, q3⟩
      · simp only [if_pos e]
        refine ⟨-1, _, _, rfl, ?_, 6, rfl⟩
        rw [xu1_104, if_pos e']; rfl
      · simp only [if_neg e]
        by_cases h3 : a = 0
        · simp only [if_pos h3]
          refine ⟨_, _, _, rfl, ?_, 0, rfl⟩
          rw [xu1_104, xu1_104, if_neg (by omega), q1]; rfl
        · simp only [if_neg h3]
          by_cases h4 : a = 1
          · simp only [if_pos h4]
            refine ⟨_, _, _, rfl, ?_, 0, rfl⟩
            rw [xu1_104, xu1_104, if_neg (by omega), q2]; rfl
          · simp only [if_neg h4]
            refine ⟨_, _, _, rfl, ?_, 0, rfl⟩
            rw [xu1_104, xu1_104, if_neg (by omega), q3]; rfl
theorem op_knockSet {R : xR} {M : xM} {pn ps ln ls : Nat} (hR : RG R pn ps ln ls) (hT : M 104 94 = M 78 11) :
    ∃ (r : Int) (M1 M2 : xM), f_X_knockSet R 1 M = some (r, M1) ∧ f_M_knockSet 104 M1 = some (r, M2) ∧ ∃ w, M2 = den w M := by
  have r10 : R 1 10 = 78 := hR.2.1.2.2.2.2.2.2.2.2.2.1
  unfold f_X_knockSet f_M_knockSet
  simp only [refuse_eq, refuseM_eq, answer_eq, gives_eq, xb2_some, r10]
  by_cases e : M 78 11 = -1
  · simp only [if_pos e]
    refine ⟨-1, _, _, rfl, ?_, 6, rfl⟩
    rw [xu1_104, hT, if_pos e]; rfl
  · simp only [if_neg e]
    refine ⟨_, _, _, rfl, ?_, 0, rfl⟩
    rw [xu1_104, hT, if_neg e]; rfl
/-- the row found last -/
def RwOK (M : xM) : Prop := 0 ≤ M 93 6 ∧ M 93 6 ≤ 4 ∧ (M 104 99 = M 93 6 ∨ (M 93 6 = 0 ∧ M 104 99 = -1)) ∧ ∀ k : Nat, (k : Int) < M 93 6 → M 169 k = M 99 k
theorem op_rowAt {R : xR} {M : xM} {pn ps ln ls : Nat} (hR : RG R pn ps ln ls) (hT : RwOK M) (a : Int) :
    ∃ (r : Int) (M1 M2 : xM), f_X_rowAt R 1 a M = some (r, M1) ∧ f_M_rowAt R 104 a M1 = some (r, M2) ∧ ∃ w, M2 = den w M := by
  have r11 : R 1 11 = 93 := hR.2.1.2.2.2.2.2.2.2.2.2.2
  have r5 : R 93 5 = 99 := by rw [hR.at 93 5 (by decide) (by decide)]; exact xR0_rw.1
  have r98 : R 104 98 = 169 := by rw [hR.at 104 98 (by decide) (by decide)]; exact xR0_rw.2
  obtain ⟨t1, t2, t3, t4⟩ := hT
  unfold f_X_rowAt f_M_rowAt
  simp only [refuse_eq, refuseM_eq, answer_eq, gives_eq, xb2_some, r11, r5, r98]
  by_cases h1 : a < 0
  · simp only [if_pos h1]
    exact ⟨-1, _, _, rfl, rfl, 1, rfl⟩
  · simp only [if_neg h1]
    by_cases h2 : a < M 93 6
    · simp only [if_pos h2, if_pos (show a < 4 by omega), xch_pos (show 0 ≤ a ∧ a < 4 by omega)]
      refine ⟨_, _, _, rfl, ?_, 0, rfl⟩
      rw [xu1_104, if_pos (show a < M 104 99 by omega), xu1_c _ _ (by decide), t4 a.toNat (by omega)]; rfl
    · simp only [if_neg h2]
      refine ⟨-1, _, _, rfl, ?_, 6, rfl⟩
      rw [xu1_104, if_neg (show ¬ a < M 104 99 by omega)]; rfl
