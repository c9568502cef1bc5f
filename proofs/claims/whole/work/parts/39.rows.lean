theorem xu1_out (f : xM) {b : Nat} (j : Nat) (u v : Int) (h : b ≠ 1) : xu (xu f 1 0 v) b j u = xu (xu f b j u) 1 0 v := xu_comm f 0 j v u (fun q => h q.symm)
/-- rows, events: how many, the latest hour, as of when; the same on both sides -/
def BcOK (M : xM) : Prop := (0 ≤ M 48 0 ∧ M 48 0 ≤ 200 ∧ M 104 59 = M 48 0) ∧ (0 ≤ M 48 4 ∧ M 48 4 ≤ 40 ∧ M 104 60 = M 48 4) ∧ (0 ≤ M 48 10 ∧ M 48 10 ≤ 99 ∧ M 104 61 = M 48 10) ∧ (0 ≤ M 48 11 ∧ M 48 11 ≤ 99 ∧ M 104 62 = M 48 11)
theorem rowStatus_eq (k : Int) (M : xM) : f_B_rowStatus 48 k M = some (if M 48 0 < 200 then (if k < M 48 10 then 5 else 0) else 4) := by
  unfold f_B_rowStatus f_B_addStatus
  by_cases h : M 48 0 < 200
  · rw [if_pos h, if_pos rfl, if_pos h]
    by_cases h2 : k < M 48 10
    · rw [if_pos h2, if_pos h2, xb1_some]
    · rw [if_neg h2, if_neg h2, xb1_some]
  · rw [if_neg h, if_neg (by decide), if_neg h, xb1_some]
theorem eventStatus_eq (k : Int) (M : xM) : f_B_eventStatus 48 k M = some (if M 48 4 < 40 then (if k < M 48 10 then 5 else 0) else 4) := by
  unfold f_B_eventStatus f_B_addStatus
  by_cases h : M 48 4 < 40
  · rw [if_pos h, if_pos rfl, if_pos h]
    by_cases h2 : k < M 48 10
    · rw [if_pos h2, if_pos h2, xb1_some]
    · rw [if_neg h2, if_neg h2, xb1_some]
  · rw [if_neg h, if_neg (by decide), if_neg h, xb1_some]
/-- a row more in the class -/
def rowX (n : Nat) (cl p k : Int) (M : xM) : xM := xu (xu (xu (xu (xu (xu M 49 n cl) 50 n p) 51 n k) 48 0 ((n : Int) + 1)) 48 10 k) 48 13 1
/-- a row more in the model -/
def rowM (n : Nat) (w h s p k : Int) (M : xM) : xM := xu (xu (xu (xu (xu (xu (xu M 104 61 k) 144 n w) 145 n h) 146 n s) 147 n p) 148 n k) 104 59 ((n : Int) + 1)
theorem addRow_eq {R : xR} {pn ps ln ls : Nat} (hR : RG R pn ps ln ls) {cl p k : Int} {M : xM} (h : 0 ≤ M 48 0 ∧ M 48 0 < 200) : f_B_addRow R 48 cl p k M = some (rowX (M 48 0).toNat cl p k M) := by
  have rb := xR0_bk
  unfold f_B_addRow B_addRow_J50 rowX
  rw [if_pos h.2, xch_pos h, hR.at 48 1 (by decide) (by decide), hR.at 48 2 (by decide) (by decide), hR.at 48 3 (by decide) (by decide), rb.1, rb.2.1, rb.2.2.1]
  simp only [xl_eq]
  rw [xu_oth M cl (show (48 : Nat) ≠ 49 by decide), xch_pos h, xu_oth _ p (show (48 : Nat) ≠ 50 by decide), xu_oth M cl (show (48 : Nat) ≠ 49 by decide), xch_pos h, xu_oth _ k (show (48 : Nat) ≠ 51 by decide), xu_oth _ p (show (48 : Nat) ≠ 50 by decide), xu_oth M cl (show (48 : Nat) ≠ 49 by decide), w32_of (by omega) (by omega), show (((M 48 0).toNat : Nat) : Int) = M 48 0 by omega]
theorem cell_eq {a b c : Int} (ha : 0 ≤ a ∧ a < 4) (hb : 0 ≤ b ∧ b < 48) (hc : 0 ≤ c ∧ c < 4) : f_B_cell a b c = some ((a * 48 + b) * 4 + c) := by
  unfold f_B_cell
  rw [w32_of (x := a * 48) (by omega) (by omega), w32_of (x := a * 48 + b) (by omega) (by omega), w32_of (x := (a * 48 + b) * 4) (by omega) (by omega), w32_of (x := (a * 48 + b) * 4 + c) (by omega) (by omega)]
theorem op_row {R : xR} {M : xM} {pn ps ln ls : Nat} (hR : RG R pn ps ln ls) (hP : PlOK pn M) (hB : BcOK M) (a b c d e : Int) :
    ∃ (r : Int) (M1 M2 : xM), f_X_row R 1 a b c d e M = some (r, M1) ∧ f_M_row R 104 a b c d e M1 = some (r, M2) ∧ ((∃ w, M2 = den w M) ∨ (((0 ≤ a ∧ a < M pn 1) ∧ (0 ≤ b ∧ b < 48) ∧ (0 ≤ c ∧ c < 4) ∧ (0 ≤ d ∧ d ≤ 9999) ∧ (0 ≤ e ∧ e < 100) ∧ M 48 0 < 200 ∧ M 48 10 ≤ e) ∧ M2 = den 0 (rowM (M 48 0).toNat a b c d e (rowX (M 48 0).toNat ((a * 48 + b) * 4 + c) d e M)))) := by
  obtain ⟨b1, b2, b3, b4⟩ := hB
  obtain ⟨p1, p2, -, -⟩ := hP
  have rm := xR0_mb
  by_cases hv : (0 ≤ a ∧ a < M pn 1) ∧ (0 ≤ b ∧ b < 48) ∧ (0 ≤ c ∧ c < 4) ∧ (0 ≤ d ∧ d ≤ 9999) ∧ (0 ≤ e ∧ e < 100)
  · obtain ⟨ha, hb, hc, hd, he⟩ := hv
    have X0 : f_X_row R 1 a b c d e M = (if M 48 0 < 200 then (if e < M 48 10 then some (0, xu M 1 0 5) else some (1, xu (rowX (M 48 0).toNat ((a * 48 + b) * 4 + c) d e M) 1 0 0)) else some (0, xu M 1 0 4)) := by
      unfold f_X_row
      simp only [isWorks_eq hR, isHour_eq, isSize_eq, isKnown_eq, xb1_some, x01_0, hR.2.1.2.2.2.2.2.2.1, rowStatus_eq]
      rw [if_neg (by omega), if_neg (by omega), if_neg (by omega), if_neg (by omega), if_neg (by omega), if_neg (by omega)]
      by_cases q1 : M 48 0 < 200
      · rw [if_pos q1, if_pos q1]
        by_cases q2 : e < M 48 10
        · rw [if_pos q2, if_neg (by decide), if_pos q2, deny_eq, xb2_some, xch_01.1]
        · rw [if_neg q2, if_pos rfl, if_neg q2, cell_eq (by omega) hb hc, xb1_some, addRow_eq hR (by omega), xb1_some, done_eq, xb2_some, xch_01.2]
      · rw [if_neg q1, if_neg (by decide), if_neg q1, deny_eq, xb2_some, xch_01.1]
    have M0 : ∀ N : xM, N 104 = M 104 → f_M_row R 104 a b c d e N = (if M 48 0 < 200 then (if e < M 48 10 then some (0, xu N 104 0 5) else some (1, xu (rowM (M 48 0).toNat a b c d e N) 104 0 0)) else some (0, xu N 104 0 4)) := by
      intro N hN
      unfold f_M_row
      simp only [isWorksM_eq, isHourM_eq, isSizeM_eq, isKnownM_eq, xb1_some, x01_0, hN, isv4, isv5, isv0, xb2_some, xl_eq]
      rw [if_neg (by omega), if_neg (by omega), if_neg (by omega), if_neg (by omega), if_neg (by omega), if_neg (by omega)]
      by_cases q1 : M 48 0 < 200
      · rw [if_neg (by omega), if_pos q1]
        by_cases q2 : e < M 48 10
        · rw [if_pos (by omega), if_pos q2]
          simp only [xch_pos, true_or]
        · rw [if_neg (by omega), if_neg q2]
          have r0 := rm.1 0 (by decide); have r1 := rm.1 1 (by decide); have r2 := rm.1 2 (by decide); have r3 := rm.1 3 (by decide); have r4 := rm.1 4 (by decide)
          simp only [Nat.reduceAdd] at r0 r1 r2 r3 r4
          rw [hR.at 104 63 (by decide) (by decide), hR.at 104 64 (by decide) (by decide), hR.at 104 65 (by decide) (by decide), hR.at 104 66 (by decide) (by decide), hR.at 104 67 (by decide) (by decide), r0, r1, r2, r3, r4]
          have f59 : xu N 104 61 e 104 59 = M 48 0 := by rw [xu_at, if_neg (by decide), hN, b1.2.2]
          have st : ∀ (f : xM) (q j : Nat) (u : Int), q ≠ 104 → f 104 59 = M 48 0 → xu f q j u 104 59 = M 48 0 := fun f q j u hq hf => by rw [xu_oth f u (fun z => hq z.symm)]; exact hf
          have g1 := st _ 144 (M 48 0).toNat a (by decide) f59
          have g2 := st _ 145 (M 48 0).toNat b (by decide) g1
          have g3 := st _ 146 (M 48 0).toNat c (by decide) g2
          have g4 := st _ 147 (M 48 0).toNat d (by decide) g3
          have g5 := st _ 148 (M 48 0).toNat e (by decide) g4
          rw [f59, xch_pos (by omega), g1, xch_pos (by omega), g2, xch_pos (by omega), g3, xch_pos (by omega), g4, xch_pos (by omega), g5, w32_of (by omega) (by omega)]
          simp only [xch_pos, or_true]
          unfold rowM
          rw [show (((M 48 0).toNat : Nat) : Int) = M 48 0 by omega]
      · rw [if_pos (by omega), if_neg q1]
        simp only [xch_pos, true_or]
    have c1 : ∀ w : Int, (xu M 1 0 w) 104 = M 104 := fun w => xu_cell _ _ _ (by decide)
    by_cases q1 : M 48 0 < 200
    · rw [if_pos q1] at X0
      by_cases q2 : e < M 48 10
      · rw [if_pos q2] at X0
        exact ⟨0, _, den 5 M, X0, by rw [M0 _ (c1 5), if_pos q1, if_pos q2]; rfl, Or.inl ⟨5, rfl⟩⟩
      · rw [if_neg q2] at X0
        refine ⟨1, _, _, X0, ?_, Or.inr ⟨⟨ha, hb, hc, hd, he, q1, by omega⟩, rfl⟩⟩
        rw [M0 _ ?_, if_pos q1, if_neg q2]
        · unfold den rowM
          rw [xu1_out _ _ _ _ (by decide), xu1_out _ _ _ _ (by decide), xu1_out _ _ _ _ (by decide), xu1_out _ _ _ _ (by decide), xu1_out _ _ _ _ (by decide), xu1_out _ _ _ _ (by decide), xu1_out _ _ _ _ (by decide)]
        · unfold rowX
          simp only [ne_eq, Nat.reduceEqDiff, not_false_eq_true, xu_cell]
    · rw [if_neg q1] at X0
      exact ⟨0, _, den 4 M, X0, by rw [M0 _ (c1 4), if_neg q1]; rfl, Or.inl ⟨4, rfl⟩⟩
  · refine ⟨0, xu M 1 0 1, den 1 M, ?_, ?_, Or.inl ⟨1, rfl⟩⟩
    · unfold f_X_row
      simp only [isWorks_eq hR, isHour_eq, isSize_eq, isKnown_eq, xb1_some, x01_0, deny_eq, xb2_some, xch_pos, true_or, or_true]
      by_cases z1 : 0 ≤ a ∧ a < M pn 1
      · rw [if_neg (by omega)]
        by_cases z2 : 0 ≤ b ∧ b < 48
        · rw [if_neg (by omega)]
          by_cases z3 : 0 ≤ c ∧ c < 4
          · rw [if_neg (by omega)]
            by_cases z4 : d < 0
            · rw [if_pos z4]
            · rw [if_neg z4]
              by_cases z5 : 9999 < d
              · rw [if_pos z5]
              · rw [if_neg z5, if_pos (by omega)]
          · rw [if_pos (by omega)]
        · rw [if_pos (by omega)]
      · rw [if_pos (by omega)]
    · unfold f_M_row
      simp only [isWorksM_eq, isHourM_eq, isSizeM_eq, isKnownM_eq, xb1_some, x01_0, isv1, xb2_some, xch_pos, true_or, or_true, xu1_104]
      by_cases z1 : 0 ≤ a ∧ a < M pn 1
      · rw [if_neg (by omega)]
        by_cases z2 : 0 ≤ b ∧ b < 48
        · rw [if_neg (by omega)]
          by_cases z3 : 0 ≤ c ∧ c < 4
          · rw [if_neg (by omega)]
            by_cases z4 : d < 0
            · rw [if_pos z4]; rfl
            · rw [if_neg z4]
              by_cases z5 : 9999 < d
              · rw [if_pos z5]; rfl
              · rw [if_neg z5, if_pos (by omega)]; rfl
          · rw [if_pos (by omega)]; rfl
        · rw [if_pos (by omega)]; rfl
      · rw [if_pos (by omega)]; rfl
