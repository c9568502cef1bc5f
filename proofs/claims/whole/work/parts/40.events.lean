/-- an event more in the class -/
def evX (n : Nat) (s c h m k : Int) (M : xM) : xM := xu (xu (xu (xu (xu (xu (xu (xu M 52 n s) 53 n c) 54 n h) 55 n m) 56 n k) 48 4 ((n : Int) + 1)) 48 10 k) 48 13 1
/-- an event more in the model -/
def evM (n : Nat) (s c f t k : Int) (M : xM) : xM := xu (xu (xu (xu (xu (xu (xu M 104 61 k) 149 n s) 150 n c) 151 n f) 152 n t) 153 n k) 104 60 ((n : Int) + 1)
theorem addEvent_eq {R : xR} {pn ps ln ls : Nat} (hR : RG R pn ps ln ls) {s c h m k : Int} {M : xM} (hn : 0 ≤ M 48 4 ∧ M 48 4 < 40) : f_B_addEvent R 48 s c h m k M = some (evX (M 48 4).toNat s c h m k M) := by
  have rb := xR0_bk
  unfold f_B_addEvent B_addEvent_J71 evX
  rw [if_pos hn.2, xch_pos hn, hR.at 48 5 (by decide) (by decide), hR.at 48 6 (by decide) (by decide), hR.at 48 7 (by decide) (by decide), hR.at 48 8 (by decide) (by decide), hR.at 48 9 (by decide) (by decide), rb.2.2.2.1, rb.2.2.2.2.1, rb.2.2.2.2.2.1, rb.2.2.2.2.2.2.1, rb.2.2.2.2.2.2.2.1]
  simp only [xl_eq]
  have st : ∀ (f : xM) (q j : Nat) (u : Int), q ≠ 48 → f 48 4 = M 48 4 → xu f q j u 48 4 = M 48 4 := fun f q j u hq hf => by rw [xu_oth f u (fun z => hq z.symm)]; exact hf
  have g1 := st M 52 (M 48 4).toNat s (by decide) rfl
  have g2 := st _ 53 (M 48 4).toNat c (by decide) g1
  have g3 := st _ 54 (M 48 4).toNat h (by decide) g2
  have g4 := st _ 55 (M 48 4).toNat m (by decide) g3
  have g5 := st _ 56 (M 48 4).toNat k (by decide) g4
  rw [g1, xch_pos hn, g2, xch_pos hn, g3, xch_pos hn, g4, xch_pos hn, g5, w32_of (by omega) (by omega), show (((M 48 4).toNat : Nat) : Int) = M 48 4 by omega]
theorem happens_eq {R : xR} {pn ps ln ls : Nat} (hR : RG R pn ps ln ls) {M : xM} (hB : BcOK M) {N : xM} (hN : N 104 = M 104) (s c f t k can : Int) : f_M_happens R 104 s c f t k can N = (if M 48 4 < 40 then (if k < M 48 10 then some (0, xu N 104 0 5) else if can = 0 then some (0, xu N 104 0 7) else some (1, xu (evM (M 48 4).toNat s c f t k N) 104 0 0)) else some (0, xu N 104 0 4)) := by
  obtain ⟨b1, b2, b3, b4⟩ := hB
  have rm := xR0_mb
  unfold f_M_happens
  simp only [hN, isv4, isv5, isv7, isv0, xb2_some, xl_eq]
  by_cases q1 : M 48 4 < 40
  · rw [if_neg (by omega), if_pos q1]
    by_cases q2 : k < M 48 10
    · rw [if_pos (by omega), if_pos q2]
      simp only [xch_pos, true_or]
    · rw [if_neg (by omega), if_neg q2]
      by_cases q3 : can = 0
      · rw [if_pos q3, if_pos q3]
        simp only [xch_pos, true_or]
      · rw [if_neg q3, if_neg q3]
        have r0 := rm.1 5 (by decide); have r1 := rm.1 6 (by decide); have r2 := rm.1 7 (by decide); have r3 := rm.1 8 (by decide); have r4 := rm.1 9 (by decide)
        simp only [Nat.reduceAdd] at r0 r1 r2 r3 r4
        rw [hR.at 104 68 (by decide) (by decide), hR.at 104 69 (by decide) (by decide), hR.at 104 70 (by decide) (by decide), hR.at 104 71 (by decide) (by decide), hR.at 104 72 (by decide) (by decide), r0, r1, r2, r3, r4]
        have f60 : xu N 104 61 k 104 60 = M 48 4 := by rw [xu_at, if_neg (by decide), hN, b2.2.2]
        have st : ∀ (f : xM) (q j : Nat) (u : Int), q ≠ 104 → f 104 60 = M 48 4 → xu f q j u 104 60 = M 48 4 := fun f q j u hq hf => by rw [xu_oth f u (fun z => hq z.symm)]; exact hf
        have g1 := st _ 149 (M 48 4).toNat s (by decide) f60
        have g2 := st _ 150 (M 48 4).toNat c (by decide) g1
        have g3 := st _ 151 (M 48 4).toNat f (by decide) g2
        have g4 := st _ 152 (M 48 4).toNat t (by decide) g3
        have g5 := st _ 153 (M 48 4).toNat k (by decide) g4
        rw [f60, xch_pos (by omega), g1, xch_pos (by omega), g2, xch_pos (by omega), g3, xch_pos (by omega), g4, xch_pos (by omega), g5, w32_of (by omega) (by omega)]
        simp only [xch_pos, or_true]
        unfold evM
        rw [show (((M 48 4).toNat : Nat) : Int) = M 48 4 by omega]
  · rw [if_pos (by omega), if_neg q1]
    simp only [xch_pos, true_or]
theorem keepsLayer_eq {R : xR} {pn ps ln ls : Nat} (hR : RG R pn ps ln ls) {a : Int} {M : xM} (ha : 0 ≤ a ∧ a < 8) : f_N_keepsLayer R pn a M = some (if M (pn + 3) a.toNat = 1 ∨ M (pn + 3) a.toNat = 2 then 1 else 0) := by
  unfold f_N_keepsLayer
  rw [hR.now (k := 4) (by decide) (by decide), xch_pos ha]
  by_cases h1 : M (pn + 3) a.toNat = 1
  · simp [h1]
  · by_cases h2 : M (pn + 3) a.toNat = 2 <;> simp [h1, h2]
theorem hasLayer_eq {R : xR} {pn ps ln ls : Nat} (hR : RG R pn ps ln ls) {a : Int} {M : xM} (ha : 0 ≤ a ∧ a < 8) : f_M_hasLayer R 104 a M = some (if M 121 a.toNat = 1 ∨ M 121 a.toNat = 2 then 1 else 0) := by
  unfold f_M_hasLayer
  rw [hR.at 104 32 (by decide) (by decide), xR0_mp.1, xch_pos ha]
  by_cases h1 : M 121 a.toNat = 1
  · simp [h1]
  · by_cases h2 : M 121 a.toNat = 2 <;> simp [h1, h2]
/-- what an event's telling leads to, on both sides -/
theorem ev_both {R : xR} {M : xM} {pn ps ln ls : Nat} (hR : RG R pn ps ln ls) (hB : BcOK M) (fX fM : xM → Option (Int × xM)) (s c h m t k : Int) (can : Prop) [Decidable can]
    (X0 : fX M = (if M 48 4 < 40 then (if k < M 48 10 then some (0, xu M 1 0 5) else if can then some (1, xu (evX (M 48 4).toNat s c h m k M) 1 0 0) else some (0, xu M 1 0 7)) else some (0, xu M 1 0 4)))
    (M0 : ∀ N : xM, N 104 = M 104 → N 121 = M 121 → fM N = (if M 48 4 < 40 then (if k < M 48 10 then some (0, xu N 104 0 5) else if can then some (1, xu (evM (M 48 4).toNat s c h t k N) 104 0 0) else some (0, xu N 104 0 7)) else some (0, xu N 104 0 4))) :
    ∃ (r : Int) (M1 M2 : xM), fX M = some (r, M1) ∧ fM M1 = some (r, M2) ∧ ((∃ w, M2 = den w M) ∨ ((can ∧ M 48 4 < 40 ∧ M 48 10 ≤ k) ∧ M2 = den 0 (evM (M 48 4).toNat s c h t k (evX (M 48 4).toNat s c h m k M)))) := by
  have c1 : ∀ w : Int, (xu M 1 0 w) 104 = M 104 := fun w => xu_cell _ _ _ (by decide)
  have c2 : ∀ w : Int, (xu M 1 0 w) 121 = M 121 := fun w => xu_cell _ _ _ (by decide)
  by_cases q1 : M 48 4 < 40
  · rw [if_pos q1] at X0
    by_cases q2 : k < M 48 10
    · rw [if_pos q2] at X0
      exact ⟨0, _, den 5 M, X0, by rw [M0 _ (c1 5) (c2 5), if_pos q1, if_pos q2]; rfl, Or.inl ⟨5, rfl⟩⟩
    · rw [if_neg q2] at X0
      by_cases q3 : can
      · rw [if_pos q3] at X0
        refine ⟨1, _, _, X0, ?_, Or.inr ⟨⟨q3, q1, by omega⟩, rfl⟩⟩
        rw [M0 _ ?_ ?_, if_pos q1, if_neg q2, if_pos q3]
        · unfold den evM
          rw [xu1_out _ _ _ _ (by decide), xu1_out _ _ _ _ (by decide), xu1_out _ _ _ _ (by decide), xu1_out _ _ _ _ (by decide), xu1_out _ _ _ _ (by decide), xu1_out _ _ _ _ (by decide), xu1_out _ _ _ _ (by decide)]
        · unfold evX
          simp only [ne_eq, Nat.reduceEqDiff, not_false_eq_true, xu_cell]
        · unfold evX
          simp only [ne_eq, Nat.reduceEqDiff, not_false_eq_true, xu_cell]
      · rw [if_neg q3] at X0
        exact ⟨0, _, den 7 M, X0, by rw [M0 _ (c1 7) (c2 7), if_pos q1, if_neg q2, if_neg q3]; rfl, Or.inl ⟨7, rfl⟩⟩
  · rw [if_neg q1] at X0
    exact ⟨0, _, den 4 M, X0, by rw [M0 _ (c1 4) (c2 4), if_neg q1]; rfl, Or.inl ⟨4, rfl⟩⟩
theorem op_knock {R : xR} {M : xM} {pn ps ln ls : Nat} (hR : RG R pn ps ln ls) (hP : PlOK pn M) (hB : BcOK M) (a b k : Int) :
    ∃ (r : Int) (M1 M2 : xM), f_X_knock R 1 a b k M = some (r, M1) ∧ f_M_knock R 104 a b k M1 = some (r, M2) ∧ ((∃ w, M2 = den w M) ∨ (((0 ≤ a ∧ a < M pn 0) ∧ (0 ≤ b ∧ b < 48) ∧ (0 ≤ k ∧ k < 100)) ∧ ((M (pn + 3) a.toNat = 1 ∨ M (pn + 3) a.toNat = 2) ∧ M 48 4 < 40 ∧ M 48 10 ≤ k) ∧ M2 = den 0 (evM (M 48 4).toNat 0 a b b k (evX (M 48 4).toNat 0 a b 0 k M)))) := by
  have hB0 := hB
  obtain ⟨b1, b2, b3, b4⟩ := hB
  obtain ⟨p1, p2, p3, -⟩ := hP
  by_cases hv : (0 ≤ a ∧ a < M pn 0) ∧ (0 ≤ b ∧ b < 48) ∧ (0 ≤ k ∧ k < 100)
  · obtain ⟨ha, hb, hk⟩ := hv
    have hc := (p3 a.toNat (by omega)).1
    have E := ev_both hR hB0 (fun N => f_X_knock R 1 a b k N) (fun N => f_M_knock R 104 a b k N) 0 a b 0 b k (M (pn + 3) a.toNat = 1 ∨ M (pn + 3) a.toNat = 2) ?_ ?_
    · obtain ⟨r, M1, M2, e1, e2, e3⟩ := E
      refine ⟨r, M1, M2, e1, e2, ?_⟩
      rcases e3 with e3 | ⟨e3, e4⟩
      · exact Or.inl e3
      · exact Or.inr ⟨⟨ha, hb, hk⟩, e3, e4⟩
    · show f_X_knock R 1 a b k M = _
      unfold f_X_knock X_knock_J58
      simp only [isCleaner_eq hR, isHour_eq, isKnown_eq, xb1_some, x01_0, hR.2.1.2.2.2.2.2.2.1, eventStatus_eq, hR.2.1.2.2.1, keepsLayer_eq hR (show 0 ≤ a ∧ a < 8 by omega), deny_eq, done_eq, xb2_some]
      rw [if_neg (by omega), if_neg (by omega), if_neg (by omega)]
      by_cases q1 : M 48 4 < 40
      · rw [if_pos q1, if_pos q1, addEvent_eq hR (by omega), xb1_some]
        by_cases q2 : k < M 48 10
        · rw [if_pos q2, if_neg (by decide), if_neg (by decide), if_pos q2]
          simp only [xch_pos, true_or]
        · rw [if_neg q2, if_pos rfl, if_neg q2]
          by_cases q3 : M (pn + 3) a.toNat = 1 ∨ M (pn + 3) a.toNat = 2
          · rw [if_neg (not_not_intro q3), if_pos q3, if_pos rfl]
            simp only [xch_pos, or_true]
          · rw [if_pos q3, if_neg q3, if_neg (by decide)]
            simp only [xch_pos, true_or]
      · rw [if_neg q1, if_neg (by decide), if_neg (by decide), if_neg q1]
        simp only [xch_pos, true_or]
    · intro N hN hN2
      show f_M_knock R 104 a b k N = _
      unfold f_M_knock
      simp only [isCleanerM_eq, isHourM_eq, isKnownM_eq, xb1_some, x01_0, hN, hasLayer_eq hR (show 0 ≤ a ∧ a < 8 by omega), hN2, happens_eq hR hB0 hN]
      rw [if_neg (by omega), if_neg (by omega), if_neg (by omega), hc.2.2]
      by_cases q1 : M 48 4 < 40
      · rw [if_pos q1, if_pos q1]
        by_cases q2 : k < M 48 10
        · rw [if_pos q2, if_pos q2, xb2_some]
          simp only [xch_pos, true_or]
        · rw [if_neg q2, if_neg q2]
          by_cases q3 : M (pn + 3) a.toNat = 1 ∨ M (pn + 3) a.toNat = 2
          · rw [if_neg (not_not_intro q3), if_pos q3, xb2_some]
            simp only [xch_pos, or_true]
          · rw [if_pos q3, if_neg q3, xb2_some]
            simp only [xch_pos, true_or]
      · rw [if_neg q1, if_neg q1, xb2_some]
        simp only [xch_pos, true_or]
  · refine ⟨0, xu M 1 0 1, den 1 M, ?_, ?_, Or.inl ⟨1, rfl⟩⟩
    · unfold f_X_knock
      simp only [isCleaner_eq hR, isHour_eq, isKnown_eq, xb1_some, x01_0, deny_eq, xb2_some, xch_pos, true_or]
      by_cases z1 : 0 ≤ a ∧ a < M pn 0
      · rw [if_neg (by omega)]
        by_cases z2 : 0 ≤ b ∧ b < 48
        · rw [if_neg (by omega), if_pos (by omega)]
        · rw [if_pos (by omega)]
      · rw [if_pos (by omega)]
    · unfold f_M_knock
      simp only [isCleanerM_eq, isHourM_eq, isKnownM_eq, xb1_some, x01_0, isv1, xb2_some, xch_pos, true_or, xu1_104]
      by_cases z1 : 0 ≤ a ∧ a < M pn 0
      · rw [if_neg (by omega)]
        by_cases z2 : 0 ≤ b ∧ b < 48
        · rw [if_neg (by omega), if_pos (by omega)]; rfl
        · rw [if_pos (by omega)]; rfl
      · rw [if_pos (by omega)]; rfl
