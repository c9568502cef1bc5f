theorem op_hole {R : xR} {M : xM} {pn ps ln ls : Nat} (hR : RG R pn ps ln ls) (hP : PlOK pn M) (hB : BcOK M) (a b m k : Int) :
    ∃ (r : Int) (M1 M2 : xM), f_X_hole R 1 a b m k M = some (r, M1) ∧ f_M_hole R 104 a b m k M1 = some (r, M2) ∧ ((∃ w, M2 = den w M) ∨ (((0 ≤ a ∧ a < M pn 0) ∧ (0 ≤ b ∧ b < 48) ∧ (1 ≤ m ∧ m ≤ 100) ∧ (0 ≤ k ∧ k < 100)) ∧ (M (pn + 3) a.toNat = 2 ∧ M 48 4 < 40 ∧ M 48 10 ≤ k) ∧ M2 = den 0 (evM (M 48 4).toNat 1 a b m k (evX (M 48 4).toNat 1 a b m k M)))) := by
  have hB0 := hB
  obtain ⟨b1, b2, b3, b4⟩ := hB
  obtain ⟨p1, p2, p3, -⟩ := hP
  by_cases hv : (0 ≤ a ∧ a < M pn 0) ∧ (0 ≤ b ∧ b < 48) ∧ (1 ≤ m ∧ m ≤ 100) ∧ (0 ≤ k ∧ k < 100)
  · obtain ⟨ha, hb, hm, hk⟩ := hv
    have hc := (p3 a.toNat (by omega)).1
    have E := ev_both hR hB0 (fun N => f_X_hole R 1 a b m k N) (fun N => f_M_hole R 104 a b m k N) 1 a b m m k (M (pn + 3) a.toNat = 2) ?_ ?_
    · obtain ⟨r, M1, M2, e1, e2, e3⟩ := E
      refine ⟨r, M1, M2, e1, e2, ?_⟩
      rcases e3 with e3 | ⟨e3, e4⟩
      · exact Or.inl e3
      · exact Or.inr ⟨⟨ha, hb, hm, hk⟩, e3, e4⟩
    · show f_X_hole R 1 a b m k M = _
      unfold f_X_hole X_hole_J73
      simp only [isCleaner_eq hR, isHour_eq, isKnown_eq, xb1_some, x01_0, hR.2.1.2.2.2.2.2.2.1, eventStatus_eq, hR.2.1.2.2.1, hR.now (k := 4) (by decide) (by decide), deny_eq, done_eq, xb2_some]
      rw [if_neg (by omega), if_neg (by omega), if_neg (by omega), if_neg (by omega), if_neg (by omega), xch_pos (show 0 ≤ a ∧ a < 8 by omega)]
      by_cases q1 : M 48 4 < 40
      · rw [if_pos q1, if_pos q1, addEvent_eq hR (by omega), xb1_some]
        by_cases q2 : k < M 48 10
        · rw [if_pos q2, if_neg (by decide), if_neg (by decide), if_pos q2]
          simp only [xch_pos, true_or]
        · rw [if_neg q2, if_pos rfl, if_neg q2]
          by_cases q3 : M (pn + 3) a.toNat = 2
          · rw [if_pos q3, if_pos q3, if_pos rfl]
            simp only [xch_pos, or_true]
          · rw [if_neg q3, if_neg q3, if_neg (by decide)]
            simp only [xch_pos, true_or]
      · rw [if_neg q1, if_neg (by decide), if_neg (by decide), if_neg q1]
        simp only [xch_pos, true_or]
    · intro N hN hN2
      show f_M_hole R 104 a b m k N = _
      unfold f_M_hole
      simp only [isCleanerM_eq, isHourM_eq, isKnownM_eq, xb1_some, x01_0, hN, hR.at 104 32 (by decide) (by decide), xR0_mp.1, hN2, happens_eq hR hB0 hN]
      rw [if_neg (by omega), if_neg (by omega), if_neg (by omega), if_neg (by omega), if_neg (by omega), xch_pos (show 0 ≤ a ∧ a < 8 by omega), hc.2.2]
      by_cases q1 : M 48 4 < 40
      · rw [if_pos q1, if_pos q1, if_pos q1]
        by_cases q2 : k < M 48 10
        · rw [if_pos q2, if_pos q2, if_pos q2, xb2_some]
          simp only [xch_pos, true_or, ite_self]
        · rw [if_neg q2, if_neg q2, if_neg q2]
          by_cases q3 : M (pn + 3) a.toNat = 2
          · rw [if_pos q3, if_neg (by decide), if_pos q3, xb2_some]
            simp only [xch_pos, or_true]
          · rw [if_neg q3, if_pos trivial, if_neg q3, xb2_some]
            simp only [xch_pos, true_or]
      · rw [if_neg q1, if_neg q1, if_neg q1, xb2_some]
        simp only [xch_pos, true_or, ite_self]
  · refine ⟨0, xu M 1 0 1, den 1 M, ?_, ?_, Or.inl ⟨1, rfl⟩⟩
    · unfold f_X_hole
      simp only [isCleaner_eq hR, isHour_eq, isKnown_eq, xb1_some, x01_0, deny_eq, xb2_some, xch_pos, true_or]
      by_cases z1 : 0 ≤ a ∧ a < M pn 0
      · rw [if_neg (by omega)]
        by_cases z2 : 0 ≤ b ∧ b < 48
        · rw [if_neg (by omega)]
          by_cases z3 : m < 1
          · rw [if_pos z3]
          · rw [if_neg z3]
            by_cases z4 : 100 < m
            · rw [if_pos z4]
            · rw [if_neg z4, if_pos (by omega)]
        · rw [if_pos (by omega)]
      · rw [if_pos (by omega)]
    · unfold f_M_hole
      simp only [isCleanerM_eq, isHourM_eq, isKnownM_eq, xb1_some, x01_0, isv1, xb2_some, xch_pos, true_or, xu1_104]
      by_cases z1 : 0 ≤ a ∧ a < M pn 0
      · rw [if_neg (by omega)]
        by_cases z2 : 0 ≤ b ∧ b < 48
        · rw [if_neg (by omega)]
          by_cases z3 : m < 1
          · rw [if_pos z3]; rfl
          · rw [if_neg z3]
            by_cases z4 : 100 < m
            · rw [if_pos z4]; rfl
            · rw [if_neg z4, if_pos (by omega)]; rfl
        · rw [if_pos (by omega)]; rfl
      · rw [if_pos (by omega)]; rfl
theorem op_off {R : xR} {M : xM} {pn ps ln ls : Nat} (hR : RG R pn ps ln ls) (hP : PlOK pn M) (hB : BcOK M) (a b m k : Int) :
    ∃ (r : Int) (M1 M2 : xM), f_X_off R 1 a b m k M = some (r, M1) ∧ f_M_off R 104 a b m k M1 = some (r, M2) ∧ ((∃ w, M2 = den w M) ∨ (((0 ≤ a ∧ a < M pn 0) ∧ (0 ≤ b ∧ b ≤ m) ∧ m < 48 ∧ (0 ≤ k ∧ k < 100)) ∧ (True ∧ M 48 4 < 40 ∧ M 48 10 ≤ k) ∧ M2 = den 0 (evM (M 48 4).toNat 2 a b m k (evX (M 48 4).toNat 2 a b m k M)))) := by
  have hB0 := hB
  obtain ⟨b1, b2, b3, b4⟩ := hB
  obtain ⟨p1, p2, p3, -⟩ := hP
  by_cases hv : (0 ≤ a ∧ a < M pn 0) ∧ (0 ≤ b ∧ b ≤ m) ∧ m < 48 ∧ (0 ≤ k ∧ k < 100)
  · obtain ⟨ha, hb, hm, hk⟩ := hv
    have E := ev_both hR hB0 (fun N => f_X_off R 1 a b m k N) (fun N => f_M_off R 104 a b m k N) 2 a b m m k True ?_ ?_
    · obtain ⟨r, M1, M2, e1, e2, e3⟩ := E
      refine ⟨r, M1, M2, e1, e2, ?_⟩
      rcases e3 with e3 | ⟨e3, e4⟩
      · exact Or.inl e3
      · exact Or.inr ⟨⟨ha, hb, hm, hk⟩, e3, e4⟩
    · show f_X_off R 1 a b m k M = _
      unfold f_X_off
      simp only [isCleaner_eq hR, isHour_eq, isKnown_eq, xb1_some, x01_0, hR.2.1.2.2.2.2.2.2.1, eventStatus_eq, deny_eq, done_eq, xb2_some, if_true]
      rw [if_neg (by omega), if_neg (by omega), if_neg (by omega), if_neg (by omega), if_neg (by omega)]
      by_cases q1 : M 48 4 < 40
      · rw [if_pos q1, if_pos q1, addEvent_eq hR (by omega), xb1_some]
        by_cases q2 : k < M 48 10
        · rw [if_pos q2, if_neg (by decide), if_pos q2]
          simp only [xch_pos, true_or]
        · rw [if_neg q2, if_pos rfl, if_neg q2]
          simp only [xch_pos, or_true]
      · rw [if_neg q1, if_neg (by decide), if_neg q1]
        simp only [xch_pos, true_or]
    · intro N hN hN2
      show f_M_off R 104 a b m k N = _
      unfold f_M_off
      simp only [isCleanerM_eq, isHourM_eq, isKnownM_eq, xb1_some, x01_0, hN, happens_eq hR hB0 hN, if_true]
      rw [if_neg (by omega), if_neg (by omega), if_neg (by omega), if_neg (by omega), if_neg (by omega)]
      by_cases q1 : M 48 4 < 40
      · rw [if_pos q1, if_pos q1]
        by_cases q2 : k < M 48 10
        · rw [if_pos q2, if_pos q2, xb2_some]
          simp only [xch_pos, true_or]
        · rw [if_neg q2, if_neg q2, if_neg (by decide), xb2_some]
          simp only [xch_pos, or_true]
      · rw [if_neg q1, if_neg q1, xb2_some]
        simp only [xch_pos, true_or]
  · refine ⟨0, xu M 1 0 1, den 1 M, ?_, ?_, Or.inl ⟨1, rfl⟩⟩
    · unfold f_X_off
      simp only [isCleaner_eq hR, isHour_eq, isKnown_eq, xb1_some, x01_0, deny_eq, xb2_some, xch_pos, true_or]
      by_cases z1 : 0 ≤ a ∧ a < M pn 0
      · rw [if_neg (by omega)]
        by_cases z2 : 0 ≤ b ∧ b < 48
        · rw [if_neg (by omega)]
          by_cases z3 : 0 ≤ m ∧ m < 48
          · rw [if_neg (by omega)]
            by_cases z4 : m < b
            · rw [if_pos z4]
            · rw [if_neg z4, if_pos (by omega)]
          · rw [if_pos (by omega)]
        · rw [if_pos (by omega)]
      · rw [if_pos (by omega)]
    · unfold f_M_off
      simp only [isCleanerM_eq, isHourM_eq, isKnownM_eq, xb1_some, x01_0, isv1, xb2_some, xch_pos, true_or, xu1_104]
      by_cases z1 : 0 ≤ a ∧ a < M pn 0
      · rw [if_neg (by omega)]
        by_cases z2 : 0 ≤ b ∧ b < 48
        · rw [if_neg (by omega)]
          by_cases z3 : 0 ≤ m ∧ m < 48
          · rw [if_neg (by omega)]
            by_cases z4 : m < b
            · rw [if_pos z4]; rfl
            · rw [if_neg z4, if_pos (by omega)]; rfl
          · rw [if_pos (by omega)]; rfl
        · rw [if_pos (by omega)]; rfl
      · rw [if_pos (by omega)]; rfl
/-! ===== the tape ===== -/
/-- bytes on the tape, and the latest fault, on both sides -/
def TpOK (M : xM) : Prop := (0 ≤ M 2 1 ∧ M 2 1 ≤ 600 ∧ M 104 6 = M 2 1) ∧ (∀ i : Nat, (i : Int) < M 2 1 → M 108 i = M 3 i) ∧ (∀ i : Nat, -128 ≤ M 3 i ∧ M 3 i < 128) ∧ M 104 13 = M 2 12 ∧ M 104 14 = M 2 13
/-- four bytes behind place n of a row -/
def four (M : xM) (c n : Nat) (x : Int) : xM := fun a i => if a = c ∧ n ≤ i ∧ i < n + 4 then w8 (xshr x (24 - 8 * ((i : Int) - n))) else M a i
theorem four_w (M : xM) (c n : Nat) (x : Int) : xu (xu (xu (xu M c n (w8 (xshr x 24))) c (n + 1) (w8 (xshr x 16))) c (n + 2) (w8 (xshr x 8))) c (n + 3) (w8 (xshr x 0)) = four M c n x := by
  funext a i
  unfold xu four
  by_cases h : a = c
  · subst h
    by_cases h3 : i = n + 3
    · subst h3
      rw [if_pos ⟨rfl, rfl⟩, if_pos ⟨rfl, by omega, by omega⟩, show (24 : Int) - 8 * (((n + 3 : Nat) : Int) - n) = 0 by omega]
    · rw [if_neg (fun q => h3 q.2)]
      by_cases h2 : i = n + 2
      · subst h2
        rw [if_pos ⟨rfl, rfl⟩, if_pos ⟨rfl, by omega, by omega⟩, show (24 : Int) - 8 * (((n + 2 : Nat) : Int) - n) = 8 by omega]
      · rw [if_neg (fun q => h2 q.2)]
        by_cases h1 : i = n + 1
        · subst h1
          rw [if_pos ⟨rfl, rfl⟩, if_pos ⟨rfl, by omega, by omega⟩, show (24 : Int) - 8 * (((n + 1 : Nat) : Int) - n) = 16 by omega]
        · rw [if_neg (fun q => h1 q.2)]
          by_cases h0 : i = n
          · subst h0
            rw [if_pos ⟨rfl, rfl⟩, if_pos ⟨rfl, by omega, by omega⟩, show (24 : Int) - 8 * ((i : Int) - i) = 24 by omega]
          · rw [if_neg (fun q => h0 q.2), if_neg (by omega)]
  · simp [h]
