set_option maxRecDepth 100000 in
theorem xR0_pl : ∀ k, k < 13 → 2 ≤ k → xR0 8 k = 8 + (k - 1) ∧ xR0 20 k = 20 + (k - 1) := by decide +kernel
set_option maxRecDepth 100000 in
theorem xR0_lw : ∀ k, k < 7 → 1 ≤ k → xR0 32 k = 32 + k ∧ xR0 40 k = 40 + k := by decide +kernel
set_option maxRecDepth 100000 in
theorem xR0_bk : xR0 48 1 = 49 ∧ xR0 48 2 = 50 ∧ xR0 48 3 = 51 ∧ xR0 48 5 = 52 ∧ xR0 48 6 = 53 ∧ xR0 48 7 = 54 ∧ xR0 48 8 = 55 ∧ xR0 48 9 = 56 ∧ xR0 48 12 = 57 ∧ xR0 48 14 = 58 ∧ xR0 48 15 = 59 ∧ xR0 48 16 = 60 ∧ xR0 48 17 = 61 := by decide +kernel
set_option maxRecDepth 100000 in
theorem xR0_mp : xR0 104 32 = 121 ∧ xR0 104 33 = 122 ∧ xR0 104 34 = 123 ∧ xR0 104 35 = 124 ∧ xR0 104 36 = 125 ∧ xR0 104 37 = 126 ∧ xR0 104 38 = 127 ∧ xR0 104 39 = 128 := by decide +kernel
set_option maxRecDepth 100000 in
theorem xR0_mb : (∀ k, k < 10 → xR0 104 (63 + k) = 144 + k) ∧ xR0 104 73 = 154 ∧ xR0 104 79 = 155 := by decide +kernel
theorem RG.now {R : xR} {pn ps ln ls : Nat} (h : RG R pn ps ln ls) {k : Nat} (h1 : 2 ≤ k) (h2 : k < 13) : R pn k = pn + (k - 1) := by
  rcases h.2.2.2.1 with ⟨rfl, rfl⟩ | ⟨rfl, rfl⟩
  · rw [h.at 8 k (by decide) (by decide), (xR0_pl k h2 h1).1]
  · rw [h.at 20 k (by decide) (by decide), (xR0_pl k h2 h1).2]
theorem RG.pnn {R : xR} {pn ps ln ls : Nat} (h : RG R pn ps ln ls) : pn = 8 ∨ pn = 20 := by
  rcases h.2.2.2.1 with ⟨h, -⟩ | ⟨h, -⟩
  · exact Or.inl h
  · exact Or.inr h
/-- a cleaner c of the plant at p, and of the model -/
def ClOK (p : Nat) (M : xM) (c : Nat) : Prop :=
  (0 ≤ M (p + 3) c ∧ M (p + 3) c < 4 ∧ M 121 c = M (p + 3) c) ∧ (∀ s : Nat, s < 4 → 0 ≤ M (p + 4) (4 * c + s) ∧ M (p + 4) (4 * c + s) ≤ 100 ∧ M 122 (4 * c + s) = M (p + 4) (4 * c + s)) ∧
  (0 ≤ M (p + 5) c ∧ M (p + 5) c ≤ 9999 ∧ M 123 c = M (p + 5) c) ∧ (0 ≤ M (p + 6) c ∧ M (p + 6) c ≤ 100 ∧ M 124 c = M (p + 6) c ∧ (M (p + 3) c ≠ 1 → M (p + 6) c = 0)) ∧
  (1 ≤ M (p + 8) c ∧ M (p + 8) c ≤ 8 ∧ M 125 c = M (p + 8) c) ∧
  (∀ w : Nat, (w : Int) < M (p + 8) c → ((M (p + 9) (8 * c + w) = -1 ∧ M 126 (8 * c + w) = 8) ∨ ((c : Int) < M (p + 9) (8 * c + w) ∧ M (p + 9) (8 * c + w) < M p 0 ∧ M 126 (8 * c + w) = M (p + 9) (8 * c + w))) ∧ 0 ≤ M (p + 10) (8 * c + w) ∧ M (p + 10) (8 * c + w) ≤ 100 ∧ M 127 (8 * c + w) = M (p + 10) (8 * c + w)) ∧
  ((List.range (M (p + 8) c).toNat).map fun w => M (p + 10) (8 * c + w)).sum = 100
def PlOK (p : Nat) (M : xM) : Prop := (0 ≤ M p 0 ∧ M p 0 ≤ 8 ∧ M 104 30 = M p 0) ∧ (0 ≤ M p 1 ∧ M p 1 ≤ 4 ∧ M 104 31 = M p 1) ∧ (∀ c : Nat, (c : Int) < M p 0 → ClOK p M c) ∧ (∀ w : Nat, (w : Int) < M p 1 → 0 ≤ M (p + 11) w ∧ M (p + 11) w < M p 0 ∧ M 128 w = M (p + 11) w)
theorem two_eq (a n : Int) : (if a < 0 then some (0 : Int) else if a < n then some 1 else some 0) = some (if 0 ≤ a ∧ a < n then 1 else 0) := by
  by_cases h : a < 0
  · rw [if_pos h, if_neg (by omega)]
  · by_cases h2 : a < n
    · rw [if_neg h, if_pos h2, if_pos ⟨by omega, h2⟩]
    · rw [if_neg h, if_neg h2, if_neg (fun q => h2 q.2)]
theorem isCleaner_eq {R : xR} {pn ps ln ls : Nat} (hR : RG R pn ps ln ls) (a : Int) (M : xM) : f_X_isCleaner R 1 a M = some (if 0 ≤ a ∧ a < M pn 0 then 1 else 0) := by
  unfold f_X_isCleaner
  rw [hR.2.1.2.2.1]
  exact two_eq a _
theorem isWorks_eq {R : xR} {pn ps ln ls : Nat} (hR : RG R pn ps ln ls) (a : Int) (M : xM) : f_X_isWorks R 1 a M = some (if 0 ≤ a ∧ a < M pn 1 then 1 else 0) := by
  unfold f_X_isWorks
  rw [hR.2.1.2.2.1]
  exact two_eq a _
theorem isCleanerM_eq (a : Int) (M : xM) : f_M_isCleaner 104 a M = some (if 0 ≤ a ∧ a < M 104 30 then 1 else 0) := two_eq a _
theorem isWorksM_eq (a : Int) (M : xM) : f_M_isWorks 104 a M = some (if 0 ≤ a ∧ a < M 104 31 then 1 else 0) := two_eq a _
theorem isHour_eq (a : Int) : f_X_isHour a = some (if 0 ≤ a ∧ a < 48 then 1 else 0) := two_eq a _
theorem isHourM_eq (a : Int) : f_M_isHour a = some (if 0 ≤ a ∧ a < 48 then 1 else 0) := two_eq a _
theorem isSize_eq (a : Int) : f_X_isSize a = some (if 0 ≤ a ∧ a < 4 then 1 else 0) := two_eq a _
theorem isSizeM_eq (a : Int) : f_M_isSize a = some (if 0 ≤ a ∧ a < 4 then 1 else 0) := two_eq a _
theorem isKnown_eq (a : Int) : f_X_isKnownHour a = some (if 0 ≤ a ∧ a < 100 then 1 else 0) := by
  unfold f_X_isKnownHour
  by_cases h : a < 0
  · rw [if_pos h, if_neg (by omega)]
  · by_cases h2 : 99 < a
    · rw [if_neg h, if_pos h2, if_neg (by omega)]
    · rw [if_neg h, if_neg h2, if_pos (by omega)]
theorem isKnownM_eq (a : Int) : f_M_isKnown a = some (if 0 ≤ a ∧ a < 100 then 1 else 0) := isKnown_eq a
theorem refuse_eq (v : Int) (M : xM) : f_X_refuse 1 v M = some (-1, xu M 1 0 v) := rfl
theorem answer_eq (v : Int) (M : xM) : f_X_answer 1 v M = some (v, xu M 1 0 0) := rfl
theorem refuseM_eq (v : Int) (M : xM) : f_M_refuse 104 v M = some (-1, xu M 104 0 v) := rfl
theorem gives_eq (v : Int) (M : xM) : f_M_gives 104 v M = some (v, xu M 104 0 0) := rfl
theorem xu1_104 (M : xM) (w : Int) (k : Nat) : xu M 1 0 w 104 k = M 104 k := xu_oth M w (by decide)
theorem op_cleaner {R : xR} {M : xM} {pn ps ln ls : Nat} (hR : RG R pn ps ln ls) (hP : PlOK pn M) (a b : Int) :
    ∃ (r : Int) (M1 M2 : xM), f_X_cleaner R 1 a b M = some (r, M1) ∧ f_M_cleaner R 104 a b M1 = some (r, M2) ∧ ∃ w, M2 = den w M := by
  have rm := xR0_mp
  have hpn := hR.pnn
  obtain ⟨p1, p2, p3, p4⟩ := hP
  by_cases hv : (0 ≤ a ∧ a < M pn 0) ∧ 0 ≤ b ∧ b ≤ 5
  · have hc := p3 a.toNat (by omega)
    obtain ⟨c1, c2, c3, c4, c5, -⟩ := hc
    have X0 : f_X_cleaner R 1 a b M = some (if b = 0 then M (pn + 3) a.toNat else if b = 1 then M (pn + 8) a.toNat else M (pn + 4) (4 * a.toNat + (b - 2).toNat), xu M 1 0 0) := by
      unfold f_X_cleaner
      simp only [isCleaner_eq hR, xb1_some, x01_0, hR.2.1.2.2.1, hR.now (k := 4) (by decide) (by decide), hR.now (k := 5) (by decide) (by decide), hR.now (k := 9) (by decide) (by decide), answer_eq, xb2_some]
      rw [if_neg (by omega), if_neg (by omega), if_neg (by omega)]
      by_cases b0 : b = 0
      · rw [if_pos b0, if_pos b0, xch_pos (by omega)]
      · rw [if_neg b0, if_neg b0]
        by_cases b1 : b = 1
        · rw [if_pos b1, if_pos b1, xch_pos (by omega)]
        · rw [if_neg b1, if_neg b1, w32_of (x := a * 4) (by omega) (by omega), w32_of (x := a * 4 + b) (by omega) (by omega), w32_of (x := a * 4 + b - 2) (by omega) (by omega), xch_pos (by omega), show (a * 4 + b - 2).toNat = 4 * a.toNat + (b - 2).toNat by omega]
    refine ⟨_, _, den 0 M, X0, ?_, ⟨0, rfl⟩⟩
    unfold f_M_cleaner
    simp only [isCleanerM_eq, xb1_some, x01_0, xu1_104, hR.at 104 32 (by decide) (by decide), hR.at 104 33 (by decide) (by decide), hR.at 104 36 (by decide) (by decide), rm.1, rm.2.1, rm.2.2.2.2.1, gives_eq, xb2_some]
    rw [if_neg (by omega), if_neg (by omega), if_neg (by omega), xu_cell _ _ _ (show (121 : Nat) ≠ 1 by decide), xu_cell _ _ _ (show (122 : Nat) ≠ 1 by decide), xu_cell _ _ _ (show (125 : Nat) ≠ 1 by decide)]
    by_cases b0 : b = 0
    · rw [if_pos b0, if_pos b0, xch_pos (by omega), c1.2.2]; rfl
    · rw [if_neg b0, if_neg b0]
      by_cases b1 : b = 1
      · rw [if_pos b1, if_pos b1, xch_pos (by omega), c5.2.2]; rfl
      · rw [if_neg b1, if_neg b1, w32_of (x := 4 * a) (by omega) (by omega), w32_of (x := 4 * a + b) (by omega) (by omega), w32_of (x := 4 * a + b - 2) (by omega) (by omega), xch_pos (by omega), show (4 * a + b - 2).toNat = 4 * a.toNat + (b - 2).toNat by omega, (c2 (b - 2).toNat (by omega)).2.2]; rfl
  · refine ⟨-1, xu M 1 0 1, den 1 M, ?_, ?_, ⟨1, rfl⟩⟩
    · unfold f_X_cleaner
      simp only [isCleaner_eq hR, xb1_some, x01_0, refuse_eq, xb2_some]
      by_cases q1 : 0 ≤ a ∧ a < M pn 0
      · rw [if_neg (by omega)]
        by_cases q2 : b < 0
        · rw [if_pos q2]
        · rw [if_neg q2, if_pos (by omega)]
      · rw [if_pos (by omega)]
    · unfold f_M_cleaner
      simp only [isCleanerM_eq, xb1_some, x01_0, refuseM_eq, xb2_some, xu1_104]
      by_cases q1 : 0 ≤ a ∧ a < M pn 0
      · rw [if_neg (by omega)]
        by_cases q2 : b < 0
        · rw [if_pos q2]; rfl
        · rw [if_neg q2, if_pos (by omega)]; rfl
      · rw [if_pos (by omega)]; rfl
theorem op_works {R : xR} {M : xM} {pn ps ln ls : Nat} (hR : RG R pn ps ln ls) (hP : PlOK pn M) (a : Int) :
    ∃ (r : Int) (M1 M2 : xM), f_X_works R 1 a M = some (r, M1) ∧ f_M_works R 104 a M1 = some (r, M2) ∧ ∃ w, M2 = den w M := by
  have rm := xR0_mp
  obtain ⟨p1, p2, p3, p4⟩ := hP
  by_cases hv : 0 ≤ a ∧ a < M pn 1
  · have hw := p4 a.toNat (by omega)
    refine ⟨M (pn + 11) a.toNat, xu M 1 0 0, den 0 M, ?_, ?_, ⟨0, rfl⟩⟩
    · unfold f_X_works
      simp only [isWorks_eq hR, xb1_some, x01_0, hR.2.1.2.2.1, hR.now (k := 12) (by decide) (by decide), answer_eq, xb2_some]
      rw [if_neg (by omega), xch_pos (by omega)]
    · unfold f_M_works
      simp only [isWorksM_eq, xb1_some, x01_0, xu1_104, hR.at 104 39 (by decide) (by decide), rm.2.2.2.2.2.2.2, gives_eq, xb2_some]
      rw [if_neg (by omega), xch_pos (by omega), xu_cell _ _ _ (show (128 : Nat) ≠ 1 by decide), hw.2.2]; rfl
  · refine ⟨-1, xu M 1 0 1, den 1 M, ?_, ?_, ⟨1, rfl⟩⟩
    · unfold f_X_works
      simp only [isWorks_eq hR, xb1_some, x01_0, refuse_eq, xb2_some]
      rw [if_pos (by omega)]
    · unfold f_M_works
      simp only [isWorksM_eq, xb1_some, x01_0, refuseM_eq, xb2_some, xu1_104]
      rw [if_pos (by omega)]; rfl
theorem op_warmth {R : xR} {M : xM} {pn ps ln ls : Nat} (hR : RG R pn ps ln ls) (a b : Int) :
    ∃ (r : Int) (M1 M2 : xM), f_X_warmth R 1 a b M = some (r, M1) ∧ f_M_warmth R 104 a b M1 = some (r, M2) ∧ ((∃ w, M2 = den w M) ∨ (((0 ≤ a ∧ a < 48) ∧ 0 ≤ b ∧ b ≤ 9999) ∧ M2 = den 0 (xu (xu (xu M 57 a.toNat b) 48 13 1) 154 a.toNat b))) := by
  have rb := xR0_bk
  by_cases hv : (0 ≤ a ∧ a < 48) ∧ 0 ≤ b ∧ b ≤ 9999
  · refine ⟨1, xu (xu (xu M 57 a.toNat b) 48 13 1) 1 0 0, _, ?_, ?_, Or.inr ⟨hv, rfl⟩⟩
    · unfold f_X_warmth f_B_setWarmth
      simp only [isHour_eq, xb1_some, x01_0, hR.2.1.2.2.2.2.2.2.1, hR.at 48 12 (by decide) (by decide), rb.2.2.2.2.2.2.2.2.1, done_eq]
      rw [if_neg (by omega), if_neg (by omega), if_neg (by omega), xch_pos hv.1, xl_eq, xl_eq, xb1_some, xb2_some]
      simp only [xch_pos, true_or, or_true]
    · unfold f_M_warmth
      simp only [isHourM_eq, xb1_some, x01_0, hR.at 104 73 (by decide) (by decide), xR0_mb.2.1, isv0, xb2_some]
      rw [if_neg (by omega), if_neg (by omega), if_neg (by omega), xch_pos hv.1, xl_eq]
      simp only [xch_pos, true_or, or_true]
      unfold den
      rw [xu_comm _ 0 a.toNat 0 b (show (1 : Nat) ≠ 154 by decide)]
  · refine ⟨0, xu M 1 0 1, den 1 M, ?_, ?_, Or.inl ⟨1, rfl⟩⟩
    · unfold f_X_warmth
      simp only [isHour_eq, xb1_some, x01_0, deny_eq, xb2_some, xch_01.1]
      repeat' split
      all_goals first | rfl | omega
    · unfold f_M_warmth
      simp only [isHourM_eq, xb1_some, x01_0, isv1, xb2_some, xch_01.1]
      repeat' split
      all_goals first | rfl | omega
theorem op_asof {R : xR} {M : xM} {pn ps ln ls : Nat} (hR : RG R pn ps ln ls) (a : Int) :
    ∃ (r : Int) (M1 M2 : xM), f_X_asof R 1 a M = some (r, M1) ∧ f_M_asof 104 a M1 = some (r, M2) ∧ ((∃ w, M2 = den w M) ∨ ((0 ≤ a ∧ a < 100) ∧ M2 = den 0 (xu (xu (xu M 48 11 a) 48 13 1) 104 62 a))) := by
  by_cases hv : 0 ≤ a ∧ a < 100
  · refine ⟨1, xu (xu (xu M 48 11 a) 48 13 1) 1 0 0, _, ?_, ?_, Or.inr ⟨hv, rfl⟩⟩
    · unfold f_X_asof f_B_setAsOf
      simp only [isKnown_eq, xb1_some, x01_0, hR.2.1.2.2.2.2.2.2.1, done_eq]
      rw [if_neg (by omega), xl_eq, xl_eq, xb1_some, xb2_some]
      simp only [xch_pos, true_or, or_true]
    · unfold f_M_asof
      simp only [isKnownM_eq, xb1_some, x01_0, isv0, xb2_some]
      rw [if_neg (by omega), xl_eq]
      simp only [xch_pos, true_or, or_true]
      unfold den
      rw [xu_comm _ 0 62 0 a (show (1 : Nat) ≠ 104 by decide)]
  · refine ⟨0, xu M 1 0 1, den 1 M, ?_, ?_, Or.inl ⟨1, rfl⟩⟩
    · unfold f_X_asof
      simp only [isKnown_eq, xb1_some, x01_0, deny_eq, xb2_some, xch_01.1]
      repeat' split
      all_goals first | rfl | omega
    · unfold f_M_asof
      simp only [isKnownM_eq, xb1_some, x01_0, isv1, xb2_some, xch_01.1]
      repeat' split
      all_goals first | rfl | omega
