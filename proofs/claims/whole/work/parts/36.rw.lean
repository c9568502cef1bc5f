/-- the status of a place -/
def plS (a p : Int) (s c : Nat → Int) : Int := if 0 ≤ a ∧ a < 4 then (if s a.toNat = -1 then 2 else if 0 ≤ p ∧ p < c a.toNat then 0 else 3) else 1
theorem isMissing_eq {R : xR} {pn ps ln ls : Nat} (hR : RG R pn ps ln ls) {a : Int} {M : xM} (ha : 0 ≤ a ∧ a < 4) : f_Y_isMissing R 4 a M = some (if M 6 a.toNat = -1 then 1 else 0) := by
  unfold f_Y_isMissing
  rw [hR.at 4 1 (by decide) (by decide), xR0_4.2.1, xch_pos ha]
  split <;> rfl
theorem hasPlace_eq {R : xR} {pn ps ln ls : Nat} (hR : RG R pn ps ln ls) {a p : Int} {M : xM} (ha : 0 ≤ a ∧ a < 4) : f_Y_hasPlace R 4 a p M = some (if 0 ≤ p ∧ p < M 7 a.toNat then 1 else 0) := by
  unfold f_Y_hasPlace
  rw [hR.at 4 2 (by decide) (by decide), xR0_4.2.2]
  by_cases h : p < 0
  · rw [if_pos h, if_neg (by omega)]
  · rw [if_neg h, xch_pos ha]
    by_cases h2 : p < M 7 a.toNat
    · rw [if_pos h2, if_pos ⟨by omega, h2⟩]
    · rw [if_neg h2, if_neg (fun q => h2 q.2)]
theorem placeStatus_eq {R : xR} {pn ps ln ls : Nat} (hR : RG R pn ps ln ls) (a p : Int) (M : xM) : f_X_placeStatus R 1 a p M = some (plS a p (M 6) (M 7)) := by
  unfold f_X_placeStatus plS
  rw [isTray_eq, xb1_some, hR.2.1.2.1]
  by_cases ha : 0 ≤ a ∧ a < 4
  · simp only [x01_0, ha, not_true_eq_false, if_false, and_self, if_true]
    rw [isMissing_eq hR ha, xb1_some, hasPlace_eq hR ha, xb1_some]
    simp only [x01_0]
    by_cases h : M 6 a.toNat = -1
    · simp [h]
    · by_cases h2 : 0 ≤ p ∧ p < M 7 a.toNat <;> simp [h, h2]
  · rw [if_neg ha, if_pos rfl, if_neg ha]
theorem xif3 (p c : Int) : (if p < 0 then some (3 : Int) else if p < c then some 0 else some 3) = some (if 0 ≤ p ∧ p < c then (0 : Int) else 3) := by
  by_cases h : p < 0
  · rw [if_pos h, if_neg (by omega)]
  · by_cases h2 : p < c
    · rw [if_neg h, if_pos h2, if_pos ⟨by omega, h2⟩]
    · rw [if_neg h, if_neg h2, if_neg (fun q => h2 q.2)]
theorem wrongPlace_eq {R : xR} {pn ps ln ls : Nat} (hR : RG R pn ps ln ls) (a p : Int) (M : xM) : f_M_wrongPlace R 104 a p M = some (plS a p (M 106) (M 106)) := by
  unfold f_M_wrongPlace plS
  rw [isTrayM_eq, xb1_some, hR.at 104 2 (by decide) (by decide), xR0_104.2.1]
  by_cases ha : 0 ≤ a ∧ a < 4
  · rw [if_pos ha, if_neg (by decide), xch_pos ha, if_pos ha, xif3]
    by_cases h : M 106 a.toNat = -1
    · rw [if_pos h, if_pos h]
    · rw [if_neg h, if_neg h]
  · rw [if_neg ha, if_pos rfl, if_neg ha]
theorem plS_same {s c n s' m' t' : Nat → Int} (h : TrOK s c n s' m' t') (a p : Int) : plS a p m' m' = plS a p s c := by
  unfold plS
  by_cases ha : 0 ≤ a ∧ a < 4
  · rw [if_pos ha, if_pos ha]
    rcases h a.toNat (by omega) with ⟨q1, q2⟩ | ⟨q1, q2, q3, q4, q5⟩
    · rw [if_pos q1, if_pos q2]
    · rw [if_neg (show ¬ m' a.toNat = -1 by omega), if_neg (show ¬ s a.toNat = -1 by omega), q4]
  · rw [if_neg ha, if_neg ha]
theorem plS_0 {a p : Int} {s c : Nat → Int} (h : plS a p s c = 0) : (0 ≤ a ∧ a < 4) ∧ s a.toNat ≠ -1 ∧ 0 ≤ p ∧ p < c a.toNat := by
  unfold plS at h
  by_cases ha : 0 ≤ a ∧ a < 4
  · rw [if_pos ha] at h
    by_cases h1 : s a.toNat = -1
    · rw [if_pos h1] at h; omega
    · rw [if_neg h1] at h
      by_cases h2 : 0 ≤ p ∧ p < c a.toNat
      · exact ⟨ha, h1, h2⟩
      · rw [if_neg h2] at h; omega
  · rw [if_neg ha] at h; omega
theorem plS_pos {a p : Int} {s c : Nat → Int} (h : ¬ plS a p s c = 0) : 0 < plS a p s c := by
  have h3 : plS a p s c = 0 ∨ plS a p s c = 1 ∨ plS a p s c = 2 ∨ plS a p s c = 3 := by
    unfold plS
    by_cases ha : 0 ≤ a ∧ a < 4
    · rw [if_pos ha]
      by_cases h1 : s a.toNat = -1
      · rw [if_pos h1]; exact Or.inr (Or.inr (Or.inl rfl))
      · rw [if_neg h1]
        by_cases h2 : 0 ≤ p ∧ p < c a.toNat
        · rw [if_pos h2]; exact Or.inl rfl
        · rw [if_neg h2]; exact Or.inr (Or.inr (Or.inr rfl))
    · rw [if_neg ha]; exact Or.inr (Or.inl rfl)
  omega
def cutv (s v : Int) : Int := if s = 0 then w8 (w32 v) else if s = 1 then w16 (w32 v) else if s = 2 then w32 v else v
theorem cut_eq (s v : Int) : f_Y_cut s v = some (cutv s v) := by
  unfold f_Y_cut cutv
  repeat' split
  all_goals rfl
theorem cutM_eq (s v : Int) : f_M_cut v s = some (cutv s v) := by
  unfold f_M_cut cutv
  repeat' split
  all_goals rfl
theorem op_write {R : xR} {M : xM} {pn ps ln ls : Nat} (hR : RG R pn ps ln ls) (hT : TrOK (M 6) (M 7) (M 5) (M 105) (M 106) (M 107)) (a p v : Int) :
    ∃ (r : Int) (M1 M2 : xM), f_X_write R 1 a p v M = some (r, M1) ∧ f_M_write R 104 a p v M1 = some (r, M2) ∧ ((∃ w, M2 = den w M) ∨ ((0 ≤ a ∧ a < 4) ∧ (0 ≤ p ∧ p < 60) ∧ ∃ x, M2 = den 0 (xu (xu M 5 (60 * a.toNat + p.toNat) x) 107 (60 * a.toNat + p.toNat) x))) := by
  unfold f_X_write
  rw [placeStatus_eq hR, xb1_some]
  by_cases h0 : plS a p (M 6) (M 7) = 0
  · obtain ⟨ha, hs, hp⟩ := plS_0 h0
    rcases hT a.toNat (by omega) with ⟨q1, q2⟩ | ⟨q1, q2, q3, q4, q5⟩
    · exact absurd q1 hs
    rw [if_pos h0, hR.2.1.2.1]
    have hput : f_Y_put R 4 a p v M = some (xu M 5 (60 * a.toNat + p.toNat) (cutv (M 6 a.toNat) v)) := by
      unfold f_Y_put
      rw [xch_pos ha, hR.at 4 0 (by decide) (by decide), hR.at 4 1 (by decide) (by decide), xR0_4.1, xR0_4.2.1, cut_eq, xb1_some, w32_of (x := a * 60) (by omega) (by omega), w32_of (x := a * 60 + p) (by omega) (by omega), xch_pos (by omega), xl_eq, show (a * 60 + p).toNat = 60 * a.toNat + p.toNat by omega]
    rw [hput, xb1_some, done_eq, xb2_some, xch_01.2]
    generalize hx : cutv (M 6 a.toNat) v = x
    refine ⟨1, _, xu (xu (xu (xu M 5 (60 * a.toNat + p.toNat) x) 1 0 0) 107 (60 * a.toNat + p.toNat) x) 104 0 0, rfl, ?_, Or.inr ⟨ha, by omega, x, ?_⟩⟩
    · unfold f_M_write
      rw [wrongPlace_eq hR, xb1_some]
      simp only [ne_eq, Nat.reduceEqDiff, not_false_eq_true, xu_cell]
      rw [plS_same hT, h0, if_pos rfl, xch_pos ha, hR.at 104 1 (by decide) (by decide), hR.at 104 3 (by decide) (by decide), xR0_104.1, xR0_104.2.2.1]
      simp only [ne_eq, Nat.reduceEqDiff, not_false_eq_true, xu_cell]
      rw [q2, cutM_eq, xb1_some, hx, w32_of (x := 60 * a) (by omega) (by omega), w32_of (x := 60 * a + p) (by omega) (by omega), xch_pos (by omega), xl_eq, is_eq, xb2_some, if_pos rfl, xch_01.2, show (60 * a + p).toNat = 60 * a.toNat + p.toNat by omega]
    · unfold den
      rw [xu_comm _ 0 _ 0 x (show (1 : Nat) ≠ 107 by decide)]
  · rw [if_neg h0, deny_eq, xb2_some, xch_01.1]
    refine ⟨0, _, den (plS a p (M 6) (M 7)) M, rfl, ?_, Or.inl ⟨_, rfl⟩⟩
    unfold f_M_write
    rw [wrongPlace_eq hR, xb1_some]
    simp only [ne_eq, Nat.reduceEqDiff, not_false_eq_true, xu_cell]
    rw [plS_same hT, if_neg h0, is_eq, xb2_some, if_neg h0, xch_01.1]
    rfl
theorem op_read {R : xR} {M : xM} {pn ps ln ls : Nat} (hR : RG R pn ps ln ls) (hT : TrOK (M 6) (M 7) (M 5) (M 105) (M 106) (M 107)) (a p : Int) :
    ∃ (r : Int) (M1 M2 : xM), f_X_read R 1 a p M = some (r, M1) ∧ f_M_read R 104 a p M1 = some (r, M2) ∧ ∃ w, M2 = den w M := by
  unfold f_X_read
  rw [placeStatus_eq hR, xb1_some]
  have hM : f_M_read R 104 a p (xu M 1 0 (plS a p (M 6) (M 7))) = some (if plS a p (M 6) (M 7) = 0 then M 107 (60 * a.toNat + p.toNat) else -1, den (plS a p (M 6) (M 7)) M) := by
    unfold f_M_read
    rw [wrongPlace_eq hR, xb1_some]
    simp only [ne_eq, Nat.reduceEqDiff, not_false_eq_true, xu_cell]
    rw [plS_same hT, xl_eq, xu_at, if_pos rfl]
    by_cases h0 : plS a p (M 6) (M 7) = 0
    · obtain ⟨ha, hs, hp⟩ := plS_0 h0
      rcases hT a.toNat (by omega) with ⟨q1, q2⟩ | ⟨q1, q2, q3, q4, q5⟩
      · exact absurd q1 hs
      rw [if_neg (by omega), if_pos h0, hR.at 104 3 (by decide) (by decide), xR0_104.2.2.1, w32_of (x := 60 * a) (by omega) (by omega), w32_of (x := 60 * a + p) (by omega) (by omega), xch_pos (by omega), show (60 * a + p).toNat = 60 * a.toNat + p.toNat by omega]
      simp only [ne_eq, Nat.reduceEqDiff, not_false_eq_true, xu_cell]
      rfl
    · have := plS_pos h0
      rw [if_pos this, if_neg h0]
      rfl
  by_cases h0 : plS a p (M 6) (M 7) = 0
  · obtain ⟨ha, hs, hp⟩ := plS_0 h0
    rcases hT a.toNat (by omega) with ⟨q1, q2⟩ | ⟨q1, q2, q3, q4, q5⟩
    · exact absurd q1 hs
    rw [if_pos h0, xl_eq, hR.2.1.2.1]
    have hget : f_Y_get R 4 a p (xu M 1 0 0) = some (M 5 (60 * a.toNat + p.toNat)) := by
      unfold f_Y_get
      rw [hR.at 4 0 (by decide) (by decide), xR0_4.1, w32_of (x := a * 60) (by omega) (by omega), w32_of (x := a * 60 + p) (by omega) (by omega), xch_pos (by omega), show (a * 60 + p).toNat = 60 * a.toNat + p.toNat by omega]
      simp only [ne_eq, Nat.reduceEqDiff, not_false_eq_true, xu_cell]
    rw [hget, xb1_some]
    rw [h0, if_pos rfl] at hM
    refine ⟨M 5 (60 * a.toNat + p.toNat), xu M 1 0 0, den 0 M, rfl, ?_, ⟨0, rfl⟩⟩
    rw [hM, q5 p.toNat (by omega)]
  · rw [if_neg h0]
    rw [if_neg h0] at hM
    exact ⟨-1, _, _, rfl, hM, ⟨_, rfl⟩⟩
