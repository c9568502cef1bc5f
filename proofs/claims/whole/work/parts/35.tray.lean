theorem x01_0 {p : Prop} [Decidable p] : ((if p then (1 : Int) else 0) = 0) = ¬ p := by by_cases h : p <;> simp [h]
theorem trayM_F {R : xR} {pn ps ln ls : Nat} (hR : RG R pn ps ln ls) {a c : Int} (ha : 0 ≤ a ∧ a < 4) (hc : 0 ≤ c ∧ c ≤ 60) : ∀ (n : Nat) (i : Int) (M : xM), 0 ≤ i → i ≤ c → c - i < n → M_tray_F49 R 104 a c n i M = some (1, xu (xfil M 107 (60 * a.toNat + i.toNat) (60 * a.toNat + c.toNat) 0) 104 0 0) := by
  intro n
  induction n with
  | zero => intro i M h0 h1 h2; omega
  | succ n ih =>
    intro i M h0 h1 h2
    rw [M_tray_F49]
    by_cases h : i < c
    · rw [if_pos h, hR.at 104 3 (by decide) (by decide), xR0_104.2.2.1, w32_of (x := 60 * a) (by omega) (by omega), w32_of (x := 60 * a + i) (by omega) (by omega), w32_of (x := i + 1) (by omega) (by omega), xch_pos (by omega), xl_eq, xl_eq, ih _ _ (by omega) (by omega) (by omega)]
      rw [show (60 * a + i).toNat = 60 * a.toNat + i.toNat by omega, show 60 * a.toNat + (i + 1).toNat = 60 * a.toNat + i.toNat + 1 by omega, xfil_step _ _ _ _ _ (by omega)]
    · rw [if_neg h, is_eq, xb2_some, if_pos rfl, xch_01.2, xfil_nil _ _ _ _ _ (by omega)]
/-- behind a call: both statuses -/
def den (v : Int) (M : xM) : xM := xu (xu M 1 0 v) 104 0 v
theorem xu_comm {α : Type} (f : Nat → Nat → α) {a b : Nat} (i j : Nat) (u v : α) (h : a ≠ b) : xu (xu f a i u) b j v = xu (xu f b j v) a i u := by
  funext x y
  unfold xu
  by_cases h1 : x = a
  · have h2 : ¬ x = b := fun q => h (h1.symm.trans q)
    simp [h1, h]
  · simp [h1]
theorem xfil_comm (f : xM) {a b : Nat} (i l r : Nat) (u v : Int) (h : a ≠ b) : xfil (xu f a i u) b l r v = xu (xfil f b l r v) a i u := by
  funext x y
  unfold xfil xu
  by_cases h1 : x = a
  · simp [h1, h]
  · simp [h1]
/-- a tray is laid anew, on both sides -/
def trayM (a b c : Int) (M : xM) : xM := xfil (xu (xu (xfil (xu (xu M 6 a.toNat b) 7 a.toNat c) 5 (60 * a.toNat) (60 * a.toNat + 60) 0) 105 a.toNat b) 106 a.toNat c) 107 (60 * a.toNat) (60 * a.toNat + c.toNat) 0
theorem op_tray {R : xR} {M : xM} {pn ps ln ls : Nat} (hR : RG R pn ps ln ls) (a b c : Int) :
    ∃ (r : Int) (M1 M2 : xM), f_X_tray R 1 a b c M = some (r, M1) ∧ f_M_tray R 104 a b c M1 = some (r, M2) ∧ (M2 = den 1 M ∨ (((0 ≤ a ∧ a < 4) ∧ (0 ≤ b ∧ b < 4) ∧ (0 ≤ c ∧ c ≤ 60)) ∧ M2 = den 0 (trayM a b c M))) := by
  by_cases hv : (0 ≤ a ∧ a < 4) ∧ (0 ≤ b ∧ b < 4) ∧ (0 ≤ c ∧ c ≤ 60)
  · obtain ⟨ha, hb, hc⟩ := hv
    have hX : f_X_tray R 1 a b c M = some (1, xu (xfil (xu (xu M 6 a.toNat b) 7 a.toNat c) 5 (60 * a.toNat) (60 * a.toNat + 60) 0) 1 0 0) := by
      unfold f_X_tray
      simp only [isTray_eq, xb1_some, x01_0]
      rw [if_neg (by omega), if_neg (by omega), if_pos (by omega), if_neg (by omega), if_neg (by omega), hR.2.1.2.1, lay_eq hR ha, xb1_some, done_eq, xb2_some, xch_01.2]
    obtain ⟨N, hN⟩ : ∃ N, N = xfil (xu (xu M 6 a.toNat b) 7 a.toNat c) 5 (60 * a.toNat) (60 * a.toNat + 60) 0 := ⟨_, rfl⟩
    rw [← hN] at hX
    have hM : f_M_tray R 104 a b c (xu N 1 0 0) = some (1, xu (xfil (xu (xu (xu N 1 0 0) 105 a.toNat b) 106 a.toNat c) 107 (60 * a.toNat + (0 : Int).toNat) (60 * a.toNat + c.toNat) 0) 104 0 0) := by
      unfold f_M_tray
      simp only [isTrayM_eq, xb1_some, x01_0]
      rw [if_neg (by omega), if_neg (by omega), if_neg (by omega), if_neg (by omega), if_neg (by omega), xch_pos ha, xl_eq, xl_eq, hR.at 104 1 (by decide) (by decide), hR.at 104 2 (by decide) (by decide), xR0_104.1, xR0_104.2.1]
      exact trayM_F hR ha hc xfu 0 _ (by omega) (by omega) (by unfold xfu; omega)
    refine ⟨1, _, _, hX, hM, Or.inr ⟨⟨ha, hb, hc⟩, ?_⟩⟩
    unfold den trayM
    rw [← hN, xu_comm N 0 a.toNat 0 b (show (1 : Nat) ≠ 105 by decide), xu_comm _ 0 a.toNat 0 c (show (1 : Nat) ≠ 106 by decide), xfil_comm _ _ _ _ _ _ (show (1 : Nat) ≠ 107 by decide)]
    rfl
  · have hX : f_X_tray R 1 a b c M = some (0, xu M 1 0 1) := by
      unfold f_X_tray
      simp only [isTray_eq, xb1_some, x01_0, deny_eq, xb2_some, xch_01.1]
      repeat' split
      all_goals first | rfl | omega
    have hM : f_M_tray R 104 a b c (xu M 1 0 1) = some (0, den 1 M) := by
      unfold f_M_tray
      simp only [isTrayM_eq, xb1_some, x01_0, is_eq, xb2_some, show ¬ ((1 : Int) = 0) by decide, if_false, xch_01.1]
      repeat' split
      all_goals first | rfl | omega
    exact ⟨0, _, _, hX, hM, Or.inl rfl⟩
