/-! ===== references as they stand ===== -/
/-- pn, ps: the plants; ln, ls: the laws; sg, wd: texts of the tape -/
def RG (R : xR) (pn ps ln ls : Nat) : Prop := (∀ i k, i ≠ 1 → i ≠ 2 → R i k = xR0 i k) ∧ (R 1 1 = 2 ∧ R 1 2 = 4 ∧ R 1 3 = pn ∧ R 1 4 = ps ∧ R 1 5 = ln ∧ R 1 6 = ls ∧ R 1 7 = 48 ∧ R 1 8 = 62 ∧ R 1 9 = 74 ∧ R 1 10 = 78 ∧ R 1 11 = 93) ∧ R 2 0 = 3 ∧ ((pn = 8 ∧ ps = 20) ∨ (pn = 20 ∧ ps = 8)) ∧ ((ln = 32 ∧ ls = 40) ∨ (ln = 40 ∧ ls = 32))
theorem RG.at {R : xR} {pn ps ln ls : Nat} (h : RG R pn ps ln ls) (i k : Nat) (h1 : i ≠ 1) (h2 : i ≠ 2) : R i k = xR0 i k := h.1 i k h1 h2
set_option maxRecDepth 100000 in
theorem xR0_4 : xR0 4 0 = 5 ∧ xR0 4 1 = 6 ∧ xR0 4 2 = 7 := by decide +kernel
set_option maxRecDepth 100000 in
theorem xR0_104 : xR0 104 1 = 105 ∧ xR0 104 2 = 106 ∧ xR0 104 3 = 107 ∧ xR0 104 4 = 108 ∧ xR0 104 5 = 109 := by decide +kernel
/-! ===== trays ===== -/
/-- sorts, counts, numbers of the class; sort, many, trays of the model -/
def TrOK (s c n s' m' t' : Nat → Int) : Prop := ∀ t, t < 4 → (s t = -1 ∧ m' t = -1) ∨ ((0 ≤ s t ∧ s t < 4) ∧ s' t = s t ∧ (0 ≤ c t ∧ c t ≤ 60) ∧ m' t = c t ∧ ∀ p : Nat, (p : Int) < c t → n (60 * t + p) = t' (60 * t + p))
/-- nothing but these cells has changed -/
def Fr (L : List Nat) (M M' : xM) : Prop := ∀ c, c ∉ L → M' c = M c
/-- of a cell nothing but these places -/
def Fo (o : Nat) (ks : List Nat) (M M' : xM) : Prop := ∀ k, k ∉ ks → M' o k = M o k
theorem isTray_eq (a : Int) : f_X_isTray a = some (if 0 ≤ a ∧ a < 4 then 1 else 0) := by
  unfold f_X_isTray
  by_cases h1 : a < 0
  · rw [if_pos h1, if_neg (by omega)]
  · rw [if_neg h1]
    by_cases h2 : a < 4
    · rw [if_pos h2, if_pos (by omega)]
    · rw [if_neg h2, if_neg (by omega)]
theorem isTrayM_eq (a : Int) : f_M_isTray a = some (if 0 ≤ a ∧ a < 4 then 1 else 0) := isTray_eq a
theorem deny_eq (v : Int) (M : xM) : f_X_deny 1 v M = some (0, xu M 1 0 v) := rfl
theorem done_eq (M : xM) : f_X_done 1 M = some (1, xu M 1 0 0) := rfl
theorem is_eq (v : Int) (M : xM) : f_M_is 104 v M = some (if v = 0 then 1 else 0, xu M 104 0 v) := by
  unfold f_M_is
  rw [xl_eq]
  by_cases h : v = 0 <;> simp [h]
theorem xch_01 {β : Type} {e : Option β} : (xch ((0 : Int) = 0 ∨ (0 : Int) = 1) e = e) ∧ (xch ((1 : Int) = 0 ∨ (1 : Int) = 1) e = e) := ⟨xch_pos (by decide), xch_pos (by decide)⟩
theorem lay_eq {R : xR} {pn ps ln ls : Nat} (hR : RG R pn ps ln ls) {a b c : Int} {M : xM} (ha : 0 ≤ a ∧ a < 4) : f_Y_lay R 4 a b c M = some (xfil (xu (xu M 6 a.toNat b) 7 a.toNat c) 5 (60 * a.toNat) (60 * a.toNat + 60) 0) := by
  obtain ⟨r1, r2, r3⟩ := xR0_4
  unfold f_Y_lay
  rw [hR.at 4 0 (by decide) (by decide), hR.at 4 1 (by decide) (by decide), hR.at 4 2 (by decide) (by decide), r1, r2, r3, xch_pos ha, xl_eq, xl_eq]
  rw [w32_of (x := a * 60) (by omega) (by omega), w32_of (x := a + 1) (by omega) (by omega), w32_of (x := (a + 1) * 60) (by omega) (by omega)]
  rw [fill_aJIIJV (by omega) (by omega) (by show _ ≤ ((240 : Nat) : Int); omega), xb1_some]
  rw [show (a * 60).toNat = 60 * a.toNat by omega, show ((a + 1) * 60).toNat = 60 * a.toNat + 60 by omega]
