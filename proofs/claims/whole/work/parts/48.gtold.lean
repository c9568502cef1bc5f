def cntS (lo hi : Nat → Int) : Nat → Nat → Int → Int
  | 0, _, v => v
  | k + 1, m, v => cntS lo hi k (m + 1) (if lo m ≤ hi m then v + (hi m - lo m + 1) else v)
theorem cntS_ge (lo hi : Nat → Int) : ∀ k m v, v ≤ cntS lo hi k m v := by
  intro k
  induction k with
  | zero => intro m v; exact Int.le_refl v
  | succ k ih =>
    intro m v
    have := ih (m + 1) (if lo m ≤ hi m then v + (hi m - lo m + 1) else v)
    rw [cntS]
    by_cases h : lo m ≤ hi m
    · rw [if_pos h] at this ⊢; omega
    · rw [if_neg h] at this ⊢; omega
theorem cntS_none {lo hi : Nat → Int} : ∀ k m v, cntS lo hi k m v ≤ v → ∀ i, m ≤ i → i < m + k → ¬ lo i ≤ hi i := by
  intro k
  induction k with
  | zero => intro m v _ i h1 h2; omega
  | succ k ih =>
    intro m v hv i h1 h2
    rw [cntS] at hv
    by_cases h : lo m ≤ hi m
    · rw [if_pos h] at hv
      have := cntS_ge lo hi k (m + 1) (v + (hi m - lo m + 1))
      omega
    · rw [if_neg h] at hv
      by_cases e : i = m
      · rw [e]; exact h
      · exact ih (m + 1) v hv i (by omega) (by omega)
theorem cntS_some {lo hi : Nat → Int} : ∀ k m v, v < cntS lo hi k m v → ∃ i, m ≤ i ∧ i < m + k ∧ lo i ≤ hi i := by
  intro k
  induction k with
  | zero =>
    intro m v h
    have : v < v := h
    omega
  | succ k ih =>
    intro m v hv
    rw [cntS] at hv
    by_cases h : lo m ≤ hi m
    · exact ⟨m, by omega, by omega, h⟩
    · rw [if_neg h] at hv
      obtain ⟨i, h1, h2, h3⟩ := ih (m + 1) v hv
      exact ⟨i, by omega, by omega, h3⟩
theorem tlS_none {lo hi : Nat → Int} {h : Int} : ∀ k m v, (∀ i, m ≤ i → i < m + k → ¬ lo i ≤ hi i) → tlS lo hi h k m v = v := by
  intro k
  induction k with
  | zero => intro m v _; rfl
  | succ k ih =>
    intro m v hn
    rw [tlS, ih _ _ (fun i h1 h2 => hn i (by omega) (by omega)), tl, if_neg (fun z => hn m (by omega) (by omega) z.1)]
theorem tmS_none {lo hi : Nat → Int} {h : Int} : ∀ k m v, (∀ i, m ≤ i → i < m + k → ¬ lo i ≤ hi i) → tmS lo hi h k m v = v := by
  intro k
  induction k with
  | zero => intro m v _; rfl
  | succ k ih =>
    intro m v hn
    rw [tmS, ih _ _ (fun i h1 h2 => hn i (by omega) (by omega)), tm, if_neg (fun z => hn m (by omega) (by omega) z.1)]
theorem tlS_pos {lo hi : Nat → Int} {h : Int} (h0 : 0 ≤ h) (hl : ∀ i, i < 100 → 0 ≤ lo i) : ∀ k m v, m + k = 100 → -1 ≤ v → (0 ≤ v ∨ ∃ i, m ≤ i ∧ i < m + k ∧ lo i ≤ hi i) → 0 ≤ tlS lo hi h k m v := by
  intro k
  induction k with
  | zero =>
    intro m v _ _ hc
    rcases hc with hc | ⟨i, h1, h2, -⟩
    · exact hc
    · omega
  | succ k ih =>
    intro m v hm hv hc
    have a := hl m (by omega)
    have b : 0 ≤ (m : Int) * h := Int.mul_nonneg (by omega) h0
    rw [tlS]
    have hk : -1 ≤ tl ((m : Int) * h) (lo m) (hi m) v ∧ (0 ≤ v ∨ lo m ≤ hi m → 0 ≤ tl ((m : Int) * h) (lo m) (hi m) v) := by
      unfold tl
      split <;> omega
    refine ih (m + 1) _ (by omega) hk.1 ?_
    rcases hc with hc | ⟨i, h1, h2, h3⟩
    · exact Or.inl (hk.2 (Or.inl hc))
    · by_cases e : i = m
      · rw [e] at h3
        exact Or.inl (hk.2 (Or.inr h3))
      · exact Or.inr ⟨i, by omega, by omega, h3⟩
theorem tmS_pos {lo hi : Nat → Int} {h : Int} (h0 : 0 ≤ h) (hl : ∀ i, i < 100 → 0 ≤ lo i) : ∀ k m v, m + k = 100 → -1 ≤ v → (0 ≤ v ∨ ∃ i, m ≤ i ∧ i < m + k ∧ lo i ≤ hi i) → 0 ≤ tmS lo hi h k m v := by
  intro k
  induction k with
  | zero =>
    intro m v _ _ hc
    rcases hc with hc | ⟨i, h1, h2, -⟩
    · exact hc
    · omega
  | succ k ih =>
    intro m v hm hv hc
    have a := hl m (by omega)
    have b : 0 ≤ (m : Int) * h := Int.mul_nonneg (by omega) h0
    rw [tmS]
    have hk : -1 ≤ tm ((m : Int) * h) (lo m) (hi m) v ∧ (0 ≤ v ∨ lo m ≤ hi m → 0 ≤ tm ((m : Int) * h) (lo m) (hi m) v) := by
      unfold tm
      split <;> omega
    refine ih (m + 1) _ (by omega) hk.1 ?_
    rcases hc with hc | ⟨i, h1, h2, h3⟩
    · exact Or.inl (hk.2 (Or.inl hc))
    · by_cases e : i = m
      · rw [e] at h3
        exact Or.inl (hk.2 (Or.inr h3))
      · exact Or.inr ⟨i, by omega, by omega, h3⟩
/-- bounds of the lines of the class -/
def LinB (M : xM) : Prop := ∀ m : Nat, m < 100 → (0 ≤ M 102 m ∧ M 102 m ≤ 200000) ∧ (-200000 ≤ M 103 m ∧ M 103 m ≤ 999)
theorem fitsP_eq {R : xR} {pn ps ln ls : Nat} (hR : RG R pn ps ln ls) {M : xM} {m : Nat} (hm : m < 100) (h1 : M 93 11 = 1) : f_P_fits R 93 (m : Int) M = some (if M 102 m ≤ M 103 m then 1 else 0) := by
  have r9 : R 93 9 = 102 := by rw [hR.at 93 9 (by decide) (by decide)]; exact xR0_gg.1
  have r10 : R 93 10 = 103 := by rw [hR.at 93 10 (by decide) (by decide)]; exact xR0_gg.2.1
  unfold f_P_fits
  rw [h1, if_neg (by decide), xch_pos (by omega), r9, r10, Int.toNat_natCast]
  by_cases h : M 102 m ≤ M 103 m
  · rw [if_pos h, if_neg (by omega)]
  · rw [if_neg h, if_pos (by omega)]
theorem fitsP_0 {R : xR} {M : xM} (m : Int) (h1 : M 93 11 = 0) : f_P_fits R 93 m M = some 0 := by
  unfold f_P_fits
  rw [if_pos h1]
theorem least_F4 {R : xR} {pn ps ln ls : Nat} (hR : RG R pn ps ln ls) {M : xM} (hB : LinB M) (h1 : M 93 11 = 1) {h : Int} (h0 : 0 ≤ h) (h9 : h ≤ 999) : ∀ (k f m : Nat) (v : Int), k < f → m + k = 100 → P_leastTold_F4 R M 93 h f v (m : Int) = some (tlS (M 102) (M 103) h k m v) := by
  have r9 : R 93 9 = 102 := by rw [hR.at 93 9 (by decide) (by decide)]; exact xR0_gg.1
  intro k
  induction k with
  | zero =>
    intro f m v hf hm
    obtain ⟨f, rfl⟩ : ∃ g, f = g + 1 := ⟨f - 1, by omega⟩
    rw [P_leastTold_F4, if_neg (by omega)]
    rfl
  | succ k ih =>
    intro f m v hf hm
    obtain ⟨f, rfl⟩ : ∃ g, f = g + 1 := ⟨f - 1, by omega⟩
    have b := hB m (by omega)
    have hp := mx_le (m := (m : Int)) (x := h) (by omega) (by omega) h0 h9
    rw [P_leastTold_F4, if_pos (by omega), xch_pos (by omega), fitsP_eq hR (by omega) h1, r9, Int.toNat_natCast, w32_of (x := (m : Int) * h) (by omega) (by omega), w32_of (x := (m : Int) * h + M 102 m) (by omega) (by omega)]
    unfold P_leastTold_J41 P_leastTold_J44
    simp only [xl_eq, xb1_some, x01_0]
    rw [w32_of (x := (m : Int) + 1) (by omega) (by omega), show (m : Int) + 1 = ((m + 1 : Nat) : Int) by omega, ih f (m + 1) _ (by omega) (by omega), ih f (m + 1) _ (by omega) (by omega), tlS]
    unfold tl
    generalize (m : Int) * h = P at *
    by_cases a1 : M 102 m ≤ M 103 m
    · rw [if_neg (fun z => z a1)]
      by_cases a2 : v = -1
      · rw [if_pos a2, if_pos ⟨a1, Or.inl a2⟩]
      · rw [if_neg a2]
        by_cases a3 : P + M 102 m < v
        · rw [if_pos a3, if_pos ⟨a1, Or.inr a3⟩]
        · rw [if_neg a3, if_neg (fun z => z.2.elim a2 a3)]
    · rw [if_pos a1, if_neg (fun z => a1 z.1)]
theorem most_F4 {R : xR} {pn ps ln ls : Nat} (hR : RG R pn ps ln ls) {M : xM} (hB : LinB M) (h1 : M 93 11 = 1) {h : Int} (h0 : 0 ≤ h) (h9 : h ≤ 999) : ∀ (k f m : Nat) (v : Int), k < f → m + k = 100 → P_mostTold_F4 R M 93 h f v (m : Int) = some (tmS (M 102) (M 103) h k m v) := by
  have r10 : R 93 10 = 103 := by rw [hR.at 93 10 (by decide) (by decide)]; exact xR0_gg.2.1
  intro k
  induction k with
  | zero =>
    intro f m v hf hm
    obtain ⟨f, rfl⟩ : ∃ g, f = g + 1 := ⟨f - 1, by omega⟩
    rw [P_mostTold_F4, if_neg (by omega)]
    rfl
  | succ k ih =>
    intro f m v hf hm
    obtain ⟨f, rfl⟩ : ∃ g, f = g + 1 := ⟨f - 1, by omega⟩
    have b := hB m (by omega)
    have hp := mx_le (m := (m : Int)) (x := h) (by omega) (by omega) h0 h9
    rw [P_mostTold_F4, if_pos (by omega), xch_pos (by omega), fitsP_eq hR (by omega) h1, r10, Int.toNat_natCast, w32_of (x := (m : Int) * h) (by omega) (by omega), w32_of (x := (m : Int) * h + M 103 m) (by omega) (by omega)]
    unfold P_mostTold_J39
    simp only [xl_eq, xb1_some, x01_0]
    rw [w32_of (x := (m : Int) + 1) (by omega) (by omega), show (m : Int) + 1 = ((m + 1 : Nat) : Int) by omega, ih f (m + 1) _ (by omega) (by omega), ih f (m + 1) _ (by omega) (by omega), tmS]
    unfold tm
    generalize (m : Int) * h = P at *
    by_cases a1 : M 102 m ≤ M 103 m
    · rw [if_neg (fun z => z a1)]
      by_cases a3 : v < P + M 103 m
      · rw [if_pos a3, if_pos ⟨a1, a3⟩]
      · rw [if_neg a3, if_neg (fun z => a3 z.2)]
    · rw [if_pos a1, if_neg (fun z => a1 z.1)]
theorem least_0 {R : xR} {pn ps ln ls : Nat} (hR : RG R pn ps ln ls) {M : xM} (h1 : M 93 11 = 0) (h : Int) : ∀ (k f m : Nat), k < f → m + k = 100 → P_leastTold_F4 R M 93 h f (-1) (m : Int) = some (-1) ∧ P_mostTold_F4 R M 93 h f (-1) (m : Int) = some (-1) := by
  intro k
  induction k with
  | zero =>
    intro f m hf hm
    obtain ⟨f, rfl⟩ : ∃ g, f = g + 1 := ⟨f - 1, by omega⟩
    rw [P_leastTold_F4, if_neg (by omega), P_mostTold_F4, if_neg (by omega)]
    exact ⟨rfl, rfl⟩
  | succ k ih =>
    intro f m hf hm
    obtain ⟨f, rfl⟩ : ∃ g, f = g + 1 := ⟨f - 1, by omega⟩
    have hi := ih f (m + 1) (by omega) (by omega)
    rw [P_leastTold_F4, if_pos (by omega), xch_pos (by omega), xl_eq, fitsP_0 _ h1, xb1_some, if_pos rfl]
    rw [P_mostTold_F4, if_pos (by omega), xch_pos (by omega), xl_eq, fitsP_0 _ h1, xb1_some, if_pos rfl]
    unfold P_leastTold_J44 P_mostTold_J39
    rw [xl_eq, xl_eq, w32_of (x := (m : Int) + 1) (by omega) (by omega), show (m : Int) + 1 = ((m + 1 : Nat) : Int) by omega]
    exact hi
/-- what the paper remembers of a gauge, and the model -/
def GgOK (M : xM) : Prop := (M 93 11 = 0 ∧ M 104 106 < 1) ∨ (M 93 11 = 1 ∧ GP M ∧ Lin M ∧ M 104 106 = cntS (M 102) (M 103) 100 0 0)
theorem told_J49 (R : xR) (x : Int) (M : xM) : X_gaugeTold_J49 R 1 x M = some (x, xu M 1 0 (if x = -1 then 6 else 0)) := by
  unfold X_gaugeTold_J49
  by_cases h : x = -1
  · rw [if_pos h, if_pos h, refuse_eq, xb2_some, h]
  · rw [if_neg h, if_neg h, answer_eq, xb2_some]
