/-! ===== gaugeTold ===== -/
set_option maxRecDepth 100000 in
theorem xR0_gg : xR0 93 9 = 102 ∧ xR0 93 10 = 103 ∧ xR0 104 102 = 172 ∧ xR0 104 103 = 173 ∧ xan 35 = 100 := by decide +kernel
/-- the points of the model -/
def GP (M : xM) : Prop := (0 ≤ M 104 104 ∧ M 104 104 ≤ 10) ∧ (0 ≤ M 104 105 ∧ M 104 105 ≤ 1000) ∧ ∀ v : Nat, (v : Int) < M 104 104 → (0 ≤ M 172 v ∧ M 172 v ≤ 999) ∧ 0 ≤ M 173 v ∧ M 173 v ≤ 99999
/-- the line fits at point v -/
def Fit1 (M : xM) (m c : Int) (v : Nat) : Prop := m * M 172 v + c - M 173 v ≤ M 104 105 ∧ -(m * M 172 v + c - M 173 v) ≤ M 104 105
def Fit (M : xM) (m c : Int) : Prop := ∀ v : Nat, (v : Int) < M 104 104 → Fit1 M m c v
def Lin (M : xM) : Prop := ∀ m : Nat, m < 100 → (0 ≤ M 102 m ∧ M 102 m ≤ 200000) ∧ (-200000 ≤ M 103 m ∧ M 103 m ≤ 999) ∧ ∀ c : Nat, c < 1000 → (Fit M m c ↔ M 102 m ≤ c ∧ (c : Int) ≤ M 103 m)
theorem mx_le {m x : Int} (m0 : 0 ≤ m) (m1 : m < 100) (x0 : 0 ≤ x) (x1 : x ≤ 999) : 0 ≤ m * x ∧ m * x ≤ 98901 := by
  have a : m * x ≤ 99 * 999 := Int.mul_le_mul (by omega) x1 x0 (by omega)
  have b : 0 ≤ m * x := Int.mul_nonneg m0 x0
  omega
theorem xabs_lt {z s : Int} (h1 : -1000000 < z) (h2 : z < 1000000) : (s < xabs z) ↔ ¬ (z ≤ s ∧ -z ≤ s) := by
  unfold xabs
  by_cases h : 0 ≤ z
  · rw [if_pos h]; omega
  · rw [if_neg h, w32_of (by omega) (by omega)]; omega
theorem fits_F2 {R : xR} {pn ps ln ls : Nat} (hR : RG R pn ps ln ls) {M : xM} (hG : GP M) {m c n : Nat} (hm : m < 100) (hc : c < 1000) (hn : M 104 104 = n) : ∀ k f v, k < f → v + k = n → ((∀ i, v ≤ i → i < n → Fit1 M m c i) → M_fits_F2 R M 104 (m : Int) (c : Int) f (v : Int) = some 1) ∧ ((∃ i, v ≤ i ∧ i < n ∧ ¬ Fit1 M m c i) → M_fits_F2 R M 104 (m : Int) (c : Int) f (v : Int) = some 0) := by
  have r1 : R 104 102 = 172 := by rw [hR.at 104 102 (by decide) (by decide)]; exact xR0_gg.2.2.1
  have r2 : R 104 103 = 173 := by rw [hR.at 104 103 (by decide) (by decide)]; exact xR0_gg.2.2.2.1
  obtain ⟨g1, g2, g3⟩ := hG
  intro k
  induction k with
  | zero =>
    intro f v hf hv
    obtain ⟨f, rfl⟩ : ∃ g, f = g + 1 := ⟨f - 1, by omega⟩
    refine ⟨fun _ => ?_, fun q => ?_⟩
    · rw [M_fits_F2, if_neg (by omega)]
    · obtain ⟨i, h1, h2, -⟩ := q
      omega
  | succ k ih =>
    intro f v hf hv
    obtain ⟨f, rfl⟩ : ∃ g, f = g + 1 := ⟨f - 1, by omega⟩
    have p := g3 v (by omega)
    have hp := mx_le (m := (m : Int)) (by omega) (by omega) p.1.1 p.1.2
    have e : M_fits_F2 R M 104 (m : Int) (c : Int) (f + 1) (v : Int) = if M 104 105 < xabs ((m : Int) * M 172 v + c - M 173 v) then some 0 else M_fits_F2 R M 104 (m : Int) (c : Int) f ((v + 1 : Nat) : Int) := by
      rw [M_fits_F2, if_pos (by omega), xch_pos (by omega), r1, r2, Int.toNat_natCast, w32_of (x := (m : Int) * M 172 v) (by omega) (by omega), w32_of (x := (m : Int) * M 172 v + c) (by omega) (by omega), w32_of (x := (m : Int) * M 172 v + c - M 173 v) (by omega) (by omega), xl_eq, w32_of (by omega) (by omega)]
      rfl
    have ha := xabs_lt (z := (m : Int) * M 172 v + c - M 173 v) (s := M 104 105) (by omega) (by omega)
    have hi := ih f (v + 1) (by omega) (by omega)
    rw [e]
    by_cases h : Fit1 M m c v
    · have h' : ¬ M 104 105 < xabs ((m : Int) * M 172 v + c - M 173 v) := fun q => ha.1 q h
      rw [if_neg h']
      refine ⟨fun q => hi.1 fun i i1 i2 => q i (by omega) i2, fun q => hi.2 ?_⟩
      obtain ⟨i, i1, i2, i3⟩ := q
      exact ⟨i, by
        have : i ≠ v := by
          intro q
          subst q
          exact i3 h
        omega, i2, i3⟩
    · have h' : M 104 105 < xabs ((m : Int) * M 172 v + c - M 173 v) := ha.2 h
      rw [if_pos h']
      exact ⟨fun q => absurd (q v (by omega) (by omega)) h, fun _ => rfl⟩
theorem fits_eq {R : xR} {pn ps ln ls : Nat} (hR : RG R pn ps ln ls) {M : xM} (hG : GP M) (hL : Lin M) {m c : Nat} (hm : m < 100) (hc : c < 1000) : f_M_fits R 104 (m : Int) (c : Int) M = some (if M 102 m ≤ c ∧ (c : Int) ≤ M 103 m then 1 else 0) := by
  have hl := (hL m hm).2.2 c hc
  obtain ⟨n, hn⟩ : ∃ n : Nat, M 104 104 = n := ⟨(M 104 104).toNat, by have := hG.1; omega⟩
  have hn10 : n ≤ 10 := by have := hG.1; omega
  have h := fits_F2 hR hG hm hc hn n xfu 0 (by have : xfu = 1000000 := rfl; omega) (by omega)
  unfold f_M_fits
  by_cases q : M 102 m ≤ c ∧ (c : Int) ≤ M 103 m
  · rw [if_pos q]
    exact h.1 fun i _ i2 => hl.2 q i (by omega)
  · rw [if_neg q]
    refine h.2 (Classical.byContradiction fun z => q (hl.1 fun i i1 => Classical.byContradiction fun y => z ⟨i, by omega, by omega, y⟩))
/-- the least told: one line more -/
def tl (P lo hi v : Int) : Int := if lo ≤ hi ∧ (v = -1 ∨ P + lo < v) then P + lo else v
def tm (P lo hi v : Int) : Int := if lo ≤ hi ∧ v < P + hi then P + hi else v
def mxc (c lo : Int) : Int := if lo ≤ c then c else lo
theorem told_F56 {R : xR} {pn ps ln ls : Nat} (hR : RG R pn ps ln ls) {M : xM} (hG : GP M) (hL : Lin M) {m : Nat} (hm : m < 100) {h w : Int} (h0 : 0 ≤ h) (h1 : h ≤ 999) (q : Int → Int → xM → Option (Int × xM)) : ∀ (k f c : Nat) (v : Int), k < f → c + k = 1000 → -1 ≤ v → M_gaugeTold_F56 R 104 h w q f v (m : Int) (c : Int) M = q (if w = 0 then tl ((m : Int) * h) (mxc c (M 102 m)) (M 103 m) v else tm ((m : Int) * h) (mxc c (M 102 m)) (M 103 m) v) (m : Int) M := by
  have b := hL m hm
  have hp := mx_le (m := (m : Int)) (x := h) (by omega) (by omega) h0 h1
  intro k
  induction k with
  | zero =>
    intro f c v hf hc hv
    obtain ⟨f, rfl⟩ : ∃ g, f = g + 1 := ⟨f - 1, by omega⟩
    rw [M_gaugeTold_F56, if_neg (by omega)]
    have e : ¬ mxc (c : Int) (M 102 m) ≤ M 103 m := by
      unfold mxc
      by_cases z : M 102 m ≤ (c : Int)
      · rw [if_pos z]; omega
      · rw [if_neg z]; omega
    unfold tl tm
    by_cases z : w = 0
    · rw [if_pos z, if_neg (fun z => e z.1)]
    · rw [if_neg z, if_neg (fun z => e z.1)]
  | succ k ih =>
    intro f c v hf hc hv
    obtain ⟨f, rfl⟩ : ∃ g, f = g + 1 := ⟨f - 1, by omega⟩
    rw [M_gaugeTold_F56, if_pos (by omega), xl_eq, w32_of (x := (m : Int) * h) (by omega) (by omega), w32_of (x := (m : Int) * h + c) (by omega) (by omega)]
    unfold M_gaugeTold_J102 M_gaugeTold_J123
    rw [fits_eq hR hG hL hm (by omega)]
    simp only [xl_eq, xb1_some, x01_0]
    rw [w32_of (x := (c : Int) + 1) (by omega) (by omega), show (c : Int) + 1 = ((c + 1 : Nat) : Int) by omega]
    have i1 := ih f (c + 1) v (by omega) (by omega) hv
    have i2 := ih f (c + 1) ((m : Int) * h + c) (by omega) (by omega) (by omega)
    rw [i1, i2]
    generalize (m : Int) * h = P at *
    have hb1 := b.1
    have hb2 := b.2.1
    clear i1 i2 ih b hL
    generalize M 102 m = lo at *
    generalize M 103 m = hi at *
    repeat' split
    all_goals first
      | exact absurd trivial (by assumption)
      | (exfalso; omega)
      | (refine congrArg (fun z => q z (m : Int) M) ?_; simp only [tl, tm, mxc]; (repeat' split) <;> omega)
/-- the told answers, over k lines from m -/
def tlS (lo hi : Nat → Int) (h : Int) : Nat → Nat → Int → Int
  | 0, _, v => v
  | k + 1, m, v => tlS lo hi h k (m + 1) (tl ((m : Int) * h) (lo m) (hi m) v)
def tmS (lo hi : Nat → Int) (h : Int) : Nat → Nat → Int → Int
  | 0, _, v => v
  | k + 1, m, v => tmS lo hi h k (m + 1) (tm ((m : Int) * h) (lo m) (hi m) v)
theorem told_F46 {R : xR} {pn ps ln ls : Nat} (hR : RG R pn ps ln ls) {M : xM} (hG : GP M) (hL : Lin M) {h w : Int} (h0 : 0 ≤ h) (h1 : h ≤ 999) : ∀ (k f m : Nat) (v : Int), k < f → m + k = 100 → -1 ≤ v → M_gaugeTold_F46 R 104 h w f v (m : Int) M = some (if w = 0 then tlS (M 102) (M 103) h k m v else tmS (M 102) (M 103) h k m v, xu M 104 0 0) := by
  intro k
  induction k with
  | zero =>
    intro f m v hf hm hv
    obtain ⟨f, rfl⟩ : ∃ g, f = g + 1 := ⟨f - 1, by omega⟩
    rw [M_gaugeTold_F46, if_neg (by omega), gives_eq, xb2_some]
    by_cases z : w = 0
    · rw [if_pos z]; rfl
    · rw [if_neg z]; rfl
  | succ k ih =>
    intro f m v hf hm hv
    obtain ⟨f, rfl⟩ : ∃ g, f = g + 1 := ⟨f - 1, by omega⟩
    have b := hL m (by omega)
    have hp := mx_le (m := (m : Int)) (x := h) (by omega) (by omega) h0 h1
    rw [M_gaugeTold_F46, if_pos (by omega)]
    refine (told_F56 hR hG hL (by omega) h0 h1 _ 1000 xfu 0 v (by have : xfu = 1000000 := rfl; omega) (by omega) hv).trans ?_
    have e : mxc ((0 : Nat) : Int) (M 102 m) = M 102 m := by
      unfold mxc
      by_cases z : M 102 m ≤ ((0 : Nat) : Int)
      · rw [if_pos z]; omega
      · rw [if_neg z]
    rw [e, xl_eq, w32_of (by omega) (by omega), show (m : Int) + 1 = ((m + 1 : Nat) : Int) by omega]
    have hb1 := b.1
    have hb2 := b.2.1
    rw [ih f (m + 1) _ (by omega) (by omega) (by
      by_cases z : w = 0
      · rw [if_pos z]
        unfold tl
        split <;> omega
      · rw [if_neg z]
        unfold tm
        split <;> omega)]
    by_cases z : w = 0
    · simp only [if_pos z]; rfl
    · simp only [if_neg z]; rfl
