/-! ===== rowOf: what passes a row ===== -/
set_option maxRecDepth 100000 in
theorem xR0_ro : (xR0 93 0 = 94 ∧ xR0 93 1 = 95 ∧ xR0 93 2 = 96 ∧ xR0 93 3 = 97 ∧ xR0 93 4 = 98) ∧ xR0 104 95 = 166 ∧ xR0 104 96 = 167 ∧ xR0 104 97 = 168 ∧ xR0 104 100 = 170 := by decide +kernel
def psl (f row : Nat → Int) (j : Nat) : Nat → Nat → Int → Int
  | 0, _, x => x
  | k + 1, v, x => psl f row j k (v + 1) (x - Int.tdiv (x * f (5 * (row v).toNat + j)) 100)
def pss (f row p : Nat → Int) (L : Nat) : Nat → Nat → Int → Int
  | 0, _, x => x
  | k + 1, j, x => pss f row p L k (j + 1) (x + psl f row j L 0 (p j))
theorem part_le {x y : Int} (h0 : 0 ≤ x) (h1 : x ≤ 9999) (y0 : 0 ≤ y) (y1 : y ≤ 100) : (0 ≤ x * y ∧ x * y ≤ 999900) ∧ 0 ≤ Int.tdiv (x * y) 100 ∧ Int.tdiv (x * y) 100 ≤ x := by
  have a : x * y ≤ x * 100 := Int.mul_le_mul_of_nonneg_left y1 h0
  have b : 0 ≤ x * y := Int.mul_nonneg h0 y0
  rw [Int.tdiv_eq_ediv_of_nonneg b]
  omega
/-- rows of a word over n letters, cleaners of 5 numbers each -/
def RoB (f row : Nat → Int) (L : Nat) : Prop := L ≤ 4 ∧ ∀ v, v < L → 0 ≤ row v ∧ row v < 7 ∧ ∀ j, j < 4 → 0 ≤ f (5 * (row v).toNat + j) ∧ f (5 * (row v).toNat + j) ≤ 100
theorem psl_le {f row : Nat → Int} {L j : Nat} (hB : RoB f row L) (hj : j < 4) : ∀ k v x, v + k = L → 0 ≤ x → x ≤ 9999 → 0 ≤ psl f row j k v x ∧ psl f row j k v x ≤ 9999 := by
  intro k
  induction k with
  | zero => intro v x _ h0 h1; exact ⟨h0, h1⟩
  | succ k ih =>
    intro v x hv h0 h1
    have b := (hB.2 v (by omega)).2.2 j hj
    have c := part_le h0 h1 b.1 b.2
    exact ih (v + 1) _ (by omega) (by omega) (by omega)
theorem passes_F20 {R : xR} {pn ps ln ls : Nat} (hR : RG R pn ps ln ls) {M : xM} {L j : Nat} (hB : RoB (M 166) (M 168) L) (hj : j < 4) (q : Int → Int → Int → Option Int) (s : Int) : ∀ (k f v : Nat) (x : Int), k < f → v + k = L → 0 ≤ x → x ≤ 9999 → M_passes_F20 R M 104 (L : Int) q f s (j : Int) x (v : Int) = q s (j : Int) (psl (M 166) (M 168) j k v x) := by
  have r5 : R 104 95 = 166 := by rw [hR.at 104 95 (by decide) (by decide)]; exact xR0_ro.2.1
  have r7 : R 104 97 = 168 := by rw [hR.at 104 97 (by decide) (by decide)]; exact xR0_ro.2.2.2.1
  intro k
  induction k with
  | zero =>
    intro f v x hf hv _ _
    obtain ⟨f, rfl⟩ : ∃ g, f = g + 1 := ⟨f - 1, by omega⟩
    rw [M_passes_F20, if_neg (by omega)]
    rfl
  | succ k ih =>
    intro f v x hf hv h0 h1
    obtain ⟨f, rfl⟩ : ∃ g, f = g + 1 := ⟨f - 1, by omega⟩
    have hL := hB.1
    have a := hB.2 v (by omega)
    have b := a.2.2 j hj
    have c := part_le h0 h1 b.1 b.2
    rw [M_passes_F20, if_pos (by omega), xch_pos (by omega), r5, r7, Int.toNat_natCast, w32_of (x := 5 * M 168 v) (by omega) (by omega), w32_of (x := 5 * M 168 v + (j : Int)) (by omega) (by omega), xch_pos (by omega), show (5 * M 168 v + (j : Int)).toNat = 5 * (M 168 v).toNat + j by omega, xl_eq, xl_eq, w32_of (x := x * M 166 (5 * (M 168 v).toNat + j)) (by omega) (by omega), w32_of (x := Int.tdiv (x * M 166 (5 * (M 168 v).toNat + j)) 100) (by omega) (by omega), w32_of (x := x - Int.tdiv (x * M 166 (5 * (M 168 v).toNat + j)) 100) (by omega) (by omega), w32_of (x := (v : Int) + 1) (by omega) (by omega), show (v : Int) + 1 = ((v + 1 : Nat) : Int) by omega]
    exact ih f (v + 1) _ (by omega) (by omega) (by omega) (by omega)
theorem passes_F4 {R : xR} {pn ps ln ls : Nat} (hR : RG R pn ps ln ls) {M : xM} {L : Nat} (hB : RoB (M 166) (M 168) L) (hp : ∀ j, j < 4 → 0 ≤ M 167 j ∧ M 167 j ≤ 9999) : ∀ (k f j : Nat) (s : Int), k < f → j + k = 4 → 0 ≤ s → s ≤ 9999 * j → M_passes_F4 R M 104 (L : Int) f s (j : Int) = some (pss (M 166) (M 168) (M 167) L k j s) := by
  have r6 : R 104 96 = 167 := by rw [hR.at 104 96 (by decide) (by decide)]; exact xR0_ro.2.2.1
  intro k
  induction k with
  | zero =>
    intro f j s hf hj _ _
    obtain ⟨f, rfl⟩ : ∃ g, f = g + 1 := ⟨f - 1, by omega⟩
    rw [M_passes_F4, if_neg (by omega)]
    rfl
  | succ k ih =>
    intro f j s hf hj s0 s1
    obtain ⟨f, rfl⟩ : ∃ g, f = g + 1 := ⟨f - 1, by omega⟩
    have hL := hB.1
    have p := hp j (by omega)
    have c := psl_le hB (j := j) (by omega) L 0 (M 167 j) (by omega) p.1 p.2
    rw [M_passes_F4, if_pos (by omega), xch_pos (by omega), r6, Int.toNat_natCast, xl_eq]
    refine (passes_F20 hR hB (by omega) _ s L xfu 0 (M 167 j) (by have : xfu = 1000000 := rfl; omega) (by omega) p.1 p.2).trans ?_
    rw [xl_eq, xl_eq, w32_of (x := s + psl (M 166) (M 168) j L 0 (M 167 j)) (by omega) (by omega), w32_of (x := (j : Int) + 1) (by omega) (by omega), show (j : Int) + 1 = ((j + 1 : Nat) : Int) by omega]
    exact ih f (j + 1) _ (by omega) (by omega) (by omega) (by omega)
