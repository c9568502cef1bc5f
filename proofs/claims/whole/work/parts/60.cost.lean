/-- the cost of a row, from the front -/
def cst (f row : Nat → Int) : Nat → Nat → Int → Int
  | 0, _, x => x
  | k + 1, v, x => cst f row k (v + 1) (x + f (5 * (row v).toNat + 4))
theorem costOf_F4 {R : xR} {pn ps ln ls : Nat} (hR : RG R pn ps ln ls) {M : xM} {L : Nat} (hL : L ≤ 4) (hB : ∀ v, v < L → 0 ≤ M 97 v ∧ M 97 v < 7 ∧ 0 ≤ M 94 (5 * (M 97 v).toNat + 4) ∧ M 94 (5 * (M 97 v).toNat + 4) ≤ 1000) : ∀ (k f v : Nat) (x : Int), k < f → v + k = L → 0 ≤ x → x ≤ 1000 * v → P_costOf_F4 R M 93 (L : Int) f x (v : Int) = some (cst (M 94) (M 97) k v x) := by
  have r0 : R 93 0 = 94 := by rw [hR.at 93 0 (by decide) (by decide)]; exact xR0_ro.1.1
  have r3 : R 93 3 = 97 := by rw [hR.at 93 3 (by decide) (by decide)]; exact xR0_ro.1.2.2.2.1
  intro k
  induction k with
  | zero =>
    intro f v x hf hv _ _
    obtain ⟨f, rfl⟩ : ∃ g, f = g + 1 := ⟨f - 1, by omega⟩
    rw [P_costOf_F4, if_neg (by omega)]
    rfl
  | succ k ih =>
    intro f v x hf hv x0 x1
    obtain ⟨f, rfl⟩ : ∃ g, f = g + 1 := ⟨f - 1, by omega⟩
    have b := hB v (by omega)
    rw [P_costOf_F4, if_pos (by omega), xch_pos (by omega), r0, r3, Int.toNat_natCast, w32_of (x := M 97 v * 5) (by omega) (by omega), w32_of (x := M 97 v * 5 + 4) (by omega) (by omega), xch_pos (by omega), show (M 97 v * 5 + 4).toNat = 5 * (M 97 v).toNat + 4 by omega, xl_eq, xl_eq, w32_of (x := x + M 94 (5 * (M 97 v).toNat + 4)) (by omega) (by omega), w32_of (x := (v : Int) + 1) (by omega) (by omega), show (v : Int) + 1 = ((v + 1 : Nat) : Int) by omega]
    exact ih f (v + 1) _ (by omega) (by omega) (by omega) (by omega)
