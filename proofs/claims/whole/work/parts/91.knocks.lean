/-! ===== knocks: sets of hours ===== -/
def bcn (v : Nat) : Int := ((v % 2 + v / 2 % 2 + v / 4 % 2 + v / 8 % 2 + v / 16 % 2 + v / 32 % 2 : Nat) : Int)
set_option maxRecDepth 100000 in
theorem bitCount_eq : ∀ v : Nat, v < 64 → f_J_bitCount (v : Int) = some (bcn v) := by decide +kernel
set_option maxRecDepth 100000 in
theorem bits_eq : ∀ v : Nat, v < 64 → f_M_bits (v : Int) = some (bcn v) := by decide +kernel
set_option maxRecDepth 100000 in
theorem setbit : ∀ v : Nat, v < 64 → ∀ j : Nat, j < 6 → xand (xshr (v : Int) (j : Int)) 1 = (if v.testBit j = true then 1 else 0) := by decide +kernel
set_option maxRecDepth 100000 in
theorem xshl_pow : ∀ m : Nat, m ≤ 6 → xshl 1 (m : Int) = ((2 ^ m : Nat) : Int) := by decide +kernel
/-- hour h is one of those of the set v -/
def inSet (hr : Nat → Int) (m v h : Nat) : Prop := ∃ j, j < m ∧ v.testBit j = true ∧ hr j = (h : Int)
theorem upT_F6 {R : xR} {pn ps ln ls : Nat} (hR : RG R pn ps ln ls) {m v : Nat} (hm : m ≤ 6) (hv : v < 64) (l1 l2 : Nat) (l3 l5 : Int) (Q : Int → xM → Option (Int × xM)) {M : xM} (hM : M 78 10 = (m : Int)) (hr : ∀ j, j < m → 0 ≤ M 92 j ∧ M 92 j < 48) : ∀ (k f j u : Nat), k < f → j + k = m → u < 2 ^ 48 → (∀ h, u.testBit h = true ↔ inSet (M 92) j v h) → ∃ u' : Nat, u' < 2 ^ 48 ∧ (∀ h, u'.testBit h = true ↔ inSet (M 92) m v h) ∧ H_upTogether_F6 R 78 l1 l2 l3 (v : Int) l5 Q f (u : Int) (j : Int) M = Q (u' : Int) M := by
  have r9 : R 78 9 = 92 := by rw [hR.at 78 9 (by decide) (by decide)]; exact xR0_fl.2.2.2.2.2
  intro k
  induction k with
  | zero =>
    intro f j u hf hj hu hb
    obtain ⟨f, rfl⟩ : ∃ g, f = g + 1 := ⟨f - 1, by omega⟩
    have e : j = m := by omega
    refine ⟨u, hu, by rw [← e]; exact hb, ?_⟩
    rw [H_upTogether_F6, hM, if_neg (by omega)]
  | succ k ih =>
    intro f j u hf hj hu hb
    obtain ⟨f, rfl⟩ : ∃ g, f = g + 1 := ⟨f - 1, by omega⟩
    have J : ∀ x, H_upTogether_J39 R 78 l1 l2 l3 (v : Int) l5 (H_upTogether_F6 R 78 l1 l2 l3 (v : Int) l5 Q f) Q x (j : Int) M = H_upTogether_F6 R 78 l1 l2 l3 (v : Int) l5 Q f x ((j + 1 : Nat) : Int) M := by
      intro x
      unfold H_upTogether_J39
      rw [xl_eq, w32_of (x := (j : Int) + 1) (by omega) (by omega)]
      rfl
    have hrj := hr j (by omega)
    rw [H_upTogether_F6, hM, if_pos (by omega), setbit v hv j (by omega), J]
    by_cases z : v.testBit j = true
    · rw [if_pos z, if_neg (by decide), xch_pos (by omega), xl_eq, J, r9, Int.toNat_natCast]
      obtain ⟨g, hg⟩ : ∃ g : Nat, M 92 j = (g : Int) := ⟨(M 92 j).toNat, by omega⟩
      obtain ⟨w, w1, w2, w3⟩ := yset hu (show g < 48 by omega)
      rw [hg, w2]
      refine ih f (j + 1) w (by omega) (by omega) w1 (fun h => ?_)
      rw [w3, hb]
      constructor
      · rintro (⟨i, i1, i2, i3⟩ | y)
        · exact ⟨i, by omega, i2, i3⟩
        · exact ⟨j, by omega, z, by rw [hg, y]⟩
      · rintro ⟨i, i1, i2, i3⟩
        by_cases y : i = j
        · rw [y, hg] at i3
          exact Or.inr (by omega)
        · exact Or.inl ⟨i, by omega, i2, i3⟩
    · rw [if_neg z, if_pos rfl]
      refine ih f (j + 1) u (by omega) (by omega) hu (fun h => ?_)
      rw [hb]
      constructor
      · rintro ⟨i, i1, i2, i3⟩
        exact ⟨i, by omega, i2, i3⟩
      · rintro ⟨i, i1, i2, i3⟩
        have : i ≠ j := fun q => z (q ▸ i2)
        exact ⟨i, by omega, i2, i3⟩
/-- what goes up in the first k hours of the world W -/
def tU (W : xM) (k : Nat) : Int := sumN (fun h => upV (sim W (h + 1)) h (-1)) k
theorem tU_in {W : xM} : ∀ k, k ≤ 48 → (∀ j, j < k → WH W j) → 0 ≤ tU W k ∧ tU W k ≤ 7679232 * k := by
  intro k
  induction k with
  | zero => intro _ _; exact ⟨Int.le_refl 0, Int.le_refl 0⟩
  | succ k ih =>
    intro hk hW
    have a := ih (by omega) fun j hj => hW j (by omega)
    have b : ∀ i, i < 4 * k + 4 → 0 ≤ sim W (k + 1) 1 i ∧ sim W (k + 1) 1 i ≤ 1919808 := fun i hi => sim_up_in (by omega) (fun j hj => hW j (by omega)) (by omega)
    have b0 := b (4 * k) (by omega)
    have b1 := b (4 * k + 1) (by omega)
    have b2 := b (4 * k + 2) (by omega)
    have b3 := b (4 * k + 3) (by omega)
    have e : tU W (k + 1) = tU W k + upV (sim W (k + 1)) k (-1) := rfl
    rw [e]
    unfold upV
    rw [if_pos rfl]
    omega
