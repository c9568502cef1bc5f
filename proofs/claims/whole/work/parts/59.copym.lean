theorem rowOf_F203 {R : xR} {pn ps ln ls : Nat} (hR : RG R pn ps ln ls) {n t : Nat} (ht : t < 4) (hn : n ≤ 7) (l3 l4 : Int) (q : xM → Option (Int × xM)) : ∀ (k f v : Nat) (M : xM), k < f → v + k = 5 * n → (∀ i, i < 5 * n → 0 ≤ M 107 (60 * t + i) ∧ M 107 (60 * t + i) ≤ 1000) → M_rowOf_F203 R 104 (t : Int) (n : Int) l3 l4 q f (v : Int) M = q (xrow M 166 (fun i => if v ≤ i ∧ i < 5 * n then M 107 (60 * t + i) else M 166 i)) := by
  have r7 : R 104 3 = 107 := by rw [hR.at 104 3 (by decide) (by decide)]; exact xR0_104.2.2.1
  have r5 : R 104 95 = 166 := by rw [hR.at 104 95 (by decide) (by decide)]; exact xR0_ro.2.1
  intro k
  induction k with
  | zero =>
    intro f v M hf hv _
    obtain ⟨f, rfl⟩ : ∃ g, f = g + 1 := ⟨f - 1, by omega⟩
    rw [M_rowOf_F203, w32_of (x := 5 * (n : Int)) (by omega) (by omega), if_neg (by omega)]
    have e : (fun i => if v ≤ i ∧ i < 5 * n then M 107 (60 * t + i) else M 166 i) = M 166 := by
      funext i
      rw [if_neg (by omega)]
    rw [e, xrow_self]
  | succ k ih =>
    intro f v M hf hv hB
    obtain ⟨f, rfl⟩ : ∃ g, f = g + 1 := ⟨f - 1, by omega⟩
    have h := hB v (by omega)
    have h7 : xu M 166 v (M 107 (60 * t + v)) 107 = M 107 := xu_cell _ _ _ (by decide)
    rw [M_rowOf_F203, w32_of (x := 5 * (n : Int)) (by omega) (by omega), if_pos (by omega), w32_of (x := 60 * (t : Int)) (by omega) (by omega), w32_of (x := 60 * (t : Int) + v) (by omega) (by omega), xch_pos (by omega), xch_pos (by omega), xl_eq, xl_eq, r5, r7, Int.toNat_natCast, show (60 * (t : Int) + v).toNat = 60 * t + v by omega, w32_of (x := M 107 (60 * t + v)) (by omega) (by omega), w32_of (x := (v : Int) + 1) (by omega) (by omega), show (v : Int) + 1 = ((v + 1 : Nat) : Int) by omega, ih f (v + 1) _ (by omega) (by omega) (by rw [h7]; exact hB), xrow_xu, h7]
    refine congrArg (fun g => q (xrow M 166 g)) ?_
    funext i
    rw [xu_row]
    show (if _ then _ else (if i = v then _ else _)) = _
    by_cases h1 : i = v
    · rw [if_neg (by omega), if_pos h1, if_pos (by omega), h1]
    · rw [if_neg h1]
      by_cases h2 : v ≤ i ∧ i < 5 * n
      · rw [if_pos (by omega), if_pos h2]
      · rw [if_neg (by omega), if_neg h2]
theorem rowOf_F240 {R : xR} {pn ps ln ls : Nat} (hR : RG R pn ps ln ls) {t : Nat} (ht : t < 4) (l2 l4 : Int) (q : xM → Option (Int × xM)) : ∀ (k f v : Nat) (M : xM), k < f → v + k = 4 → (∀ i, i < 4 → 0 ≤ M 107 (60 * t + i) ∧ M 107 (60 * t + i) ≤ 9999) → M_rowOf_F240 R 104 l2 (t : Int) l4 q f (v : Int) M = q (xrow M 167 (fun i => if v ≤ i ∧ i < 4 then M 107 (60 * t + i) else M 167 i)) := by
  have r7 : R 104 3 = 107 := by rw [hR.at 104 3 (by decide) (by decide)]; exact xR0_104.2.2.1
  have r6 : R 104 96 = 167 := by rw [hR.at 104 96 (by decide) (by decide)]; exact xR0_ro.2.2.1
  intro k
  induction k with
  | zero =>
    intro f v M hf hv _
    obtain ⟨f, rfl⟩ : ∃ g, f = g + 1 := ⟨f - 1, by omega⟩
    rw [M_rowOf_F240, if_neg (by omega)]
    have e : (fun i => if v ≤ i ∧ i < 4 then M 107 (60 * t + i) else M 167 i) = M 167 := by
      funext i
      rw [if_neg (by omega)]
    rw [e, xrow_self]
  | succ k ih =>
    intro f v M hf hv hB
    obtain ⟨f, rfl⟩ : ∃ g, f = g + 1 := ⟨f - 1, by omega⟩
    have h := hB v (by omega)
    have h7 : xu M 167 v (M 107 (60 * t + v)) 107 = M 107 := xu_cell _ _ _ (by decide)
    rw [M_rowOf_F240, if_pos (by omega), w32_of (x := 60 * (t : Int)) (by omega) (by omega), w32_of (x := 60 * (t : Int) + v) (by omega) (by omega), xch_pos (by omega), xch_pos (by omega), xl_eq, xl_eq, r6, r7, Int.toNat_natCast, show (60 * (t : Int) + v).toNat = 60 * t + v by omega, w32_of (x := M 107 (60 * t + v)) (by omega) (by omega), w32_of (x := (v : Int) + 1) (by omega) (by omega), show (v : Int) + 1 = ((v + 1 : Nat) : Int) by omega, ih f (v + 1) _ (by omega) (by omega) (by rw [h7]; exact hB), xrow_xu, h7]
    refine congrArg (fun g => q (xrow M 167 g)) ?_
    funext i
    rw [xu_row]
    show (if _ then _ else (if i = v then _ else _)) = _
    by_cases h1 : i = v
    · rw [if_neg (by omega), if_pos h1, if_pos (by omega), h1]
    · rw [if_neg h1]
      by_cases h2 : v ≤ i ∧ i < 4
      · rw [if_pos (by omega), if_pos h2]
      · rw [if_neg (by omega), if_neg h2]
