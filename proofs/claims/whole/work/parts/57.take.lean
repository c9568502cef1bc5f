/-- the most that place i of a row of cleaners may hold -/
def bdC (i : Nat) : Int := if i % 5 = 4 then 1000 else 100
theorem tmod5 (v : Nat) : Int.tmod (v : Int) 5 = 4 ↔ v % 5 = 4 := by
  rw [Int.tmod_eq_emod_of_nonneg (by omega)]
  omega
theorem takeC_F3 {R : xR} {pn ps ln ls : Nat} (hR : RG R pn ps ln ls) {n t : Nat} (ht : t < 4) (hn : n ≤ 7) : ∀ (k f v : Nat) (M : xM), k < f → v + k = 5 * n → ((∀ i, v ≤ i → i < 5 * n → 0 ≤ M 5 (60 * t + i) ∧ M 5 (60 * t + i) ≤ bdC i) → P_takeCleaners_F3 R 93 4 (t : Int) (n : Int) f (v : Int) M = some (1, xrow M 94 (fun i => if v ≤ i ∧ i < 5 * n then M 5 (60 * t + i) else M 94 i))) ∧ ((∃ i, v ≤ i ∧ i < 5 * n ∧ ¬ (0 ≤ M 5 (60 * t + i) ∧ M 5 (60 * t + i) ≤ bdC i)) → ∃ g, P_takeCleaners_F3 R 93 4 (t : Int) (n : Int) f (v : Int) M = some (0, xrow M 94 g)) := by
  have r0 : R 93 0 = 94 := by rw [hR.at 93 0 (by decide) (by decide)]; exact xR0_ro.1.1
  intro k
  induction k with
  | zero =>
    intro f v M hf hv
    obtain ⟨f, rfl⟩ : ∃ g, f = g + 1 := ⟨f - 1, by omega⟩
    refine ⟨fun _ => ?_, fun q => ?_⟩
    · rw [P_takeCleaners_F3, w32_of (x := (n : Int) * 5) (by omega) (by omega), if_neg (by omega)]
      have e : (fun i => if v ≤ i ∧ i < 5 * n then M 5 (60 * t + i) else M 94 i) = M 94 := by
        funext i
        rw [if_neg (by omega)]
      rw [e, xrow_self]
    · obtain ⟨i, h1, h2, -⟩ := q
      omega
  | succ k ih =>
    intro f v M hf hv
    obtain ⟨f, rfl⟩ : ∃ g, f = g + 1 := ⟨f - 1, by omega⟩
    have hb : bdC v ≤ 1000 := by
      unfold bdC
      split <;> omega
    have e : P_takeCleaners_F3 R 93 4 (t : Int) (n : Int) (f + 1) (v : Int) M = P_takeCleaners_J27 R 93 4 (t : Int) (n : Int) (P_takeCleaners_F3 R 93 4 (t : Int) (n : Int) f) (v : Int) (bdC v) M := by
      rw [P_takeCleaners_F3, w32_of (x := (n : Int) * 5) (by omega) (by omega), if_pos (by omega)]
      unfold bdC
      by_cases h : v % 5 = 4
      · rw [if_pos h, if_pos ((tmod5 v).2 h)]
      · rw [if_neg h, if_neg (fun q => h ((tmod5 v).1 q))]
    rw [e]
    unfold P_takeCleaners_J27
    rw [getY_eq hR ht (by omega), xb1_some]
    have h5 : xu M 94 v (M 5 (60 * t + v)) 5 = M 5 := xu_cell _ _ _ (by decide)
    by_cases h : 0 ≤ M 5 (60 * t + v) ∧ M 5 (60 * t + v) ≤ bdC v
    · rw [if_neg (by omega), if_neg (by omega), xch_pos (by omega), xl_eq, xl_eq, r0, Int.toNat_natCast, w32_of (x := M 5 (60 * t + v)) (by omega) (by omega), w32_of (x := (v : Int) + 1) (by omega) (by omega), show (v : Int) + 1 = ((v + 1 : Nat) : Int) by omega]
      have hi := ih f (v + 1) (xu M 94 v (M 5 (60 * t + v))) (by omega) (by omega)
      rw [h5] at hi
      refine ⟨fun q => ?_, fun q => ?_⟩
      · rw [hi.1 fun i i1 i2 => q i (by omega) i2, xrow_xu]
        refine congrArg (fun g => some ((1 : Int), xrow M 94 g)) ?_
        funext i
        rw [xu_row]
        show (if _ then _ else (if i = v then _ else _)) = _
        by_cases h1 : i = v
        · rw [if_neg (by omega), if_pos h1, if_pos (by omega), h1]
        · rw [if_neg h1]
          by_cases h2 : v ≤ i ∧ i < 5 * n
          · rw [if_pos (by omega), if_pos h2]
          · rw [if_neg (by omega), if_neg h2]
      · obtain ⟨i, i1, i2, i3⟩ := q
        obtain ⟨g, hg⟩ := hi.2 ⟨i, by
          have : i ≠ v := by
            intro q
            subst q
            exact i3 h
          omega, i2, i3⟩
        exact ⟨g, by rw [hg, xrow_xu]⟩
    · refine ⟨fun q => absurd (q v (by omega) (by omega)) h, fun _ => ⟨M 94, ?_⟩⟩
      rw [xrow_self]
      by_cases h2 : M 5 (60 * t + v) < 0
      · rw [if_pos h2]
      · rw [if_neg h2, if_pos (by omega)]
theorem takeP_F16 {R : xR} {pn ps ln ls : Nat} (hR : RG R pn ps ln ls) {t : Nat} (ht : t < 4) : ∀ (k f v : Nat) (M : xM), k < f → v + k = 4 → (∀ i, i < 4 → 0 ≤ M 5 (60 * t + i) ∧ M 5 (60 * t + i) ≤ 9999) → P_takePortions_F16 R 93 4 (t : Int) f (v : Int) M = some (1, xrow M 95 (fun i => if v ≤ i ∧ i < 4 then M 5 (60 * t + i) else M 95 i)) := by
  have r1 : R 93 1 = 95 := by rw [hR.at 93 1 (by decide) (by decide)]; exact xR0_ro.1.2.1
  intro k
  induction k with
  | zero =>
    intro f v M hf hv _
    obtain ⟨f, rfl⟩ : ∃ g, f = g + 1 := ⟨f - 1, by omega⟩
    rw [P_takePortions_F16, if_neg (by omega)]
    have e : (fun i => if v ≤ i ∧ i < 4 then M 5 (60 * t + i) else M 95 i) = M 95 := by
      funext i
      rw [if_neg (by omega)]
    rw [e, xrow_self]
  | succ k ih =>
    intro f v M hf hv hB
    obtain ⟨f, rfl⟩ : ∃ g, f = g + 1 := ⟨f - 1, by omega⟩
    have h := hB v (by omega)
    have h5 : xu M 95 v (M 5 (60 * t + v)) 5 = M 5 := xu_cell _ _ _ (by decide)
    rw [P_takePortions_F16, if_pos (by omega), getY_eq hR ht (by omega), xb1_some, xch_pos (by omega), xl_eq, xl_eq, r1, Int.toNat_natCast, w32_of (x := M 5 (60 * t + v)) (by omega) (by omega), w32_of (x := (v : Int) + 1) (by omega) (by omega), show (v : Int) + 1 = ((v + 1 : Nat) : Int) by omega, ih f (v + 1) _ (by omega) (by omega) (by rw [h5]; exact hB), xrow_xu, h5]
    refine congrArg (fun g => some ((1 : Int), xrow M 95 g)) ?_
    funext i
    rw [xu_row]
    show (if _ then _ else (if i = v then _ else _)) = _
    by_cases h1 : i = v
    · rw [if_neg (by omega), if_pos h1, if_pos (by omega), h1]
    · rw [if_neg h1]
      by_cases h2 : v ≤ i ∧ i < 4
      · rw [if_pos (by omega), if_pos h2]
      · rw [if_neg (by omega), if_neg h2]
