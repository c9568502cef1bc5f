theorem rowOf_F101 {R : xR} {pn ps ln ls : Nat} (hR : RG R pn ps ln ls) {n t : Nat} (ht : t < 4) (hn : n ≤ 7) (l3 l4 : Int) (q : xM → Option (Int × xM)) (M : xM) : ∀ (k f v : Nat), k < f → v + k = 5 * n → ((∀ i, v ≤ i → i < 5 * n → 0 ≤ M 107 (60 * t + i) ∧ M 107 (60 * t + i) ≤ bdC i) → M_rowOf_F101 R 104 (t : Int) (n : Int) l3 l4 q f (v : Int) M = q M) ∧ ((∃ i, v ≤ i ∧ i < 5 * n ∧ ¬ (0 ≤ M 107 (60 * t + i) ∧ M 107 (60 * t + i) ≤ bdC i)) → M_rowOf_F101 R 104 (t : Int) (n : Int) l3 l4 q f (v : Int) M = some (-1, xu M 104 0 1)) := by
  have r7 : R 104 3 = 107 := by rw [hR.at 104 3 (by decide) (by decide)]; exact xR0_104.2.2.1
  intro k
  induction k with
  | zero =>
    intro f v hf hv
    obtain ⟨f, rfl⟩ : ∃ g, f = g + 1 := ⟨f - 1, by omega⟩
    refine ⟨fun _ => ?_, fun q => ?_⟩
    · rw [M_rowOf_F101, w32_of (x := 5 * (n : Int)) (by omega) (by omega), if_neg (by omega)]
    · obtain ⟨i, h1, h2, -⟩ := q
      omega
  | succ k ih =>
    intro f v hf hv
    obtain ⟨f, rfl⟩ : ∃ g, f = g + 1 := ⟨f - 1, by omega⟩
    have hi := ih f (v + 1) (by omega) (by omega)
    have e : M_rowOf_F101 R 104 (t : Int) (n : Int) l3 l4 q (f + 1) (v : Int) M = M_rowOf_J139 R 104 (t : Int) (n : Int) l3 l4 (M_rowOf_F101 R 104 (t : Int) (n : Int) l3 l4 q f) q (v : Int) (bdC v) 0 (M 107 (60 * t + v)) M := by
      rw [M_rowOf_F101, w32_of (x := 5 * (n : Int)) (by omega) (by omega), if_pos (by omega), w32_of (x := 60 * (t : Int)) (by omega) (by omega), w32_of (x := 60 * (t : Int) + v) (by omega) (by omega), xch_pos (by omega), r7, show (60 * (t : Int) + v).toNat = 60 * t + v by omega]
      unfold bdC
      by_cases h : v % 5 = 4
      · rw [if_pos h, if_pos ((tmod5 v).2 h)]
      · rw [if_neg h, if_neg (fun q => h ((tmod5 v).1 q))]
    rw [e]
    unfold M_rowOf_J139
    rw [isFrom_eq, xb1_some, xl_eq, w32_of (x := (v : Int) + 1) (by omega) (by omega), show (v : Int) + 1 = ((v + 1 : Nat) : Int) by omega]
    by_cases h : 0 ≤ M 107 (60 * t + v) ∧ M 107 (60 * t + v) ≤ bdC v
    · rw [if_pos h, if_neg (by decide)]
      refine ⟨fun q => hi.1 fun i i1 i2 => q i (by omega) i2, fun q => hi.2 ?_⟩
      obtain ⟨i, i1, i2, i3⟩ := q
      exact ⟨i, by
        have : i ≠ v := by
          intro q
          subst q
          exact i3 h
        omega, i2, i3⟩
    · rw [if_neg h, if_pos rfl, refuseM_eq, xb2_some]
      exact ⟨fun q => absurd (q v (by omega) (by omega)) h, fun _ => rfl⟩
theorem rowOf_F160 {R : xR} {pn ps ln ls : Nat} (hR : RG R pn ps ln ls) {t : Nat} (ht : t < 4) (l1 l2 l4 : Int) (q : xM → Option (Int × xM)) (M : xM) : ∀ (k f v : Nat), k < f → v + k = 4 → ((∀ i, v ≤ i → i < 4 → 0 ≤ M 107 (60 * t + i) ∧ M 107 (60 * t + i) ≤ 9999) → M_rowOf_F160 R 104 l1 l2 (t : Int) l4 q f (v : Int) M = q M) ∧ ((∃ i, v ≤ i ∧ i < 4 ∧ ¬ (0 ≤ M 107 (60 * t + i) ∧ M 107 (60 * t + i) ≤ 9999)) → M_rowOf_F160 R 104 l1 l2 (t : Int) l4 q f (v : Int) M = some (-1, xu M 104 0 1)) := by
  have r7 : R 104 3 = 107 := by rw [hR.at 104 3 (by decide) (by decide)]; exact xR0_104.2.2.1
  intro k
  induction k with
  | zero =>
    intro f v hf hv
    obtain ⟨f, rfl⟩ : ∃ g, f = g + 1 := ⟨f - 1, by omega⟩
    refine ⟨fun _ => ?_, fun q => ?_⟩
    · rw [M_rowOf_F160, if_neg (by omega)]
    · obtain ⟨i, h1, h2, -⟩ := q
      omega
  | succ k ih =>
    intro f v hf hv
    obtain ⟨f, rfl⟩ : ∃ g, f = g + 1 := ⟨f - 1, by omega⟩
    have hi := ih f (v + 1) (by omega) (by omega)
    rw [M_rowOf_F160, if_pos (by omega), w32_of (x := 60 * (t : Int)) (by omega) (by omega), w32_of (x := 60 * (t : Int) + v) (by omega) (by omega), xch_pos (by omega), r7, show (60 * (t : Int) + v).toNat = 60 * t + v by omega, isFrom_eq, xb1_some, xl_eq, w32_of (by omega) (by omega), show (v : Int) + 1 = ((v + 1 : Nat) : Int) by omega]
    by_cases h : 0 ≤ M 107 (60 * t + v) ∧ M 107 (60 * t + v) ≤ 9999
    · rw [if_pos h, if_neg (by decide)]
      refine ⟨fun q => hi.1 fun i i1 i2 => q i (by omega) i2, fun q => hi.2 ?_⟩
      obtain ⟨i, i1, i2, i3⟩ := q
      exact ⟨i, by
        have : i ≠ v := by
          intro q
          subst q
          exact i3 h
        omega, i2, i3⟩
    · rw [if_neg h, if_pos rfl, refuseM_eq, xb2_some]
      exact ⟨fun q => absurd (q v (by omega) (by omega)) h, fun _ => rfl⟩
