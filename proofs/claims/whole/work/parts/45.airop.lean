theorem getY_eq {R : xR} {pn ps ln ls : Nat} (hR : RG R pn ps ln ls) {M : xM} {t v : Nat} (ht : t < 4) (hv : v < 60) : f_Y_get R 4 (t : Int) (v : Int) M = some (M 5 (60 * t + v)) := by
  have r0 : R 4 0 = 5 := by rw [hR.at 4 0 (by decide) (by decide)]; exact xR0_4.1
  unfold f_Y_get
  rw [w32_of (x := (t : Int) * 60) (by omega) (by omega), w32_of (x := (t : Int) * 60 + v) (by omega) (by omega), xch_pos (by omega), r0, show ((t : Int) * 60 + v).toNat = 60 * t + v by omega]
theorem takeH_ok {R : xR} {pn ps ln ls : Nat} (hR : RG R pn ps ln ls) {n t : Nat} (ht : t < 4) (hn : n ≤ 8) : ∀ (k f v : Nat) (M : xM), k < f → v + k = n → (∀ i, v ≤ i → i < n → 1 ≤ M 5 (60 * t + i) ∧ M 5 (60 * t + i) ≤ 100) → P_takeHindrances_F3 R 93 4 (t : Int) (n : Int) f (v : Int) M = some (1, xrow M 100 (fun i => if v ≤ i ∧ i < n then M 5 (60 * t + i) else M 100 i)) := by
  have r7 : R 93 7 = 100 := by rw [hR.at 93 7 (by decide) (by decide)]; exact xR0_air.1
  intro k
  induction k with
  | zero =>
    intro f v M hf hv hi
    obtain ⟨f, rfl⟩ : ∃ g, f = g + 1 := ⟨f - 1, by omega⟩
    rw [P_takeHindrances_F3, if_neg (by omega)]
    have e : (fun i => if v ≤ i ∧ i < n then M 5 (60 * t + i) else M 100 i) = M 100 := by
      funext i
      rw [if_neg (by omega)]
    rw [e, xrow_self]
  | succ k ih =>
    intro f v M hf hv hi
    obtain ⟨f, rfl⟩ : ∃ g, f = g + 1 := ⟨f - 1, by omega⟩
    have h := hi v (by omega) (by omega)
    rw [P_takeHindrances_F3, if_pos (by omega), getY_eq hR ht (by omega), xb1_some, if_neg (by omega), if_neg (by omega), xch_pos (by omega), xl_eq, xl_eq, r7, Int.toNat_natCast, w32_of (x := M 5 (60 * t + v)) (by omega) (by omega), w32_of (by omega) (by omega), show (v : Int) + 1 = ((v + 1 : Nat) : Int) by omega]
    have h5 : xu M 100 v (M 5 (60 * t + v)) 5 = M 5 := xu_cell _ _ _ (by decide)
    rw [ih f (v + 1) _ (by omega) (by omega) (by intro i h1 h2; rw [h5]; exact hi i (by omega) h2), xrow_xu, h5]
    congr 2
    congr 1
    funext i
    rw [xu_row]
    show (if _ then _ else (if i = v then _ else _)) = _
    by_cases h1 : i = v
    · rw [if_neg (by omega), if_pos h1, if_pos (by omega), h1]
    · rw [if_neg h1]
      by_cases h2 : v ≤ i ∧ i < n
      · rw [if_pos (by omega), if_pos h2]
      · rw [if_neg (by omega), if_neg h2]
theorem takeH_no {R : xR} {pn ps ln ls : Nat} (hR : RG R pn ps ln ls) {n t : Nat} (ht : t < 4) (hn : n ≤ 8) : ∀ (k f v : Nat) (M : xM), k < f → v + k = n → (∃ i, v ≤ i ∧ i < n ∧ ¬ (1 ≤ M 5 (60 * t + i) ∧ M 5 (60 * t + i) ≤ 100)) → ∃ g, P_takeHindrances_F3 R 93 4 (t : Int) (n : Int) f (v : Int) M = some (0, xrow M 100 g) := by
  have r7 : R 93 7 = 100 := by rw [hR.at 93 7 (by decide) (by decide)]; exact xR0_air.1
  intro k
  induction k with
  | zero =>
    intro f v M hf hv hi
    obtain ⟨i, h1, h2, -⟩ := hi
    omega
  | succ k ih =>
    intro f v M hf hv hi
    obtain ⟨f, rfl⟩ : ∃ g, f = g + 1 := ⟨f - 1, by omega⟩
    rw [P_takeHindrances_F3, if_pos (by omega), getY_eq hR ht (by omega), xb1_some]
    by_cases h1 : M 5 (60 * t + v) < 1
    · exact ⟨M 100, by rw [if_pos h1, xrow_self]⟩
    · rw [if_neg h1]
      by_cases h2 : 100 < M 5 (60 * t + v)
      · exact ⟨M 100, by rw [if_pos h2, xrow_self]⟩
      · rw [if_neg h2, xch_pos (by omega), xl_eq, xl_eq, r7, Int.toNat_natCast, w32_of (x := M 5 (60 * t + v)) (by omega) (by omega), w32_of (by omega) (by omega), show (v : Int) + 1 = ((v + 1 : Nat) : Int) by omega]
        have h5 : xu M 100 v (M 5 (60 * t + v)) 5 = M 5 := xu_cell _ _ _ (by decide)
        obtain ⟨i, i1, i2, i3⟩ := hi
        obtain ⟨g, hg⟩ := ih f (v + 1) (xu M 100 v (M 5 (60 * t + v))) (by omega) (by omega) ⟨i, by
          have : i ≠ v := by
            intro q
            subst q
            omega
          omega, i2, by rw [h5]; exact i3⟩
        exact ⟨g, by rw [hg, xrow_xu]⟩
theorem isFrom_eq (x a b : Int) : f_M_isFrom x a b = some (if a ≤ x ∧ x ≤ b then 1 else 0) := by
  unfold f_M_isFrom
  by_cases h : x < a
  · rw [if_pos h, if_neg (by omega)]
  · by_cases h2 : b < x
    · rw [if_neg h, if_pos h2, if_neg (by omega)]
    · rw [if_neg h, if_neg h2, if_pos (by omega)]
theorem air_F81_ok {R : xR} {pn ps ln ls : Nat} (hR : RG R pn ps ln ls) {n t : Nat} (ht : t < 4) (hn : n ≤ 8) (l3 l4 : Int) (q : xM → Option (Int × xM)) (M : xM) : ∀ (k f v : Nat), k < f → v + k = n → (∀ i, v ≤ i → i < n → 1 ≤ M 107 (60 * t + i) ∧ M 107 (60 * t + i) ≤ 100) → M_air_F81 R 104 (t : Int) (n : Int) l3 l4 q f (v : Int) M = q M := by
  have r7 : R 104 3 = 107 := by rw [hR.at 104 3 (by decide) (by decide)]; exact xR0_104.2.2.1
  intro k
  induction k with
  | zero =>
    intro f v hf hv hi
    obtain ⟨f, rfl⟩ : ∃ g, f = g + 1 := ⟨f - 1, by omega⟩
    rw [M_air_F81, if_neg (by omega)]
  | succ k ih =>
    intro f v hf hv hi
    obtain ⟨f, rfl⟩ : ∃ g, f = g + 1 := ⟨f - 1, by omega⟩
    have h := hi v (by omega) (by omega)
    rw [M_air_F81, if_pos (by omega), w32_of (x := 60 * (t : Int)) (by omega) (by omega), w32_of (x := 60 * (t : Int) + v) (by omega) (by omega), xch_pos (by omega), r7, show (60 * (t : Int) + v).toNat = 60 * t + v by omega, isFrom_eq, if_pos h, xb1_some, if_neg (by decide), xl_eq, w32_of (by omega) (by omega), show (v : Int) + 1 = ((v + 1 : Nat) : Int) by omega]
    exact ih f (v + 1) (by omega) (by omega) (fun i h1 h2 => hi i (by omega) h2)
theorem air_F81_no {R : xR} {pn ps ln ls : Nat} (hR : RG R pn ps ln ls) {n t : Nat} (ht : t < 4) (hn : n ≤ 8) (l3 l4 : Int) (q : xM → Option (Int × xM)) (M : xM) : ∀ (k f v : Nat), k < f → v + k = n → (∃ i, v ≤ i ∧ i < n ∧ ¬ (1 ≤ M 107 (60 * t + i) ∧ M 107 (60 * t + i) ≤ 100)) → M_air_F81 R 104 (t : Int) (n : Int) l3 l4 q f (v : Int) M = some (-1, xu M 104 0 1) := by
  have r7 : R 104 3 = 107 := by rw [hR.at 104 3 (by decide) (by decide)]; exact xR0_104.2.2.1
  intro k
  induction k with
  | zero =>
    intro f v hf hv hi
    obtain ⟨i, h1, h2, -⟩ := hi
    omega
  | succ k ih =>
    intro f v hf hv hi
    obtain ⟨f, rfl⟩ : ∃ g, f = g + 1 := ⟨f - 1, by omega⟩
    rw [M_air_F81, if_pos (by omega), w32_of (x := 60 * (t : Int)) (by omega) (by omega), w32_of (x := 60 * (t : Int) + v) (by omega) (by omega), xch_pos (by omega), r7, show (60 * (t : Int) + v).toNat = 60 * t + v by omega, isFrom_eq]
    by_cases h : 1 ≤ M 107 (60 * t + v) ∧ M 107 (60 * t + v) ≤ 100
    · rw [if_pos h, xb1_some, if_neg (by decide), xl_eq, w32_of (by omega) (by omega), show (v : Int) + 1 = ((v + 1 : Nat) : Int) by omega]
      obtain ⟨i, i1, i2, i3⟩ := hi
      exact ih f (v + 1) (by omega) (by omega) ⟨i, by
          have : i ≠ v := by
            intro q
            subst q
            exact i3 h
          omega, i2, i3⟩
    · rw [if_neg h, xb1_some, if_pos rfl, refuseM_eq, xb2_some]
theorem air_F124 {R : xR} {pn ps ln ls : Nat} (hR : RG R pn ps ln ls) {n : Nat} (hn : n ≤ 8) (l1 l3 l4 : Int) (q : xM → Option (Int × xM)) : ∀ (k f v : Nat) (M : xM), k < f → v + k = n → M_air_F124 R 104 l1 (n : Int) l3 l4 q f (v : Int) M = q (xfil M 171 v n 0) := by
  have r8 : R 104 101 = 171 := by rw [hR.at 104 101 (by decide) (by decide)]; exact xR0_air.2.2.1
  intro k
  induction k with
  | zero =>
    intro f v M hf hv
    obtain ⟨f, rfl⟩ : ∃ g, f = g + 1 := ⟨f - 1, by omega⟩
    rw [M_air_F124, if_neg (by omega), xfil_nil _ _ _ _ _ (by omega)]
  | succ k ih =>
    intro f v M hf hv
    obtain ⟨f, rfl⟩ : ∃ g, f = g + 1 := ⟨f - 1, by omega⟩
    rw [M_air_F124, if_pos (by omega), xch_pos (by omega), xl_eq, xl_eq, r8, Int.toNat_natCast, w32_of (by omega) (by omega), show (v : Int) + 1 = ((v + 1 : Nat) : Int) by omega, ih f (v + 1) _ (by omega) (by omega), xfil_step _ _ _ _ _ (by omega)]
