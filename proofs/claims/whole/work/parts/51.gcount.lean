theorem count_F4 {R : xR} {pn ps ln ls : Nat} (hR : RG R pn ps ln ls) {M : xM} (hB : LinB M) (h1 : M 93 11 = 1) : ∀ (k f m : Nat) (v : Int), k < f → m + k = 100 → 0 ≤ v → v ≤ 1000 * m → P_countLines_F4 R M 93 f v (m : Int) = some (cntS (M 102) (M 103) k m v) := by
  have r9 : R 93 9 = 102 := by rw [hR.at 93 9 (by decide) (by decide)]; exact xR0_gg.1
  have r10 : R 93 10 = 103 := by rw [hR.at 93 10 (by decide) (by decide)]; exact xR0_gg.2.1
  intro k
  induction k with
  | zero =>
    intro f m v hf hm _ _
    obtain ⟨f, rfl⟩ : ∃ g, f = g + 1 := ⟨f - 1, by omega⟩
    rw [P_countLines_F4, if_neg (by omega)]
    rfl
  | succ k ih =>
    intro f m v hf hm v0 v1
    obtain ⟨f, rfl⟩ : ∃ g, f = g + 1 := ⟨f - 1, by omega⟩
    have b := hB m (by omega)
    rw [P_countLines_F4, if_pos (by omega), fitsP_eq hR (by omega) h1, xb1_some, cntS]
    unfold P_countLines_J36
    rw [xl_eq, w32_of (x := (m : Int) + 1) (by omega) (by omega), show (m : Int) + 1 = ((m + 1 : Nat) : Int) by omega]
    by_cases a1 : M 102 m ≤ M 103 m
    · rw [if_pos a1, if_neg (by decide), if_pos a1, xch_pos (by omega), xl_eq, xl_eq, r9, r10, Int.toNat_natCast, w32_of (x := M 103 m - M 102 m) (by omega) (by omega), w32_of (x := M 103 m - M 102 m + 1) (by omega) (by omega), w32_of (x := v + (M 103 m - M 102 m + 1)) (by omega) (by omega)]
      exact ih f (m + 1) _ (by omega) (by omega) (by omega) (by omega)
    · rw [if_neg a1, if_pos rfl, if_neg a1]
      exact ih f (m + 1) _ (by omega) (by omega) (by omega) (by omega)
theorem within_F3 {R : xR} {pn ps ln ls : Nat} (hR : RG R pn ps ln ls) {M : xM} {t n : Nat} {L : Int} (ht : t < 4) (hn : n ≤ 60) : ∀ (k f v : Nat), k < f → v + k = n → ((∀ i, v ≤ i → i < n → 0 ≤ M 5 (60 * t + i) ∧ M 5 (60 * t + i) ≤ L) → Y_areWithin_F3 R M 4 (t : Int) (n : Int) L f (v : Int) = some 1) ∧ ((∃ i, v ≤ i ∧ i < n ∧ ¬ (0 ≤ M 5 (60 * t + i) ∧ M 5 (60 * t + i) ≤ L)) → Y_areWithin_F3 R M 4 (t : Int) (n : Int) L f (v : Int) = some 0) := by
  intro k
  induction k with
  | zero =>
    intro f v hf hv
    obtain ⟨f, rfl⟩ : ∃ g, f = g + 1 := ⟨f - 1, by omega⟩
    refine ⟨fun _ => ?_, fun q => ?_⟩
    · rw [Y_areWithin_F3, if_neg (by omega)]
    · obtain ⟨i, h1, h2, -⟩ := q
      omega
  | succ k ih =>
    intro f v hf hv
    obtain ⟨f, rfl⟩ : ∃ g, f = g + 1 := ⟨f - 1, by omega⟩
    have hi := ih f (v + 1) (by omega) (by omega)
    rw [Y_areWithin_F3, if_pos (by omega), getY_eq hR ht (by omega), xb1_some, xl_eq, w32_of (by omega) (by omega), show (v : Int) + 1 = ((v + 1 : Nat) : Int) by omega]
    by_cases h : 0 ≤ M 5 (60 * t + v) ∧ M 5 (60 * t + v) ≤ L
    · rw [if_neg (by omega), if_neg (by omega)]
      refine ⟨fun q => hi.1 fun i i1 i2 => q i (by omega) i2, fun q => hi.2 ?_⟩
      obtain ⟨i, i1, i2, i3⟩ := q
      exact ⟨i, by
        have : i ≠ v := by
          intro q
          subst q
          exact i3 h
        omega, i2, i3⟩
    · refine ⟨fun q => absurd (q v (by omega) (by omega)) h, fun _ => ?_⟩
      by_cases h2 : M 5 (60 * t + v) < 0
      · rw [if_pos h2]
      · rw [if_neg h2, if_pos (by omega)]
theorem gauge_F99 {R : xR} {pn ps ln ls : Nat} (hR : RG R pn ps ln ls) {n t : Nat} (ht : t < 4) (hn : n ≤ 10) (l2 l4 : Int) (q : xM → Option (Int × xM)) (M : xM) : ∀ (k f v : Nat), k < f → v + k = n → ((∀ i, v ≤ i → i < n → 0 ≤ M 107 (60 * t + i) ∧ M 107 (60 * t + i) ≤ 999) → M_gauge_F99 R 104 (t : Int) l2 (n : Int) l4 q f (v : Int) M = q M) ∧ ((∃ i, v ≤ i ∧ i < n ∧ ¬ (0 ≤ M 107 (60 * t + i) ∧ M 107 (60 * t + i) ≤ 999)) → M_gauge_F99 R 104 (t : Int) l2 (n : Int) l4 q f (v : Int) M = some (-1, xu M 104 0 1)) := by
  have r7 : R 104 3 = 107 := by rw [hR.at 104 3 (by decide) (by decide)]; exact xR0_104.2.2.1
  intro k
  induction k with
  | zero =>
    intro f v hf hv
    obtain ⟨f, rfl⟩ : ∃ g, f = g + 1 := ⟨f - 1, by omega⟩
    refine ⟨fun _ => ?_, fun q => ?_⟩
    · rw [M_gauge_F99, if_neg (by omega)]
    · obtain ⟨i, h1, h2, -⟩ := q
      omega
  | succ k ih =>
    intro f v hf hv
    obtain ⟨f, rfl⟩ : ∃ g, f = g + 1 := ⟨f - 1, by omega⟩
    have hi := ih f (v + 1) (by omega) (by omega)
    rw [M_gauge_F99, if_pos (by omega), w32_of (x := 60 * (t : Int)) (by omega) (by omega), w32_of (x := 60 * (t : Int) + v) (by omega) (by omega), xch_pos (by omega), r7, show (60 * (t : Int) + v).toNat = 60 * t + v by omega, isFrom_eq, xb1_some, xl_eq, w32_of (by omega) (by omega), show (v : Int) + 1 = ((v + 1 : Nat) : Int) by omega]
    by_cases h : 0 ≤ M 107 (60 * t + v) ∧ M 107 (60 * t + v) ≤ 999
    · rw [if_pos h, if_neg (by decide)]
      refine ⟨fun q => hi.1 fun i i1 i2 => q i (by omega) i2, fun q => hi.2 ?_⟩
      obtain ⟨i, i1, i2, i3⟩ := q
      exact ⟨i, by
        have : i ≠ v := by
          intro q
          subst q
          exact i3 h
        omega, i2, i3⟩
    · rw [if_neg h, if_pos rfl, refuseM_eq, xb2_some]
      exact ⟨fun q => absurd (q v (by omega) (by omega)) h, fun _ => rfl⟩
theorem gauge_F142 {R : xR} {pn ps ln ls : Nat} (hR : RG R pn ps ln ls) {n t : Nat} (ht : t < 4) (hn : n ≤ 10) (l1 l4 : Int) (q : xM → Option (Int × xM)) (M : xM) : ∀ (k f v : Nat), k < f → v + k = n → ((∀ i, v ≤ i → i < n → 0 ≤ M 107 (60 * t + i) ∧ M 107 (60 * t + i) ≤ 99999) → M_gauge_F142 R 104 l1 (t : Int) (n : Int) l4 q f (v : Int) M = q M) ∧ ((∃ i, v ≤ i ∧ i < n ∧ ¬ (0 ≤ M 107 (60 * t + i) ∧ M 107 (60 * t + i) ≤ 99999)) → M_gauge_F142 R 104 l1 (t : Int) (n : Int) l4 q f (v : Int) M = some (-1, xu M 104 0 1)) := by
  have r7 : R 104 3 = 107 := by rw [hR.at 104 3 (by decide) (by decide)]; exact xR0_104.2.2.1
  intro k
  induction k with
  | zero =>
    intro f v hf hv
    obtain ⟨f, rfl⟩ : ∃ g, f = g + 1 := ⟨f - 1, by omega⟩
    refine ⟨fun _ => ?_, fun q => ?_⟩
    · rw [M_gauge_F142, if_neg (by omega)]
    · obtain ⟨i, h1, h2, -⟩ := q
      omega
  | succ k ih =>
    intro f v hf hv
    obtain ⟨f, rfl⟩ : ∃ g, f = g + 1 := ⟨f - 1, by omega⟩
    have hi := ih f (v + 1) (by omega) (by omega)
    rw [M_gauge_F142, if_pos (by omega), w32_of (x := 60 * (t : Int)) (by omega) (by omega), w32_of (x := 60 * (t : Int) + v) (by omega) (by omega), xch_pos (by omega), r7, show (60 * (t : Int) + v).toNat = 60 * t + v by omega, isFrom_eq, xb1_some, xl_eq, w32_of (by omega) (by omega), show (v : Int) + 1 = ((v + 1 : Nat) : Int) by omega]
    by_cases h : 0 ≤ M 107 (60 * t + v) ∧ M 107 (60 * t + v) ≤ 99999
    · rw [if_pos h, if_neg (by decide)]
      refine ⟨fun q => hi.1 fun i i1 i2 => q i (by omega) i2, fun q => hi.2 ?_⟩
      obtain ⟨i, i1, i2, i3⟩ := q
      exact ⟨i, by
        have : i ≠ v := by
          intro q
          subst q
          exact i3 h
        omega, i2, i3⟩
    · rw [if_neg h, if_pos rfl, refuseM_eq, xb2_some]
      exact ⟨fun q => absurd (q v (by omega) (by omega)) h, fun _ => rfl⟩
def cv (c lo hi : Int) : Int := if mxc c lo ≤ hi then hi - mxc c lo + 1 else 0
theorem gcnt_F266 {R : xR} {pn ps ln ls : Nat} (hR : RG R pn ps ln ls) {m : Nat} (hm : m < 100) (q : Int → xM → Option (Int × xM)) : ∀ (k f c : Nat) (M : xM), k < f → c + k = 1000 → GP M → Lin M → 0 ≤ M 104 106 → M 104 106 ≤ 1000 * m + c → M_gauge_F266 R 104 q f (m : Int) (c : Int) M = q (m : Int) (xu M 104 106 (M 104 106 + cv c (M 102 m) (M 103 m))) := by
  intro k
  induction k with
  | zero =>
    intro f c M hf hc hG hL v0 v1
    obtain ⟨f, rfl⟩ : ∃ g, f = g + 1 := ⟨f - 1, by omega⟩
    have b := (hL m hm).2.1
    rw [M_gauge_F266, if_neg (by omega)]
    have e : M 104 106 + cv c (M 102 m) (M 103 m) = M 104 106 := by
      unfold cv mxc
      repeat' split
      all_goals omega
    rw [e]
    congr 1
    funext x y
    unfold xu
    by_cases h : x = 104 ∧ y = 106
    · simp [h]
    · simp [h]
  | succ k ih =>
    intro f c M hf hc hG hL v0 v1
    obtain ⟨f, rfl⟩ : ∃ g, f = g + 1 := ⟨f - 1, by omega⟩
    have b1 := (hL m hm).1
    have b2 := (hL m hm).2.1
    rw [M_gauge_F266, if_pos (by omega), fits_eq hR hG hL hm (by omega), xb1_some]
    have hstep : ∀ d : Int, 0 ≤ d → d ≤ 1 → M_gauge_J295 R 104 (M_gauge_F266 R 104 q f) q (m : Int) (c : Int) d (M 104 106) 104 M = q (m : Int) (xu M 104 106 (M 104 106 + d + cv ((c + 1 : Nat) : Int) (M 102 m) (M 103 m))) := by
      intro d d0 d1
      unfold M_gauge_J295
      rw [xl_eq, xl_eq, w32_of (x := M 104 106 + d) (by omega) (by omega), w32_of (x := (c : Int) + 1) (by omega) (by omega), show (c : Int) + 1 = ((c + 1 : Nat) : Int) by omega]
      have o4 : ∀ j, j ≠ 106 → xu M 104 106 (M 104 106 + d) 104 j = M 104 j := fun j hj => by rw [xu_at, if_neg hj]
      have oc : ∀ x, x ≠ 104 → xu M 104 106 (M 104 106 + d) x = M x := fun x hx => xu_cell _ _ _ hx
      have o6 : xu M 104 106 (M 104 106 + d) 104 106 = M 104 106 + d := by rw [xu_at, if_pos rfl]
      rw [ih f (c + 1) _ (by omega) (by omega) (GP.of (o4 _ (by decide)) (o4 _ (by decide)) (oc _ (by decide)) (oc _ (by decide)) hG) (Lin.of (o4 _ (by decide)) (o4 _ (by decide)) (oc _ (by decide)) (oc _ (by decide)) (oc _ (by decide)) (oc _ (by decide)) hL) (by rw [o6]; omega) (by rw [o6]; omega), o6, oc _ (by decide), oc _ (by decide), xu_xu]
    by_cases h : M 102 m ≤ (c : Int) ∧ (c : Int) ≤ M 103 m
    · rw [if_pos h, if_neg (by decide), hstep 1 (by decide) (by decide)]
      congr 2
      unfold cv mxc
      repeat' split
      all_goals omega
    · rw [if_neg h, if_pos rfl, hstep 0 (by decide) (by decide)]
      congr 2
      unfold cv mxc
      repeat' split
      all_goals omega
