/-! ===== knocks: the hours are in range and no two alike ===== -/
theorem two_F12 {R : xR} {pn ps ln ls : Nat} (hR : RG R pn ps ln ls) {M : xM} {t n : Nat} (ht : t < 4) (hn : n ≤ 60) {i : Nat} (hi : i < n) (Q : Int → Option Int) : ∀ (k f v : Nat), k < f → v + k = n → ((∀ j, v ≤ j → j < n → M 5 (60 * t + i) ≠ M 5 (60 * t + j)) → Y_hasTwoAlike_F12 R M 4 (t : Int) (n : Int) Q f (i : Int) (v : Int) = Q (i : Int)) ∧ ((∃ j, v ≤ j ∧ j < n ∧ M 5 (60 * t + i) = M 5 (60 * t + j)) → Y_hasTwoAlike_F12 R M 4 (t : Int) (n : Int) Q f (i : Int) (v : Int) = some 1) := by
  intro k
  induction k with
  | zero =>
    intro f v hf hv
    obtain ⟨f, rfl⟩ : ∃ g, f = g + 1 := ⟨f - 1, by omega⟩
    refine ⟨fun _ => ?_, fun q => ?_⟩
    · rw [Y_hasTwoAlike_F12, if_neg (by omega)]
    · obtain ⟨j, h1, h2, -⟩ := q
      omega
  | succ k ih =>
    intro f v hf hv
    obtain ⟨f, rfl⟩ : ∃ g, f = g + 1 := ⟨f - 1, by omega⟩
    have h := ih f (v + 1) (by omega) (by omega)
    rw [Y_hasTwoAlike_F12, if_pos (by omega), getY_eq hR ht (by omega), xb1_some, getY_eq hR ht (by omega), xb1_some, xl_eq, w32_of (x := (v : Int) + 1) (by omega) (by omega), show (v : Int) + 1 = ((v + 1 : Nat) : Int) by omega]
    by_cases z : M 5 (60 * t + i) = M 5 (60 * t + v)
    · rw [if_pos z]
      exact ⟨fun q => absurd z (q v (by omega) (by omega)), fun _ => rfl⟩
    · rw [if_neg z]
      refine ⟨fun q => h.1 fun j h1 h2 => q j (by omega) h2, fun ⟨j, h1, h2, h3⟩ => h.2 ⟨j, ?_, h2, h3⟩⟩
      have : j ≠ v := fun y => z (y ▸ h3)
      omega
theorem two_F2 {R : xR} {pn ps ln ls : Nat} (hR : RG R pn ps ln ls) {M : xM} {t n : Nat} (ht : t < 4) (hn : n ≤ 60) : ∀ (k f v : Nat), k < f → v + k = n → ((∀ i j, v ≤ i → i < j → j < n → M 5 (60 * t + i) ≠ M 5 (60 * t + j)) → Y_hasTwoAlike_F2 R M 4 (t : Int) (n : Int) f (v : Int) = some 0) ∧ ((∃ i j, v ≤ i ∧ i < j ∧ j < n ∧ M 5 (60 * t + i) = M 5 (60 * t + j)) → Y_hasTwoAlike_F2 R M 4 (t : Int) (n : Int) f (v : Int) = some 1) := by
  have xf : xfu = 1000000 := rfl
  intro k
  induction k with
  | zero =>
    intro f v hf hv
    obtain ⟨f, rfl⟩ : ∃ g, f = g + 1 := ⟨f - 1, by omega⟩
    refine ⟨fun _ => ?_, fun q => ?_⟩
    · rw [Y_hasTwoAlike_F2, if_neg (by omega)]
    · obtain ⟨i, j, h1, h2, h3, -⟩ := q
      omega
  | succ k ih =>
    intro f v hf hv
    obtain ⟨f, rfl⟩ : ∃ g, f = g + 1 := ⟨f - 1, by omega⟩
    have h := ih f (v + 1) (by omega) (by omega)
    have g := two_F12 hR (M := M) ht hn (i := v) (by omega) (fun (v3_10 : Int) =>
          xl (w32 (v3_10 + 1)) fun v3_11 =>
          Y_hasTwoAlike_F2 R M 4 (t : Int) (n : Int) f v3_11) k xfu (v + 1) (by omega) (by omega)
    rw [Y_hasTwoAlike_F2, if_pos (by omega), xl_eq, w32_of (x := (v : Int) + 1) (by omega) (by omega), show (v : Int) + 1 = ((v + 1 : Nat) : Int) by omega]
    have e : xl (w32 ((v : Int) + 1)) (fun v3_11 => Y_hasTwoAlike_F2 R M 4 (t : Int) (n : Int) f v3_11) = Y_hasTwoAlike_F2 R M 4 (t : Int) (n : Int) f ((v + 1 : Nat) : Int) := by
      rw [xl_eq, w32_of (x := (v : Int) + 1) (by omega) (by omega)]
      rfl
    by_cases z : ∃ j, v + 1 ≤ j ∧ j < n ∧ M 5 (60 * t + v) = M 5 (60 * t + j)
    · refine ⟨fun q => ?_, fun _ => g.2 z⟩
      obtain ⟨j, h1, h2, h3⟩ := z
      exact absurd h3 (q v j (by omega) (by omega) h2)
    · have g1 := (g.1 fun j h1 h2 h3 => z ⟨j, h1, h2, h3⟩).trans e
      refine ⟨fun q => g1.trans (h.1 fun i j h1 h2 h3 => q i j (by omega) h2 h3), fun ⟨i, j, h1, h2, h3, h4⟩ => g1.trans (h.2 ⟨i, j, ?_, h2, h3, h4⟩)⟩
      have : i ≠ v := fun y => z ⟨j, by omega, h3, y ▸ h4⟩
      omega
theorem kn_F131 {R : xR} {pn ps ln ls : Nat} (hR : RG R pn ps ln ls) {M : xM} {t : Nat} (ht : t < 4) {i : Nat} (hi : i < 6) (l1 l3 l4 l5 y : Int) (Q : Int → xM → Option (Int × xM)) : ∀ (k f v : Nat), k < f → v + k = i → ((∀ j, v ≤ j → j < i → M 107 (60 * t + j) ≠ y) → M_knocks_F131 R 104 l1 (t : Int) l3 l4 l5 Q f (i : Int) y (v : Int) M = Q (i : Int) M) ∧ ((∃ j, v ≤ j ∧ j < i ∧ M 107 (60 * t + j) = y) → M_knocks_F131 R 104 l1 (t : Int) l3 l4 l5 Q f (i : Int) y (v : Int) M = some (-1, xu M 104 0 1)) := by
  have r3 : R 104 3 = 107 := by rw [hR.at 104 3 (by decide) (by decide)]; exact xR0_104.2.2.1
  intro k
  induction k with
  | zero =>
    intro f v hf hv
    obtain ⟨f, rfl⟩ : ∃ g, f = g + 1 := ⟨f - 1, by omega⟩
    refine ⟨fun _ => ?_, fun q => ?_⟩
    · rw [M_knocks_F131, if_neg (by omega)]
    · obtain ⟨j, h1, h2, -⟩ := q
      omega
  | succ k ih =>
    intro f v hf hv
    obtain ⟨f, rfl⟩ : ∃ g, f = g + 1 := ⟨f - 1, by omega⟩
    have h := ih f (v + 1) (by omega) (by omega)
    rw [M_knocks_F131, if_pos (by omega), w32_of (x := 60 * (t : Int)) (by omega) (by omega), w32_of (x := 60 * (t : Int) + (v : Int)) (by omega) (by omega), xch_pos (by omega), r3, show (60 * (t : Int) + (v : Int)).toNat = 60 * t + v by omega, refuseM_eq, xb2_some, xl_eq, w32_of (x := (v : Int) + 1) (by omega) (by omega), show (v : Int) + 1 = ((v + 1 : Nat) : Int) by omega]
    by_cases z : M 107 (60 * t + v) = y
    · rw [if_pos z]
      exact ⟨fun q => absurd z (q v (by omega) (by omega)), fun _ => rfl⟩
    · rw [if_neg z]
      refine ⟨fun q => h.1 fun j h1 h2 => q j (by omega) h2, fun ⟨j, h1, h2, h3⟩ => h.2 ⟨j, ?_, h2, h3⟩⟩
      have : j ≠ v := fun x => z (x ▸ h3)
      omega
theorem kn_F86 {R : xR} {pn ps ln ls : Nat} (hR : RG R pn ps ln ls) {M : xM} {t n : Nat} (ht : t < 4) (hn : n ≤ 6) (l1 l4 l5 : Int) (Q : xM → Option (Int × xM)) : ∀ (k f v : Nat), k < f → v + k = n → ((∀ i, v ≤ i → i < n → (0 ≤ M 107 (60 * t + i) ∧ M 107 (60 * t + i) ≤ 47) ∧ ∀ j, j < i → M 107 (60 * t + j) ≠ M 107 (60 * t + i)) → M_knocks_F86 R 104 l1 (t : Int) (n : Int) l4 l5 Q f (v : Int) M = Q M) ∧ ((∃ i, v ≤ i ∧ i < n ∧ ¬ ((0 ≤ M 107 (60 * t + i) ∧ M 107 (60 * t + i) ≤ 47) ∧ ∀ j, j < i → M 107 (60 * t + j) ≠ M 107 (60 * t + i))) → M_knocks_F86 R 104 l1 (t : Int) (n : Int) l4 l5 Q f (v : Int) M = some (-1, xu M 104 0 1)) := by
  have r3 : R 104 3 = 107 := by rw [hR.at 104 3 (by decide) (by decide)]; exact xR0_104.2.2.1
  have xf : xfu = 1000000 := rfl
  intro k
  induction k with
  | zero =>
    intro f v hf hv
    obtain ⟨f, rfl⟩ : ∃ g, f = g + 1 := ⟨f - 1, by omega⟩
    refine ⟨fun _ => ?_, fun q => ?_⟩
    · rw [M_knocks_F86, if_neg (by omega)]
    · obtain ⟨j, h1, h2, -⟩ := q
      omega
  | succ k ih =>
    intro f v hf hv
    obtain ⟨f, rfl⟩ : ∃ g, f = g + 1 := ⟨f - 1, by omega⟩
    have h := ih f (v + 1) (by omega) (by omega)
    have g := kn_F131 hR (M := M) ht (i := v) (by omega) l1 (n : Int) l4 l5 (M 107 (60 * t + v)) (fun (v6_59 : Int) (M_60 : xM) =>
              xl (w32 (v6_59 + 1)) fun v6_61 =>
              M_knocks_F86 R 104 l1 (t : Int) (n : Int) l4 l5 Q f v6_61 M_60) v xfu 0 (by omega) (by omega)
    have e : xl (w32 ((v : Int) + 1)) (fun v6_61 => M_knocks_F86 R 104 l1 (t : Int) (n : Int) l4 l5 Q f v6_61 M) = M_knocks_F86 R 104 l1 (t : Int) (n : Int) l4 l5 Q f ((v + 1 : Nat) : Int) M := by
      rw [xl_eq, w32_of (x := (v : Int) + 1) (by omega) (by omega)]
      rfl
    rw [M_knocks_F86, if_pos (by omega), w32_of (x := 60 * (t : Int)) (by omega) (by omega), w32_of (x := 60 * (t : Int) + (v : Int)) (by omega) (by omega), xch_pos (by omega), r3, show (60 * (t : Int) + (v : Int)).toNat = 60 * t + v by omega, refuseM_eq, xb2_some, xl_eq]
    by_cases z : (0 ≤ M 107 (60 * t + v) ∧ M 107 (60 * t + v) ≤ 47) ∧ ∀ j, j < v → M 107 (60 * t + j) ≠ M 107 (60 * t + v)
    · have g1 := (g.1 fun j _ h2 => z.2 j h2).trans e
      rw [if_neg (by omega), if_pos (by omega)]
      refine ⟨fun q => g1.trans (h.1 fun i h1 h2 => q i (by omega) h2), fun ⟨i, h1, h2, h3⟩ => g1.trans (h.2 ⟨i, ?_, h2, h3⟩)⟩
      have : i ≠ v := fun x => h3 (x ▸ z)
      omega
    · refine ⟨fun q => absurd (q v (by omega) (by omega)) z, fun _ => ?_⟩
      by_cases y1 : M 107 (60 * t + v) < 0
      · rw [if_pos y1]
      · rw [if_neg y1]
        by_cases y2 : M 107 (60 * t + v) < 48
        · rw [if_pos y2]
          refine g.2 (Classical.byContradiction fun y => z ⟨by omega, fun j hj hq => y ⟨j, by omega, hj, hq⟩⟩)
        · rw [if_neg y2]
theorem takeHours_F3 {R : xR} {pn ps ln ls : Nat} (hR : RG R pn ps ln ls) {t m : Nat} (ht : t < 4) (hm : m ≤ 6) {hr : Nat → Int} (hb : ∀ i, i < m → 0 ≤ hr i ∧ hr i ≤ 47) (Q : xM → Option xM) : ∀ (k f v : Nat) (M : xM), k < f → v + k = m → (∀ i, i < v → M 92 i = hr i) → (∀ i, i < m → M 5 (60 * t + i) = hr i) →
    ∃ M', H_takeHours_F3 R 78 4 (t : Int) (m : Int) Q f (v : Int) M = Q M' ∧ (∀ x, x ≠ 92 → M' x = M x) ∧ ∀ i, i < m → M' 92 i = hr i := by
  have r9 : R 78 9 = 92 := by rw [hR.at 78 9 (by decide) (by decide)]; exact xR0_fl.2.2.2.2.2
  intro k
  induction k with
  | zero =>
    intro f v M hf hv h1 h2
    obtain ⟨f, rfl⟩ : ∃ g, f = g + 1 := ⟨f - 1, by omega⟩
    refine ⟨M, ?_, fun _ _ => rfl, fun i hi => h1 i (by omega)⟩
    rw [H_takeHours_F3, if_neg (by omega)]
  | succ k ih =>
    intro f v M hf hv h1 h2
    obtain ⟨f, rfl⟩ : ∃ g, f = g + 1 := ⟨f - 1, by omega⟩
    have b := hb v (by omega)
    obtain ⟨N, hN⟩ : ∃ N, N = xu M 92 v (hr v) := ⟨_, rfl⟩
    have nO : ∀ x, x ≠ 92 → N x = M x := fun x hx => by rw [hN, xu_cell _ _ _ hx]
    obtain ⟨M', m1, m2, m3⟩ := ih f (v + 1) N (by omega) (by omega) (fun i hi => by
      rw [hN, xu_at]
      by_cases z : i = v
      · rw [if_pos z, z]
      · rw [if_neg z]; exact h1 i (by omega)) (by rw [nO 5 (by decide)]; exact h2)
    refine ⟨M', ?_, fun x hx => (m2 x hx).trans (nO x hx), m3⟩
    rw [H_takeHours_F3, if_pos (by omega), getY_eq hR ht (by omega), xb1_some, xch_pos (by omega), xl_eq, xl_eq, r9, Int.toNat_natCast, h2 v (by omega), w32_of (x := hr v) (by omega) (by omega), w32_of (x := (v : Int) + 1) (by omega) (by omega), ← hN]
    exact m1
theorem kfd_ne (U : Nat → Int) (n : Int) : ∀ (k v : Nat) (s : Int × Int × Int), s.1 ≠ -1 → (kfd U n k v s).1 ≠ -1 := by
  intro k
  induction k with
  | zero => intro v s h; exact h
  | succ k ih =>
    intro v s h
    refine ih (v + 1) _ ?_
    unfold kst
    split
    · show (v : Int) ≠ -1
      omega
    · exact h
theorem kfd_ne0 (U : Nat → Int) {n : Int} (hn : 0 ≤ n) {k : Nat} (hk : 1 ≤ k) : (kfd U n k 0 (-1, 0, 0)).1 ≠ -1 := by
  obtain ⟨k, rfl⟩ : ∃ g, k = g + 1 := ⟨k - 1, by omega⟩
  refine kfd_ne U n k 1 _ ?_
  unfold kst
  rw [if_pos ⟨by show (0 : Int) ≤ n; exact hn, Or.inl rfl⟩]
  show (0 : Int) ≠ -1
  decide
