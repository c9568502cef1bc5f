theorem gcnt_F256 {R : xR} {pn ps ln ls : Nat} (hR : RG R pn ps ln ls) : ∀ (k f m : Nat) (M : xM), k < f → m + k = 100 → GP M → Lin M → 0 ≤ M 104 106 → M 104 106 ≤ 1000 * m → M_gauge_F256 R 104 f (m : Int) M = some (cntS (M 102) (M 103) k m (M 104 106), xu (xu M 104 106 (cntS (M 102) (M 103) k m (M 104 106))) 104 0 0) := by
  intro k
  induction k with
  | zero =>
    intro f m M hf hm hG hL v0 v1
    obtain ⟨f, rfl⟩ : ∃ g, f = g + 1 := ⟨f - 1, by omega⟩
    rw [M_gauge_F256, if_neg (by omega), gives_eq, xb2_some]
    have e : xu M 104 106 (cntS (M 102) (M 103) 0 m (M 104 106)) = M := by
      funext x y
      unfold xu cntS
      by_cases h : x = 104 ∧ y = 106
      · simp [h]
      · simp [h]
    rw [e]
    rfl
  | succ k ih =>
    intro f m M hf hm hG hL v0 v1
    obtain ⟨f, rfl⟩ : ∃ g, f = g + 1 := ⟨f - 1, by omega⟩
    have b1 := (hL m (by omega)).1
    have b2 := (hL m (by omega)).2.1
    rw [M_gauge_F256, if_pos (by omega)]
    refine (gcnt_F266 hR (by omega) _ 1000 xfu 0 M (by have : xfu = 1000000 := rfl; omega) (by omega) hG hL v0 (by omega)).trans ?_
    have e : M 104 106 + cv ((0 : Nat) : Int) (M 102 m) (M 103 m) = if M 102 m ≤ M 103 m then M 104 106 + (M 103 m - M 102 m + 1) else M 104 106 := by
      unfold cv mxc
      repeat' split
      all_goals omega
    rw [e, xl_eq, w32_of (by omega) (by omega), show (m : Int) + 1 = ((m + 1 : Nat) : Int) by omega, cntS]
    obtain ⟨d, hd⟩ : ∃ d, d = if M 102 m ≤ M 103 m then M 104 106 + (M 103 m - M 102 m + 1) else M 104 106 := ⟨_, rfl⟩
    have d0 : 0 ≤ d ∧ d ≤ 1000 * (m + 1) := by
      rw [hd]
      split <;> omega
    rw [← hd]
    have o4 : ∀ j, j ≠ 106 → xu M 104 106 d 104 j = M 104 j := fun j hj => by rw [xu_at, if_neg hj]
    have oc : ∀ x, x ≠ 104 → xu M 104 106 d x = M x := fun x hx => xu_cell _ _ _ hx
    have o6 : xu M 104 106 d 104 106 = d := by rw [xu_at, if_pos rfl]
    rw [ih f (m + 1) _ (by omega) (by omega) (GP.of (o4 _ (by decide)) (o4 _ (by decide)) (oc _ (by decide)) (oc _ (by decide)) hG) (Lin.of (o4 _ (by decide)) (o4 _ (by decide)) (oc _ (by decide)) (oc _ (by decide)) (oc _ (by decide)) (oc _ (by decide)) hL) (by rw [o6]; omega) (by rw [o6]; omega), o6, oc _ (by decide), oc _ (by decide), xu_xu]
theorem gauge_F196 {R : xR} {pn ps ln ls : Nat} (hR : RG R pn ps ln ls) {n t u : Nat} (ht : t < 4) (hu : u < 4) (hn : n ≤ 10) (q : xM → Option (Int × xM)) : ∀ (k f v : Nat) (M : xM), k < f → v + k = n → (∀ i, i < n → (0 ≤ M 107 (60 * t + i) ∧ M 107 (60 * t + i) ≤ 999) ∧ 0 ≤ M 107 (60 * u + i) ∧ M 107 (60 * u + i) ≤ 99999) → ∃ N : xM, M_gauge_F196 R 104 (t : Int) (u : Int) (n : Int) q f (v : Int) M = q N ∧ (∀ x, x ≠ 172 → x ≠ 173 → N x = M x) ∧ (∀ i, N 172 i = if v ≤ i ∧ i < n then M 107 (60 * t + i) else M 172 i) ∧ ∀ i, N 173 i = if v ≤ i ∧ i < n then M 107 (60 * u + i) else M 173 i := by
  have r3 : R 104 3 = 107 := by rw [hR.at 104 3 (by decide) (by decide)]; exact xR0_104.2.2.1
  have r1 : R 104 102 = 172 := by rw [hR.at 104 102 (by decide) (by decide)]; exact xR0_gg.2.2.1
  have r2 : R 104 103 = 173 := by rw [hR.at 104 103 (by decide) (by decide)]; exact xR0_gg.2.2.2.1
  intro k
  induction k with
  | zero =>
    intro f v M hf hv hB
    obtain ⟨f, rfl⟩ : ∃ g, f = g + 1 := ⟨f - 1, by omega⟩
    exact ⟨M, by rw [M_gauge_F196, if_neg (by omega)], fun _ _ _ => rfl, fun i => by rw [if_neg (by omega)], fun i => by rw [if_neg (by omega)]⟩
  | succ k ih =>
    intro f v M hf hv hB
    obtain ⟨f, rfl⟩ : ∃ g, f = g + 1 := ⟨f - 1, by omega⟩
    have b := hB v (by omega)
    have e : M_gauge_F196 R 104 (t : Int) (u : Int) (n : Int) q (f + 1) (v : Int) M = M_gauge_F196 R 104 (t : Int) (u : Int) (n : Int) q f ((v + 1 : Nat) : Int) (xu (xu M 172 v (M 107 (60 * t + v))) 173 v (M 107 (60 * u + v))) := by
      rw [M_gauge_F196, if_pos (by omega), w32_of (x := 60 * (t : Int)) (by omega) (by omega), w32_of (x := 60 * (t : Int) + v) (by omega) (by omega), w32_of (x := 60 * (u : Int)) (by omega) (by omega), w32_of (x := 60 * (u : Int) + v) (by omega) (by omega), xch_pos (by omega), xch_pos (by omega), xl_eq, xch_pos (by omega), xl_eq, xl_eq, r1, r2, r3, xu_cell _ _ _ (show (107 : Nat) ≠ 172 by decide), Int.toNat_natCast, show (60 * (t : Int) + v).toNat = 60 * t + v by omega, show (60 * (u : Int) + v).toNat = 60 * u + v by omega, w32_of (x := M 107 (60 * t + v)) (by omega) (by omega), w32_of (x := M 107 (60 * u + v)) (by omega) (by omega), w32_of (x := (v : Int) + 1) (by omega) (by omega)]
      rfl
    obtain ⟨K, hK⟩ : ∃ K, K = xu (xu M 172 v (M 107 (60 * t + v))) 173 v (M 107 (60 * u + v)) := ⟨_, rfl⟩
    have ko : ∀ x, x ≠ 172 → x ≠ 173 → K x = M x := fun x h1 h2 => by rw [hK, xu_cell _ _ _ h2, xu_cell _ _ _ h1]
    have k2 : ∀ i, K 172 i = if i = v then M 107 (60 * t + v) else M 172 i := fun i => by rw [hK, xu_cell _ _ _ (by decide), xu_at]
    have k3 : ∀ i, K 173 i = if i = v then M 107 (60 * u + v) else M 173 i := fun i => by rw [hK, xu_at, xu_cell _ _ _ (by decide)]
    have k7 : K 107 = M 107 := ko 107 (by decide) (by decide)
    rw [← hK] at e
    obtain ⟨N, n1, n2, n3, n4⟩ := ih f (v + 1) K (by omega) (by omega) (by rw [k7]; exact hB)
    refine ⟨N, by rw [e, n1], fun x h1 h2 => by rw [n2 x h1 h2, ko x h1 h2], fun i => ?_, fun i => ?_⟩
    · rw [n3, k7, k2]
      by_cases h : i = v
      · subst h
        rw [if_neg (by omega), if_pos rfl, if_pos (by omega)]
      · rw [if_neg h]
        by_cases h2 : v ≤ i ∧ i < n
        · rw [if_pos (by omega), if_pos h2]
        · rw [if_neg (by omega), if_neg h2]
    · rw [n4, k7, k3]
      by_cases h : i = v
      · subst h
        rw [if_neg (by omega), if_pos rfl, if_pos (by omega)]
      · rw [if_neg h]
        by_cases h2 : v ≤ i ∧ i < n
        · rw [if_pos (by omega), if_pos h2]
        · rw [if_neg (by omega), if_neg h2]
theorem bothSt_eq {R : xR} {pn ps ln ls : Nat} (hR : RG R pn ps ln ls) {M : xM} {t u n m : Nat} (ht : t < 4) (hu : u < 4) (hn : n ≤ 1000) (hm : m ≤ 1000) : f_X_bothStatus R 1 (t : Int) (n : Int) (u : Int) (m : Int) M = some (if M 6 t = -1 then 2 else if M 6 u = -1 then 2 else if M 7 t < n then 3 else if M 7 u < m then 3 else 0) := by
  unfold f_X_bothStatus
  rw [hR.2.1.2.1, isMissing_eq hR (by omega), isMissing_eq hR (by omega), hasRun_eq hR (by omega) (by omega) (by omega), hasRun_eq hR (by omega) (by omega) (by omega), Int.toNat_natCast, Int.toNat_natCast]
  simp only [xb1_some, Int.zero_add, x01_0]
  by_cases h : M 6 t = -1
  · rw [if_neg (fun q => q h), if_pos h]
  · rw [if_pos h, if_neg h]
    by_cases h2 : M 6 u = -1
    · rw [if_neg (fun q => q h2), if_pos h2]
    · rw [if_pos h2, if_neg h2]
      by_cases h3 : M 7 t < n
      · rw [if_pos (by omega), if_pos h3]
      · rw [if_neg (by omega), if_neg h3]
        by_cases h4 : M 7 u < m
        · rw [if_pos (by omega), if_pos h4]
        · rw [if_neg (by omega), if_neg h4]
theorem clear_eq {R : xR} {pn ps ln ls : Nat} (hR : RG R pn ps ln ls) (M : xM) : f_P_clearLines R 93 M = some (xfil (xfil (xu M 93 11 1) 102 0 100 0) 103 0 100 999) := by
  have r9 : R 93 9 = 102 := by rw [hR.at 93 9 (by decide) (by decide)]; exact xR0_gg.1
  have r10 : R 93 10 = 103 := by rw [hR.at 93 10 (by decide) (by decide)]; exact xR0_gg.2.1
  unfold f_P_clearLines
  rw [xl_eq, r9, r10, fill_aIIV, xb1_some, fill_aIIV, xb1_some, xR0_gg.2.2.2.2]
