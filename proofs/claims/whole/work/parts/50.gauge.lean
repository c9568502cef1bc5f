/-! ===== gauge ===== -/
def loS (x y : Nat → Int) (s : Int) : Nat → Nat → (Nat → Int) → (Nat → Int)
  | 0, _, g => g
  | k + 1, v, g => loS x y s k (v + 1) (fun i => if i < 100 then xmax (g i) (y v - i * x v - s) else g i)
def hiS (x y : Nat → Int) (s : Int) : Nat → Nat → (Nat → Int) → (Nat → Int)
  | 0, _, g => g
  | k + 1, v, g => hiS x y s k (v + 1) (fun i => if i < 100 then xmin (g i) (y v - i * x v + s) else g i)
theorem xmax_le (a b c : Int) : xmax a b ≤ c ↔ a ≤ c ∧ b ≤ c := by
  unfold xmax
  split <;> omega
theorem le_xmin (a b c : Int) : c ≤ xmin a b ↔ c ≤ a ∧ c ≤ b := by
  unfold xmin
  split <;> omega
theorem loS_le {x y : Nat → Int} {s c : Int} {i : Nat} (hi : i < 100) : ∀ k v g, (loS x y s k v g i ≤ c ↔ g i ≤ c ∧ ∀ u, v ≤ u → u < v + k → y u - i * x u - s ≤ c) := by
  intro k
  induction k with
  | zero => intro v g; exact ⟨fun h => ⟨h, fun u h1 h2 => by omega⟩, fun h => h.1⟩
  | succ k ih =>
    intro v g
    rw [loS, ih]
    show (if i < 100 then _ else _) ≤ c ∧ _ ↔ _
    rw [if_pos hi, xmax_le]
    refine ⟨fun h => ⟨h.1.1, fun u h1 h2 => ?_⟩, fun h => ⟨⟨h.1, h.2 v (by omega) (by omega)⟩, fun u h1 h2 => h.2 u (by omega) (by omega)⟩⟩
    by_cases e : u = v
    · rw [e]; exact h.1.2
    · exact h.2 u (by omega) (by omega)
theorem le_hiS {x y : Nat → Int} {s c : Int} {i : Nat} (hi : i < 100) : ∀ k v g, (c ≤ hiS x y s k v g i ↔ c ≤ g i ∧ ∀ u, v ≤ u → u < v + k → c ≤ y u - i * x u + s) := by
  intro k
  induction k with
  | zero => intro v g; exact ⟨fun h => ⟨h, fun u h1 h2 => by omega⟩, fun h => h.1⟩
  | succ k ih =>
    intro v g
    rw [hiS, ih]
    show c ≤ (if i < 100 then _ else _) ∧ _ ↔ _
    rw [if_pos hi, le_xmin]
    refine ⟨fun h => ⟨h.1.1, fun u h1 h2 => ?_⟩, fun h => ⟨⟨h.1, h.2 v (by omega) (by omega)⟩, fun u h1 h2 => h.2 u (by omega) (by omega)⟩⟩
    by_cases e : u = v
    · rw [e]; exact h.1.2
    · exact h.2 u (by omega) (by omega)
/-- both rows laid -/
def x2row (M : xM) (g h : Nat → Int) : xM := xrow (xrow M 102 g) 103 h
theorem x2row_cell (M : xM) {c : Nat} (g h : Nat → Int) (h1 : c ≠ 102) (h2 : c ≠ 103) : x2row M g h c = M c := by
  unfold x2row
  rw [xrow_cell _ _ h2, xrow_cell _ _ h1]
theorem x2row_lo (M : xM) (g h : Nat → Int) : x2row M g h 102 = g := by
  unfold x2row
  rw [xrow_cell _ _ (by decide), xrow_at]
theorem x2row_hi (M : xM) (g h : Nat → Int) : x2row M g h 103 = h := by
  unfold x2row
  rw [xrow_at]
theorem x2row_self (M : xM) : x2row M (M 102) (M 103) = M := by
  unfold x2row
  rw [xrow_self, xrow_self]
theorem x2row_x2row (M : xM) (g h g' h' : Nat → Int) : x2row (x2row M g h) g' h' = x2row M g' h' := by
  funext a b
  by_cases e1 : a = 102
  · rw [e1, x2row_lo, x2row_lo]
  · by_cases e2 : a = 103
    · rw [e2, x2row_hi, x2row_hi]
    · rw [x2row_cell _ _ _ e1 e2, x2row_cell _ _ _ e1 e2, x2row_cell _ _ _ e1 e2]
theorem x2row_of {M N : xM} (h : ∀ c, c ≠ 102 → c ≠ 103 → N c = M c) : N = x2row M (N 102) (N 103) := by
  funext a b
  by_cases e1 : a = 102
  · rw [e1, x2row_lo]
  · by_cases e2 : a = 103
    · rw [e2, x2row_hi]
    · rw [x2row_cell _ _ _ e1 e2, h a e1 e2]
theorem narrow_F3 {R : xR} {pn ps ln ls : Nat} (hR : RG R pn ps ln ls) {x y s : Int} (hx : 0 ≤ x ∧ x ≤ 999) (hy : 0 ≤ y ∧ y ≤ 99999) (hs : 0 ≤ s ∧ s ≤ 1000) : ∀ (k f m : Nat) (M : xM), k < f → m + k = 100 → P_narrowLines_F3 R 93 x y s f (m : Int) M = some (x2row M (fun i => if m ≤ i ∧ i < 100 then xmax (M 102 i) (y - i * x - s) else M 102 i) (fun i => if m ≤ i ∧ i < 100 then xmin (M 103 i) (y - i * x + s) else M 103 i)) := by
  have r9 : R 93 9 = 102 := by rw [hR.at 93 9 (by decide) (by decide)]; exact xR0_gg.1
  have r10 : R 93 10 = 103 := by rw [hR.at 93 10 (by decide) (by decide)]; exact xR0_gg.2.1
  intro k
  induction k with
  | zero =>
    intro f m M hf hm
    obtain ⟨f, rfl⟩ : ∃ g, f = g + 1 := ⟨f - 1, by omega⟩
    rw [P_narrowLines_F3, if_neg (by omega)]
    have e1 : (fun i => if m ≤ i ∧ i < 100 then xmax (M 102 i) (y - i * x - s) else M 102 i) = M 102 := by
      funext i
      rw [if_neg (by omega)]
    have e2 : (fun i => if m ≤ i ∧ i < 100 then xmin (M 103 i) (y - i * x + s) else M 103 i) = M 103 := by
      funext i
      rw [if_neg (by omega)]
    rw [e1, e2, x2row_self]
  | succ k ih =>
    intro f m M hf hm
    obtain ⟨f, rfl⟩ : ∃ g, f = g + 1 := ⟨f - 1, by omega⟩
    have hp := mx_le (m := (m : Int)) (x := x) (by omega) (by omega) hx.1 hx.2
    rw [P_narrowLines_F3, if_pos (by omega), xl_eq, xch_pos (by omega), xl_eq, xl_eq, xl_eq, r9, r10, Int.toNat_natCast, w32_of (x := (m : Int) * x) (by omega) (by omega), w32_of (x := y - (m : Int) * x) (by omega) (by omega), w32_of (x := y - (m : Int) * x - s) (by omega) (by omega), w32_of (x := y - (m : Int) * x + s) (by omega) (by omega), w32_of (x := (m : Int) + 1) (by omega) (by omega), show (m : Int) + 1 = ((m + 1 : Nat) : Int) by omega, ih f (m + 1) _ (by omega) (by omega)]
    obtain ⟨N, hN⟩ : ∃ N, N = xu (xu M 102 m (xmax (M 102 m) (y - (m : Int) * x - s))) 103 m (xmin (xu M 102 m (xmax (M 102 m) (y - (m : Int) * x - s)) 103 m) (y - (m : Int) * x + s)) := ⟨_, rfl⟩
    rw [← hN]
    have n2 : N 102 = fun b => if b = m then xmax (M 102 m) (y - (m : Int) * x - s) else M 102 b := by
      rw [hN, xu_cell _ _ _ (by decide), xu_row]
    have n3 : N 103 = fun b => if b = m then xmin (M 103 m) (y - (m : Int) * x + s) else M 103 b := by
      rw [hN, xu_row, xu_cell _ _ _ (by decide)]
    have no : ∀ c, c ≠ 102 → c ≠ 103 → N c = M c := by
      intro c c1 c2
      rw [hN, xu_cell _ _ _ c2, xu_cell _ _ _ c1]
    rw [x2row_of no, x2row_x2row, x2row_lo, x2row_hi, n2, n3]
    congr 1
    congr 1
    · funext i
      by_cases e : i = m
      · subst e
        rw [if_neg (by omega), if_pos (by omega)]
        exact if_pos rfl
      · have g : (if i = m then xmax (M 102 m) (y - (m : Int) * x - s) else M 102 i) = M 102 i := if_neg e
        simp only [g]
        by_cases q : m ≤ i ∧ i < 100
        · rw [if_pos (by omega), if_pos q]
        · rw [if_neg (by omega), if_neg q]
    · funext i
      by_cases e : i = m
      · subst e
        rw [if_neg (by omega), if_pos (by omega)]
        exact if_pos rfl
      · have g : (if i = m then xmin (M 103 m) (y - (m : Int) * x + s) else M 103 i) = M 103 i := if_neg e
        simp only [g]
        by_cases q : m ≤ i ∧ i < 100
        · rw [if_pos (by omega), if_pos q]
        · rw [if_neg (by omega), if_neg q]
theorem gauge_F107 {R : xR} {pn ps ln ls : Nat} (hR : RG R pn ps ln ls) {s : Int} (hs : 0 ≤ s ∧ s ≤ 1000) {t u n : Nat} (ht : t < 4) (hu : u < 4) (hn : n ≤ 10) (q : xM → Option (Int × xM)) : ∀ (k f v : Nat) (M : xM), k < f → v + k = n → (∀ i, i < n → (0 ≤ M 5 (60 * t + i) ∧ M 5 (60 * t + i) ≤ 999) ∧ 0 ≤ M 5 (60 * u + i) ∧ M 5 (60 * u + i) ≤ 99999) → X_gauge_F107 R 1 (t : Int) (u : Int) (n : Int) s q f (v : Int) M = q (x2row M (loS (fun i => M 5 (60 * t + i)) (fun i => M 5 (60 * u + i)) s k v (M 102)) (hiS (fun i => M 5 (60 * t + i)) (fun i => M 5 (60 * u + i)) s k v (M 103))) := by
  have r11 : R 1 11 = 93 := hR.2.1.2.2.2.2.2.2.2.2.2.2
  have r2 : R 1 2 = 4 := hR.2.1.2.1
  have xf : xfu = 1000000 := rfl
  intro k
  induction k with
  | zero =>
    intro f v M hf hv hB
    obtain ⟨f, rfl⟩ : ∃ g, f = g + 1 := ⟨f - 1, by omega⟩
    rw [X_gauge_F107, if_neg (by omega)]
    show _ = q (x2row M (M 102) (M 103))
    rw [x2row_self]
  | succ k ih =>
    intro f v M hf hv hB
    obtain ⟨f, rfl⟩ : ∃ g, f = g + 1 := ⟨f - 1, by omega⟩
    have b := hB v (by omega)
    rw [X_gauge_F107, if_pos (by omega), r2, r11, getY_eq hR ht (by omega), getY_eq hR hu (by omega), xb1_some, xb1_some, w32_of (x := M 5 (60 * t + v)) (by omega) (by omega), w32_of (x := M 5 (60 * u + v)) (by omega) (by omega)]
    have e : f_P_narrowLines R 93 (M 5 (60 * t + v)) (M 5 (60 * u + v)) s M = some _ := narrow_F3 hR b.1 b.2 hs 100 xfu 0 M (by omega) (by omega)
    rw [e, xb1_some, xl_eq, w32_of (by omega) (by omega), show (v : Int) + 1 = ((v + 1 : Nat) : Int) by omega, ih f (v + 1) _ (by omega) (by omega) (by rw [x2row_cell _ _ _ (by decide) (by decide)]; exact hB), x2row_x2row, x2row_lo, x2row_hi, x2row_cell _ _ _ (by decide) (by decide), loS, hiS]
    simp only [Nat.zero_le, true_and]
