/-! ===== laws: items and sums ===== -/
def OutL (b : Nat → Int) (n q s d : Nat) (pend : Nat) (D : Int) (e c : Nat) (X Y : xM) (fx : Option (Int × xM)) (Fy : Nat → Option (Int × xM)) (Ey : Nat → xM → Option (Int × xM)) (ok : Nat → Prop) : Prop :=
  ∃ X' Y', FXq q X X' ∧ FZ Y Y' ∧ ((∃ e' c' k : Nat, fx = some (1, X') ∧ k ≤ e' - e ∧ (∀ f, Fy (f + k) = Ey f Y') ∧ e ≤ e' ∧ SR true b n e' X' Y' ∧ LSt q s c' X' Y' ∧ DP q s c' X' = D + 1 ∧ c' + pend ≤ e' ∧ c ≤ c' ∧ (∀ i, i < c → X' (q + 6) i = X (q + 6) i) ∧ FYq d Y Y' ∧ ok e') ∨ (∃ k : Nat, fx = some (0, X') ∧ k ≤ 2 * (n - e) + 3 ∧ (∀ f, Fy (f + k) = some (0, Y')) ∧ FT X' Y' ∧ (0 ≤ X' q 7 ∧ X' q 7 ≤ 600)))
theorem FT.x {X Y X' : xM} (h : FT X Y) (h2 : X' 2 = X 2) : FT X' Y := by
  unfold FT
  rw [h2]
  exact h
theorem item_loop {R S : xR} (hL : LR R S true) {q : Nat} (hq : LwR R q) (hq4 : 4 ≤ q) (hS : MS S) {b : Nat → Int} {n : Nat} (hB : TxB b n) {s d : Nat} (hd : d ≤ 6) {rs : Nat → Nat → Int → xM → Option (Int × xM)} (hA : AtomS R S rs b n q s d) (pend : Nat) (D : Int) (hD0 : 0 ≤ D) (hD2 : D ≤ 2 * d + 1) : ∀ (k f i e c : Nat) (X Y : xM), n - e ≤ k → k + 1 < f → i ≤ e → SR true b n e X Y → LSt q s c X Y → DP q s c X = D + 1 → c + pend ≤ e →
    OutL b n q s d pend D e c X (xu Y 143 d 0) (L_readItem_F10 R rs q 2 (d : Int) f 1 (i : Int) X) (fun g => M_sum_J164 S 104 (M_sum_F18 S 104 g) (d : Int) 0 Y) (fun g Y' => itmE S g d Y') (fun e' => ¬ (lxK true b n e' = 3 ∧ lxV b n e' = 42)) := by
  have n10 : ¬ (1 : Int) = 0 := by decide
  have hn := hB.1
  have s57 : S 104 57 = 142 := hS 57 (by decide) (by decide)
  have s58 : S 104 58 = 143 := hS 58 (by decide) (by decide)
  intro k
  induction k with
  | zero =>
    intro f i e c X Y hk hf hi h hs hD hc
    obtain ⟨f, rfl⟩ : ∃ g, f = g + 1 := ⟨f - 1, by omega⟩
    have he := h.2.2
    have hz : ¬ (lxK true b n e = 3 ∧ lxV b n e = 42) := by
      have li := lx_in (b := b) he
      rcases lx_kind true b he with ⟨z, _⟩ | ⟨z, _⟩
      · omega
      · omega
    have h8 : SR true b n e X (xu Y 143 d 0) := h.ofY (fun j _ _ _ _ => by rw [xu_cell _ _ _ (by decide)]) (xu_cell _ _ _ (by decide))
    have sg := isSign_eq h8 42
    refine ⟨X, xu Y 143 d 0, FXq.rf q X, (FYq.rf d _).z, Or.inl ⟨e, c, 0, ?_, by omega, fun g => ?_, Nat.le_refl e, h8, hs.y (by rw [xu_cell _ _ _ (by decide)]) (xu_cell _ _ _ (by decide)) (xu_cell _ _ _ (by decide)), hD, hc, Nat.le_refl c, fun _ _ => rfl, FYq.rf d _, hz⟩⟩
    · rw [L_readItem_F10, if_neg n10, sg.1, xb1_some, if_neg hz, if_pos rfl, xch_01.2]
    · show M_sum_J164 S 104 (M_sum_F18 S 104 (g + 0)) (d : Int) 0 Y = _
      unfold M_sum_J164 itmE
      rw [xch_pos (by omega), xl_eq, s57, s58, Int.toNat_natCast, sg.2, xb1_some, if_neg hz, if_pos rfl]
      rfl
  | succ k ih =>
    intro f i e c X Y hk hf hi h hs hD hc
    obtain ⟨f, rfl⟩ : ∃ g, f = g + 1 := ⟨f - 1, by omega⟩
    have he := h.2.2
    obtain ⟨Y8, hY8⟩ : ∃ Y8, Y8 = xu Y 143 d 0 := ⟨_, rfl⟩
    rw [← hY8]
    have y8O : ∀ x, x ≠ 143 → Y8 x = Y x := fun x hx => by rw [hY8, xu_cell _ _ _ hx]
    have h8 : SR true b n e X Y8 := h.ofY (fun j _ _ _ _ => by rw [y8O 104 (by decide)]) (y8O 109 (by decide))
    have hs8 : LSt q s c X Y8 := hs.y (by rw [y8O 104 (by decide)]) (y8O 140 (by decide)) (y8O 141 (by decide))
    have sg := isSign_eq h8 42
    have sgX := (isSign_eq h 42).1
    by_cases hz : lxK true b n e = 3 ∧ lxV b n e = 42
    · have le := lx_more (lw := true) he (show lxK true b n e ≠ 0 by omega)
      have lpn : lxP b n e < n := by
        rcases lx_kind true b he with ⟨z, _⟩ | ⟨z, _⟩
        · omega
        · exact z
      have li := lx_in (b := b) he
      obtain ⟨Y9, hY9⟩ : ∃ Y9, Y9 = xu Y8 143 d 42 := ⟨_, rfl⟩
      have y9O : ∀ x, x ≠ 143 → Y9 x = Y8 x := fun x hx => by rw [hY9, xu_cell _ _ _ hx]
      have h9 : SR true b n e X Y9 := h8.ofY (fun j _ _ _ _ => by rw [y9O 104 (by decide)]) (y9O 109 (by decide))
      have hs9 : LSt q s c X Y9 := hs8.y (by rw [y9O 104 (by decide)]) (y9O 140 (by decide)) (y9O 141 (by decide))
      obtain ⟨X1, Y1, b1, b2, b3, b4, b5⟩ := adv_sim hL hB h9
      have st : ∀ g, M_sum_J164 S 104 (M_sum_F18 S 104 g) (d : Int) 0 Y = M_sum_F18 S 104 g (d : Int) 1 Y1 := by
        intro g
        unfold M_sum_J164
        rw [xch_pos (by omega), xl_eq, s58, Int.toNat_natCast, ← hY8, sg.2, xb1_some, if_pos hz, if_neg n10, xl_eq, ← hY9, b2, xb1_some]
      obtain ⟨X2, Y2, g1, g2, g3⟩ := hA (lxE b n e) c (pend + 1) (D + 1) X1 Y1 b3 (hs9.t hq4 b4.t b5.t) (by rw [← hD]; unfold DP; rw [b4.1 _ (by omega)]) (by omega) (by omega) (by omega)
      have fz1 : FZ Y8 Y1 := ⟨fun x h1 h2 => by rw [b5.1 x h1, y9O x (by omega)], fun j hj => by rw [b5.t.2 j (by omega), y9O 104 (by decide)]⟩
      have f9 : ∀ V, FYq d Y1 V → (∀ i, i ≤ d → V 142 i = Y8 142 i) ∧ (∀ i, i < d → V 143 i = Y8 143 i) ∧ V 143 d = 42 := fun V hV => by
        refine ⟨fun i hi => by rw [(hV.2.2 i hi).1, b5.1 142 (by decide), y9O 142 (by decide)], fun i hi => by rw [(hV.2.2 i (by omega)).2, b5.1 143 (by decide), hY9, xu_at, if_neg (by omega)], by rw [(hV.2.2 d (Nat.le_refl d)).2, b5.1 143 (by decide), hY9, xu_at, if_pos rfl]⟩
      have cX : L_readItem_F10 R rs q 2 (d : Int) (f + 1) 1 (i : Int) X = xb2 (f_L_readAtom R rs q 2 (d : Int) X1) fun r_13 M_14 => xb1 (f_L_addStep R q 10012 M_14) fun M_16 => L_readItem_F10 R rs q 2 (d : Int) f r_13 ((i + 1 : Nat) : Int) M_16 := by
        rw [L_readItem_F10, if_neg n10, sgX, xb1_some, if_pos hz, if_neg n10, if_pos (show (i : Int) < 600 by omega), b1, xb1_some, w32_of (x := (i : Int) + 1) (by omega) (by omega)]
        rfl
      rw [cX]
      rcases g3 with ⟨e2, c2, k1, g3, g4, g5, g6, g7, g8, g9, g10, g11, g12, g13, -⟩ | ⟨k1, g3, g4, g5, g6, g7⟩
      · obtain ⟨X3, Y3, a1, a2, a3, a4, a5, a6, a7, a8, a9⟩ := add_sim hq hq4 hS (show c2 < 600 by have := g7.2.2; omega) g8 (x := 10012) (y := 42) (z := 0) (Or.inr (Or.inr (Or.inr (Or.inr ⟨rfl, rfl⟩)))) (fun w => absurd w (by decide)) (fun _ => by rw [g9]; omega)
        have h3 : SR true b n e2 X3 Y3 := (g7.ofX (fun j _ => by rw [a6 2 (by omega) (by omega)]) (a6 3 (by omega) (by omega))).ofY (fun j _ _ _ _ => a9 j (by omega)) (a8 109 (by decide) (by decide) (by decide))
        rw [g3, xb2_some, a1, xb1_some]
        obtain ⟨X4, Y4, i1, i2, i3⟩ := ih f (i + 1) e2 (c2 + 1) X3 Y3 (by omega) (by omega) (by omega) h3 a3 (by rw [a4, g9, if_neg (by decide)]; omega) (by omega)
        have ff := f9 Y2 g13
        have fX : FXq q X X4 := ((b4.t.q hq4).tr (g1.tr (FXq.tr (B := X3) ⟨fun y _ h2 h3 => a6 y h2 h3, fun j _ => by rw [a6 2 (by omega) (by omega)], a7⟩ i1)))
        have fz3 : FZ Y8 (xu Y3 143 d 0) := fz1.tr (g2.tr ⟨fun x h1 h2 => by rw [xu_cell _ _ _ (by omega), a8 x h1 (by omega) (by omega)], fun j hj => by rw [xu_cell _ _ _ (by decide), a9 j (by omega)]⟩)
        have fY3 : FYq d Y8 (xu Y3 143 d 0) := ⟨fz3.1, fz3.2, fun j hj => by
          refine ⟨by rw [xu_cell _ _ _ (by decide), a8 142 (by decide) (by decide) (by decide), ff.1 j hj], ?_⟩
          rw [xu_at]
          by_cases y : j = d
          · rw [if_pos y, y, hY8, xu_at, if_pos rfl]
          · rw [if_neg y, a8 143 (by decide) (by decide) (by decide), ff.2.1 j (by omega)]⟩
        have y15 : Y2 104 15 = 0 := g7.2.1.2.2.2.1
        have step : ∀ g, M_sum_J164 S 104 (M_sum_F18 S 104 (g + 1 + k1)) (d : Int) 0 Y = M_sum_J164 S 104 (M_sum_F18 S 104 g) (d : Int) 0 Y3 := by
          intro g
          rw [st]
          refine (g5 (g + 1)).trans ?_
          show M_sum_F18 S 104 (g + 1) (d : Int) 0 Y2 = _
          rw [M_sum_F18, y15, if_pos rfl, if_pos rfl, xch_pos (by omega), s58, Int.toNat_natCast, ff.2.2, if_neg (by decide), a2, xb1_some]
        refine ⟨X4, Y4, fX, fz3.tr i2, ?_⟩
        rcases i3 with ⟨e', c', k', j1, j2, j3, j4, j5, j6, j7, j8, j9, j10, j12, j11⟩ | ⟨k', j1, j2, j3, j4, j5⟩
        · refine Or.inl ⟨e', c', k' + 1 + k1, j1, by omega, fun g => ?_, by omega, j5, j6, j7, j8, by omega, fun x hx => ?_, fY3.tr j12, j11⟩
          · show M_sum_J164 S 104 (M_sum_F18 S 104 (g + (k' + 1 + k1))) (d : Int) 0 Y = _
            rw [show g + (k' + 1 + k1) = (g + k') + 1 + k1 by omega, step]
            exact j3 g
          · rw [j10 x (by omega), a5 x (by omega), g12 x hx, b4.1 _ (by omega)]
        · refine Or.inr ⟨k' + 1 + k1, j1, by have := h3.2.2; omega, fun g => ?_, j4, j5⟩
          show M_sum_J164 S 104 (M_sum_F18 S 104 (g + (k' + 1 + k1))) (d : Int) 0 Y = _
          rw [show g + (k' + 1 + k1) = (g + k') + 1 + k1 by omega, step]
          exact j3 g
      · obtain ⟨X3, a1, a2, a3, a4⟩ := addX hq 10012 g7
        rw [g3, xb2_some, a1, xb1_some]
        obtain ⟨f, rfl⟩ : ∃ g, f = g + 1 := ⟨f - 1, by omega⟩
        refine ⟨X3, Y2, (b4.t.q hq4).tr (g1.tr ⟨fun y _ h2 h3 => a2 y h2 h3, fun j _ => by rw [a2 2 (by omega) (by omega)], a3⟩), fz1.tr g2, Or.inr ⟨k1, ?_, by omega, fun g => ?_, g6.x (a2 2 (by omega) (by omega)), a4⟩⟩
        · rw [L_readItem_F10, if_pos rfl, xch_01.1]
        · show M_sum_J164 S 104 (M_sum_F18 S 104 (g + k1)) (d : Int) 0 Y = _
          rw [st]
          exact g5 g
    · refine ⟨X, Y8, FXq.rf q X, (FYq.rf d _).z, Or.inl ⟨e, c, 0, ?_, by omega, fun g => ?_, Nat.le_refl e, h8, hs8, hD, hc, Nat.le_refl c, fun _ _ => rfl, FYq.rf d _, hz⟩⟩
      · rw [L_readItem_F10, if_neg n10, sgX, xb1_some, if_neg hz, if_pos rfl, xch_01.2]
      · show M_sum_J164 S 104 (M_sum_F18 S 104 (g + 0)) (d : Int) 0 Y = _
        unfold M_sum_J164 itmE
        rw [xch_pos (by omega), xl_eq, s57, s58, Int.toNat_natCast, ← hY8, sg.2, xb1_some, if_neg hz, if_pos rfl]
        rfl
theorem item_sim {R S : xR} (hL : LR R S true) {q : Nat} (hq : LwR R q) (hq4 : 4 ≤ q) (hS : MS S) {b : Nat → Int} {n : Nat} (hB : TxB b n) {s d : Nat} (hd : d ≤ 6) {rs : Nat → Nat → Int → xM → Option (Int × xM)} (hA : AtomS R S rs b n q s d) : ItemS R S rs b n q s d := by
  intro e c pend D X Y h hs hD hD0 hD2 hc h3
  have n10 : ¬ (1 : Int) = 0 := by decide
  have xf : xfu = 1000000 := rfl
  have hn := hB.1
  have he := h.2.2
  have s58 : S 104 58 = 143 := hS 58 (by decide) (by decide)
  obtain ⟨X1, Y1, g1, g2, g3⟩ := hA e c pend D X Y h hs hD hD0 (by omega) hc
  unfold f_L_readItem
  rcases g3 with ⟨e1, c1, k1, g3, g4, g5, g6, g7, g8, g9, g10, g11, g12, g13, -⟩ | ⟨k1, g3, g4, g5, g6, g7⟩
  · rw [g3, xb2_some]
    have y3 : Y1 143 d = 0 := by rw [(g13.2.2 d (Nat.le_refl d)).2]; exact h3
    have e3 : xu Y1 143 d 0 = Y1 := by
      funext x i
      unfold xu
      by_cases z : x = 143 ∧ i = d
      · rw [if_pos z, z.1, z.2, y3]
      · rw [if_neg z]
    obtain ⟨X2, Y2, i1, i2, i3⟩ := item_loop hL hq hq4 hS hB hd hA pend D hD0 hD2 (n - e1) xfu 0 e1 c1 X1 Y1 (Nat.le_refl _) (by omega) (by omega) g7 g8 g9 g10
    rw [e3] at i2 i3
    have y15 : Y1 104 15 = 0 := g7.2.1.2.2.2.1
    have step : ∀ g, M_sum_F18 S 104 (g + 1 + k1) (d : Int) 1 Y = M_sum_J164 S 104 (M_sum_F18 S 104 g) (d : Int) 0 Y1 := by
      intro g
      refine (g5 (g + 1)).trans ?_
      show M_sum_F18 S 104 (g + 1) (d : Int) 0 Y1 = _
      rw [M_sum_F18, y15, if_pos rfl, if_pos rfl, xch_pos (by omega), s58, Int.toNat_natCast, y3, if_pos rfl]
    refine ⟨X2, Y2, g1.tr i1, g2.tr i2, ?_⟩
    rcases i3 with ⟨e', c', k', j1, j2, j3, j4, j5, j6, j7, j8, j9, j10, j12, j11⟩ | ⟨k', j1, j2, j3, j4, j5⟩
    · refine Or.inl ⟨e', c', k' + 1 + k1, j1, by omega, fun g => ?_, by omega, j5, j6, j7, j8, by omega, fun x hx => by rw [j10 x (by omega), g12 x hx], g13.tr j12, j11⟩
      show M_sum_F18 S 104 (g + (k' + 1 + k1)) (d : Int) 1 Y = _
      rw [show g + (k' + 1 + k1) = (g + k') + 1 + k1 by omega, step]
      exact j3 g
    · refine Or.inr ⟨k' + 1 + k1, j1, ?_, fun g => ?_, j4, j5⟩
      · have := g7.2.2
        omega
      · show M_sum_F18 S 104 (g + (k' + 1 + k1)) (d : Int) 1 Y = _
        rw [show g + (k' + 1 + k1) = (g + k') + 1 + k1 by omega, step]
        exact j3 g
  · rw [g3, xb2_some]
    refine ⟨X1, Y1, g1, g2, Or.inr ⟨k1, ?_, by omega, fun g => g5 g, g6, g7⟩⟩
    rw [show xfu = 999999 + 1 from rfl, L_readItem_F10, if_pos rfl, xch_01.1]
theorem sum_loop {R S : xR} (hL : LR R S true) {q : Nat} (hq : LwR R q) (hq4 : 4 ≤ q) (hS : MS S) {b : Nat → Int} {n : Nat} (hB : TxB b n) {s d : Nat} (hd : d ≤ 6) {rs : Nat → Nat → Int → xM → Option (Int × xM)} (hI : ItemS R S rs b n q s d) (pend : Nat) (D : Int) (hD0 : 0 ≤ D) (hD2 : D ≤ 2 * d) : ∀ (k f i e c : Nat) (X Y : xM), n - e ≤ k → k + 1 < f → i ≤ e → SR true b n e X Y → LSt q s c X Y → DP q s c X = D + 1 → c + pend ≤ e → Y 143 d = 0 →
    OutL b n q s d pend D e c X (xu Y 142 d 0) (L_readSum_F10 R rs q 2 (d : Int) f 1 (i : Int) X) (fun g => M_sum_J217 S 104 (M_sum_F18 S 104 g) (d : Int) 0 Y) (fun g Y' => sumE S g (d : Int) Y') (fun _ => True) := by
  have n10 : ¬ (1 : Int) = 0 := by decide
  have hn := hB.1
  have s57 : S 104 57 = 142 := hS 57 (by decide) (by decide)
  have stop : ∀ (f i e c : Nat) (X Y : xM), SR true b n e X Y → LSt q s c X Y → DP q s c X = D + 1 → c + pend ≤ e → ¬ (lxK true b n e = 3 ∧ lxV b n e = 43) → ¬ (lxK true b n e = 3 ∧ lxV b n e = 45) → OutL b n q s d pend D e c X (xu Y 142 d 0) (L_readSum_F10 R rs q 2 (d : Int) (f + 1) 1 (i : Int) X) (fun g => M_sum_J217 S 104 (M_sum_F18 S 104 g) (d : Int) 0 Y) (fun g Y' => sumE S g (d : Int) Y') (fun _ => True) := by
    intro f i e c X Y h hs hD hc z1 z2
    have h8 : SR true b n e X (xu Y 142 d 0) := h.ofY (fun j _ _ _ _ => by rw [xu_cell _ _ _ (by decide)]) (xu_cell _ _ _ (by decide))
    have p1 := isSign_eq h8 43
    have p2 := isSign_eq h8 45
    refine ⟨X, xu Y 142 d 0, FXq.rf q X, (FYq.rf d _).z, Or.inl ⟨e, c, 0, ?_, by omega, fun g => ?_, Nat.le_refl e, h8, hs.y (by rw [xu_cell _ _ _ (by decide)]) (xu_cell _ _ _ (by decide)) (xu_cell _ _ _ (by decide)), hD, hc, Nat.le_refl c, fun _ _ => rfl, FYq.rf d _, trivial⟩⟩
    · rw [L_readSum_F10, if_neg n10, p1.1, xb1_some, if_neg z1, if_pos rfl, p2.1, xb1_some, if_neg z2, if_pos rfl, xch_01.2]
    · show M_sum_J217 S 104 (M_sum_F18 S 104 (g + 0)) (d : Int) 0 Y = _
      unfold M_sum_J217 sumE
      rw [xch_pos (by omega), xl_eq, s57, Int.toNat_natCast, p1.2, xb1_some, if_neg z1, if_pos rfl, p2.2, xb1_some, if_neg z2, if_pos rfl]
      rfl
  intro k
  induction k with
  | zero =>
    intro f i e c X Y hk hf hi h hs hD hc h3
    obtain ⟨f, rfl⟩ : ∃ g, f = g + 1 := ⟨f - 1, by omega⟩
    have he := h.2.2
    have li := lx_in (b := b) he
    have hz : lxK true b n e = 0 := by
      rcases lx_kind true b he with ⟨z, _⟩ | ⟨z, _⟩
      · exact z
      · omega
    exact stop f i e c X Y h hs hD hc (by omega) (by omega)
  | succ k ih =>
    intro f i e c X Y hk hf hi h hs hD hc h3
    obtain ⟨f, rfl⟩ : ∃ g, f = g + 1 := ⟨f - 1, by omega⟩
    by_cases hz : lxK true b n e = 3 ∧ (lxV b n e = 43 ∨ lxV b n e = 45)
    · have he := h.2.2
      obtain ⟨Y8, hY8⟩ : ∃ Y8, Y8 = xu Y 142 d 0 := ⟨_, rfl⟩
      rw [← hY8]
      have y8O : ∀ x, x ≠ 142 → Y8 x = Y x := fun x hx => by rw [hY8, xu_cell _ _ _ hx]
      have h8 : SR true b n e X Y8 := h.ofY (fun j _ _ _ _ => by rw [y8O 104 (by decide)]) (y8O 109 (by decide))
      have hs8 : LSt q s c X Y8 := hs.y (by rw [y8O 104 (by decide)]) (y8O 140 (by decide)) (y8O 141 (by decide))
      have p1 := isSign_eq h8 43
      have p2 := isSign_eq h8 45
      have le := lx_more (lw := true) he (show lxK true b n e ≠ 0 by omega)
      have lpn : lxP b n e < n := by
        rcases lx_kind true b he with ⟨z, _⟩ | ⟨z, _⟩
        · omega
        · exact z
      have li := lx_in (b := b) he
      have v11 : Y8 104 11 = lxV b n e := h8.2.1.2.1.2.2.2 (Or.inr hz.1)
      obtain ⟨Y9, hY9⟩ : ∃ Y9, Y9 = xu Y8 142 d (lxV b n e) := ⟨_, rfl⟩
      have y9O : ∀ x, x ≠ 142 → Y9 x = Y8 x := fun x hx => by rw [hY9, xu_cell _ _ _ hx]
      have h9 : SR true b n e X Y9 := h8.ofY (fun j _ _ _ _ => by rw [y9O 104 (by decide)]) (y9O 109 (by decide))
      have hs9 : LSt q s c X Y9 := hs8.y (by rw [y9O 104 (by decide)]) (y9O 140 (by decide)) (y9O 141 (by decide))
      obtain ⟨X1, Y1, b1, b2, b3, b4, b5⟩ := adv_sim hL hB h9
      have st : ∀ g, M_sum_J217 S 104 (M_sum_F18 S 104 g) (d : Int) 0 Y = M_sum_F18 S 104 g (d : Int) 1 Y1 := by
        intro g
        have j2 : M_sum_J242 S 104 (M_sum_F18 S 104 g) (d : Int) Y8 = M_sum_F18 S 104 g (d : Int) 1 Y1 := by
          unfold M_sum_J242
          rw [xch_pos (by omega), xl_eq, s57, Int.toNat_natCast, v11, ← hY9, b2, xb1_some]
        unfold M_sum_J217
        rw [xch_pos (by omega), xl_eq, s57, Int.toNat_natCast, ← hY8, p1.2, xb1_some, j2]
        by_cases y : lxK true b n e = 3 ∧ lxV b n e = 43
        · rw [if_pos y, if_neg n10]
        · rw [if_neg y, if_pos rfl, p2.2, xb1_some, if_pos (show lxK true b n e = 3 ∧ lxV b n e = 45 by omega), if_neg n10]
      obtain ⟨sc, hsc⟩ : ∃ sc : Int, sc = if lxV b n e = 43 then 10010 else 10011 := ⟨_, rfl⟩
      have cX : L_readSum_F10 R rs q 2 (d : Int) (f + 1) 1 (i : Int) X = xb2 (f_L_readItem R rs q 2 (d : Int) X1) fun r_19 M_20 => xb1 (f_L_addStep R q sc M_20) fun M_22 => L_readSum_F10 R rs q 2 (d : Int) f r_19 ((i + 1 : Nat) : Int) M_22 := by
        have j58 : ∀ w, w = sc → L_readSum_J58 R rs q 2 (d : Int) (L_readSum_F10 R rs q 2 (d : Int) f) (i : Int) w X = xb2 (f_L_readItem R rs q 2 (d : Int) X1) fun r_19 M_20 => xb1 (f_L_addStep R q sc M_20) fun M_22 => L_readSum_F10 R rs q 2 (d : Int) f r_19 ((i + 1 : Nat) : Int) M_22 := by
          intro w hw
          unfold L_readSum_J58
          rw [b1, xb1_some, hw, w32_of (x := (i : Int) + 1) (by omega) (by omega)]
          rfl
        have j32 : L_readSum_J32 R rs q 2 (d : Int) (L_readSum_F10 R rs q 2 (d : Int) f) 1 (i : Int) X = xb2 (f_L_readItem R rs q 2 (d : Int) X1) fun r_19 M_20 => xb1 (f_L_addStep R q sc M_20) fun M_22 => L_readSum_F10 R rs q 2 (d : Int) f r_19 ((i + 1 : Nat) : Int) M_22 := by
          unfold L_readSum_J32
          rw [if_pos (show (i : Int) < 600 by omega), p1.1, xb1_some]
          by_cases y : lxK true b n e = 3 ∧ lxV b n e = 43
          · rw [if_pos y, if_neg n10]
            exact j58 10010 (by rw [hsc, if_pos y.2])
          · rw [if_neg y, if_pos rfl]
            exact j58 10011 (by rw [hsc, if_neg (by omega)])
        rw [L_readSum_F10, if_neg n10, p1.1, xb1_some, j32]
        by_cases y : lxK true b n e = 3 ∧ lxV b n e = 43
        · rw [if_pos y, if_neg n10]
        · rw [if_neg y, if_pos rfl, p2.1, xb1_some, if_pos (show lxK true b n e = 3 ∧ lxV b n e = 45 by omega), if_neg n10]
      have i3' : Y1 143 d = 0 := by rw [b5.1 143 (by decide), y9O 143 (by decide), y8O 143 (by decide)]; exact h3
      obtain ⟨X2, Y2, g1, g2, g3⟩ := hI (lxE b n e) c (pend + 1) (D + 1) X1 Y1 b3 (hs9.t hq4 b4.t b5.t) (by rw [← hD]; unfold DP; rw [b4.1 _ (by omega)]) (by omega) (by omega) (by omega) i3'
      have fz1 : FZ Y8 Y1 := ⟨fun x h1 h2 => by rw [b5.1 x h1, y9O x (by omega)], fun j hj => by rw [b5.t.2 j (by omega), y9O 104 (by decide)]⟩
      have f9 : ∀ V, FYq d Y1 V → (∀ i, i ≤ d → V 143 i = Y8 143 i) ∧ (∀ i, i < d → V 142 i = Y8 142 i) ∧ V 142 d = lxV b n e := fun V hV => by
        refine ⟨fun i hi => by rw [(hV.2.2 i hi).2, b5.1 143 (by decide), y9O 143 (by decide)], fun i hi => by rw [(hV.2.2 i (by omega)).1, b5.1 142 (by decide), hY9, xu_at, if_neg (by omega)], by rw [(hV.2.2 d (Nat.le_refl d)).1, b5.1 142 (by decide), hY9, xu_at, if_pos rfl]⟩
      rw [cX]
      rcases g3 with ⟨e2, c2, k1, g3, g4, g5, g6, g7, g8, g9, g10, g11, g12, g13, -⟩ | ⟨k1, g3, g4, g5, g6, g7⟩
      · have sR : stR sc (lxV b n e) 0 := by
          rw [hsc]
          by_cases y : lxV b n e = 43
          · rw [if_pos y, y]; exact Or.inr (Or.inr (Or.inl ⟨rfl, rfl⟩))
          · rw [if_neg y]; exact Or.inr (Or.inr (Or.inr (Or.inl ⟨rfl, by omega⟩)))
        have sg2 : ¬ sc < 10010 := by rw [hsc]; split <;> decide
        obtain ⟨X3, Y3, a1, a2, a3, a4, a5, a6, a7, a8, a9⟩ := add_sim hq hq4 hS (show c2 < 600 by have := g7.2.2; omega) g8 sR (fun w => absurd w sg2) (fun _ => by rw [g9]; omega)
        have h3' : SR true b n e2 X3 Y3 := (g7.ofX (fun j _ => by rw [a6 2 (by omega) (by omega)]) (a6 3 (by omega) (by omega))).ofY (fun j _ _ _ _ => a9 j (by omega)) (a8 109 (by decide) (by decide) (by decide))
        have ff := f9 Y2 g13
        rw [g3, xb2_some, a1, xb1_some]
        obtain ⟨X4, Y4, i1, i2, i3⟩ := ih f (i + 1) e2 (c2 + 1) X3 Y3 (by omega) (by omega) (by omega) h3' a3 (by rw [a4, g9, if_neg sg2]; omega) (by omega) (by rw [a8 143 (by decide) (by decide) (by decide), ff.1 d (Nat.le_refl d), y8O 143 (by decide)]; exact h3)
        have fX : FXq q X X4 := ((b4.t.q hq4).tr (g1.tr (FXq.tr (B := X3) ⟨fun y _ h2 h3 => a6 y h2 h3, fun j _ => by rw [a6 2 (by omega) (by omega)], a7⟩ i1)))
        have fz3 : FZ Y8 (xu Y3 142 d 0) := fz1.tr (g2.tr ⟨fun x h1 h2 => by rw [xu_cell _ _ _ (by omega), a8 x h1 (by omega) (by omega)], fun j hj => by rw [xu_cell _ _ _ (by decide), a9 j (by omega)]⟩)
        have fY3 : FYq d Y8 (xu Y3 142 d 0) := ⟨fz3.1, fz3.2, fun j hj => by
          refine ⟨?_, by rw [xu_cell _ _ _ (by decide), a8 143 (by decide) (by decide) (by decide), ff.1 j hj]⟩
          rw [xu_at]
          by_cases y : j = d
          · rw [if_pos y, y, hY8, xu_at, if_pos rfl]
          · rw [if_neg y, a8 142 (by decide) (by decide) (by decide), ff.2.1 j (by omega)]⟩
        have step : ∀ g, M_sum_J217 S 104 (M_sum_F18 S 104 (g + k1)) (d : Int) 0 Y = M_sum_J217 S 104 (M_sum_F18 S 104 g) (d : Int) 0 Y3 := by
          intro g
          rw [st]
          refine (g5 g).trans ?_
          show itmE S g d Y2 = _
          unfold itmE
          rw [ff.2.2, if_neg (by omega), a2, xb1_some]
        refine ⟨X4, Y4, fX, fz3.tr i2, ?_⟩
        rcases i3 with ⟨e', c', k', j1, j2, j3, j4, j5, j6, j7, j8, j9, j10, j12, j11⟩ | ⟨k', j1, j2, j3, j4, j5⟩
        · refine Or.inl ⟨e', c', k' + k1, j1, by omega, fun g => ?_, by omega, j5, j6, j7, j8, by omega, fun x hx => ?_, fY3.tr j12, trivial⟩
          · show M_sum_J217 S 104 (M_sum_F18 S 104 (g + (k' + k1))) (d : Int) 0 Y = _
            rw [show g + (k' + k1) = (g + k') + k1 by omega, step]
            exact j3 g
          · rw [j10 x (by omega), a5 x (by omega), g12 x hx, b4.1 _ (by omega)]
        · refine Or.inr ⟨k' + k1, j1, by have := h3'.2.2; omega, fun g => ?_, j4, j5⟩
          show M_sum_J217 S 104 (M_sum_F18 S 104 (g + (k' + k1))) (d : Int) 0 Y = _
          rw [show g + (k' + k1) = (g + k') + k1 by omega, step]
          exact j3 g
      · obtain ⟨X3, a1, a2, a3, a4⟩ := addX hq sc g7
        rw [g3, xb2_some, a1, xb1_some]
        obtain ⟨f, rfl⟩ : ∃ g, f = g + 1 := ⟨f - 1, by omega⟩
        refine ⟨X3, Y2, (b4.t.q hq4).tr (g1.tr ⟨fun y _ h2 h3 => a2 y h2 h3, fun j _ => by rw [a2 2 (by omega) (by omega)], a3⟩), fz1.tr g2, Or.inr ⟨k1, ?_, by omega, fun g => ?_, g6.x (a2 2 (by omega) (by omega)), a4⟩⟩
        · rw [L_readSum_F10, if_pos rfl, xch_01.1]
        · show M_sum_J217 S 104 (M_sum_F18 S 104 (g + k1)) (d : Int) 0 Y = _
          rw [st]
          exact g5 g
    · exact stop f i e c X Y h hs hD hc (by omega) (by omega)
theorem sum_sim {R S : xR} (hL : LR R S true) {q : Nat} (hq : LwR R q) (hq4 : 4 ≤ q) (hS : MS S) {b : Nat → Int} {n : Nat} (hB : TxB b n) {s d : Nat} (hd : d ≤ 6) {rs : Nat → Nat → Int → xM → Option (Int × xM)} (hI : ItemS R S rs b n q s d) : SumS S b n q s d (f_L_readSumB R rs) := by
  intro e c pend D X Y h hs hD hD0 hD2 hc h2 h3
  have xf : xfu = 1000000 := rfl
  have hn := hB.1
  have he := h.2.2
  obtain ⟨X1, Y1, g1, g2, g3⟩ := hI e c pend D X Y h hs hD hD0 (by omega) hc h3
  unfold f_L_readSumB
  rcases g3 with ⟨e1, c1, k1, g3, g4, g5, g6, g7, g8, g9, g10, g11, g12, g13, -⟩ | ⟨k1, g3, g4, g5, g6, g7⟩
  · rw [g3, xb2_some]
    have y2 : Y1 142 d = 0 := by rw [(g13.2.2 d (Nat.le_refl d)).1]; exact h2
    have y3 : Y1 143 d = 0 := by rw [(g13.2.2 d (Nat.le_refl d)).2]; exact h3
    have e3 : xu Y1 142 d 0 = Y1 := by
      funext x i
      unfold xu
      by_cases z : x = 142 ∧ i = d
      · rw [if_pos z, z.1, z.2, y2]
      · rw [if_neg z]
    obtain ⟨X2, Y2, i1, i2, i3⟩ := sum_loop hL hq hq4 hS hB hd hI pend D hD0 hD2 (n - e1) xfu 0 e1 c1 X1 Y1 (Nat.le_refl _) (by omega) (by omega) g7 g8 g9 g10 y3
    rw [e3] at i2 i3
    have step : ∀ g, M_sum_F18 S 104 (g + k1) (d : Int) 1 Y = M_sum_J217 S 104 (M_sum_F18 S 104 g) (d : Int) 0 Y1 := by
      intro g
      refine (g5 g).trans ?_
      show itmE S g d Y1 = _
      unfold itmE
      rw [y2, if_pos rfl]
    refine ⟨X2, Y2, g1.tr i1, g2.tr i2, ?_⟩
    rcases i3 with ⟨e', c', k', j1, j2, j3, j4, j5, j6, j7, j8, j9, j10, j12, j11⟩ | ⟨k', j1, j2, j3, j4, j5⟩
    · refine Or.inl ⟨e', c', k' + k1, j1, by omega, fun g => ?_, by omega, j5, j6, j7, j8, by omega, fun x hx => by rw [j10 x (by omega), g12 x hx], g13.tr j12, trivial⟩
      show M_sum_F18 S 104 (g + (k' + k1)) (d : Int) 1 Y = _
      rw [show g + (k' + k1) = (g + k') + k1 by omega, step]
      exact j3 g
    · refine Or.inr ⟨k' + k1, j1, by have := g7.2.2; omega, fun g => ?_, j4, j5⟩
      show M_sum_F18 S 104 (g + (k' + k1)) (d : Int) 1 Y = _
      rw [show g + (k' + k1) = (g + k') + k1 by omega, step]
      exact j3 g
  · rw [g3, xb2_some]
    refine ⟨X1, Y1, g1, g2, Or.inr ⟨k1, ?_, by omega, fun g => g5 g, g6, g7⟩⟩
    rw [show xfu = 999999 + 1 from rfl, L_readSum_F10, if_pos rfl, xch_01.1]
/-- all depths -/
theorem sums {R S : xR} (hL : LR R S true) {q : Nat} (hq : LwR R q) (hq4 : 4 ≤ q) (hS : MS S) {b : Nat → Int} {n : Nat} (hB : TxB b n) {s : Nat} : ∀ j, j ≤ 6 → SumS S b n q s (6 - j) (f_L_readSum R (4 + j)) := by
  intro j
  induction j with
  | zero =>
    intro _
    have := sum_sim hL hq hq4 hS hB (s := s) (d := 6) (by omega) (item_sim hL hq hq4 hS hB (by omega) (atom_sim hL hq hq4 hS hB (by omega) (rs := f_L_readSum R 3) (fun h => by omega)))
    intro e c pend D X Y h1 h2 h3 h4 h5 h6 h7 h8
    exact this e c pend D X Y h1 h2 h3 h4 h5 h6 h7 h8
  | succ j ih =>
    intro hj
    have i := ih (by omega)
    have := sum_sim hL hq hq4 hS hB (s := s) (d := 6 - (j + 1)) (by omega) (item_sim hL hq hq4 hS hB (by omega) (atom_sim hL hq hq4 hS hB (by omega) (rs := f_L_readSum R (4 + j)) (fun _ => by rw [show 6 - (j + 1) + 1 = 6 - j by omega]; exact i)))
    intro e c pend D X Y h1 h2 h3 h4 h5 h6 h7 h8
    exact this e c pend D X Y h1 h2 h3 h4 h5 h6 h7 h8
