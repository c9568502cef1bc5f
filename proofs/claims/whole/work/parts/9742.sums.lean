/-! ===== laws: atoms, items, sums, side by side ===== -/
theorem LSt.b {q s c : Nat} {X Y : xM} (h : LSt q s c X Y) {n e : Nat} (he : e ≤ n) (hn : n ≤ 600) (hc : c ≤ e) : 0 ≤ X q 7 ∧ X q 7 ≤ 600 := by
  rw [h.1]
  omega
theorem LSt.y {q s c : Nat} {X Y Y' : xM} (h : LSt q s c X Y) (h1 : Y' 104 43 = Y 104 43) (h2 : Y' 140 = Y 140) (h3 : Y' 141 = Y 141) : LSt q s c X Y' := by
  unfold LSt
  rw [h1, h2, h3]
  exact h
theorem stands_fail_q {lw : Bool} {b : Nat → Int} {n e q s c : Nat} (hq : 4 ≤ q) {X Y : xM} (h : SR lw b n e X Y) (hs : LSt q s c X Y) (hn : n ≤ 600) (hc : c ≤ e) : ∃ X' Y', f_A_stands 2 0 X = some (0, X') ∧ f_M_fails 104 2 Y = some (0, Y') ∧ FT X' Y' ∧ FXt X X' ∧ FYt Y Y' ∧ (0 ≤ X' q 7 ∧ X' q 7 ≤ 600) := by
  obtain ⟨X', Y', a1, a2, a3, a4, a5⟩ := stands_fail h
  exact ⟨X', Y', a1, a2, a3, a4, a5, by rw [a4.1 q (by omega)]; exact hs.b h.2.2 hn hc⟩
theorem atom_sim {R S : xR} (hL : LR R S true) {q : Nat} (hq : LwR R q) (hq4 : 4 ≤ q) (hS : MS S) {b : Nat → Int} {n : Nat} (hB : TxB b n) {s d : Nat} (hd : d ≤ 6) {rs : Nat → Nat → Int → xM → Option (Int × xM)} (hrs : d < 6 → SumS S b n q s (d + 1) rs) : AtomS R S rs b n q s d := by
  intro e c pend D X Y h hs hD hD0 hD2 hpe
  have n10 : ¬ (1 : Int) = 0 := by decide
  have hn := hB.1
  have he := h.2.2
  have y15 := h.2.1.2.2.2.1
  have s57 : S 104 57 = 142 := hS 57 (by decide) (by decide)
  have s58 : S 104 58 = 143 := hS 58 (by decide) (by decide)
  obtain ⟨k1, k2, k3⟩ := keyL_eq hL hB h
  have sg := isSign_eq h 40
  have y8 := h.2.1.2.1.2.2.1
  have x7 := h.1.2.1.2.2.1
  have li := lx_in (b := b) he
  -- a number or a variable
  have opd : ∀ (x y z : Int), stR x y z → x < 10010 → lxP b n e < n → ∃ X1 Y1 X2 Y2, f_L_addStep R q x X = some X1 ∧ f_M_puts S 104 y z Y = some Y1 ∧ f_A_advance R 2 X1 = some X2 ∧ f_M_next S 104 Y1 = some Y2 ∧ FXq q X X2 ∧ FYq d Y Y2 ∧ SR true b n (lxE b n e) X2 Y2 ∧ LSt q s (c + 1) X2 Y2 ∧ DP q s (c + 1) X2 = D + 1 ∧ (∀ i, i < c → X2 (q + 6) i = X (q + 6) i) := by
    intro x y z hst hx hpn
    obtain ⟨X1, Y1, a1, a2, a3, a4, a5, a6, a7, a8, a9⟩ := add_sim hq hq4 hS (show c < 600 by omega) hs hst (fun _ => by rw [hD]; omega) (fun w => absurd hx w)
    have h1 : SR true b n e X1 Y1 := (h.ofX (fun j _ => by rw [a6 2 (by omega) (by omega)]) (a6 3 (by omega) (by omega))).ofY (fun j _ _ _ _ => a9 j (by omega)) (a8 109 (by decide) (by decide) (by decide))
    obtain ⟨X2, Y2, b1, b2, b3, b4, b5⟩ := adv_sim hL hB h1
    refine ⟨X1, Y1, X2, Y2, a1, a2, b1, b2, FXq.tr (B := X1) ⟨fun y _ h2 h3 => a6 y h2 h3, fun j _ => by rw [a6 2 (by omega) (by omega)], a7⟩ (b4.t.q hq4), FYq.tr (B := Y1) ⟨fun y h2 h3 => a8 y h2 (by omega) (by omega), fun j hj => a9 j (by omega), fun i _ => by rw [a8 142 (by decide) (by decide) (by decide), a8 143 (by decide) (by decide) (by decide)]; exact ⟨rfl, rfl⟩⟩ (b5.t.q d), b3, a3.t hq4 b4.t b5.t, ?_, fun i hi => by rw [b4.1 _ (by omega), a5 i hi]⟩
    have : DP q s (c + 1) X2 = DP q s (c + 1) X1 := by unfold DP; rw [b4.1 _ (by omega)]
    rw [this, a4, hD, if_pos hx]
  have F1 : ∀ f, M_sum_F18 S 104 (f + 1) (d : Int) 1 Y = (if kmp (lxK true b n e) = 3 then M_sum_J55 S 104 (M_sum_F18 S 104 f) (d : Int) (X 2 9) Y else if X 2 9 < 0 then M_sum_J97 S 104 (M_sum_F18 S 104 f) (d : Int) 1 Y else if X 2 9 < 6 then M_sum_J55 S 104 (M_sum_F18 S 104 f) (d : Int) (X 2 9) Y else M_sum_J97 S 104 (M_sum_F18 S 104 f) (d : Int) 1 Y) := by
    intro f
    rw [M_sum_F18, y15, if_pos rfl, if_neg n10, k1, xb1_some, y8]
  unfold f_L_readAtom
  rw [sg.1, xb1_some]
  by_cases zb : lxK true b n e = 3 ∧ lxV b n e = 40
  · -- a bracket
    have x9 : X 2 9 = -1 := h.1.2.1.2.2.2.2.1 (by omega)
    rw [if_pos zb, if_neg n10]
    have J97 : ∀ f, M_sum_F18 S 104 (f + 1) (d : Int) 1 Y = M_sum_J97 S 104 (M_sum_F18 S 104 f) (d : Int) 1 Y := by
      intro f
      have : ¬ kmp (lxK true b n e) = 3 := by rw [zb.1]; decide
      rw [F1 f, if_neg this, if_pos (show X 2 9 < 0 by omega)]
    have nz : lxK true b n e ≠ 0 := by omega
    have le := lx_more (lw := true) he nz
    by_cases zd : d < 6
    · rw [if_pos (show (d : Int) < 6 by omega)]
      obtain ⟨X1, Y1, b1, b2, b3, b4, b5⟩ := adv_sim hL hB h
      obtain ⟨Y2, hY2⟩ : ∃ Y2, Y2 = xu (xu Y1 142 (d + 1) 0) 143 (d + 1) 0 := ⟨_, rfl⟩
      have y2O : ∀ x, x ≠ 142 → x ≠ 143 → Y2 x = Y1 x := fun x h1 h2 => by rw [hY2, xu_cell _ _ _ h2, xu_cell _ _ _ h1]
      have y142 : ∀ i, Y2 142 i = if i = d + 1 then 0 else Y1 142 i := fun i => by rw [hY2, xu_cell _ _ _ (by decide), xu_at]
      have y143 : ∀ i, Y2 143 i = if i = d + 1 then 0 else Y1 143 i := fun i => by rw [hY2, xu_at, xu_cell _ _ _ (by decide)]
      have fY2 : FYq d Y Y2 := FYq.tr (B := Y1) (b5.t.q d) ⟨fun x _ h2 => y2O x (by omega) (by omega), fun j _ => by rw [y2O 104 (by decide) (by decide)], fun i hi => by rw [y142, y143, if_neg (by omega), if_neg (by omega)]; exact ⟨rfl, rfl⟩⟩
      have st : ∀ f, M_sum_F18 S 104 (f + 1) (d : Int) 1 Y = M_sum_F18 S 104 f ((d + 1 : Nat) : Int) 1 Y2 := by
        intro f
        rw [J97 f]
        unfold M_sum_J97
        rw [sg.2, xb1_some, if_pos zb, if_neg n10, if_neg (show ¬ (d : Int) = 6 by omega), b2, xb1_some, xl_eq, w32_of (x := (d : Int) + 1) (by omega) (by omega), xch_pos (by omega), xl_eq, xl_eq, s57, s58, show ((d : Int) + 1).toNat = d + 1 by omega, ← hY2]
        rfl
      have h2 : SR true b n (lxE b n e) X1 Y2 := b3.ofY (fun j _ _ _ _ => by rw [y2O 104 (by decide) (by decide)]) (y2O 109 (by decide) (by decide))
      have hs2 : LSt q s c X1 Y2 := (hs.t hq4 b4.t b5.t).y (by rw [y2O 104 (by decide) (by decide)]) (y2O 140 (by decide) (by decide)) (y2O 141 (by decide) (by decide))
      have hD1 : DP q s c X1 = D := by rw [← hD]; unfold DP; rw [b4.1 _ (by omega)]
      obtain ⟨X3, Y3, g1, g2, g3⟩ := hrs zd (lxE b n e) c pend D X1 Y2 h2 hs2 hD1 hD0 (by omega) (by omega) (by rw [y142, if_pos rfl]) (by rw [y143, if_pos rfl])
      rw [b1, xb1_some, w32_of (x := (d : Int) + 1) (by omega) (by omega), show (d : Int) + 1 = ((d + 1 : Nat) : Int) by omega]
      have li1 := lx_in (b := b) (n := n) (e := lxE b n e) b3.2.2
      rcases g3 with ⟨e', c', k, g3, g4, g5, g6, g7, g8, g9, g10, g11, g12, g13, -⟩ | ⟨k, g3, g4, g5, g6, g7⟩
      · rw [g3, xb2_some, if_neg n10]
        obtain ⟨r, X4, Y4, t1, t2, t3, t4, t5⟩ := takeSign_sim hL hB g7 41
        have fX4 : FXq q X X4 := ((b4.t.q hq4).tr g1).tr (t3.q hq4)
        have fY4 : FYq d Y Y4 := (fY2.tr (g13.le (by omega))).tr (t4.q d)
        rcases t5 with ⟨rfl, t5, t6, -⟩ | ⟨rfl, t5⟩
        · rw [t1, xb2_some, if_neg n10]
          refine ⟨X4, Y4, fX4, fY4.z, Or.inl ⟨lxE b n e', c', k + 1, rfl, ?_, fun f => ?_, by omega, t5, g8.t hq4 t3 t4, ?_, by omega, g11, fun i hi => ?_, fY4, trivial⟩⟩
          · have := lx_in (b := b) (n := n) (e := e') g7.2.2
            omega
          · show M_sum_F18 S 104 (f + (k + 1)) (d : Int) 1 Y = _
            rw [show f + (k + 1) = (f + k) + 1 by omega, st]
            refine (g5 f).trans ?_
            show sumE S f ((d + 1 : Nat) : Int) Y3 = _
            unfold sumE
            rw [if_neg (show ¬ ((d + 1 : Nat) : Int) = 0 by omega), t2, xb2_some, if_neg n10, xl_eq, w32_of (x := ((d + 1 : Nat) : Int) + (-1)) (by omega) (by omega), show ((d + 1 : Nat) : Int) + (-1) = (d : Int) by omega]
          · rw [← g9]; unfold DP; rw [t3.1 _ (by omega)]
          · rw [t3.1 _ (by omega), g12 i hi, b4.1 _ (by omega)]
        · rw [t1, xb2_some, if_pos rfl]
          refine ⟨X4, Y4, fX4, fY4.z, Or.inr ⟨k + 1, rfl, ?_, fun f => ?_, t5, ?_⟩⟩
          · have := g7.2.2
            omega
          · show M_sum_F18 S 104 (f + (k + 1)) (d : Int) 1 Y = _
            rw [show f + (k + 1) = (f + k) + 1 by omega, st]
            refine (g5 f).trans ?_
            show sumE S f ((d + 1 : Nat) : Int) Y3 = _
            unfold sumE
            rw [if_neg (show ¬ ((d + 1 : Nat) : Int) = 0 by omega), t2, xb2_some, if_pos rfl]
          · rw [t3.1 q (by omega)]
            exact g8.b g7.2.2 hn (by omega)
      · rw [g3, xb2_some, if_pos rfl]
        refine ⟨X3, Y3, (b4.t.q hq4).tr g1, fY2.z.tr g2, Or.inr ⟨k + 1, rfl, by omega, fun f => ?_, g6, g7⟩⟩
        show M_sum_F18 S 104 (f + (k + 1)) (d : Int) 1 Y = _
        rw [show f + (k + 1) = (f + k) + 1 by omega, st]
        exact g5 f
    · have d6 : d = 6 := by omega
      rw [if_neg (show ¬ (d : Int) < 6 by omega)]
      obtain ⟨W, V, w1, w2, w3, w4, w5⟩ := wrong_fail h (show lxK true b n e ≠ 4 by omega) (k := 5) (by decide)
      rw [w1, xb2_some, xch_01.1]
      refine ⟨W, V, w4.q hq4, (w5.q d).z, Or.inr ⟨1, rfl, by omega, fun f => ?_, w3, by rw [w4.1 q (by omega)]; exact hs.b he hn (by omega)⟩⟩
      show M_sum_F18 S 104 (f + 1) (d : Int) 1 Y = _
      rw [J97 f]
      unfold M_sum_J97
      rw [sg.2, xb1_some, if_pos zb, if_neg n10, if_pos (show (d : Int) = 6 by omega), w2, xb2_some, xch_01.1]
  · rw [if_neg zb, if_pos rfl, x7]
    by_cases zn : lxK true b n e = 2
    · -- a number
      have lk := lx_kind true b he
      have lv : lxP b n e < n ∧ 0 ≤ lxV b n e ∧ lxV b n e < 10000 := by
        rcases lk with ⟨w, _⟩ | ⟨w0, w | ⟨w, w1, w2⟩ | ⟨w, _⟩ | w⟩
        · omega
        · omega
        · exact ⟨w0, w1, w2⟩
        · omega
        · omega
      have x10 : X 2 10 = lxV b n e := h.1.2.1.2.2.2.2.2 (Or.inl zn)
      have y11 : Y 104 11 = lxV b n e := h.2.1.2.1.2.2.2 (Or.inl zn)
      have km3 : kmp (lxK true b n e) = 3 := by rw [zn]; rfl
      obtain ⟨X1, Y1, X2, Y2, a1, a2, a3, a4, a5, a6, a7, a8, a9, a10⟩ := opd (lxV b n e) 0 (lxV b n e) (Or.inl ⟨lv.2.1, lv.2.2, rfl, rfl⟩) (by omega) lv.1
      rw [if_pos zn]
      unfold L_readAtom_J64 L_readAtom_J86 L_readAtom_J91 L_readAtom_J119
      rw [if_neg n10, stands_ok h (by omega) n10, xb2_some, if_neg n10, if_neg n10, x10, a1, xb1_some, a3, xb1_some]
      have le := lx_more (lw := true) he (show lxK true b n e ≠ 0 by omega)
      refine ⟨X2, Y2, a5, a6.z, Or.inl ⟨lxE b n e, c + 1, 1, rfl, by omega, fun f => ?_, le, a7, a8, a9, by omega, by omega, a10, a6, trivial⟩⟩
      show M_sum_F18 S 104 (f + 1) (d : Int) 1 Y = _
      rw [F1 f, if_pos km3]
      unfold M_sum_J55 M_sum_J69 M_sum_J85
      rw [y8, if_pos km3, if_pos km3, y11, a2, xb1_some, a4, xb1_some]
    · rw [if_neg zn]
      have km3 : ¬ kmp (lxK true b n e) = 3 := fun w => zn ((kmp_inv _).2.2.1 w)
      unfold L_readAtom_J64
      rw [if_pos rfl]
      by_cases zv : 0 ≤ X 2 9 ∧ X 2 9 < 6
      · -- a variable
        have kw := k3 (by omega)
        have lpn : lxP b n e < n := by
          have := lx_word kw
          omega
        obtain ⟨X1, Y1, X2, Y2, a1, a2, a3, a4, a5, a6, a7, a8, a9, a10⟩ := opd (10000 + X 2 9) 1 (X 2 9) (Or.inr (Or.inl ⟨by omega, by omega, rfl, by omega⟩)) (by omega) lpn
        rw [if_neg (show ¬ X 2 9 < 0 by omega), if_pos zv.2]
        unfold L_readAtom_J86 L_readAtom_J91 L_readAtom_J119
        rw [stands_ok h (by omega) n10, xb2_some, if_neg n10, if_pos rfl, w32_of (x := 10000 + X 2 9) (by omega) (by omega), a1, xb1_some, a3, xb1_some]
        have le := lx_more (lw := true) he (show lxK true b n e ≠ 0 by omega)
        refine ⟨X2, Y2, a5, a6.z, Or.inl ⟨lxE b n e, c + 1, 1, rfl, by omega, fun f => ?_, le, a7, a8, a9, by omega, by omega, a10, a6, trivial⟩⟩
        show M_sum_F18 S 104 (f + 1) (d : Int) 1 Y = _
        rw [F1 f, if_neg km3, if_neg (show ¬ X 2 9 < 0 by omega), if_pos zv.2]
        unfold M_sum_J55 M_sum_J69 M_sum_J85
        rw [y8, if_neg km3, if_neg km3, a2, xb1_some, a4, xb1_some]
      · obtain ⟨X', Y', w1, w2, w3, w4, w5, w6⟩ := stands_fail_q hq4 h hs hn (by omega)
        have cl : (if X 2 9 < 0 then L_readAtom_J90 R rs q 2 0 2 X else if X 2 9 < 6 then L_readAtom_J86 R rs q 2 0 2 X else L_readAtom_J90 R rs q 2 0 2 X) = some (0, X') := by
          have j90 : L_readAtom_J90 R rs q 2 0 2 X = some (0, X') := by
            unfold L_readAtom_J90 L_readAtom_J91
            rw [w1, xb2_some, if_pos rfl]
          by_cases y : X 2 9 < 0
          · rw [if_pos y, j90]
          · rw [if_neg y, if_neg (by omega), j90]
        rw [cl]
        refine ⟨X', Y', w4.q hq4, (w5.q d).z, Or.inr ⟨1, rfl, by omega, fun f => ?_, w3, w6⟩⟩
        show M_sum_F18 S 104 (f + 1) (d : Int) 1 Y = _
        have j97 : M_sum_J97 S 104 (M_sum_F18 S 104 f) (d : Int) 1 Y = some (0, Y') := by
          unfold M_sum_J97
          rw [sg.2, xb1_some, if_neg zb, if_pos rfl, w2, xb2_some, xch_01.1]
        rw [F1 f, if_neg km3]
        by_cases y : X 2 9 < 0
        · rw [if_pos y, j97]
        · rw [if_neg y, if_neg (by omega), j97]
