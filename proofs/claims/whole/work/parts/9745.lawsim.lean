/-! ===== laws: a law, whole ===== -/
theorem FXb.L {q m : Nat} {A B : xM} (h : FXb q m A B) : FXL q A B := ⟨fun x h1 h2 => h.1 x h1 (by omega) (by omega), h.2.1⟩
theorem FYb.L {m : Nat} {A B : xM} (h : FYb m A B) : FYL A B := ⟨fun x h1 h2 => h.1 x h1 (by omega) (by omega), fun j hj => h.2.1 j (by omega)⟩
theorem law_sim {R S : xR} (hL : LR R S true) {q : Nat} (hq : LwR R q) (hq4 : 4 ≤ q) (hq92 : q + 8 ≤ 104) (hS : MS S) {b : Nat → Int} {n : Nat} (hB : TxB b n) {e m c : Nat} {X Y : xM} (h : SR true b n e X Y) (hD : LwD q m c X Y) (hc : c ≤ e) : ∃ r X' Y', f_L_readLaw R q 2 X = some (r, X') ∧ f_M_law S 104 Y = some (r, Y') ∧ FXL q X X' ∧ FYL Y Y' ∧ ((r = 1 ∧ ∃ e' c', e < e' ∧ SR true b n e' X' Y' ∧ LwD q (m + 1) c' X' Y' ∧ c' ≤ e') ∨ (r = 0 ∧ FT X' Y')) := by
  have xf : xfu = 1000000 := rfl
  have n10 : ¬ (1 : Int) = 0 := by decide
  have hn := hB.1
  obtain ⟨hm8, ⟨x0, y41⟩, ⟨x7, y43⟩, hst, hl⟩ := hD
  have r1 : R q 1 = q + 1 := hq 1 (by decide) (by decide)
  have r2 : R q 2 = q + 2 := hq 2 (by decide) (by decide)
  have r3 : R q 3 = q + 3 := hq 3 (by decide) (by decide)
  have s44 : S 104 44 = 129 := hS 44 (by decide) (by decide)
  have s49 : S 104 49 = 134 := hS 49 (by decide) (by decide)
  have s50 : S 104 50 = 135 := hS 50 (by decide) (by decide)
  have eM : f_M_law S 104 Y = (xb1 (f_M_nameHere S 104 Y) fun r_1 => if r_1 = -1 then xb2 (f_M_fails 104 2 Y) fun r_4 M_5 => xch (r_4 = 0 ∨ r_4 = 1) <| some (r_4, M_5) else if Y 104 41 = 8 then xb2 (f_M_fails 104 3 Y) fun r_9 M_10 => xch (r_9 = 0 ∨ r_9 = 1) <| some (r_9, M_10) else M_law_F36 S 104 (lwQ S) xfu r_1 0 Y) := rfl
  rw [eM]
  unfold f_L_readLaw
  rcases name_sim hL hB h with ⟨-, k1, i1, v, j1, j2, j3⟩ | ⟨-, i1, j1⟩
  · rw [i1, xb1_some, stands_ok h (by omega) n10, xb2_some, if_neg n10, j1, xb1_some, if_neg (show ¬ v = -1 by omega), x0, y41]
    by_cases m8 : m = 8
    · obtain ⟨W, V, w1, w2, w3, w4, w5⟩ := wrong_fail h (show lxK true b n e ≠ 4 by omega) (k := 3) (by decide)
      rw [if_neg (show ¬ (m : Int) < 8 by omega), if_pos (show (m : Int) = 8 by omega), w1, w2, xb2_some, xb2_some, xch_01.1, xch_01.1]
      exact ⟨0, W, V, rfl, rfl, w4.L q, w5.L, Or.inr ⟨rfl, w3⟩⟩
    · rw [if_pos (show (m : Int) < 8 by omega), if_neg (show ¬ (m : Int) = 8 by omega)]
      obtain ⟨W, V, w1, w2, w3, w4, w5⟩ := wrong_fail h (show lxK true b n e ≠ 4 by omega) (k := 4) (by decide)
      have nm := lawN_F hq hS hm8 x0 y41 (fun l hl' => (hl l hl').1) j3 w2 (lwQ S) m xfu xfu 0 (by omega) (by omega) (by omega)
      rw [show ((0 : Nat) : Int) = 0 from rfl] at nm
      have eN : f_L_isLawName R q (X 2 8) X = L_isLawName_F2 R X q (X 2 8) xfu 0 := rfl
      rw [eN]
      rcases nm with ⟨a1, a2⟩ | ⟨a1, a2⟩
      · rw [a1, a2, xb1_some, if_neg n10, w1, xb2_some, xch_01.1]
        exact ⟨0, W, V, rfl, rfl, w4.L q, w5.L, Or.inr ⟨rfl, w3⟩⟩
      · rw [a1, a2, xb1_some, if_pos rfl, xl_eq, xl_eq, w32_of (x := (m : Int) + 1) (by omega) (by omega), xch_pos (show 0 ≤ (m : Int) ∧ (m : Int) < 8 by omega), xl_eq, xl_eq, r1, r2, Int.toNat_natCast]
        have c8 : xu X q 0 ((m : Int) + 1) 2 8 = X 2 8 := by rw [xu_cell _ _ _ (by omega)]
        have c7 : xu (xu X q 0 ((m : Int) + 1)) (q + 1) m (X 2 8) q 7 = (c : Int) := by rw [xu_cell _ _ _ (by omega), xu_at, if_neg (by decide)]; exact x7
        rw [c8, c7]
        obtain ⟨A, hA⟩ : ∃ A, A = xu (xu (xu X q 0 ((m : Int) + 1)) (q + 1) m (X 2 8)) (q + 2) m (c : Int) := ⟨_, rfl⟩
        rw [← hA]
        have aO : ∀ x, x ≠ q → x ≠ q + 1 → x ≠ q + 2 → A x = X x := fun x h1 h2 h3 => by rw [hA, xu_cell _ _ _ h3, xu_cell _ _ _ h2, xu_cell _ _ _ h1]
        have aq : ∀ j, A q j = if j = 0 then (m : Int) + 1 else X q j := fun j => by rw [hA, xu_cell _ _ _ (by omega), xu_cell _ _ _ (by omega), xu_at]
        have a1' : ∀ i, A (q + 1) i = if i = m then X 2 8 else X (q + 1) i := fun i => by rw [hA, xu_cell _ _ _ (by omega), xu_at, xu_cell _ _ _ (by omega)]
        have a2' : ∀ i, A (q + 2) i = if i = m then (c : Int) else X (q + 2) i := fun i => by rw [hA, xu_at, xu_cell _ _ _ (by omega), xu_cell _ _ _ (by omega)]
        obtain ⟨B, hBd⟩ : ∃ B, B = xu Y 129 m v := ⟨_, rfl⟩
        have bO : ∀ x, x ≠ 129 → B x = Y x := fun x hx => by rw [hBd, xu_cell _ _ _ hx]
        have b129 : ∀ i, B 129 i = if i = m then v else Y 129 i := fun i => by rw [hBd, xu_at]
        have hAB : SR true b n e A B := h.cells (aO 2 (by omega) (by omega) (by omega)) (aO 3 (by omega) (by omega) (by omega)) (fun j _ _ => by rw [bO 104 (by decide)]) (bO 109 (by decide))
        obtain ⟨X1, Y1, b1, b2, b3, b4, b5⟩ := adv_sim hL hB hAB
        have le := lx_more (lw := true) h.2.2 (show lxK true b n e ≠ 0 by omega)
        have fA : FXL q X A := ⟨fun x _ h2 => aO x (by omega) (by omega) (by omega), fun j _ => by rw [aO 2 (by omega) (by omega) (by omega)]⟩
        have fB : FYL Y B := ⟨fun x _ h2 => bO x (by omega), fun j _ => by rw [bO 104 (by decide)]⟩
        unfold lwQ
        rw [y41, xch_pos (show 0 ≤ (m : Int) ∧ (m : Int) < 8 by omega), xl_eq, s44, Int.toNat_natCast, ← hBd, b1, b2, xb1_some, xb1_some]
        obtain ⟨r, X2, Y2, t1, t2, t3, t4, t5⟩ := takeSign_sim hL hB b3 58
        have fX2 : FXt A X2 := b4.t.tr t3
        have fY2 : FYt B Y2 := b5.t.tr t4
        rw [t1, t2, xb2_some, xb2_some]
        rcases t5 with ⟨rfl, t5, t6, -⟩ | ⟨rfl, t5⟩
        · have y2m : Y2 104 41 = (m : Int) := by rw [fY2.2 41 (by decide), bO 104 (by decide)]; exact y41
          have y2c : Y2 104 43 = (c : Int) := by rw [fY2.2 43 (by decide), bO 104 (by decide)]; exact y43
          rw [if_neg n10, if_neg n10, y2m, y2c, xch_pos (show 0 ≤ (m : Int) ∧ (m : Int) < 8 by omega), xl_eq, s49, Int.toNat_natCast]
          obtain ⟨C, hC⟩ : ∃ C, C = xu Y2 134 m (c : Int) := ⟨_, rfl⟩
          rw [← hC]
          have cO : ∀ x, x ≠ 134 → C x = Y2 x := fun x hx => by rw [hC, xu_cell _ _ _ hx]
          have c134 : ∀ i, C 134 i = if i = m then (c : Int) else Y2 134 i := fun i => by rw [hC, xu_at]
          have h2 : SR true b n (lxE b n (lxE b n e)) X2 C := t5.cells rfl rfl (fun j _ _ => by rw [cO 104 (by decide)]) (cO 109 (by decide))
          have hs2 : LSt q c c X2 C := by
            refine ⟨?_, ?_, Nat.le_refl c, fun i hi => ?_, fun i hi => by omega⟩
            · rw [fX2.1 q (by omega), aq, if_neg (by decide)]; exact x7
            · rw [cO 104 (by decide)]; exact y2c
            · rw [fX2.1 _ (by omega), aO _ (by omega) (by omega) (by omega), cO 140 (by decide), cO 141 (by decide), fY2.1 140 (by decide), fY2.1 141 (by decide), bO 140 (by decide), bO 141 (by decide)]
              exact hst i hi
          have li1 := lx_in (b := b) (n := n) (e := lxE b n e) b3.2.2
          obtain ⟨r, X3, Y3, g1, g2, g3, g4, g5⟩ := sum0 hL hq hq4 hS hB h2 hs2 rfl (by omega)
          rw [g1, g2, xb2_some, xb2_some]
          have fX3 : FXL q X X3 := fA.tr ((fX2.L q).tr g3.L)
          have fY3 : FYL Y Y3 := fB.tr (fY2.L.tr (FYL.tr (B := C) ⟨fun x _ h2 => cO x (by omega), fun j _ => by rw [cO 104 (by decide)]⟩ g4.L))
          rcases g5 with ⟨rfl, e3, c3, g5, g6, g7, g8, g9, g10, g11⟩ | ⟨rfl, g5⟩
          · have y3m : Y3 104 41 = (m : Int) := by rw [g4.2 41 (by decide), cO 104 (by decide)]; exact y2m
            rw [if_neg n10, if_neg n10, y3m, g7.2.1, g7.1, xch_pos (show 0 ≤ (m : Int) ∧ (m : Int) < 8 by omega), xl_eq, xl_eq, s50, r3, Int.toNat_natCast]
            obtain ⟨E, hE⟩ : ∃ E, E = xu X3 (q + 3) m (c3 : Int) := ⟨_, rfl⟩
            obtain ⟨F, hF⟩ : ∃ F, F = xu Y3 135 m (c3 : Int) := ⟨_, rfl⟩
            rw [← hE, ← hF]
            have eO : ∀ x, x ≠ q + 3 → E x = X3 x := fun x hx => by rw [hE, xu_cell _ _ _ hx]
            have e3' : ∀ i, E (q + 3) i = if i = m then (c3 : Int) else X3 (q + 3) i := fun i => by rw [hE, xu_at]
            have fO : ∀ x, x ≠ 135 → F x = Y3 x := fun x hx => by rw [hF, xu_cell _ _ _ hx]
            have f135 : ∀ i, F 135 i = if i = m then (c3 : Int) else Y3 135 i := fun i => by rw [hF, xu_at]
            have hEF : SR true b n e3 E F := g6.cells (eO 2 (by omega)) (eO 3 (by omega)) (fun j _ _ => by rw [fO 104 (by decide)]) (fO 109 (by decide))
            obtain ⟨r, X4, Y4, p1, p2, p3, p4, p5⟩ := bounds_sim hL hq hq4 hS hB (show m < 8 by omega) hEF (by rw [fO 104 (by decide)]; exact y3m)
            rw [p1, p2]
            have fE : FXL q X E := fX3.tr ⟨fun x _ h2 => eO x (by omega), fun j _ => by rw [eO 2 (by omega)]⟩
            have fF : FYL Y F := fY3.tr ⟨fun x _ h2 => fO x (by omega), fun j _ => by rw [fO 104 (by decide)]⟩
            refine ⟨r, X4, Y4, rfl, rfl, fE.tr p3.L, fF.tr p4.L, ?_⟩
            rcases p5 with ⟨rfl, e4, p5, p6, p7, p8, p9⟩ | ⟨rfl, p5⟩
            · refine Or.inl ⟨rfl, e4, c3, by omega, p6, ⟨by omega, ⟨?_, by rw [p7]; rfl⟩, ⟨?_, ?_⟩, fun i hi => ?_, fun l hl' => ?_⟩, by omega⟩
              · rw [p3.1 q (by omega) (by omega) (by omega), eO q (by omega), g3.2.2 0 (by decide), fX2.1 q (by omega), aq, if_pos rfl]; rfl
              · rw [p3.1 q (by omega) (by omega) (by omega), eO q (by omega)]; exact g7.1
              · rw [p4.2.1 43 (by decide), fO 104 (by decide)]; exact g7.2.1
              · rw [p3.1 _ (by omega) (by omega) (by omega), eO _ (by omega), p4.1 140 (by decide) (by decide) (by decide), p4.1 141 (by decide) (by decide) (by decide), fO 140 (by decide), fO 141 (by decide)]
                exact g7.2.2.2.1 i hi
              · have e6 : X4 (q + 6) = X3 (q + 6) := by rw [p3.1 _ (by omega) (by omega) (by omega), eO _ (by omega)]
                have e1 : X4 (q + 1) = A (q + 1) := by rw [p3.1 _ (by omega) (by omega) (by omega), eO _ (by omega), g3.1 _ (by omega) (by omega) (by omega), fX2.1 _ (by omega)]
                have e2 : X4 (q + 2) = A (q + 2) := by rw [p3.1 _ (by omega) (by omega) (by omega), eO _ (by omega), g3.1 _ (by omega) (by omega) (by omega), fX2.1 _ (by omega)]
                have e3q : ∀ i, X4 (q + 3) i = if i = m then (c3 : Int) else X (q + 3) i := fun i => by rw [p3.1 _ (by omega) (by omega) (by omega), e3', g3.1 _ (by omega) (by omega) (by omega), fX2.1 _ (by omega), aO _ (by omega) (by omega) (by omega)]
                have z129 : Y4 129 = B 129 := by rw [p4.1 129 (by decide) (by decide) (by decide), fO 129 (by decide), g4.1 129 (by decide) (by decide), cO 129 (by decide), fY2.1 129 (by decide)]
                have z134 : ∀ i, Y4 134 i = if i = m then (c : Int) else Y 134 i := fun i => by rw [p4.1 134 (by decide) (by decide) (by decide), fO 134 (by decide), g4.1 134 (by decide) (by decide), c134, fY2.1 134 (by decide), bO 134 (by decide)]
                have z135 : ∀ i, Y4 135 i = if i = m then (c3 : Int) else Y 135 i := fun i => by rw [p4.1 135 (by decide) (by decide) (by decide), f135, g4.1 135 (by decide) (by decide), cO 135 (by decide), fY2.1 135 (by decide), bO 135 (by decide)]
                by_cases lm : l = m
                · subst lm
                  refine ⟨by rw [e1, a1', if_pos rfl, z129, b129, if_pos rfl]; exact j3, ⟨c, c3, by rw [e2, a2', if_pos rfl], by rw [z134, if_pos rfl], by rw [e3q, if_pos rfl], by rw [z135, if_pos rfl], g10, Nat.le_refl c3, by rw [e6]; exact g7.2.2.2.2, by rw [e6]; exact g8⟩, p8, p9⟩
                · obtain ⟨q1, ⟨s, t, q2, q3, q4, q5, q6, q7, q8, q9⟩, q10, q11⟩ := hl l (by omega)
                  have pre : ∀ i, i < t - s → X4 (q + 6) (s + i) = X (q + 6) (s + i) := fun i hi => by rw [e6, g11 _ (by omega), fX2.1 _ (by omega), aO _ (by omega) (by omega) (by omega)]
                  have o4 : X4 (q + 4) l = X (q + 4) l ∧ X4 (q + 5) l = X (q + 5) l := by
                    have := p3.2.2 l lm
                    rw [this.1, this.2, eO _ (by omega), eO _ (by omega), g3.1 _ (by omega) (by omega) (by omega), g3.1 _ (by omega) (by omega) (by omega), fX2.1 _ (by omega), fX2.1 _ (by omega), aO _ (by omega) (by omega) (by omega), aO _ (by omega) (by omega) (by omega)]
                    exact ⟨rfl, rfl⟩
                  have o6 : Y4 136 l = Y 136 l ∧ Y4 137 l = Y 137 l := by
                    have := p4.2.2 l lm
                    rw [this.1, this.2, fO 136 (by decide), fO 137 (by decide), g4.1 136 (by decide) (by decide), g4.1 137 (by decide) (by decide), cO 136 (by decide), cO 137 (by decide), fY2.1 136 (by decide), fY2.1 137 (by decide), bO 136 (by decide), bO 137 (by decide)]
                    exact ⟨rfl, rfl⟩
                  refine ⟨by rw [e1, a1', if_neg lm, z129, b129, if_neg lm]; exact q1, ⟨s, t, by rw [e2, a2', if_neg lm]; exact q2, by rw [z134, if_neg lm]; exact q3, by rw [e3q, if_neg lm]; exact q4, by rw [z135, if_neg lm]; exact q5, q6, by omega, q8.cg pre, by rw [dp_cg _ pre]; exact q9⟩, by rw [o4.1, o6.1]; exact q10, by rw [o4.2, o6.2]; exact q11⟩
            · exact Or.inr ⟨rfl, p5⟩
          · rw [if_pos rfl, if_pos rfl]
            exact ⟨0, X3, Y3, rfl, rfl, fX3, fY3, Or.inr ⟨rfl, g5⟩⟩
        · rw [if_pos rfl, if_pos rfl]
          exact ⟨0, X2, Y2, rfl, rfl, fA.tr (fX2.L q), fB.tr fY2.L, Or.inr ⟨rfl, t5⟩⟩
  · rw [i1, xb1_some, j1, xb1_some, if_pos rfl]
    obtain ⟨X', Y', x1, x2, x3, x4, x5⟩ := stands_fail h
    rw [x1, xb2_some, if_pos rfl, x2, xb2_some, xch_01.1]
    exact ⟨0, X', Y', rfl, rfl, x4.L q, x5.L, Or.inr ⟨rfl, x3⟩⟩
theorem laws_loop {R S : xR} (hL : LR R S true) {q : Nat} (hq : LwR R q) (hq4 : 4 ≤ q) (hq92 : q + 8 ≤ 104) (hS : MS S) {b : Nat → Int} {n : Nat} (hB : TxB b n) (Q : xM → Option (Int × xM)) : ∀ (k f g pa e m c : Nat) (X Y : xM), n - e ≤ k → k + 1 < f → k + 1 < g → pa ≤ e → SR true b n e X Y → LwD q m c X Y → c ≤ e → lxK true b n e ≠ 0 →
    ∃ X' Y', FXL q X X' ∧ FYL Y Y' ∧ ((∃ m' c' e', L_readFrom_F14 R q 2 f 1 (pa : Int) X = some (1, X') ∧ M_laws_F47 S 104 Q g 1 Y = Q Y' ∧ SR true b n e' X' Y' ∧ LwD q m' c' X' Y' ∧ c' ≤ e') ∨ (L_readFrom_F14 R q 2 f 1 (pa : Int) X = some (0, X') ∧ M_laws_F47 S 104 Q g 1 Y = Q Y' ∧ FT X' Y')) := by
  have n10 : ¬ (1 : Int) = 0 := by decide
  have hn := hB.1
  intro k
  induction k with
  | zero =>
    intro f g pa e m c X Y hk _ _ _ h _ _ hK
    have he := h.2.2
    have li := lx_in (b := b) he
    rcases lx_kind true b he with ⟨z, _⟩ | ⟨z, _⟩
    · exact absurd z hK
    · omega
  | succ k ih =>
    intro f g pa e m c X Y hk hf hg hpa h hD hc hK
    obtain ⟨f, rfl⟩ : ∃ g, f = g + 1 := ⟨f - 1, by omega⟩
    obtain ⟨g, rfl⟩ : ∃ h, g = h + 1 := ⟨g - 1, by omega⟩
    have he := h.2.2
    have Y0 : ∀ V, M_laws_F47 S 104 Q g 0 V = Q V := fun V => by
      obtain ⟨g, rfl⟩ : ∃ h, g = h + 1 := ⟨g - 1, by omega⟩
      rw [M_laws_F47, if_pos rfl]
    obtain ⟨r, X1, Y1, l1, l2, l3, l4, l5⟩ := law_sim hL hq hq4 hq92 hS hB h hD hc
    have cX : L_readFrom_F14 R q 2 (f + 1) 1 (pa : Int) X = L_readFrom_F14 R q 2 f r ((pa + 1 : Nat) : Int) X1 := by
      rw [L_readFrom_F14, if_neg n10, h.1.2.1.2.2.1, if_neg hK, if_neg (show ¬ (600 : Int) < (pa : Int) by omega), l1, xb2_some, xl_eq, w32_of (x := (pa : Int) + 1) (by omega) (by omega)]
      rfl
    have cY : M_laws_F47 S 104 Q (g + 1) 1 Y = if r = 0 then M_laws_F47 S 104 Q g 0 Y1 else if Y1 104 8 = 0 then M_laws_F47 S 104 Q g 0 Y1 else M_laws_F47 S 104 Q g 1 Y1 := by
      rw [M_laws_F47, if_neg n10, l2, xb2_some]
      rfl
    rw [cX, cY]
    obtain ⟨f, rfl⟩ : ∃ h, f = h + 1 := ⟨f - 1, by omega⟩
    rcases l5 with ⟨rfl, e', c', o1, o2, o3, o4⟩ | ⟨rfl, o⟩
    · rw [if_neg n10, o2.2.1.2.1.2.2.1]
      by_cases z : lxK true b n e' = 0
      · rw [if_pos ((kmp_z o2.2.2).2 z), Y0]
        refine ⟨X1, Y1, l3, l4, Or.inl ⟨m + 1, c', e', ?_, rfl, o2, o3, o4⟩⟩
        rw [L_readFrom_F14, if_neg n10, o2.1.2.1.2.2.1, if_pos z, xch_01.2]
      · rw [if_neg (fun y => z ((kmp_z o2.2.2).1 y))]
        obtain ⟨X', Y', i1, i2, i3⟩ := ih (f + 1) g (pa + 1) e' (m + 1) c' X1 Y1 (by omega) (by omega) (by omega) (by omega) o2 o3 o4 z
        exact ⟨X', Y', l3.tr i1, l4.tr i2, i3⟩
    · rw [if_pos rfl, Y0, L_readFrom_F14, if_pos rfl, xch_01.1]
      exact ⟨X1, Y1, l3, l4, Or.inr ⟨rfl, rfl, o⟩⟩
