/-! ===== plant: a cleaner, whole ===== -/
def mkRest (S : xR) (l1 : Int) (M_1 : xM) : Option (Int × xM) :=
  xb1 (f_M_nameHere S 104 M_1) fun r_3 =>
  if r_3 = -1 then
    xb2 (f_M_fails 104 2 M_1) fun r_6 M_7 =>
    xch (r_6 = 0 ∨ r_6 = 1) <|
    some (r_6, M_7)
  else
    xb1 (f_M_isThere S 104 r_3 M_1) fun r_10 =>
    if r_10 = 0 then
      if M_1 104 28 = 8 then
        xb2 (f_M_fails 104 6 M_1) fun r_14 M_15 =>
        xch (r_14 = 0 ∨ r_14 = 1) <|
        some (r_14, M_15)
      else
        xb1 (f_M_next S 104 M_1) fun M_18 =>
        xb2 (f_M_wantKey S 104 6 M_18) fun r_20 M_21 =>
        if r_20 = 0 then
          some (0, M_21)
        else
          M_makes_F71 S 104 l1 (fun v2_37 M_38 => mkLim S l1 v2_37 M_38) xfu r_3 0 M_21
    else
      xb2 (f_M_fails 104 3 M_1) fun r_107 M_108 =>
      xch (r_107 = 0 ∨ r_107 = 1) <|
      some (r_107, M_108)
theorem mk_eq {S : xR} {l1 : Int} {Y0 Y : xM} (h : f_M_next S 104 Y0 = some Y) : f_M_makes S 104 l1 Y0 = mkRest S l1 Y := by
  unfold f_M_makes
  rw [h, xb1_some]
  rfl
theorem makes_sim {R S : xR} (hL : LR R S false) {p : Nat} (hp : PnR R p) (hp4 : 4 ≤ p) (hp92 : p + 12 ≤ 104) (hm : MR S) {b : Nat → Int} {n e : Nat} (hB : TxB b n) {X Y : xM} (h : SR false b n e X Y) {m q : Nat} (hP : PR p m q X Y) {k : Nat} (hk : k < 4) :
    ∃ r X' Y', f_N_readCleaner R p 2 (k : Int) X = some (r, X') ∧ mkRest S (k : Int) Y = some (r, Y') ∧ FXp p X X' ∧ FYp Y Y' ∧ ((r = 1 ∧ ∃ e' m', e < e' ∧ SR false b n e' X' Y' ∧ PR p m' q X' Y') ∨ (r = 0 ∧ FT X' Y')) := by
  have xf : xfu = 1000000 := rfl
  obtain ⟨⟨hm8, hq4⟩, ⟨x0, y28⟩, ⟨x1, y29⟩, hC, hWk⟩ := hP
  have hP' : PR p m q X Y := ⟨⟨hm8, hq4⟩, ⟨x0, y28⟩, ⟨x1, y29⟩, hC, hWk⟩
  have r2 : R p 2 = p + 1 := hp 2 (by decide) (by decide)
  have r4 : R p 4 = p + 3 := hp 4 (by decide) (by decide)
  have r8 : R p 8 = p + 7 := hp 8 (by decide) (by decide)
  have r9 : R p 9 = p + 8 := hp 9 (by decide) (by decide)
  have r10 : R p 10 = p + 9 := hp 10 (by decide) (by decide)
  have r11 : R p 11 = p + 10 := hp 11 (by decide) (by decide)
  have s17 : S 104 17 = 110 := hm.1 17 (by decide) (by decide)
  have s19 : S 104 19 = 112 := hm.1 19 (by decide) (by decide)
  have s21 : S 104 21 = 114 := hm.1 21 (by decide) (by decide)
  have s22 : S 104 22 = 115 := hm.1 22 (by decide) (by decide)
  have s23 : S 104 23 = 116 := hm.1 23 (by decide) (by decide)
  obtain ⟨fl, hfl⟩ : ∃ fl : Int, fl = if m < 8 then 0 else 1 := ⟨_, rfl⟩
  have st : f_N_readCleaner R p 2 (k : Int) X = N_readCleaner_J16 R p 2 (k : Int) fl 2 p X := by
    unfold f_N_readCleaner
    rw [x0, hfl]
    by_cases z : m < 8
    · rw [if_pos (by omega), if_pos z]
    · rw [if_neg (by omega), if_neg z]
  rw [st]
  unfold N_readCleaner_J16 mkRest
  rcases new_sim hL hp hm hB h hP' fl with ⟨X', Y', a1, a2, a3, a4, a5, a6⟩ | ⟨v, X', Y', a1, a2, a3, a4, a5, a6, a7, a8⟩ | ⟨f0, v, X', Y', a1, a2, a3, a4, a5, a6, a7, a8⟩ | ⟨f0, v, a1, a2, a3, a4, a5, a6⟩
  · rw [a1, a2, xb2_some, xb1_some, if_pos rfl, if_pos rfl, a3, xb2_some, xch_01.1]
    exact ⟨0, X', Y', rfl, rfl, a5.p p, a6.p, Or.inr ⟨rfl, a4⟩⟩
  · rw [a1, a2, xb2_some, xb1_some, if_pos rfl, if_neg a3, a4, xb1_some, if_neg (by decide), a5, xb2_some, xch_01.1]
    exact ⟨0, X', Y', rfl, rfl, a7.p p, a8.p, Or.inr ⟨rfl, a6⟩⟩
  · have m8 : m = 8 := by
      by_cases z : m < 8
      · rw [if_pos z] at hfl; exact absurd hfl f0
      · omega
    rw [a1, a2, xb2_some, xb1_some, if_pos rfl, if_neg a3, a4, xb1_some, if_pos rfl, y28, if_pos (show (m : Int) = 8 by omega), a5, xb2_some, xch_01.1]
    exact ⟨0, X', Y', rfl, rfl, a7.p p, a8.p, Or.inr ⟨rfl, a6⟩⟩
  · have m8 : m < 8 := by
      by_cases z : m < 8
      · exact z
      · rw [if_neg z] at hfl; omega
    rw [a1, a2, xb2_some, xb1_some, if_neg (by decide), if_neg a3, a4, xb1_some, if_pos rfl, y28, if_neg (show (m : Int) ≠ 8 by omega), xl_eq, xl_eq, x0, w32_of (x := (m : Int) + 1) (by omega) (by omega), xch_pos (by omega), r2, r4, r8, r9, Int.toNat_natCast, xl_eq, xl_eq, xl_eq, xl_eq]
    have w8 : xu X p 0 ((m : Int) + 1) 2 8 = X 2 8 := by rw [xu_cell _ _ _ (by omega)]
    rw [w8]
    obtain ⟨A, hA⟩ : ∃ A, A = xu (xu (xu (xu (xu X p 0 ((m : Int) + 1)) (p + 1) m (X 2 8)) (p + 3) m (k : Int)) (p + 7) m 0) (p + 8) m 0 := ⟨_, rfl⟩
    rw [← hA]
    obtain ⟨B, hBd⟩ : ∃ B, B = xu (xu (xu A (p + 9) (8 * m) (-1)) (p + 10) (8 * m) 100) (p + 8) m 1 := ⟨_, rfl⟩
    have aw : f_N_addWay R p (m : Int) (-1) 100 A = some B := by
      have a8 : A (p + 8) m = 0 := by rw [hA, xu_at, if_pos rfl]
      unfold f_N_addWay
      rw [xch_pos (by omega), xl_eq, r9, r10, r11, Int.toNat_natCast, a8, if_pos (by decide), w32_of (x := (m : Int) * 8) (by omega) (by omega), w32_of (x := (m : Int) * 8 + 0) (by omega) (by omega), xch_pos (by omega), xl_eq, xl_eq, xl_eq, show ((m : Int) * 8 + 0).toNat = 8 * m by omega, hBd]
      rfl
    rw [aw, xb1_some]
    have bO : ∀ x, x < p ∨ p + 11 ≤ x → B x = X x := fun x hx => by
      rw [hBd, xu_cell _ _ _ (by omega), xu_cell _ _ _ (by omega), xu_cell _ _ _ (by omega), hA, xu_cell _ _ _ (by omega), xu_cell _ _ _ (by omega), xu_cell _ _ _ (by omega), xu_cell _ _ _ (by omega), xu_cell _ _ _ (by omega)]
    have bo : ∀ j, j = 2 ∨ j = 4 ∨ j = 5 ∨ j = 6 → B (p + j) = X (p + j) := fun j hj => by
      rw [hBd, xu_cell _ _ _ (by omega), xu_cell _ _ _ (by omega), xu_cell _ _ _ (by omega), hA, xu_cell _ _ _ (by omega), xu_cell _ _ _ (by omega), xu_cell _ _ _ (by omega), xu_cell _ _ _ (by omega), xu_cell _ _ _ (by omega)]
    have b0 : ∀ i, B p i = if i = 0 then (m : Int) + 1 else X p i := fun i => by
      rw [hBd, xu_cell _ _ _ (by omega), xu_cell _ _ _ (by omega), xu_cell _ _ _ (by omega), hA, xu_cell _ _ _ (by omega), xu_cell _ _ _ (by omega), xu_cell _ _ _ (by omega), xu_cell _ _ _ (by omega), xu_at]
    have b1 : ∀ i, B (p + 1) i = if i = m then X 2 8 else X (p + 1) i := fun i => by
      rw [hBd, xu_cell _ _ _ (by omega), xu_cell _ _ _ (by omega), xu_cell _ _ _ (by omega), hA, xu_cell _ _ _ (by omega), xu_cell _ _ _ (by omega), xu_cell _ _ _ (by omega), xu_at, xu_cell _ _ _ (by omega)]
    have b3 : ∀ i, B (p + 3) i = if i = m then (k : Int) else X (p + 3) i := fun i => by
      rw [hBd, xu_cell _ _ _ (by omega), xu_cell _ _ _ (by omega), xu_cell _ _ _ (by omega), hA, xu_cell _ _ _ (by omega), xu_cell _ _ _ (by omega), xu_at, xu_cell _ _ _ (by omega), xu_cell _ _ _ (by omega)]
    have b7 : ∀ i, B (p + 7) i = if i = m then 0 else X (p + 7) i := fun i => by
      rw [hBd, xu_cell _ _ _ (by omega), xu_cell _ _ _ (by omega), xu_cell _ _ _ (by omega), hA, xu_cell _ _ _ (by omega), xu_at, xu_cell _ _ _ (by omega), xu_cell _ _ _ (by omega), xu_cell _ _ _ (by omega)]
    have b8 : ∀ i, B (p + 8) i = if i = m then 1 else X (p + 8) i := fun i => by
      rw [hBd, xu_at]
      by_cases z : i = m
      · rw [if_pos z, if_pos z]
      · rw [if_neg z, if_neg z, xu_cell _ _ _ (by omega), xu_cell _ _ _ (by omega), hA, xu_at, if_neg z, xu_cell _ _ _ (by omega), xu_cell _ _ _ (by omega), xu_cell _ _ _ (by omega), xu_cell _ _ _ (by omega)]
    have b9 : ∀ i, B (p + 9) i = if i = 8 * m then -1 else X (p + 9) i := fun i => by
      rw [hBd, xu_cell _ _ _ (by omega), xu_cell _ _ _ (by omega), xu_at, hA, xu_cell _ _ _ (by omega), xu_cell _ _ _ (by omega), xu_cell _ _ _ (by omega), xu_cell _ _ _ (by omega), xu_cell _ _ _ (by omega)]
    have b10 : ∀ i, B (p + 10) i = if i = 8 * m then 100 else X (p + 10) i := fun i => by
      rw [hBd, xu_cell _ _ _ (by omega), xu_at, xu_cell _ _ _ (by omega), hA, xu_cell _ _ _ (by omega), xu_cell _ _ _ (by omega), xu_cell _ _ _ (by omega), xu_cell _ _ _ (by omega), xu_cell _ _ _ (by omega)]
    have kB : KX p m X B := ⟨fun j hj c hc => by
      rcases hj with rfl | rfl | rfl | rfl | rfl | rfl
      · rw [b1, if_neg (by omega)]
      · rw [b3, if_neg (by omega)]
      · rw [bo 5 (by decide)]
      · rw [bo 6 (by decide)]
      · rw [b7, if_neg (by omega)]
      · rw [b8, if_neg (by omega)], fun i _ => by rw [bo 4 (by decide)], fun j hj i hi => by
      rcases hj with rfl | rfl
      · rw [b9, if_neg (by omega)]
      · rw [b10, if_neg (by omega)]⟩
    have fB : FXp p X B := ⟨fun x _ hx => bO x (by omega), fun j _ => by rw [bO 2 (by omega)]⟩
    have hB1 : SR false b n e B Y := h.ofX (fun j _ => by rw [bO 2 (by omega)]) (bO 3 (by omega))
    obtain ⟨C, D, c1, c2, c3, c4, c5⟩ := adv_sim hL hB hB1
    have le : e < lxE b n e := lx_more (lw := false) h.2.2 (by omega)
    have fC := c4.t
    have fD := c5.t
    rw [c1, c2, xb1_some, xb1_some]
    unfold f_N_readHolds
    obtain ⟨r, X1, Y1, t1, t2, t3, t4, t5⟩ := takeKey_sim hL hB c3 (k := 6) (by decide)
    rw [show km 6 = 6 from rfl] at t2
    rw [t1, t2, xb2_some, xb2_some]
    have fX1 : FXt B X1 := fC.tr t3
    have fY1 : FYt Y Y1 := fD.tr t4
    rcases t5 with ⟨rfl, t5, t6, -⟩ | ⟨rfl, t5⟩
    · rw [if_neg (by decide), if_neg (by decide)]
      obtain ⟨X2, Y2, u1, u2, u3, u4, u5, u6⟩ := holds_sim hL hp (by omega) hm hB m8 (k : Int) v (fun v2_37 M_38 => mkLim S (k : Int) v2_37 M_38) 4 xfu xfu 0 (lxE b n (lxE b n e)) X1 Y1 (by omega) (by omega) (by omega) t5 (fun i hi => by omega)
      rw [show ((0 : Nat) : Int) = 0 from rfl] at u6
      have fX2 : FXp p X X2 := fB.tr ((fX1.p p).tr ⟨fun x h1 h2 => u1 x h1 (by omega), u2⟩)
      have fY2 : FYp Y Y2 := fY1.p.tr ⟨fun x h1 h2 => u4 x h1 (by omega), fun j hj => u5 j (by omega)⟩
      rcases u6 with ⟨v1, v2, ⟨e2, v3, v4⟩, v5⟩ | ⟨v1, v2, v3⟩
      · rw [v1, v2, xb2_some, if_neg (by decide)]
        have x2s : X2 (p + 3) m = (k : Int) := by rw [u1 _ (by omega) (by omega), fX1.1 _ (by omega), b3, if_pos rfl]
        obtain ⟨X3, Y3, l1, l2, l3⟩ := limit_sim hL hp hp4 hB v4 m8 hk x2s v
        have fX3 : FXp p X X3 := fX2.tr ⟨fun x h1 h2 => l1.1 x h1 (by omega) (by omega), l1.2.1⟩
        have fY3 : FYp Y Y3 := fY2.tr l2.p
        rcases l3 with ⟨L, F, g1, g2, ⟨e3, g3, g4⟩, ⟨g5, g6, g7⟩, ⟨g8, g9, g10, g11⟩⟩ | ⟨g1, g2, g3⟩
        · rw [g1, g2, xb2_some, if_neg (by decide)]
          have y3 : Y3 104 28 = (m : Int) := by rw [l2.2 28 (by decide), u5 28 (by decide), fY1.2 28 (by decide)]; exact y28
          have s := isSign_eq g4 59
          unfold f_A_takeSign M_makes_J265
          rw [s.1, s.2, xb1_some, xb1_some]
          by_cases z : lxK false b n e3 = 3 ∧ lxV b n e3 = 59
          · rw [if_pos z, stands_ok g4 (by omega) (by decide), xb2_some, if_neg (by decide), if_neg (by decide)]
            obtain ⟨V, w1, w2, w3⟩ := makes_F283 hm m8 (k : Int) v L F (fun (v2_70 : Int) (v4_71 : Int) (v5_72 : Int) (M_73 : xM) =>
        xch (0 ≤ M_73 104 28 ∧ M_73 104 28 < 8) <|
        xl (xu M_73 (S 104 17) (Int.toNat (M_73 104 28)) v2_70) fun M_75 =>
        xch (0 ≤ M_75 104 28 ∧ M_75 104 28 < 8) <|
        xl (xu M_75 (S 104 19) (Int.toNat (M_75 104 28)) (k : Int)) fun M_77 =>
        xch (0 ≤ M_77 104 28 ∧ M_77 104 28 < 8) <|
        xl (xu M_77 (S 104 21) (Int.toNat (M_77 104 28)) v4_71) fun M_79 =>
        xch (0 ≤ M_79 104 28 ∧ M_79 104 28 < 8) <|
        xl (xu M_79 (S 104 22) (Int.toNat (M_79 104 28)) v5_72) fun M_81 =>
        xch (0 ≤ M_81 104 28 ∧ M_81 104 28 < 8) <|
        xl (xu M_81 (S 104 23) (Int.toNat (M_81 104 28)) 0) fun M_83 =>
        xl (xu M_83 104 28 (w32 ((M_83 104 28) + 1))) fun M_84 =>
        xb1 (f_M_next S 104 M_84) fun M_85 =>
        some (1, M_85)) 4 xfu 0 Y3 (by omega) (by omega) y3
            have v28 : V 104 28 = (m : Int) := by rw [w2 104 (by decide)]; exact y3
            have v28' : ∀ (i j : Nat) (q : Int) (Z : xM), Z 104 28 = (m : Int) → i ≠ 104 → xu Z i j q 104 28 = (m : Int) := fun i j q Z hz hi => by rw [xu_cell _ _ _ (fun y => hi y.symm)]; exact hz
            obtain ⟨G, hG⟩ : ∃ G, G = xu (xu (xu (xu (xu (xu V 110 m v) 112 m (k : Int)) 114 m L) 115 m F) 116 m 0) 104 28 ((m : Int) + 1) := ⟨_, rfl⟩
            have gO : ∀ x, x ≠ 104 → x ≠ 110 → x ≠ 112 → x ≠ 114 → x ≠ 115 → x ≠ 116 → G x = V x := fun x h1 h2 h3 h4 h5 h6 => by rw [hG, xu_cell _ _ _ h1, xu_cell _ _ _ h6, xu_cell _ _ _ h5, xu_cell _ _ _ h4, xu_cell _ _ _ h3, xu_cell _ _ _ h2]
            have g104 : ∀ j, G 104 j = if j = 28 then (m : Int) + 1 else V 104 j := fun j => by rw [hG, xu_at, xu_cell _ _ _ (by decide), xu_cell _ _ _ (by decide), xu_cell _ _ _ (by decide), xu_cell _ _ _ (by decide), xu_cell _ _ _ (by decide)]
            have g110 : ∀ i, G 110 i = if i = m then v else V 110 i := fun i => by rw [hG, xu_cell _ _ _ (by decide), xu_cell _ _ _ (by decide), xu_cell _ _ _ (by decide), xu_cell _ _ _ (by decide), xu_cell _ _ _ (by decide), xu_at]
            have g112 : ∀ i, G 112 i = if i = m then (k : Int) else V 112 i := fun i => by rw [hG, xu_cell _ _ _ (by decide), xu_cell _ _ _ (by decide), xu_cell _ _ _ (by decide), xu_cell _ _ _ (by decide), xu_at, xu_cell _ _ _ (by decide)]
            have g114 : ∀ i, G 114 i = if i = m then L else V 114 i := fun i => by rw [hG, xu_cell _ _ _ (by decide), xu_cell _ _ _ (by decide), xu_cell _ _ _ (by decide), xu_at, xu_cell _ _ _ (by decide), xu_cell _ _ _ (by decide)]
            have g115 : ∀ i, G 115 i = if i = m then F else V 115 i := fun i => by rw [hG, xu_cell _ _ _ (by decide), xu_cell _ _ _ (by decide), xu_at, xu_cell _ _ _ (by decide), xu_cell _ _ _ (by decide), xu_cell _ _ _ (by decide)]
            have g116 : ∀ i, G 116 i = if i = m then 0 else V 116 i := fun i => by rw [hG, xu_cell _ _ _ (by decide), xu_at, xu_cell _ _ _ (by decide), xu_cell _ _ _ (by decide), xu_cell _ _ _ (by decide), xu_cell _ _ _ (by decide)]
            have hG1 : SR false b n e3 X3 G := g4.ofY (fun j h1 h2 h3 h4 => by rw [g104, if_neg (by omega), w2 104 (by decide)]) (by rw [gO 109 (by decide) (by decide) (by decide) (by decide) (by decide) (by decide), w2 109 (by decide)])
            obtain ⟨X4, Y4, q1, q2, q3, q4, q5⟩ := adv_sim hL hB hG1
            have fX4 := q4.t
            have fY4 := q5.t
            have kX : KX p m X X4 := kB.tr ((fX1.k (by omega)).tr (KX.tr (B := X2) ⟨fun j hj c _ => by rw [u1 _ (by omega) (by omega)], fun i hi => u3 i hi, fun j hj i _ => by rw [u1 _ (by omega) (by omega)]⟩ (KX.tr (B := X3) ⟨fun j hj c hc => by
              by_cases j5 : j = 5
              · rw [j5]; exact (l1.2.2 c (by omega)).1
              · by_cases j6 : j = 6
                · rw [j6]; exact (l1.2.2 c (by omega)).2
                · rw [l1.1 _ (by omega) (by omega) (by omega)], fun i _ => by rw [l1.1 _ (by omega) (by omega) (by omega)], fun j hj i _ => by rw [l1.1 _ (by omega) (by omega) (by omega)]⟩ (fX4.k (by omega)))))
            have kY : KY m Y Y4 := (fY1.k).tr (KY.tr (B := Y2) (KY.of fun x h1 h2 => u4 x (by omega) (by omega)) (KY.tr (B := Y3) l2.k (KY.tr (B := G) ⟨fun j hj c hc => by
              rcases hj with rfl | rfl | rfl | rfl | rfl
              · rw [g110, if_neg (by omega), w2 110 (by decide)]
              · rw [g112, if_neg (by omega), w2 112 (by decide)]
              · rw [g114, if_neg (by omega), w2 114 (by decide)]
              · rw [g115, if_neg (by omega), w2 115 (by decide)]
              · rw [g116, if_neg (by omega), w2 116 (by decide)], fun i hi => by rw [gO 113 (by decide) (by decide) (by decide) (by decide) (by decide) (by decide), w3, if_neg (by omega)], fun j hj i _ => by rw [gO j (by omega) (by omega) (by omega) (by omega) (by omega) (by omega), w2 j (by omega)]⟩ fY4.k)))
            have f2 : X4 (p + 2) = X (p + 2) := by rw [fX4.1 _ (by omega), l1.1 _ (by omega) (by omega) (by omega), u1 _ (by omega) (by omega), fX1.1 _ (by omega), bo 2 (by decide)]
            have f11 : X4 (p + 11) = X (p + 11) := by rw [fX4.1 _ (by omega), l1.1 _ (by omega) (by omega) (by omega), u1 _ (by omega) (by omega), fX1.1 _ (by omega), bO (p + 11) (by omega)]
            have fp : ∀ i, X4 p i = B p i := fun i => by rw [fX4.1 _ (by omega), l1.1 _ (by omega) (by omega) (by omega), u1 _ (by omega) (by omega), fX1.1 _ (by omega)]
            have fp1 : ∀ j, j = 1 ∨ j = 3 ∨ j = 7 ∨ j = 8 ∨ j = 9 ∨ j = 10 → X4 (p + j) = B (p + j) := fun j hj => by rw [fX4.1 _ (by omega), l1.1 _ (by omega) (by omega) (by omega), u1 _ (by omega) (by omega), fX1.1 _ (by omega)]
            have fq : ∀ x, x = 111 ∨ x = 119 → Y4 x = Y x := fun x hx => by rw [fY4.1 x (by omega), gO x (by omega) (by omega) (by omega) (by omega) (by omega) (by omega), w2 x (by omega), l2.1 x (by omega), u4 x (by omega) (by omega), fY1.1 x (by omega)]
            refine ⟨1, X4, Y4, ?_, ?_, fX3.tr (fX4.p p), fY3.tr (FYp.tr (B := G) ⟨fun x h1 h2 => by rw [gO x h1 (by omega) (by omega) (by omega) (by omega) (by omega), w2 x (by omega)], fun j hj => by rw [g104, if_neg (by omega), w2 104 (by decide)]⟩ fY4.p), Or.inl ⟨rfl, _, m + 1, ?_, q3, ⟨by omega, hq4⟩, ⟨?_, ?_⟩, ⟨?_, ?_⟩, fun c hc => ?_, fun w hw => ?_⟩⟩
            · rw [q1, xb1_some, xb2_some, if_neg (by decide)]
            · refine w1.trans ?_
              rw [v28, xch_pos (by omega), xl_eq, v28' _ _ _ V v28 (by rw [s17]; decide), xch_pos (by omega), xl_eq]
              have z2 := v28' (S 104 17) m v V v28 (by rw [s17]; decide)
              have z3 := v28' (S 104 19) m (k : Int) _ z2 (by rw [s19]; decide)
              have z4 := v28' (S 104 21) m L _ z3 (by rw [s21]; decide)
              have z5 := v28' (S 104 22) m F _ z4 (by rw [s22]; decide)
              have z6 := v28' (S 104 23) m 0 _ z5 (by rw [s23]; decide)
              rw [Int.toNat_natCast, z3, xch_pos (by omega), xl_eq, Int.toNat_natCast, z4, xch_pos (by omega), xl_eq, Int.toNat_natCast, z5, xch_pos (by omega), xl_eq, Int.toNat_natCast, z6, xl_eq, w32_of (x := (m : Int) + 1) (by omega) (by omega), s17, s19, s21, s22, s23, ← hG, q2, xb1_some]
            · have := lx_in (b := b) (n := n) (e := e3) g4.2.2
              have := lx_in (b := b) (n := n) (e := lxE b n e) c3.2.2
              omega
            · rw [fp, b0, if_pos rfl]; rfl
            · rw [fY4.2 28 (by decide), g104, if_pos rfl]; rfl
            · rw [fp, b0, if_neg (by decide)]; exact x1
            · rw [fY4.2 29 (by decide), g104, if_neg (by decide), w2 104 (by decide), l2.2 29 (by decide), u5 29 (by decide), fY1.2 29 (by decide)]; exact y29
            · by_cases cm : c = m
              · subst cm
                have e3' : X4 (p + 3) c = (k : Int) := by rw [fp1 3 (by decide), b3, if_pos rfl]
                refine ⟨?_, ⟨?_, ?_⟩, fun s hs => ?_, ⟨?_, ?_⟩, ⟨?_, ?_, ?_⟩, Or.inl ⟨?_, ?_, ?_, ?_, ?_⟩⟩
                · rw [fp1 1 (by decide), b1, if_pos rfl, fY4.1 110 (by decide), g110, if_pos rfl]; exact a5
                · rw [e3']; omega
                · rw [e3', fY4.1 112 (by decide), g112, if_pos rfl]
                · have q := v5 s hs
                  have e4 : X4 (p + 4) = X2 (p + 4) := by rw [fX4.1 _ (by omega), l1.1 _ (by omega) (by omega) (by omega)]
                  rw [e4, fY4.1 113 (by decide), gO 113 (by decide) (by decide) (by decide) (by decide) (by decide) (by decide), w3, if_pos (by omega), show 4 * c + s - 4 * c = s by omega, l2.1 120 (by decide)]
                  exact q
                · rw [fX4.1 _ (by omega), g5]; exact ⟨g6, g7⟩
                · rw [fX4.1 _ (by omega), g5, fY4.1 114 (by decide), g114, if_pos rfl]
                · rw [fX4.1 _ (by omega), g8]; exact ⟨g9, g10⟩
                · rw [fX4.1 _ (by omega), g8, fY4.1 115 (by decide), g115, if_pos rfl]
                · rw [fX4.1 (p + 6) (by omega), g8, e3']; exact g11
                · rw [fp1 7 (by decide), b7, if_pos rfl]
                · rw [fY4.1 116 (by decide), g116, if_pos rfl]
                · rw [fp1 8 (by decide), b8, if_pos rfl]
                · rw [fp1 9 (by decide), b9, if_pos rfl]
                · rw [fp1 10 (by decide), b10, if_pos rfl]
              · exact (hC c (by omega)).keep (by omega) (by omega) kX kY
            · rw [f2, f11, fq 111 (by decide), fq 119 (by decide)]
              have := hWk w hw
              exact ⟨this.1, ⟨this.2.1.1, by omega⟩, this.2.2⟩
          · rw [if_neg z]
            obtain ⟨X', Y', z1, z2, z3, z4, z5⟩ := stands_fail g4
            rw [z1, z2, xb2_some, xb2_some, if_pos rfl, if_pos rfl, xch_01.1, xb2_some, if_pos rfl]
            exact ⟨0, X', Y', rfl, rfl, fX3.tr (z4.p p), fY3.tr z5.p, Or.inr ⟨rfl, z3⟩⟩
        · rw [g1, g2, xb2_some, if_pos rfl]
          exact ⟨0, X3, Y3, rfl, rfl, fX3, fY3, Or.inr ⟨rfl, g3⟩⟩
      · rw [v1, v2, xb2_some, if_pos rfl]
        exact ⟨0, X2, Y2, rfl, rfl, fX2, fY2, Or.inr ⟨rfl, v3⟩⟩
    · rw [if_pos rfl, if_pos rfl, xb2_some, if_pos rfl]
      exact ⟨0, X1, Y1, rfl, rfl, fB.tr (fX1.p p), fY1.p, Or.inr ⟨rfl, t5⟩⟩
