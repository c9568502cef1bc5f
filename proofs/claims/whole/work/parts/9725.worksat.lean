/-! ===== plant: works ===== -/
def wkRest (S : xR) (M_1 : xM) : Option (Int × xM) :=
  xb1 (f_M_nameHere S 104 M_1) fun r_3 =>
  if r_3 = -1 then
    xb2 (f_M_fails 104 2 M_1) fun r_6 M_7 =>
    xch (r_6 = 0 ∨ r_6 = 1) <|
    some (r_6, M_7)
  else
    xb1 (f_M_isThere S 104 r_3 M_1) fun r_10 =>
    if r_10 = 0 then
      if M_1 104 29 = 4 then
        xb2 (f_M_fails 104 6 M_1) fun r_14 M_15 =>
        xch (r_14 = 0 ∨ r_14 = 1) <|
        some (r_14, M_15)
      else
        xb1 (f_M_next S 104 M_1) fun M_18 =>
        xb2 (f_M_wantKey S 104 14 M_18) fun r_20 M_21 =>
        if r_20 = 0 then
          some (0, M_21)
        else
          xb2 (f_M_known S 104 M_21) fun r_24 M_25 =>
          if r_24 = 0 then
            some (0, M_25)
          else
            xl (M_25 104 12) fun v3_28 =>
            xb1 (f_M_next S 104 M_25) fun M_29 =>
            xb1 (f_M_isSign 104 59 M_29) fun r_31 =>
            if r_31 = 0 then
              xb2 (f_M_fails 104 2 M_29) fun r_34 M_35 =>
              xch (r_34 = 0 ∨ r_34 = 1) <|
              some (r_34, M_35)
            else
              xch (0 ≤ M_29 104 29 ∧ M_29 104 29 < 4) <|
              xl (xu M_29 (S 104 18) (Int.toNat (M_29 104 29)) r_3) fun M_39 =>
              xch (0 ≤ M_39 104 29 ∧ M_39 104 29 < 4) <|
              xl (xu M_39 (S 104 26) (Int.toNat (M_39 104 29)) v3_28) fun M_41 =>
              xl (xu M_41 104 29 (w32 ((M_41 104 29) + 1))) fun M_42 =>
              xb1 (f_M_next S 104 M_42) fun M_43 =>
              some (1, M_43)
    else
      xb2 (f_M_fails 104 3 M_1) fun r_45 M_46 =>
      xch (r_45 = 0 ∨ r_45 = 1) <|
      some (r_45, M_46)
theorem wk_eq {S : xR} {Y0 Y : xM} (h : f_M_next S 104 Y0 = some Y) : f_M_worksAt S 104 Y0 = wkRest S Y := by
  unfold f_M_worksAt
  rw [h, xb1_some]
  rfl
/-- a known cleaner: the class's three steps against the model's one -/
theorem known_sim {R S : xR} (hL : LR R S false) {p : Nat} (hp : PnR R p) (hm : MR S) {b : Nat → Int} {n e : Nat} (hB : TxB b n) {X Y : xM} (h : SR false b n e X Y) {m : Nat} (hm8 : m ≤ 8) (x0 : X p 0 = (m : Int)) (y28 : Y 104 28 = (m : Int)) (hn : ∀ c, c < m → NmR (X (p + 1) c) (Y 110 c)) :
    (∃ X' Y', f_A_isName 2 X = some 0 ∧ f_A_stands 2 0 X = some (0, X') ∧ f_M_known S 104 Y = some (0, Y') ∧ FT X' Y' ∧ FXt X X' ∧ FYt Y Y') ∨
    (∃ X' Y', f_A_isName 2 X = some 1 ∧ f_A_stands 2 1 X = some (1, X) ∧ f_N_cleanerNamed R p (X 2 8) X = some (-1) ∧ f_A_wrong 2 3 X = some (0, X') ∧ f_M_known S 104 Y = some (0, Y') ∧ FT X' Y' ∧ FXt X X' ∧ FYt Y Y') ∨
    (∃ c : Nat, f_A_isName 2 X = some 1 ∧ f_A_stands 2 1 X = some (1, X) ∧ f_N_cleanerNamed R p (X 2 8) X = some (c : Int) ∧ c < m ∧ f_M_known S 104 Y = some (1, xu Y 104 12 (c : Int)) ∧ lxK false b n e = 1) := by
  have xf : xfu = 1000000 := rfl
  unfold f_M_known
  rcases name_sim hL hB h with ⟨-, k1, i1, v, j1, j2, j3⟩ | ⟨-, i1, j1⟩
  · obtain ⟨r, c1, c2, c3⟩ := cln_F2 hp hm hm8 x0 y28 hn j3 m xfu xfu 0 (by omega) (by omega) (by omega)
    have c1' : f_N_cleanerNamed R p (X 2 8) X = some r := c1
    have c2' : f_M_cleanerOf S 104 v Y = some r := c2
    have st := stands_ok h (show lxK false b n e ≠ 4 by omega) (r := 1) (by decide)
    rw [j1, xb1_some, if_neg (show v ≠ -1 by omega), c2', xb1_some, xl_eq, xu_at, if_pos rfl]
    by_cases z : r = -1
    · subst z
      have h2 : SR false b n e X (xu Y 104 12 (-1)) := h.ofY (fun j _ h2 _ _ => by rw [xu_at, if_neg h2]) (xu_cell _ _ _ (by decide))
      obtain ⟨W, V, w1, w2, w3, w4, w5⟩ := wrong_fail h2 (show lxK false b n e ≠ 4 by omega) (k := 3) (by decide)
      refine Or.inr (Or.inl ⟨W, V, i1, st, c1', w1, ?_, w3, w4, ⟨fun x hx => by rw [w5.1 x hx, xu_cell _ _ _ hx], fun j hj => by rw [w5.2 j hj, xu_at, if_neg (by omega)]⟩⟩)
      rw [if_pos rfl, w2, xb2_some, if_pos rfl]
    · have hr : 0 ≤ r ∧ r < (m : Int) := c3.elim (fun q => absurd q z) id
      obtain ⟨c, rfl⟩ : ∃ c : Nat, r = c := ⟨r.toNat, by omega⟩
      refine Or.inr (Or.inr ⟨c, i1, st, c1', by omega, ?_, k1⟩)
      rw [if_neg z]
  · obtain ⟨X', Y', x1, x2, x3, x4, x5⟩ := stands_fail h
    refine Or.inl ⟨X', Y', i1, x1, ?_, x3, x4, x5⟩
    rw [j1, xb1_some, if_pos rfl, x2, xb2_some, xch_01.1]
theorem works_sim {R S : xR} (hL : LR R S false) {p : Nat} (hp : PnR R p) (hp4 : 4 ≤ p) (hp92 : p + 12 ≤ 104) (hm : MR S) {b : Nat → Int} {n e : Nat} (hB : TxB b n) {X Y : xM} (h : SR false b n e X Y) {m q : Nat} (hP : PR p m q X Y) :
    ∃ r X' Y', f_N_readWorks R p 2 X = some (r, X') ∧ wkRest S Y = some (r, Y') ∧ FXp p X X' ∧ FYp Y Y' ∧ ((r = 1 ∧ ∃ e' q', e < e' ∧ SR false b n e' X' Y' ∧ PR p m q' X' Y') ∨ (r = 0 ∧ FT X' Y')) := by
  have xf : xfu = 1000000 := rfl
  obtain ⟨⟨hm8, hq4⟩, ⟨x0, y28⟩, ⟨x1, y29⟩, hC, hWk⟩ := hP
  have hP' : PR p m q X Y := ⟨⟨hm8, hq4⟩, ⟨x0, y28⟩, ⟨x1, y29⟩, hC, hWk⟩
  have r3 : R p 3 = p + 2 := hp 3 (by decide) (by decide)
  have r12 : R p 12 = p + 11 := hp 12 (by decide) (by decide)
  have s18 : S 104 18 = 111 := hm.1 18 (by decide) (by decide)
  have s26 : S 104 26 = 119 := hm.1 26 (by decide) (by decide)
  obtain ⟨fl, hfl⟩ : ∃ fl : Int, fl = if q < 4 then 0 else 1 := ⟨_, rfl⟩
  have st : f_N_readWorks R p 2 X = N_readWorks_J15 R p 2 fl 2 p X := by
    unfold f_N_readWorks
    rw [x1, hfl]
    by_cases z : q < 4
    · rw [if_pos (by omega), if_pos z]
    · rw [if_neg (by omega), if_neg z]
  rw [st]
  unfold N_readWorks_J15 wkRest
  rcases new_sim hL hp hm hB h hP' fl with ⟨X', Y', a1, a2, a3, a4, a5, a6⟩ | ⟨v, X', Y', a1, a2, a3, a4, a5, a6, a7, a8⟩ | ⟨f0, v, X', Y', a1, a2, a3, a4, a5, a6, a7, a8⟩ | ⟨f0, v, a1, a2, a3, a4, a5, a6⟩
  · rw [a1, a2, xb2_some, xb1_some, if_pos rfl, if_pos rfl, a3, xb2_some, xch_01.1]
    exact ⟨0, X', Y', rfl, rfl, a5.p p, a6.p, Or.inr ⟨rfl, a4⟩⟩
  · rw [a1, a2, xb2_some, xb1_some, if_pos rfl, if_neg a3, a4, xb1_some, if_neg (by decide), a5, xb2_some, xch_01.1]
    exact ⟨0, X', Y', rfl, rfl, a7.p p, a8.p, Or.inr ⟨rfl, a6⟩⟩
  · have m8 : q = 4 := by
      by_cases z : q < 4
      · rw [if_pos z] at hfl; exact absurd hfl f0
      · omega
    rw [a1, a2, xb2_some, xb1_some, if_pos rfl, if_neg a3, a4, xb1_some, if_pos rfl, y29, if_pos (show (q : Int) = 4 by omega), a5, xb2_some, xch_01.1]
    exact ⟨0, X', Y', rfl, rfl, a7.p p, a8.p, Or.inr ⟨rfl, a6⟩⟩
  · have m8 : q < 4 := by
      by_cases z : q < 4
      · exact z
      · rw [if_neg z] at hfl; omega
    rw [a1, a2, xb2_some, xb1_some, if_neg (by decide), if_neg a3, a4, xb1_some, if_pos rfl, y29, if_neg (show (q : Int) ≠ 4 by omega), xl_eq, xl_eq, x1, w32_of (x := (q : Int) + 1) (by omega) (by omega), xch_pos (by omega), r3, Int.toNat_natCast, xl_eq]
    have w8 : xu X p 1 ((q : Int) + 1) 2 8 = X 2 8 := by rw [xu_cell _ _ _ (by omega)]
    rw [w8]
    obtain ⟨B, hBd⟩ : ∃ B, B = xu (xu X p 1 ((q : Int) + 1)) (p + 2) q (X 2 8) := ⟨_, rfl⟩
    rw [← hBd]
    have bO : ∀ x, x ≠ p → x ≠ p + 2 → B x = X x := fun x h1 h2 => by rw [hBd, xu_cell _ _ _ h2, xu_cell _ _ _ h1]
    have b0 : ∀ i, B p i = if i = 1 then (q : Int) + 1 else X p i := fun i => by rw [hBd, xu_cell _ _ _ (by omega), xu_at]
    have b2 : ∀ i, B (p + 2) i = if i = q then X 2 8 else X (p + 2) i := fun i => by rw [hBd, xu_at, xu_cell _ _ _ (by omega)]
    have fB : FXp p X B := ⟨fun x _ hx => bO x (by omega) (by omega), fun j _ => by rw [bO 2 (by omega) (by omega)]⟩
    have hB1 : SR false b n e B Y := h.ofX (fun j _ => by rw [bO 2 (by omega) (by omega)]) (bO 3 (by omega) (by omega))
    obtain ⟨C, D, c1, c2, c3, c4, c5⟩ := adv_sim hL hB hB1
    have le : e < lxE b n e := lx_more (lw := false) h.2.2 (by omega)
    rw [c1, c2, xb1_some, xb1_some]
    obtain ⟨r, X1, Y1, t1, t2, t3, t4, t5⟩ := takeKey_sim hL hB c3 (k := 12) (by decide)
    rw [show km 12 = 14 from rfl] at t2
    rw [t1, t2, xb2_some, xb2_some]
    have fX1 : FXt B X1 := c4.t.tr t3
    have fY1 : FYt Y Y1 := c5.t.tr t4
    rcases t5 with ⟨rfl, t5, t6, -⟩ | ⟨rfl, t5⟩
    · rw [if_neg (by decide), if_neg (by decide)]
      have kn := known_sim hL hp hm hB t5 hm8 (by rw [fX1.1 p (by omega), b0, if_neg (by decide)]; exact x0) (by rw [fY1.2 28 (by decide)]; exact y28) (fun c hc => by rw [fX1.1 _ (by omega), bO _ (by omega) (by omega), fY1.1 110 (by decide)]; exact (hC c hc).1)
      rcases kn with ⟨X', Y', k1, k2, k3, k4, k5, k6⟩ | ⟨X', Y', k1, k2, k3, k4, k5, k6, k7, k8⟩ | ⟨c, k1, k3, k4, k5, k6, k7⟩
      · rw [k1, xb1_some, k2, xb2_some, if_pos rfl, k3, xb2_some, if_pos rfl]
        exact ⟨0, X', Y', rfl, rfl, fB.tr ((fX1.tr k5).p p), (fY1.tr k6).p, Or.inr ⟨rfl, k4⟩⟩
      · rw [k1, xb1_some, k2, xb2_some, if_neg (by decide), k3, xb1_some, if_pos rfl, k4, xb2_some, xch_01.1, k5, xb2_some, if_pos rfl]
        exact ⟨0, X', Y', rfl, rfl, fB.tr ((fX1.tr k7).p p), (fY1.tr k8).p, Or.inr ⟨rfl, k6⟩⟩
      · rw [k1, xb1_some, k3, xb2_some, if_neg (by decide), k4, xb1_some, if_neg (show (c : Int) ≠ -1 by omega), k6, xb2_some, if_neg (by decide), xl_eq, xl_eq, xu_at, if_pos rfl, r12]
        obtain ⟨E, hE⟩ : ∃ E, E = xu X1 (p + 11) q (c : Int) := ⟨_, rfl⟩
        obtain ⟨F, hF⟩ : ∃ F, F = xu Y1 104 12 (c : Int) := ⟨_, rfl⟩
        rw [← hE, ← hF]
        have hEF : SR false b n (lxE b n (lxE b n e)) E F := by
          rw [hE, hF]
          exact (t5.plx (by omega) _).ofY (fun j _ h2 _ _ => by rw [xu_at, if_neg h2]) (xu_cell _ _ _ (by decide))
        obtain ⟨X2, Y2, d1, d2, d3, d4, d5⟩ := adv_sim hL hB hEF
        rw [d1, d2, xb1_some, xb1_some]
        have y2_29 : Y2 104 29 = (q : Int) := by rw [d5.2 29 (by decide), hF, xu_at, if_neg (by decide), fY1.2 29 (by decide)]; exact y29
        have fE : FXp p X E := fB.tr ((fX1.p p).tr ⟨fun x h1 h2 => by rw [hE, xu_cell _ _ _ (by omega)], fun j _ => by rw [hE, xu_cell _ _ _ (by omega)]⟩)
        have fF : FYp Y F := fY1.p.tr ⟨fun x h1 _ => by rw [hF, xu_cell _ _ _ h1], fun j hj => by rw [hF, xu_at, if_neg (by omega)]⟩
        have s := isSign_eq d3 59
        unfold f_A_takeSign
        rw [s.1, s.2, xb1_some, xb1_some]
        by_cases z : lxK false b n (lxE b n (lxE b n (lxE b n e))) = 3 ∧ lxV b n (lxE b n (lxE b n (lxE b n e))) = 59
        · rw [if_pos z, stands_ok d3 (by omega) (by decide), xb2_some, if_neg (by decide), if_neg (by decide), y2_29, xch_pos (by omega), xl_eq, s18, Int.toNat_natCast]
          have z1 : xu Y2 111 q v 104 29 = (q : Int) := by rw [xu_cell _ _ _ (by decide)]; exact y2_29
          have z2 : xu (xu Y2 111 q v) 119 q (c : Int) 104 29 = (q : Int) := by rw [xu_cell _ _ _ (by decide)]; exact z1
          rw [z1, xch_pos (by omega), xl_eq, s26, Int.toNat_natCast, z2, xl_eq, w32_of (x := (q : Int) + 1) (by omega) (by omega)]
          obtain ⟨G, hG⟩ : ∃ G, G = xu (xu (xu Y2 111 q v) 119 q (c : Int)) 104 29 ((q : Int) + 1) := ⟨_, rfl⟩
          rw [← hG]
          have gO : ∀ x, x ≠ 104 → x ≠ 111 → x ≠ 119 → G x = Y2 x := fun x h1 h2 h3 => by rw [hG, xu_cell _ _ _ h1, xu_cell _ _ _ h3, xu_cell _ _ _ h2]
          have g104 : ∀ j, G 104 j = if j = 29 then (q : Int) + 1 else Y2 104 j := fun j => by rw [hG, xu_at, xu_cell _ _ _ (by decide), xu_cell _ _ _ (by decide)]
          have g111 : ∀ i, G 111 i = if i = q then v else Y2 111 i := fun i => by rw [hG, xu_cell _ _ _ (by decide), xu_cell _ _ _ (by decide), xu_at]
          have g119 : ∀ i, G 119 i = if i = q then (c : Int) else Y2 119 i := fun i => by rw [hG, xu_cell _ _ _ (by decide), xu_at, xu_cell _ _ _ (by decide)]
          have hG1 : SR false b n (lxE b n (lxE b n (lxE b n e))) X2 G := d3.ofY (fun j h1 h2 h3 h4 => by rw [g104, if_neg (by omega)]) (gO 109 (by decide) (by decide) (by decide))
          obtain ⟨X4, Y4, q1, q2, q3, q4, q5⟩ := adv_sim hL hB hG1
          have xx : ∀ x, x ≠ 2 → x ≠ p → x ≠ p + 2 → x ≠ p + 11 → X4 x = X x := fun x h1 h2 h3 h4 => by rw [q4.1 x h1, d4.1 x h1, hE, xu_cell _ _ _ h4, fX1.1 x h1, bO x h2 h3]
          have yy : ∀ x, x ≠ 104 → x ≠ 111 → x ≠ 119 → Y4 x = Y x := fun x h1 h2 h3 => by rw [q5.1 x h1, gO x h1 h2 h3, d5.1 x h1, hF, xu_cell _ _ _ h1, fY1.1 x h1]
          have kX : KX p m X X4 := ⟨fun j hj c _ => by rw [xx _ (by omega) (by omega) (by omega) (by omega)], fun i _ => by rw [xx _ (by omega) (by omega) (by omega) (by omega)], fun j hj i _ => by rw [xx _ (by omega) (by omega) (by omega) (by omega)]⟩
          have kY : KY m Y Y4 := ⟨fun j hj c _ => by rw [yy _ (by omega) (by omega) (by omega)], fun i _ => by rw [yy _ (by omega) (by omega) (by omega)], fun j hj i _ => by rw [yy _ (by omega) (by omega) (by omega)]⟩
          have xp : ∀ i, X4 p i = B p i := fun i => by rw [q4.1 p (by omega), d4.1 p (by omega), hE, xu_cell _ _ _ (by omega), fX1.1 p (by omega)]
          have x2 : ∀ i, X4 (p + 2) i = B (p + 2) i := fun i => by rw [q4.1 _ (by omega), d4.1 _ (by omega), hE, xu_cell _ _ _ (by omega), fX1.1 _ (by omega)]
          have x11 : ∀ i, X4 (p + 11) i = if i = q then (c : Int) else X (p + 11) i := fun i => by rw [q4.1 _ (by omega), d4.1 _ (by omega), hE, xu_at, fX1.1 _ (by omega), bO _ (by omega) (by omega)]
          have y111 : ∀ i, Y4 111 i = if i = q then v else Y 111 i := fun i => by rw [q5.1 111 (by decide), g111, d5.1 111 (by decide), hF, xu_cell _ _ _ (by decide), fY1.1 111 (by decide)]
          have y119 : ∀ i, Y4 119 i = if i = q then (c : Int) else Y 119 i := fun i => by rw [q5.1 119 (by decide), g119, d5.1 119 (by decide), hF, xu_cell _ _ _ (by decide), fY1.1 119 (by decide)]
          refine ⟨1, X4, Y4, ?_, ?_, fE.tr ((d4.t.tr q4.t).p p), fF.tr ((d5.t.p).tr (FYp.tr (B := G) ⟨fun x h1 h2 => gO x h1 (by omega) (by omega), fun j hj => by rw [g104, if_neg (by omega)]⟩ q5.t.p)), Or.inl ⟨rfl, _, q + 1, ?_, q3, ⟨hm8, by omega⟩, ⟨?_, ?_⟩, ⟨?_, ?_⟩, fun c hc => ?_, fun w hw => ?_⟩⟩
          · rw [q1, xb1_some, xb2_some, xch_01.2]
          · rw [q2, xb1_some]
          · have := lx_in (b := b) (n := n) (e := lxE b n (lxE b n (lxE b n e))) d3.2.2
            have := lx_in (b := b) (n := n) (e := lxE b n (lxE b n e)) t5.2.2
            have := lx_in (b := b) (n := n) (e := lxE b n e) c3.2.2
            omega
          · rw [xp, b0, if_neg (by decide)]; exact x0
          · rw [q5.2 28 (by decide), g104, if_neg (by decide), d5.2 28 (by decide), hF, xu_at, if_neg (by decide), fY1.2 28 (by decide)]; exact y28
          · rw [xp, b0, if_pos rfl]; rfl
          · rw [q5.2 29 (by decide), g104, if_pos rfl]; rfl
          · exact (hC c hc).keep hc (Nat.le_refl m) kX kY
          · rw [x2, b2, x11, y111, y119]
            by_cases y : w = q
            · rw [if_pos y, if_pos y, if_pos y, if_pos y]
              exact ⟨a5, by omega, rfl⟩
            · rw [if_neg y, if_neg y, if_neg y, if_neg y]
              exact hWk w (by omega)
        · rw [if_neg z]
          obtain ⟨X', Y', z1, z2, z3, z4, z5⟩ := stands_fail d3
          rw [z1, z2, xb2_some, xb2_some, if_pos rfl, if_pos rfl, xch_01.1, xb2_some, xch_01.1]
          exact ⟨0, X', Y', rfl, rfl, fE.tr ((d4.t.tr z4).p p), fF.tr ((d5.t.tr z5).p), Or.inr ⟨rfl, z3⟩⟩
    · rw [if_pos rfl, if_pos rfl]
      exact ⟨0, X1, Y1, rfl, rfl, fB.tr (fX1.p p), fY1.p, Or.inr ⟨rfl, t5⟩⟩
