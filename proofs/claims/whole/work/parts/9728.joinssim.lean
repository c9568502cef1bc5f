/-! ===== plant: a join, whole ===== -/
theorem CR.keepc {p m c : Nat} {X X' Y Y' : xM} (h : CR p m X Y c) (kx : ∀ j, j = 1 ∨ j = 3 ∨ j = 5 ∨ j = 6 ∨ j = 7 ∨ j = 8 → X' (p + j) c = X (p + j) c) (kx4 : ∀ s, s < 4 → X' (p + 4) (4 * c + s) = X (p + 4) (4 * c + s)) (kx9 : ∀ w, w < 8 → X' (p + 9) (8 * c + w) = X (p + 9) (8 * c + w) ∧ X' (p + 10) (8 * c + w) = X (p + 10) (8 * c + w)) (ky : ∀ j, j = 110 ∨ j = 112 ∨ j = 114 ∨ j = 115 ∨ j = 116 → Y' j c = Y j c) (ky3 : ∀ s, s < 4 → Y' 113 (4 * c + s) = Y 113 (4 * c + s)) (ky7 : ∀ w, w < 8 → Y' 117 (8 * c + w) = Y 117 (8 * c + w) ∧ Y' 118 (8 * c + w) = Y 118 (8 * c + w)) : CR p m X' Y' c := by
  obtain ⟨h1, h2, h3, h4, h5, h6⟩ := h
  unfold CR WyR
  rw [kx 1 (by decide), kx 3 (by decide), kx 5 (by decide), kx 6 (by decide), kx 7 (by decide), kx 8 (by decide), ky 110 (by decide), ky 112 (by decide), ky 114 (by decide), ky 115 (by decide), ky 116 (by decide)]
  refine ⟨h1, h2, fun s hs => by rw [kx4 s hs, ky3 s hs]; exact h3 s hs, h4, h5, ?_⟩
  rcases h6 with ⟨a1, a2, a3, a4, a5⟩ | ⟨a1, a2, a3, a4, a5⟩
  · exact Or.inl ⟨a1, a2, a3, by rw [show 8 * c = 8 * c + 0 from rfl, (kx9 0 (by decide)).1]; exact a4, by rw [show 8 * c = 8 * c + 0 from rfl, (kx9 0 (by decide)).2]; exact a5⟩
  · refine Or.inr ⟨a1, a2, a3, fun w hw => ?_, ?_⟩
    · rw [(kx9 w (by omega)).1, (kx9 w (by omega)).2, (ky7 w (by omega)).1, (ky7 w (by omega)).2]
      exact a4 w hw
    · rw [← a5]
      have cg : ∀ k : Nat, k ≤ 8 → sumN (fun w => X' (p + 10) (8 * c + w)) k = sumN (fun w => X (p + 10) (8 * c + w)) k := by
        intro k
        induction k with
        | zero => intro _; rfl
        | succ k ih =>
          intro hk
          show sumN (fun w => X' (p + 10) (8 * c + w)) k + X' (p + 10) (8 * c + k) = sumN (fun w => X (p + 10) (8 * c + w)) k + X (p + 10) (8 * c + k)
          rw [ih (by omega), (kx9 k (by omega)).2]
      exact cg _ (by omega)
theorem end_F20 {R : xR} {p : Nat} (hp : PnR R p) {X : xM} {c j : Nat} (hc : c < 8) (hj : j ≤ 8) (h8 : X (p + 8) c = (j : Int)) (hs : ∀ w, w < j → 0 ≤ X (p + 10) (8 * c + w) ∧ X (p + 10) (8 * c + w) ≤ 100) (Q : Int → xM → Option (Int × xM)) : ∀ (k f w : Nat), k < f → w + k = j → (0 ≤ sumN (fun w => X (p + 10) (8 * c + w)) w ∧ sumN (fun w => X (p + 10) (8 * c + w)) w ≤ 100 * w) → N_endJoin_F20 R p 2 (c : Int) Q f (sumN (fun w => X (p + 10) (8 * c + w)) w) (w : Int) X = Q (sumN (fun w => X (p + 10) (8 * c + w)) j) X := by
  have r9 : R p 9 = p + 8 := hp 9 (by decide) (by decide)
  have r11 : R p 11 = p + 10 := hp 11 (by decide) (by decide)
  intro k
  induction k with
  | zero =>
    intro f w hf hw _
    obtain ⟨f, rfl⟩ : ∃ g, f = g + 1 := ⟨f - 1, by omega⟩
    have e : w = j := by omega
    rw [N_endJoin_F20, xch_pos (by omega), r9, Int.toNat_natCast, h8, if_neg (by omega), e]
  | succ k ih =>
    intro f w hf hw hb
    obtain ⟨f, rfl⟩ : ∃ g, f = g + 1 := ⟨f - 1, by omega⟩
    have b := hs w (by omega)
    have s1 : sumN (fun w => X (p + 10) (8 * c + w)) (w + 1) = sumN (fun w => X (p + 10) (8 * c + w)) w + X (p + 10) (8 * c + w) := rfl
    rw [N_endJoin_F20, xch_pos (by omega), r9, Int.toNat_natCast, h8, if_pos (by omega), w32_of (x := (c : Int) * 8) (by omega) (by omega), w32_of (x := (c : Int) * 8 + (w : Int)) (by omega) (by omega), xch_pos (by omega), r11, show ((c : Int) * 8 + (w : Int)).toNat = 8 * c + w by omega, xl_eq, xl_eq, ← s1, w32_of (x := sumN (fun w => X (p + 10) (8 * c + w)) (w + 1)) (by omega) (by omega), w32_of (x := (w : Int) + 1) (by omega) (by omega)]
    exact ih f (w + 1) (by omega) (by omega) (by omega)
def jnQ (S : xR) (v1_70 v2_71 v3_72 : Int) (M_73 : xM) : Option (Int × xM) :=
            xb1 (f_M_isSign 104 59 M_73) fun r_74 =>
            if r_74 = 0 then
              xb2 (f_M_fails 104 2 M_73) fun r_77 M_78 =>
              xch (r_77 = 0 ∨ r_77 = 1) <|
              some (r_77, M_78)
            else
              if v2_71 = 100 then
                xch (0 ≤ v1_70 ∧ v1_70 < 8) <|
                xl (xu M_73 (S 104 23) (Int.toNat v1_70) v3_72) fun M_83 =>
                xb1 (f_M_next S 104 M_83) fun M_84 =>
                some (1, M_84)
              else
                xb2 (f_M_fails 104 7 M_73) fun r_86 M_87 =>
                xch (r_86 = 0 ∨ r_86 = 1) <|
                some (r_86, M_87)
def jnRest (S : xR) (M_1 : xM) : Option (Int × xM) :=
  xb2 (f_M_known S 104 M_1) fun r_3 M_4 =>
  if r_3 = 0 then
    some (0, M_4)
  else
    xl (M_4 104 12) fun v1_7 =>
    xch (0 ≤ v1_7 ∧ v1_7 < 8) <|
    if 0 < M_4 (S 104 23) (Int.toNat v1_7) then
      xb2 (f_M_fails 104 5 M_4) fun r_10 M_11 =>
      xch (r_10 = 0 ∨ r_10 = 1) <|
      some (r_10, M_11)
    else
      xb1 (f_M_next S 104 M_4) fun M_14 =>
      xb2 (f_M_wantKey S 104 11 M_14) fun r_16 M_17 =>
      if r_16 = 0 then
        some (0, M_17)
      else
        M_joins_F55 S 104 (jnQ S) xfu v1_7 0 0 1 M_17
theorem jn_eq {S : xR} {Y0 Y : xM} (h : f_M_next S 104 Y0 = some Y) : f_M_joins S 104 Y0 = jnRest S Y := by
  unfold f_M_joins
  rw [h, xb1_some]
  rfl
theorem joins_sim {R S : xR} (hL : LR R S false) {p : Nat} (hp : PnR R p) (hp4 : 4 ≤ p) (hp92 : p + 12 ≤ 104) (hm : MR S) {b : Nat → Int} {n e : Nat} (hB : TxB b n) {X Y : xM} (h : SR false b n e X Y) {m q : Nat} (hP : PR p m q X Y) :
    ∃ r X' Y', f_N_readJoin R p 2 X = some (r, X') ∧ jnRest S Y = some (r, Y') ∧ FXp p X X' ∧ FYp Y Y' ∧ ((r = 1 ∧ ∃ e', e < e' ∧ SR false b n e' X' Y' ∧ PR p m q X' Y') ∨ (r = 0 ∧ FT X' Y')) := by
  have xf : xfu = 1000000 := rfl
  have n10 : ¬ (1 : Int) = 0 := by decide
  obtain ⟨⟨hm8, hq4⟩, ⟨x0, y28⟩, ⟨x1, y29⟩, hC, hWk⟩ := hP
  have r8 : R p 8 = p + 7 := hp 8 (by decide) (by decide)
  have r9 : R p 9 = p + 8 := hp 9 (by decide) (by decide)
  have s23 : S 104 23 = 116 := hm.1 23 (by decide) (by decide)
  have hN : NK p m X Y := ⟨x0, y28, fun c hc => (hC c hc).1⟩
  unfold f_N_readJoin jnRest
  rcases known_sim hL hp hm hB h hm8 hN.1 hN.2.1 hN.2.2 with ⟨X', Y', a1, a2, a3, a4, a5, a6⟩ | ⟨X', Y', a1, a2, a3, a4, a5, a6, a7, a8⟩ | ⟨c, a1, a2, a3, a4, a5, a6⟩
  · rw [a1, xb1_some, a2, xb2_some, if_pos rfl, a3, xb2_some, if_pos rfl]
    exact ⟨0, X', Y', rfl, rfl, a5.p p, a6.p, Or.inr ⟨rfl, a4⟩⟩
  · rw [a1, xb1_some, a2, xb2_some, if_neg n10, a3, xb1_some, if_pos rfl, a4, xb2_some, xch_01.1, a5, xb2_some, if_pos rfl]
    exact ⟨0, X', Y', rfl, rfl, a7.p p, a8.p, Or.inr ⟨rfl, a6⟩⟩
  · obtain ⟨Z, hZ⟩ : ∃ Z, Z = xu Y 104 12 (c : Int) := ⟨_, rfl⟩
    have e12 : Z 104 12 = (c : Int) := by rw [hZ, xu_at, if_pos rfl]
    have zO : ∀ x, x ≠ 104 → Z x = Y x := fun x hx => by rw [hZ, xu_cell _ _ _ hx]
    have z4 : ∀ j, j ≠ 12 → Z 104 j = Y 104 j := fun j hj => by rw [hZ, xu_at, if_neg hj]
    have h2 : SR false b n e X Z := h.ofY (fun j _ h2 _ _ => z4 j h2) (zO 109 (by decide))
    have fZ : FYt Y Z := ⟨zO, fun j hj => z4 j (by omega)⟩
    have cc := hC c a4
    rw [a1, xb1_some, a2, xb2_some, if_neg n10, a3, xb1_some, if_neg (show ¬ (c : Int) = -1 by omega), xch_pos (show 0 ≤ (c : Int) ∧ (c : Int) < 8 by omega), a5, ← hZ, xb2_some, if_neg n10, xl_eq (Z 104 12), e12, xch_pos (show 0 ≤ (c : Int) ∧ (c : Int) < 8 by omega), r8, r9, s23, Int.toNat_natCast, zO 116 (by decide)]
    have le : e < lxE b n e := lx_more (lw := false) h.2.2 (by omega)
    by_cases zj : X (p + 7) c = 0
    · have y0 : Y 116 c = 0 := by
        rcases cc.2.2.2.2.2 with ⟨_, q, _⟩ | ⟨q, _⟩
        · exact q
        · exact absurd zj q
      rw [if_pos zj, if_neg (show ¬ 0 < Y 116 c by omega), xl_eq, xl_eq]
      obtain ⟨B, hBd⟩ : ∃ B, B = xu (xu X (p + 7) c 1) (p + 8) c 0 := ⟨_, rfl⟩
      rw [← hBd]
      have bO : ∀ x, x ≠ p + 7 → x ≠ p + 8 → B x = X x := fun x h1 h2 => by rw [hBd, xu_cell _ _ _ h2, xu_cell _ _ _ h1]
      have b7 : ∀ i, B (p + 7) i = if i = c then 1 else X (p + 7) i := fun i => by rw [hBd, xu_cell _ _ _ (by omega), xu_at]
      have b8 : ∀ i, B (p + 8) i = if i = c then 0 else X (p + 8) i := fun i => by rw [hBd, xu_at, xu_cell _ _ _ (by omega)]
      have fB : FXp p X B := ⟨fun x _ hx => bO x (by omega) (by omega), fun j _ => by rw [bO 2 (by omega) (by omega)]⟩
      have hB1 : SR false b n e B Z := h2.ofX (fun j _ => by rw [bO 2 (by omega) (by omega)]) (bO 3 (by omega) (by omega))
      obtain ⟨C, D, c1, c2, c3, c4, c5⟩ := adv_sim hL hB hB1
      rw [c1, c2, xb1_some, xb1_some]
      obtain ⟨r, X1, Y1, t1, t2, t3, t4, t5⟩ := takeKey_sim hL hB c3 (k := 11) (by decide)
      rw [show km 11 = 11 from rfl] at t2
      rw [t1, t2, xb2_some, xb2_some]
      have fX1 : FXt B X1 := c4.t.tr t3
      have fY1 : FYt Y Y1 := fZ.tr (c5.t.tr t4)
      have J0 : ∀ V, N_readJoin_J89 R p 2 (c : Int) 0 V = some (0, V) := by
        intro V
        unfold N_readJoin_J89 N_readJoin_J130
        rw [show xfu = 999999 + 1 from rfl, N_readJoin_F93, if_pos rfl, if_pos rfl]
      rcases t5 with ⟨rfl, t5, t6, -⟩ | ⟨rfl, t5⟩
      · rw [if_neg n10, if_neg n10]
        have hN1 : NK p m X1 Y1 := by
          refine ⟨by rw [fX1.1 p (by omega), bO p (by omega) (by omega)]; exact x0, by rw [fY1.2 28 (by decide)]; exact y28, fun d hd => ?_⟩
          rw [fX1.1 _ (by omega), bO (p + 1) (by omega) (by omega), fY1.1 110 (by decide)]
          exact (hC d hd).1
        have hW1 : WI p c m 0 X1 Y1 0 := ⟨by rw [fX1.1 _ (by omega), b8, if_pos rfl]; rfl, fun w hw => by omega, fun w u _ hu => by omega, rfl⟩
        obtain ⟨X2, Y2, w1, w2, w3⟩ := way_sim hL hp hp4 hp92 hm hB t5 (show c < 8 by omega) hm8 (show 0 ≤ 8 by omega) hW1 hN1 (jnQ S) 999999
        rw [show (999999 + 1 : Nat) = xfu from rfl, show ((0 : Nat) : Int) = 0 from rfl] at w3
        have tot : ∀ (V U : xM), FXw p c X1 V → FYw c Y1 U → FXp p X V ∧ FYp Y U := fun V U hv hu => ⟨fB.tr ((fX1.p p).tr ⟨fun x h1 h2 => hv.1 x h1 (by omega) (by omega) (by omega), hv.2.1⟩), fY1.p.tr ⟨fun x h1 h2 => hu.1 x h1 (by omega) (by omega), fun j hj => hu.2.1 j (by omega)⟩⟩
        rcases w3 with ⟨w4, w5, ⟨e2, w6, w7⟩, w8, w9⟩ | ⟨w4, w5, w6⟩
        · rw [w4, xb2_some, if_neg n10, w5]
          obtain ⟨X3, Y3, q1, q2, q3⟩ := ways_sim hL hp hp4 hp92 hm hB (show c < 8 by omega) hm8 (fun (v2_35 : Int) (v3_36 : Int) (M_37 : xM) => N_readJoin_J130 R p 2 v2_35 v3_36 M_37) (jnQ S) 7 xfu 999999 1 e2 _ X2 Y2 (by omega) (by omega) (by omega) (by omega) w7 w9 (hN1.w hp4 hp92 w1 w2)
          have fX3 := w1.tr q1
          have fY3 := w2.tr q2
          unfold N_readJoin_J89
          have le1 := lx_in (b := b) (n := n) (e := lxE b n e) c3.2.2
          rcases q3 with ⟨j, v, g1, g2, ⟨e3, g3, g4⟩, g5, g6, g7⟩ | ⟨g1, g2, g3⟩
          · have g1' : N_readJoin_F93 R p 2 (fun (v2_35 : Int) (v3_36 : Int) (M_37 : xM) => N_readJoin_J130 R p 2 v2_35 v3_36 M_37) xfu (c : Int) 1 0 X2 = N_readJoin_J130 R p 2 (c : Int) 1 X3 := g1
            have g2' : wyNext S (jnQ S) 999999 (c : Int) (0 + X2 (p + 10) (8 * c + 0)) ((0 + 1 : Nat) : Int) Y2 = jnQ S (c : Int) v ((j : Nat) : Int) Y3 := g2
            rw [g1', g2']
            unfold N_readJoin_J130 f_N_endJoin jnQ
            have s := isSign_eq g4 59
            rw [if_neg n10, s.1, s.2, xb1_some, xb1_some]
            obtain ⟨g71, g72, g73, g74⟩ := g7
            by_cases z : lxK false b n e3 = 3 ∧ lxV b n e3 = 59
            · have ef := end_F20 hp (X := X3) (show c < 8 by omega) g6 g71 (fun w hw => (g72 w hw).2.1) (fun (v3_12 : Int) (M_13 : xM) =>
        if v3_12 = 100 then
          xb1 (f_A_advance R 2 M_13) fun M_15 =>
          some (1, M_15)
        else
          xb2 (f_A_wrong 2 7 M_13) fun r_17 M_18 =>
          xch (r_17 = 0 ∨ r_17 = 1) <|
          some (r_17, M_18)) j xfu 0 (by omega) (by omega) ⟨Int.le_refl 0, Int.le_refl 0⟩
              rw [← g74] at ef
              have ef' : N_endJoin_F20 R p 2 (c : Int) (fun (v3_12 : Int) (M_13 : xM) =>
        if v3_12 = 100 then
          xb1 (f_A_advance R 2 M_13) fun M_15 =>
          some (1, M_15)
        else
          xb2 (f_A_wrong 2 7 M_13) fun r_17 M_18 =>
          xch (r_17 = 0 ∨ r_17 = 1) <|
          some (r_17, M_18)) xfu 0 0 X3 = (if v = 100 then xb1 (f_A_advance R 2 X3) fun M_15 => some (1, M_15) else xb2 (f_A_wrong 2 7 X3) fun r_17 M_18 => xch (r_17 = 0 ∨ r_17 = 1) <| some (r_17, M_18)) := ef
              rw [if_pos z, stands_ok g4 (by omega) (by decide), xb2_some, if_neg n10, ef', if_neg n10]
              by_cases v100 : v = 100
              · rw [if_pos v100, if_pos v100, xch_pos (show 0 ≤ (c : Int) ∧ (c : Int) < 8 by omega), xl_eq, s23, Int.toNat_natCast]
                obtain ⟨G, hG⟩ : ∃ G, G = xu Y3 116 c (j : Int) := ⟨_, rfl⟩
                rw [← hG]
                have gO : ∀ x, x ≠ 116 → G x = Y3 x := fun x hx => by rw [hG, xu_cell _ _ _ hx]
                have g116 : ∀ i, G 116 i = if i = c then (j : Int) else Y3 116 i := fun i => by rw [hG, xu_at]
                have hG1 : SR false b n e3 X3 G := g4.ofY (fun k _ _ _ _ => by rw [gO 104 (by decide)]) (gO 109 (by decide))
                obtain ⟨X4, Y4, d1, d2, d3, d4, d5⟩ := adv_sim hL hB hG1
                have le3 := lx_in (b := b) (n := n) (e := e3) g4.2.2
                have le2 := lx_in (b := b) (n := n) (e := lxE b n (lxE b n e)) t5.2.2
                have xx : ∀ x, x ≠ 2 → x ≠ p + 7 → x ≠ p + 8 → x ≠ p + 9 → x ≠ p + 10 → X4 x = X x := fun x h1 h2 h3 h4 h5 => by rw [d4.1 x h1, fX3.1 x h1 h3 h4 h5, fX1.1 x h1, bO x h2 h3]
                have yy : ∀ x, x ≠ 104 → x ≠ 116 → x ≠ 117 → x ≠ 118 → Y4 x = Y x := fun x h1 h2 h3 h4 => by rw [d5.1 x h1, gO x h2, fY3.1 x h1 h3 h4, fY1.1 x h1]
                have y4 : ∀ j, j < 8 ∨ j = 13 ∨ 16 ≤ j → Y4 104 j = Y 104 j := fun j hj => by rw [d5.t.2 j hj, gO 104 (by decide), fY3.2.1 j hj, fY1.2 j hj]
                refine ⟨1, X4, Y4, ?_, ?_, (tot X3 Y3 fX3 fY3).1.tr (d4.t.p p), (tot X3 Y3 fX3 fY3).2.tr (FYp.tr (B := G) ⟨fun x h1 h2 => gO x (by omega), fun k hk => by rw [gO 104 (by decide)]⟩ d5.t.p), Or.inl ⟨rfl, _, ?_, d3, ⟨hm8, hq4⟩, ⟨?_, ?_⟩, ⟨?_, ?_⟩, fun d hd => ?_, fun w hw => ?_⟩⟩
                · rw [d1, xb1_some, xb2_some, if_neg n10]
                · rw [d2, xb1_some]
                · omega
                · rw [xx p (by omega) (by omega) (by omega) (by omega) (by omega)]; exact x0
                · rw [y4 28 (by decide)]; exact y28
                · rw [xx p (by omega) (by omega) (by omega) (by omega) (by omega)]; exact x1
                · rw [y4 29 (by decide)]; exact y29
                · by_cases dc : d = c
                  · subst dc
                    obtain ⟨c1', c2', c3', c4', c5', c6'⟩ := cc
                    refine ⟨?_, ?_, fun s hs => ?_, ?_, ?_, Or.inr ⟨?_, ?_, ?_, fun w hw => ?_, ?_⟩⟩
                    · rw [xx _ (by omega) (by omega) (by omega) (by omega) (by omega), yy 110 (by decide) (by decide) (by decide) (by decide)]; exact c1'
                    · rw [xx _ (by omega) (by omega) (by omega) (by omega) (by omega), yy 112 (by decide) (by decide) (by decide) (by decide)]; exact c2'
                    · rw [xx _ (by omega) (by omega) (by omega) (by omega) (by omega), yy 113 (by decide) (by decide) (by decide) (by decide)]; exact c3' s hs
                    · rw [xx _ (by omega) (by omega) (by omega) (by omega) (by omega), yy 114 (by decide) (by decide) (by decide) (by decide)]; exact c4'
                    · rw [xx (p + 6) (by omega) (by omega) (by omega) (by omega) (by omega), xx (p + 3) (by omega) (by omega) (by omega) (by omega) (by omega), yy 115 (by decide) (by decide) (by decide) (by decide)]; exact c5'
                    · rw [d4.1 _ (by omega), fX3.1 _ (by omega) (by omega) (by omega) (by omega), fX1.1 _ (by omega), b7, if_pos rfl]; decide
                    · rw [d4.1 _ (by omega), g71]; omega
                    · rw [d4.1 _ (by omega), g71, d5.1 116 (by decide), g116, if_pos rfl]
                    · rw [d4.1 _ (by omega)] at hw
                      rw [d4.1 _ (by omega), d4.1 _ (by omega), d5.1 117 (by decide), d5.1 118 (by decide), gO 117 (by decide), gO 118 (by decide)]
                      exact g72 w (by omega)
                    · rw [d4.1 _ (by omega), d4.1 _ (by omega), g71, Int.toNat_natCast, ← g74]
                      exact v100
                  · refine (hC d hd).keepc (fun k hk => ?_) (fun s hs => ?_) (fun w hw => ?_) (fun k hk => ?_) (fun s hs => ?_) (fun w hw => ?_)
                    · rcases hk with rfl | rfl | rfl | rfl | rfl | rfl
                      · rw [xx _ (by omega) (by omega) (by omega) (by omega) (by omega)]
                      · rw [xx _ (by omega) (by omega) (by omega) (by omega) (by omega)]
                      · rw [xx _ (by omega) (by omega) (by omega) (by omega) (by omega)]
                      · rw [xx _ (by omega) (by omega) (by omega) (by omega) (by omega)]
                      · rw [d4.1 _ (by omega), fX3.1 _ (by omega) (by omega) (by omega) (by omega), fX1.1 _ (by omega), b7, if_neg dc]
                      · rw [d4.1 _ (by omega), fX3.2.2.1 d dc, fX1.1 _ (by omega), b8, if_neg dc]
                    · rw [xx _ (by omega) (by omega) (by omega) (by omega) (by omega)]
                    · have := fX3.2.2.2 (8 * d + w) (by omega)
                      rw [d4.1 _ (by omega), d4.1 _ (by omega), this.1, this.2, fX1.1 _ (by omega), fX1.1 _ (by omega), bO _ (by omega) (by omega), bO _ (by omega) (by omega)]
                      exact ⟨rfl, rfl⟩
                    · rcases hk with rfl | rfl | rfl | rfl | rfl
                      · rw [yy _ (by decide) (by decide) (by decide) (by decide)]
                      · rw [yy _ (by decide) (by decide) (by decide) (by decide)]
                      · rw [yy _ (by decide) (by decide) (by decide) (by decide)]
                      · rw [yy _ (by decide) (by decide) (by decide) (by decide)]
                      · rw [d5.1 116 (by decide), g116, if_neg dc, fY3.1 116 (by decide) (by decide) (by decide), fY1.1 116 (by decide)]
                    · rw [yy _ (by decide) (by decide) (by decide) (by decide)]
                    · have := fY3.2.2 (8 * d + w) (by omega)
                      rw [d5.1 117 (by decide), d5.1 118 (by decide), gO 117 (by decide), gO 118 (by decide), this.1, this.2, fY1.1 117 (by decide), fY1.1 118 (by decide)]
                      exact ⟨rfl, rfl⟩
                · rw [xx _ (by omega) (by omega) (by omega) (by omega) (by omega), xx _ (by omega) (by omega) (by omega) (by omega) (by omega), yy 111 (by decide) (by decide) (by decide) (by decide), yy 119 (by decide) (by decide) (by decide) (by decide)]
                  exact hWk w hw
              · rw [if_neg v100, if_neg v100]
                obtain ⟨A, A', z1, z2, z3, z4', z5⟩ := wrong_fail g4 (show lxK false b n e3 ≠ 4 by omega) (k := 7) (by decide)
                rw [z1, z2, xb2_some, xb2_some, xch_01.1, xch_01.1, xb2_some, if_pos rfl]
                exact ⟨0, A, A', rfl, rfl, (tot X3 Y3 fX3 fY3).1.tr (z4'.p p), (tot X3 Y3 fX3 fY3).2.tr z5.p, Or.inr ⟨rfl, z3⟩⟩
            · rw [if_neg z]
              obtain ⟨A, A', z1, z2, z3, z4', z5⟩ := stands_fail g4
              rw [z1, z2, xb2_some, xb2_some, if_pos rfl, if_pos rfl, xb2_some, if_pos rfl, xch_01.1]
              exact ⟨0, A, A', rfl, rfl, (tot X3 Y3 fX3 fY3).1.tr (z4'.p p), (tot X3 Y3 fX3 fY3).2.tr z5.p, Or.inr ⟨rfl, z3⟩⟩
          · have g1' : N_readJoin_F93 R p 2 (fun (v2_35 : Int) (v3_36 : Int) (M_37 : xM) => N_readJoin_J130 R p 2 v2_35 v3_36 M_37) xfu (c : Int) 1 0 X2 = N_readJoin_J130 R p 2 (c : Int) 0 X3 := g1
            have g2' : wyNext S (jnQ S) 999999 (c : Int) (0 + X2 (p + 10) (8 * c + 0)) ((0 + 1 : Nat) : Int) Y2 = some (0, Y3) := g2
            rw [g1', g2']
            unfold N_readJoin_J130
            rw [if_pos rfl]
            exact ⟨0, X3, Y3, rfl, rfl, (tot X3 Y3 fX3 fY3).1, (tot X3 Y3 fX3 fY3).2, Or.inr ⟨rfl, g3⟩⟩
        · rw [w4, xb2_some, if_pos rfl, J0, w5]
          exact ⟨0, X2, Y2, rfl, rfl, (tot X2 Y2 w1 w2).1, (tot X2 Y2 w1 w2).2, Or.inr ⟨rfl, w6⟩⟩
      · rw [if_pos rfl, if_pos rfl, J0]
        exact ⟨0, X1, Y1, rfl, rfl, fB.tr (fX1.p p), fY1.p, Or.inr ⟨rfl, t5⟩⟩
    · have y1 : 0 < Y 116 c := by
        rcases cc.2.2.2.2.2 with ⟨q, _⟩ | ⟨_, q, q2, _⟩
        · exact absurd q zj
        · rw [q2]; omega
      rw [if_neg zj, if_pos y1]
      obtain ⟨A, A', z1, z2, z3, z4', z5⟩ := wrong_fail h2 (show lxK false b n e ≠ 4 by omega) (k := 5) (by decide)
      rw [z1, z2, xb2_some, xb2_some, xch_01.1, xch_01.1]
      exact ⟨0, A, A', rfl, rfl, z4'.p p, (fZ.tr z5).p, Or.inr ⟨rfl, z3⟩⟩
