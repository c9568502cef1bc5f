/-! ===== plant: a join ===== -/
/-- names known so far -/
def NK (p m : Nat) (X Y : xM) : Prop := X p 0 = (m : Int) ∧ Y 104 28 = (m : Int) ∧ ∀ c, c < m → NmR (X (p + 1) c) (Y 110 c)
theorem way_sim {R S : xR} (hL : LR R S false) {p : Nat} (hp : PnR R p) (hp4 : 4 ≤ p) (hp92 : p + 12 ≤ 104) (hm : MR S) {b : Nat → Int} {n e : Nat} (hB : TxB b n) {X Y : xM} (h : SR false b n e X Y) {c m j : Nat} (hc : c < 8) (hm8 : m ≤ 8) (hj : j ≤ 8) {v : Int} (hW : WI p c m j X Y v) (hN : NK p m X Y) (QM : Int → Int → Int → xM → Option (Int × xM)) (g : Nat) :
    ∃ X' Y', FXw p c X X' ∧ FYw c Y Y' ∧ ((f_N_readWay R p 2 (c : Int) X = some (1, X') ∧ M_joins_F55 S 104 QM (g + 1) (c : Int) v (j : Int) 1 Y = wyNext S QM g (c : Int) (v + X' (p + 10) (8 * c + j)) ((j + 1 : Nat) : Int) Y' ∧ (∃ e', e < e' ∧ SR false b n e' X' Y') ∧ j < 8 ∧ WI p c m (j + 1) X' Y' (v + X' (p + 10) (8 * c + j))) ∨ (f_N_readWay R p 2 (c : Int) X = some (0, X') ∧ M_joins_F55 S 104 QM (g + 1) (c : Int) v (j : Int) 1 Y = some (0, Y') ∧ FT X' Y')) := by
  obtain ⟨k1, k2, k3⟩ := key_eq hL hB h
  have ki := km_inj k2 (k := 14) (by decide)
  rw [show km 14 = 13 from rfl] at ki
  have n10 : ¬ (1 : Int) = 0 := by decide
  have mY : M_joins_F55 S 104 QM (g + 1) (c : Int) v (j : Int) 1 Y = if km (X 2 9) = 13 then M_joins_J91 S 104 (M_joins_F55 S 104 QM g) QM (c : Int) v (j : Int) 8 Y else xb2 (f_M_known S 104 Y) fun r_65 M_66 => if r_65 = 0 then some (0, M_66) else xl (M_66 104 12) fun v5_69 => M_joins_J91 S 104 (M_joins_F55 S 104 QM g) QM (c : Int) v (j : Int) v5_69 M_66 := by
    rw [M_joins_F55, if_neg n10, k1, xb1_some]
  rw [mY]
  by_cases z : X 2 9 = 14
  · have kw := k3 (by omega)
    have st := stands_ok h (show lxK false b n e ≠ 4 by omega) (r := 1) (by decide)
    have cX : f_N_readWay R p 2 (c : Int) X = N_readWay_J74 R p 2 (c : Int) 1 (-1) X := by
      unfold f_N_readWay N_readWay_J14 N_readWay_J27 N_readWay_J32 N_readWay_J56
      simp only [if_pos z, if_neg n10, st, xb2_some]
    rw [cX, if_pos (ki.2 z)]
    exact way_tail hL hp hp4 hp92 hm hB h hc hm8 hj hW kw 1 (-1) 8 (Or.inl ⟨rfl, rfl, by decide⟩) QM g
  · rw [if_neg (fun q => z (ki.1 q))]
    rcases known_sim hL hp hm hB h hm8 hN.1 hN.2.1 hN.2.2 with ⟨X', Y', a1, a2, a3, a4, a5, a6⟩ | ⟨X', Y', a1, a2, a3, a4, a5, a6, a7, a8⟩ | ⟨d, a1, a2, a3, a4, a5, a6⟩
    · have cX : f_N_readWay R p 2 (c : Int) X = some (0, X') := by
        unfold f_N_readWay N_readWay_J14 N_readWay_J32
        rw [if_neg z, if_pos rfl, a1, xb1_some, if_pos rfl, a2, xb2_some, if_pos rfl]
      rw [cX, a3, xb2_some, if_pos rfl]
      exact ⟨X', Y', a5.w hp4 c, a6.w c, Or.inr ⟨rfl, rfl, a4⟩⟩
    · have cX : f_N_readWay R p 2 (c : Int) X = some (0, X') := by
        unfold f_N_readWay N_readWay_J14 N_readWay_J27 N_readWay_J32 N_readWay_J56
        rw [if_neg z, if_pos rfl, a1, xb1_some, if_neg n10, a2, xb2_some, if_neg n10, if_pos rfl, a3, xb1_some, if_pos rfl, if_pos rfl, a4, xb2_some, xch_01.1]
      rw [cX, a5, xb2_some, if_pos rfl]
      exact ⟨X', Y', a7.w hp4 c, a8.w c, Or.inr ⟨rfl, rfl, a6⟩⟩
    · have e12 : xu Y 104 12 (d : Int) 104 12 = (d : Int) := by rw [xu_at, if_pos rfl]
      have cX : f_N_readWay R p 2 (c : Int) X = N_readWay_J74 R p 2 (c : Int) 0 (d : Int) X := by
        unfold f_N_readWay N_readWay_J14 N_readWay_J27 N_readWay_J32 N_readWay_J56
        rw [if_neg z, if_pos rfl, a1, xb1_some, if_neg n10, a2, xb2_some, if_neg n10, if_pos rfl, a3, xb1_some, if_pos rfl, if_neg (show ¬ (d : Int) = -1 by omega)]
      rw [cX, a5, xb2_some, if_neg n10, xl_eq, e12]
      have h2 : SR false b n e X (xu Y 104 12 (d : Int)) := h.ofY (fun j _ h2 _ _ => by rw [xu_at, if_neg h2]) (xu_cell _ _ _ (by decide))
      have hW2 : WI p c m j X (xu Y 104 12 (d : Int)) v := by
        unfold WI
        rw [xu_cell _ _ _ (show 117 ≠ 104 by decide), xu_cell _ _ _ (show 118 ≠ 104 by decide)]
        exact hW
      obtain ⟨X', Y', q1, q2, q3⟩ := way_tail hL hp hp4 hp92 hm hB h2 hc hm8 hj hW2 a6 0 (d : Int) (d : Int) (Or.inr ⟨by omega, by omega, rfl, rfl⟩) QM g
      exact ⟨X', Y', q1, FYw.tr ⟨fun x h1 _ _ => xu_cell _ _ _ h1, fun k hk => by rw [xu_at, if_neg (by omega)], fun i _ => by rw [xu_cell _ _ _ (show 117 ≠ 104 by decide), xu_cell _ _ _ (show 118 ≠ 104 by decide)]; exact ⟨rfl, rfl⟩⟩ q2, q3⟩
theorem NK.w {p m c : Nat} (hp4 : 4 ≤ p) (hp92 : p + 12 ≤ 104) {X Y X' Y' : xM} (h : NK p m X Y) (fx : FXw p c X X') (fy : FYw c Y Y') : NK p m X' Y' := by
  unfold NK
  rw [fx.1 p (by omega) (by omega) (by omega) (by omega), fx.1 (p + 1) (by omega) (by omega) (by omega) (by omega), fy.1 110 (by decide) (by decide) (by decide), fy.2.1 28 (by decide)]
  exact h
theorem ways_sim {R S : xR} (hL : LR R S false) {p : Nat} (hp : PnR R p) (hp4 : 4 ≤ p) (hp92 : p + 12 ≤ 104) (hm : MR S) {b : Nat → Int} {n : Nat} (hB : TxB b n) {c m : Nat} (hc : c < 8) (hm8 : m ≤ 8) (Q : Int → Int → xM → Option (Int × xM)) (QM : Int → Int → Int → xM → Option (Int × xM)) : ∀ (k f g j e : Nat) (v : Int) (X Y : xM), k + 1 < f → k + 1 < g → j + k = 8 → 1 ≤ j → SR false b n e X Y → WI p c m j X Y v → NK p m X Y →
    ∃ X' Y', FXw p c X X' ∧ FYw c Y Y' ∧ ((∃ j' v', N_readJoin_F93 R p 2 Q f (c : Int) 1 ((j : Int) - 1) X = Q (c : Int) 1 X' ∧ wyNext S QM g (c : Int) v (j : Int) Y = QM (c : Int) v' ((j' : Nat) : Int) Y' ∧ (∃ e', e ≤ e' ∧ SR false b n e' X' Y') ∧ 1 ≤ j' ∧ j' ≤ 8 ∧ WI p c m j' X' Y' v') ∨ (N_readJoin_F93 R p 2 Q f (c : Int) 1 ((j : Int) - 1) X = Q (c : Int) 0 X' ∧ wyNext S QM g (c : Int) v (j : Int) Y = some (0, Y') ∧ FT X' Y')) := by
  intro k
  induction k with
  | zero =>
    intro f g j e v X Y hf hg hjk hj1 h hW hN
    obtain ⟨f, rfl⟩ : ∃ g, f = g + 1 := ⟨f - 1, by omega⟩
    obtain ⟨g, rfl⟩ : ∃ h, g = h + 1 := ⟨g - 1, by omega⟩
    have j8 : j = 8 := by omega
    have s := isSign_eq h 44
    unfold wyNext
    rw [N_readJoin_F93, if_neg (show ¬ (1 : Int) = 0 by decide), s.1, s.2, xb1_some, xb1_some]
    by_cases z : lxK false b n e = 3 ∧ lxV b n e = 44
    · rw [if_pos z, if_neg (show ¬ (1 : Int) = 0 by decide), if_neg (show ¬ (1 : Int) = 0 by decide), if_pos (show (j : Int) - 1 < 8 by omega)]
      obtain ⟨X1, Y1, c1, c2, c3, c4, c5⟩ := adv_sim hL hB h
      rw [c1, c2, xb1_some, xb1_some]
      obtain ⟨X2, Y2, w1, w2, w3⟩ := way_sim hL hp hp4 hp92 hm hB c3 hc hm8 (show j ≤ 8 by omega) (hW.t hp4 c4.t c5.t) (hN.w hp4 hp92 (c4.t.w hp4 c) (c5.t.w c)) QM g
      rcases w3 with ⟨_, _, _, w4, _⟩ | ⟨w4, w5, w6⟩
      · omega
      · obtain ⟨f, rfl⟩ : ∃ g, f = g + 1 := ⟨f - 1, by omega⟩
        rw [w4, xb2_some, w5, xl_eq]
        refine ⟨X2, Y2, (c4.t.w hp4 c).tr w1, (c5.t.w c).tr w2, Or.inr ⟨?_, rfl, w6⟩⟩
        rw [N_readJoin_F93, if_pos rfl]
    · rw [if_neg z, if_pos rfl, if_pos rfl]
      refine ⟨X, Y, (FXt.rf X).w hp4 c, (FYt.rf Y).w c, Or.inl ⟨j, v, rfl, ?_, ⟨e, Nat.le_refl e, h⟩, hj1, by omega, hW⟩⟩
      rw [M_joins_F55, if_pos rfl]
  | succ k ih =>
    intro f g j e v X Y hf hg hjk hj1 h hW hN
    obtain ⟨f, rfl⟩ : ∃ g, f = g + 1 := ⟨f - 1, by omega⟩
    obtain ⟨g, rfl⟩ : ∃ h, g = h + 1 := ⟨g - 1, by omega⟩
    have s := isSign_eq h 44
    unfold wyNext
    rw [N_readJoin_F93, if_neg (show ¬ (1 : Int) = 0 by decide), s.1, s.2, xb1_some, xb1_some]
    by_cases z : lxK false b n e = 3 ∧ lxV b n e = 44
    · rw [if_pos z, if_neg (show ¬ (1 : Int) = 0 by decide), if_neg (show ¬ (1 : Int) = 0 by decide), if_pos (show (j : Int) - 1 < 8 by omega)]
      obtain ⟨X1, Y1, c1, c2, c3, c4, c5⟩ := adv_sim hL hB h
      rw [c1, c2, xb1_some, xb1_some]
      obtain ⟨X2, Y2, w1, w2, w3⟩ := way_sim hL hp hp4 hp92 hm hB c3 hc hm8 (show j ≤ 8 by omega) (hW.t hp4 c4.t c5.t) (hN.w hp4 hp92 (c4.t.w hp4 c) (c5.t.w c)) QM g
      have le := lx_in (b := b) (n := n) (e := e) h.2.2
      rcases w3 with ⟨w4, w5, ⟨e2, w6, w7⟩, w8, w9⟩ | ⟨w4, w5, w6⟩
      · rw [w4, xb2_some, w5, xl_eq, w32_of (x := (j : Int) - 1 + 1) (by omega) (by omega)]
        obtain ⟨X3, Y3, q1, q2, q3⟩ := ih f g (j + 1) e2 _ X2 Y2 (by omega) (by omega) (by omega) (by omega) w7 w9 ((hN.w hp4 hp92 (c4.t.w hp4 c) (c5.t.w c)).w hp4 hp92 w1 w2)
        rw [show ((j + 1 : Nat) : Int) - 1 = (j : Int) - 1 + 1 by omega] at q3
        refine ⟨X3, Y3, ((c4.t.w hp4 c).tr w1).tr q1, ((c5.t.w c).tr w2).tr q2, ?_⟩
        rcases q3 with ⟨j', v', r1, r2, ⟨e3, r3, r4⟩, r5, r6, r7⟩ | r
        · exact Or.inl ⟨j', v', r1, r2, ⟨e3, by omega, r4⟩, r5, r6, r7⟩
        · exact Or.inr r
      · obtain ⟨f, rfl⟩ : ∃ g, f = g + 1 := ⟨f - 1, by omega⟩
        rw [w4, xb2_some, w5, xl_eq]
        refine ⟨X2, Y2, (c4.t.w hp4 c).tr w1, (c5.t.w c).tr w2, Or.inr ⟨?_, rfl, w6⟩⟩
        rw [N_readJoin_F93, if_pos rfl]
    · rw [if_neg z, if_pos rfl, if_pos rfl]
      refine ⟨X, Y, (FXt.rf X).w hp4 c, (FYt.rf Y).w c, Or.inl ⟨j, v, rfl, ?_, ⟨e, Nat.le_refl e, h⟩, hj1, by omega, hW⟩⟩
      rw [M_joins_F55, if_pos rfl]
