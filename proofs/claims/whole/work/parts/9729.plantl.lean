/-! ===== plant: all parts of a text ===== -/
theorem kmp_z {lw : Bool} {b : Nat → Int} {n e : Nat} (he : e ≤ n) : kmp (lxK lw b n e) = 0 ↔ lxK lw b n e = 0 := by
  rcases lx_kind lw b he with ⟨q, _⟩ | ⟨_, q | ⟨q, _⟩ | ⟨q, _⟩ | q⟩ <;> rw [q] <;> decide
theorem plant_loop {R S : xR} (hL : LR R S false) {p : Nat} (hp : PnR R p) (hp4 : 4 ≤ p) (hp92 : p + 12 ≤ 104) (hm : MR S) {b : Nat → Int} {n : Nat} (hB : TxB b n) (Q : xM → Option (Int × xM)) : ∀ (k f g pa e m q : Nat) (X Y : xM), n - e ≤ k → k + 1 < f → k + 1 < g → pa ≤ e → SR false b n e X Y → PR p m q X Y → lxK false b n e ≠ 0 →
    ∃ X' Y', FXp p X X' ∧ FYp Y Y' ∧ ((∃ m' q' e', N_readFrom_F14 R p 2 f 1 (pa : Int) X = some (1, X') ∧ M_plant_F47 S 104 Q g 1 Y = Q Y' ∧ SR false b n e' X' Y' ∧ PR p m' q' X' Y') ∨ (N_readFrom_F14 R p 2 f 1 (pa : Int) X = some (0, X') ∧ M_plant_F47 S 104 Q g 1 Y = Q Y' ∧ FT X' Y')) := by
  have n10 : ¬ (1 : Int) = 0 := by decide
  have hn := hB.1
  intro k
  induction k with
  | zero =>
    intro f g pa e m q X Y hk _ _ _ h _ hK
    have he := h.2.2
    have li := lx_in (b := b) he
    rcases lx_kind false b he with ⟨z, _⟩ | ⟨z, _⟩
    · exact absurd z hK
    · omega
  | succ k ih =>
    intro f g pa e m q X Y hk hf hg hpa h hP hK
    obtain ⟨f, rfl⟩ : ∃ g, f = g + 1 := ⟨f - 1, by omega⟩
    obtain ⟨g, rfl⟩ : ∃ h, g = h + 1 := ⟨g - 1, by omega⟩
    have he := h.2.2
    have le : e < lxE b n e := lx_more (lw := false) he hK
    obtain ⟨k1, k2, k3⟩ := key_eq hL hB h
    have Y0 : ∀ V, M_plant_F47 S 104 Q g 0 V = Q V := fun V => by
      obtain ⟨g, rfl⟩ : ∃ h, g = h + 1 := ⟨g - 1, by omega⟩
      rw [M_plant_F47, if_pos rfl]
    have X0 : ∀ (pa : Int) (V : xM), N_readFrom_F14 R p 2 f 0 pa V = some (0, V) := fun pa V => by
      obtain ⟨f, rfl⟩ : ∃ h, f = h + 1 := ⟨f - 1, by omega⟩
      rw [N_readFrom_F14, if_pos rfl, xch_01.1]
    have fin : ∀ (r : Int) (X2 Y2 : xM), FXp p X X2 → FYp Y Y2 → ((r = 1 ∧ ∃ e' m' q', e < e' ∧ SR false b n e' X2 Y2 ∧ PR p m' q' X2 Y2) ∨ (r = 0 ∧ FT X2 Y2)) → ∃ X' Y', FXp p X X' ∧ FYp Y Y' ∧ ((∃ m' q' e', N_readFrom_F14 R p 2 f r ((pa + 1 : Nat) : Int) X2 = some (1, X') ∧ M_plant_J106 S 104 (M_plant_F47 S 104 Q g) Q r Y2 = Q Y' ∧ SR false b n e' X' Y' ∧ PR p m' q' X' Y') ∨ (N_readFrom_F14 R p 2 f r ((pa + 1 : Nat) : Int) X2 = some (0, X') ∧ M_plant_J106 S 104 (M_plant_F47 S 104 Q g) Q r Y2 = Q Y' ∧ FT X' Y')) := by
      intro r X2 Y2 fX fY o
      unfold M_plant_J106 M_plant_J125
      rcases o with ⟨rfl, e', m', q', o1, o2, o3⟩ | ⟨rfl, o⟩
      · rw [if_neg n10, o2.2.1.2.1.2.2.1]
        by_cases z : lxK false b n e' = 0
        · rw [if_pos ((kmp_z o2.2.2).2 z), Y0]
          refine ⟨X2, Y2, fX, fY, Or.inl ⟨m', q', e', ?_, rfl, o2, o3⟩⟩
          obtain ⟨f, rfl⟩ : ∃ h, f = h + 1 := ⟨f - 1, by omega⟩
          rw [N_readFrom_F14, if_neg n10, o2.1.2.1.2.2.1, if_pos z, xch_01.2]
        · rw [if_neg (fun y => z ((kmp_z o2.2.2).1 y))]
          obtain ⟨X', Y', i1, i2, i3⟩ := ih f g (pa + 1) e' m' q' X2 Y2 (by omega) (by omega) (by omega) (by omega) o2 o3 z
          exact ⟨X', Y', fX.tr i1, fY.tr i2, i3⟩
      · rw [if_pos rfl, X0, Y0]
        exact ⟨X2, Y2, fX, fY, Or.inr ⟨rfl, rfl, o⟩⟩
    have pab : ¬ (600 : Int) < (pa : Int) := by omega
    have J : ∀ (r : Int) (V : xM), N_readFrom_J104 R p 2 (N_readFrom_F14 R p 2 f) r (pa : Int) V = N_readFrom_F14 R p 2 f r ((pa + 1 : Nat) : Int) V := by
      intro r V
      unfold N_readFrom_J104
      rw [xl_eq, w32_of (x := (pa : Int) + 1) (by omega) (by omega)]
      rfl
    have cX : N_readFrom_F14 R p 2 (f + 1) 1 (pa : Int) X = if X 2 9 < 0 then N_readFrom_J54 R p 2 (N_readFrom_F14 R p 2 f) (pa : Int) (X 2 9) 2 X else if 5 < X 2 9 then N_readFrom_J54 R p 2 (N_readFrom_F14 R p 2 f) (pa : Int) (X 2 9) 2 X else N_readFrom_J55 R p 2 (N_readFrom_F14 R p 2 f) (pa : Int) (X 2 9) 1 2 X := by
      rw [N_readFrom_F14, if_neg n10, h.1.2.1.2.2.1, if_neg hK, if_neg pab, xl_eq]
    have cY : M_plant_F47 S 104 Q (g + 1) 1 Y = if km (X 2 9) = -1 then M_plant_J69 S 104 (M_plant_F47 S 104 Q g) Q Y else if 5 < km (X 2 9) then M_plant_J69 S 104 (M_plant_F47 S 104 Q g) Q Y else if km (X 2 9) < 4 then xb2 (f_M_makes S 104 (km (X 2 9)) Y) fun r_25 M_26 => M_plant_J106 S 104 (M_plant_F47 S 104 Q g) Q r_25 M_26 else if km (X 2 9) = 4 then xb2 (f_M_joins S 104 Y) fun r_29 M_30 => M_plant_J106 S 104 (M_plant_F47 S 104 Q g) Q r_29 M_30 else xb2 (f_M_worksAt S 104 Y) fun r_32 M_33 => M_plant_J106 S 104 (M_plant_F47 S 104 Q g) Q r_32 M_33 := by
      rw [M_plant_F47, if_neg n10, k1, xb1_some]
    by_cases z : 0 ≤ X 2 9 ∧ X 2 9 ≤ 5
    · obtain ⟨w, hw⟩ : ∃ w : Nat, X 2 9 = (w : Int) := ⟨(X 2 9).toNat, by omega⟩
      have kw : lxK false b n e = 1 := k3 (by omega)
      have ekm : km (X 2 9) = (w : Int) := by
        rw [hw]
        unfold km
        rw [if_neg (by omega), if_neg (by omega), if_neg (by omega)]
      rw [cX, cY, ekm, hw, if_neg (show ¬ (w : Int) < 0 by omega), if_neg (show ¬ 5 < (w : Int) by omega), if_neg (show ¬ (w : Int) = -1 by omega), if_neg (show ¬ 5 < (w : Int) by omega)]
      unfold N_readFrom_J55
      obtain ⟨X1, Y1, c1, c2, c3, c4, c5⟩ := adv_sim hL hB h
      rw [stands_ok h (by omega) (by decide), xb2_some, if_neg n10, c1, xb1_some]
      have hP1 := hP.t (by omega) c4.t c5.t
      unfold N_readFrom_J103
      by_cases w4 : w = 4
      · obtain ⟨r, X2, Y2, j1, j2, j3, j4, j5⟩ := joins_sim hL hp hp4 hp92 hm hB c3 hP1
        rw [if_pos (show (w : Int) = 4 by omega), j1, xb2_some, J, if_neg (show ¬ (w : Int) < 4 by omega), if_pos (show (w : Int) = 4 by omega), jn_eq c2, j2, xb2_some]
        refine fin r X2 Y2 ((c4.t.p p).tr j3) (c5.t.p.tr j4) ?_
        rcases j5 with ⟨rfl, e', o1, o2, o3⟩ | o
        · exact Or.inl ⟨rfl, e', m, q, by omega, o2, o3⟩
        · exact Or.inr o
      · by_cases w5 : w = 5
        · obtain ⟨r, X2, Y2, j1, j2, j3, j4, j5⟩ := works_sim hL hp hp4 hp92 hm hB c3 hP1
          rw [if_neg (show ¬ (w : Int) = 4 by omega), if_pos (show (w : Int) = 5 by omega), j1, xb2_some, J, if_neg (show ¬ (w : Int) < 4 by omega), if_neg (show ¬ (w : Int) = 4 by omega), wk_eq c2, j2, xb2_some]
          refine fin r X2 Y2 ((c4.t.p p).tr j3) (c5.t.p.tr j4) ?_
          rcases j5 with ⟨rfl, e', q', o1, o2, o3⟩ | o
          · exact Or.inl ⟨rfl, e', m, q', by omega, o2, o3⟩
          · exact Or.inr o
        · obtain ⟨r, X2, Y2, j1, j2, j3, j4, j5⟩ := makes_sim hL hp hp4 hp92 hm hB c3 hP1 (show w < 4 by omega)
          rw [if_neg (show ¬ (w : Int) = 4 by omega), if_neg (show ¬ (w : Int) = 5 by omega), j1, xb2_some, J, if_pos (show (w : Int) < 4 by omega), mk_eq c2, j2, xb2_some]
          refine fin r X2 Y2 ((c4.t.p p).tr j3) (c5.t.p.tr j4) ?_
          rcases j5 with ⟨rfl, e', m', o1, o2, o3⟩ | o
          · exact Or.inl ⟨rfl, e', m', q, by omega, o2, o3⟩
          · exact Or.inr o
    · obtain ⟨X', Y', s1, s2, s3, s4, s5⟩ := stands_fail h
      have bx : N_readFrom_F14 R p 2 (f + 1) 1 (pa : Int) X = some (0, X') := by
        rw [cX]
        unfold N_readFrom_J54 N_readFrom_J55
        rw [s1, xb2_some, if_pos rfl]
        by_cases y : X 2 9 < 0
        · rw [if_pos y]
        · rw [if_neg y, if_pos (by omega)]
      have by' : M_plant_F47 S 104 Q (g + 1) 1 Y = Q Y' := by
        have J2 : M_plant_J69 S 104 (M_plant_F47 S 104 Q g) Q Y = Q Y' := by
          unfold M_plant_J69 M_plant_J106 M_plant_J125
          rw [s2, xb2_some, if_pos rfl, Y0]
        rw [cY, J2]
        by_cases y : X 2 9 = -1
        · rw [y, if_pos (by decide)]
        · have : 5 < km (X 2 9) := by
            unfold km
            split
            · decide
            · split
              · decide
              · split
                · decide
                · omega
          rw [if_neg (show ¬ km (X 2 9) = -1 by omega), if_pos this]
      exact ⟨X', Y', s4.p p, s5.p, Or.inr ⟨bx, by', s3⟩⟩
