/-! ===== plant: a cleaner is read ===== -/
/-- the model, behind the four numbers -/
def mkLim (S : xR) (l1 v2_37 : Int) (M_38 : xM) : Option (Int × xM) :=
              if l1 = 1 then
                xb2 (f_M_wantKey S 104 7 M_38) fun r_40 M_41 =>
                if r_40 = 0 then
                  some (0, M_41)
                else
                  xb2 (f_M_number S 104 1 9999 4 M_41) fun r_44 M_45 =>
                  if r_44 = 0 then
                    some (0, M_45)
                  else
                    xl (M_45 104 12) fun v4_48 =>
                    xb2 (f_M_wantKey S 104 8 M_45) fun r_49 M_50 =>
                    if r_49 = 0 then
                      some (0, M_50)
                    else
                      xb2 (f_M_number S 104 0 100 4 M_50) fun r_53 M_54 =>
                      if r_53 = 0 then
                        some (0, M_54)
                      else
                        xl (M_54 104 12) fun v5_57 =>
                        M_makes_J265 S 104 l1 v2_37 v4_48 v5_57 M_54
              else
                if l1 = 2 then
                  xb2 (f_M_wantKey S 104 9 M_38) fun r_88 M_89 =>
                  if r_88 = 0 then
                    some (0, M_89)
                  else
                    xb2 (f_M_number S 104 1 9999 4 M_89) fun r_92 M_93 =>
                    if r_92 = 0 then
                      some (0, M_93)
                    else
                      xl (M_93 104 12) fun v4_96 =>
                      M_makes_J265 S 104 l1 v2_37 v4_96 0 M_93
                else
                  if l1 = 3 then
                    xb2 (f_M_wantKey S 104 10 M_38) fun r_98 M_99 =>
                    if r_98 = 0 then
                      some (0, M_99)
                    else
                      xb2 (f_M_number S 104 0 9999 4 M_99) fun r_102 M_103 =>
                      if r_102 = 0 then
                        some (0, M_103)
                      else
                        xl (M_103 104 12) fun v4_106 =>
                        M_makes_J265 S 104 l1 v2_37 v4_106 0 M_103
                  else
                    M_makes_J265 S 104 l1 v2_37 0 0 M_38
def FXl (p c : Nat) (X X' : xM) : Prop := (∀ x, x ≠ 2 → x ≠ p + 5 → x ≠ p + 6 → X' x = X x) ∧ (∀ j, j < 3 ∨ j = 4 ∨ j = 5 → X' 2 j = X 2 j) ∧ ∀ i, i ≠ c → X' (p + 5) i = X (p + 5) i ∧ X' (p + 6) i = X (p + 6) i
theorem FXl.tr {p c : Nat} {A B C : xM} (h : FXl p c A B) (k : FXl p c B C) : FXl p c A C := ⟨fun x h1 h2 h3 => (k.1 x h1 h2 h3).trans (h.1 x h1 h2 h3), fun j hj => (k.2.1 j hj).trans (h.2.1 j hj), fun i hi => ⟨(k.2.2 i hi).1.trans (h.2.2 i hi).1, (k.2.2 i hi).2.trans (h.2.2 i hi).2⟩⟩
theorem FXt.l {A B : xM} (h : FXt A B) {p : Nat} (hp : 3 ≤ p) (c : Nat) : FXl p c A B := ⟨fun x h1 _ _ => h.1 x h1, h.2, fun i _ => by rw [h.1 (p + 5) (by omega), h.1 (p + 6) (by omega)]; exact ⟨rfl, rfl⟩⟩
theorem FXl_5 {p c : Nat} (hp : 3 ≤ p) (X : xM) (v : Int) : FXl p c X (xu X (p + 5) c v) := ⟨fun x _ h2 _ => xu_cell _ _ _ h2, fun j _ => by rw [xu_cell _ _ _ (by omega)], fun i hi => by rw [xu_at, if_neg hi, xu_cell _ _ _ (by omega)]; exact ⟨rfl, rfl⟩⟩
theorem FXl_6 {p c : Nat} (hp : 3 ≤ p) (X : xM) (v : Int) : FXl p c X (xu X (p + 6) c v) := ⟨fun x _ _ h3 => xu_cell _ _ _ h3, fun j _ => by rw [xu_cell _ _ _ (by omega)], fun i hi => by rw [xu_at, if_neg hi, xu_cell _ _ _ (by omega)]; exact ⟨rfl, rfl⟩⟩
theorem SR.plx {b : Nat → Int} {n e p i : Nat} {X Y : xM} {lw : Bool} (h : SR lw b n e X Y) (hp : 4 ≤ p) (v : Int) : SR lw b n e (xu X p i v) Y := h.ofX (fun j _ => by rw [xu_cell _ _ _ (by omega)]) (xu_cell _ _ _ (by omega))
/-- one number behind a word, for a cleaner -/
theorem num_sim {R S : xR} (hL : LR R S false) {p : Nat} (hp3 : 4 ≤ p) {b : Nat → Int} {n e : Nat} (hB : TxB b n) {X Y : xM} (h : SR false b n e X Y) {k : Int} (hk : 0 ≤ k ∧ k < 15) (lo hi : Int) (cell c : Nat) (hcell : 4 ≤ cell) :
    ∃ r X1 Y1, f_A_takeKey R 2 k X = some (r, X1) ∧ f_M_wantKey S 104 (km k) Y = some (r, Y1) ∧ FXt X X1 ∧ FYt Y Y1 ∧ ((r = 0 ∧ FT X1 Y1) ∨ (r = 1 ∧ ∃ s X2 Y2, f_A_takeNumber R 2 lo hi 4 X1 = some (s, X2) ∧ f_M_number S 104 lo hi 4 Y1 = some (s, Y2) ∧ FXt X X2 ∧ FYt Y Y2 ∧ ((s = 0 ∧ FT X2 Y2) ∨ (s = 1 ∧ (∃ e', e ≤ e' ∧ SR false b n e' (xu X2 cell c (X2 2 11)) Y2) ∧ Y2 104 12 = X2 2 11 ∧ lo ≤ X2 2 11 ∧ X2 2 11 ≤ hi)))) := by
  obtain ⟨r, X1, Y1, t1, t2, t3, t4, t5⟩ := takeKey_sim hL hB h hk
  refine ⟨r, X1, Y1, t1, t2, t3, t4, ?_⟩
  rcases t5 with ⟨rfl, t5, t6, -⟩ | ⟨rfl, t5⟩
  · obtain ⟨s, X2, Y2, u1, u2, u3, u4, u5⟩ := takeNumber_sim hL hB t5 lo hi (fk := 4) (by decide)
    refine Or.inr ⟨rfl, s, X2, Y2, u1, u2, t3.tr u3, t4.tr u4, ?_⟩
    rcases u5 with ⟨rfl, u5, u6, u7, u8, u9⟩ | ⟨rfl, u5⟩
    · exact Or.inr ⟨rfl, ⟨_, by omega, u5.plx hcell _⟩, u7, u8, u9⟩
    · exact Or.inl ⟨rfl, u5⟩
  · exact Or.inl ⟨rfl, t5⟩
theorem limit_sim {R S : xR} (hL : LR R S false) {p : Nat} (hp : PnR R p) (hp3 : 4 ≤ p) {b : Nat → Int} {n e : Nat} (hB : TxB b n) {X Y : xM} (h : SR false b n e X Y) {c k : Nat} (hc : c < 8) (hk : k < 4) (hs : X (p + 3) c = (k : Int)) (v2 : Int) :
    ∃ X' Y', FXl p c X X' ∧ FYt Y Y' ∧ ((∃ L F, f_N_readLimit R p 2 (c : Int) X = some (1, X') ∧ mkLim S (k : Int) v2 Y = M_makes_J265 S 104 (k : Int) v2 L F Y' ∧ (∃ e', e ≤ e' ∧ SR false b n e' X' Y') ∧ (X' (p + 5) c = L ∧ 0 ≤ L ∧ L ≤ 9999) ∧ (X' (p + 6) c = F ∧ 0 ≤ F ∧ F ≤ 100 ∧ ((k : Int) ≠ 1 → F = 0))) ∨ (f_N_readLimit R p 2 (c : Int) X = some (0, X') ∧ mkLim S (k : Int) v2 Y = some (0, Y') ∧ FT X' Y')) := by
  have r4 : R p 4 = p + 3 := hp 4 (by decide) (by decide)
  have r6 : R p 6 = p + 5 := hp 6 (by decide) (by decide)
  have r7 : R p 7 = p + 6 := hp 7 (by decide) (by decide)
  obtain ⟨A, hA⟩ : ∃ A, A = xu (xu X (p + 5) c 0) (p + 6) c 0 := ⟨_, rfl⟩
  have fA : FXl p c X A := by rw [hA]; exact (FXl_5 (by omega) X 0).tr (FXl_6 (by omega) _ 0)
  have hA' : SR false b n e A Y := by rw [hA]; exact (h.plx (by omega) _).plx (by omega) _
  have a5 : A (p + 5) c = 0 := by rw [hA, xu_cell _ _ _ (by omega), xu_at, if_pos rfl]
  have a6 : A (p + 6) c = 0 := by rw [hA, xu_at, if_pos rfl]
  unfold f_N_readLimit mkLim
  rw [xch_pos (by omega), xl_eq, xl_eq, xl_eq, r4, r6, r7, Int.toNat_natCast, hs, ← hA]
  by_cases k0 : k = 0
  · subst k0
    rw [if_pos (show ((0 : Nat) : Int) = 0 from rfl), if_neg (show ((0 : Nat) : Int) ≠ 1 by decide), if_neg (show ((0 : Nat) : Int) ≠ 2 by decide), if_neg (show ((0 : Nat) : Int) ≠ 3 by decide)]
    exact ⟨A, Y, fA, FYt.rf Y, Or.inl ⟨0, 0, rfl, rfl, ⟨e, Nat.le_refl e, hA'⟩, ⟨a5, by decide, by decide⟩, a6, by decide, by decide, fun _ => rfl⟩⟩
  · rw [if_neg (show (k : Int) ≠ 0 by omega)]
    unfold f_N_limitWord N_readLimit_J49
    by_cases k1 : k = 1
    · subst k1
      have i1 : ((1 : Nat) : Int) = 1 := rfl
      simp only [if_pos i1, xb1_some, if_neg (show ¬ ((1 : Nat) : Int) = 3 by decide)]
      obtain ⟨r, X1, Y1, t1, t2, t3, t4, t5⟩ := num_sim hL hp3 hB hA' (k := 7) (by decide) 1 9999 (p + 5) c (by omega)
      rw [show km 7 = 7 from rfl] at t2
      rw [t1, t2, xb2_some, xb2_some]
      rcases t5 with ⟨rfl, t5⟩ | ⟨rfl, s, X2, Y2, u1, u2, u3, u4, u5⟩
      · rw [if_pos rfl, if_pos rfl]
        exact ⟨X1, Y1, fA.tr (t3.l (by omega) c), t4, Or.inr ⟨rfl, rfl, t5⟩⟩
      · rw [if_neg (by decide), if_neg (by decide), u1, u2, xb2_some, xb2_some]
        rcases u5 with ⟨rfl, u5⟩ | ⟨rfl, ⟨e2, u5, u6⟩, u7, u8, u9⟩
        · rw [if_pos rfl, if_pos rfl]
          exact ⟨X2, Y2, fA.tr (u3.l (by omega) c), u4, Or.inr ⟨rfl, rfl, u5⟩⟩
        · rw [if_neg (by decide), if_neg (by decide), xch_pos (by omega), xl_eq, xl_eq, r6, Int.toNat_natCast]
          obtain ⟨L, hLd⟩ : ∃ L, L = X2 2 11 := ⟨_, rfl⟩
          rw [← hLd] at u6 u7 u8 u9 ⊢
          obtain ⟨B, hBd⟩ : ∃ B, B = xu X2 (p + 5) c L := ⟨_, rfl⟩
          rw [← hBd] at u6 ⊢
          have fB : FXl p c X B := fA.tr ((u3.l (by omega) c).tr (by rw [hBd]; exact FXl_5 (by omega) X2 L))
          obtain ⟨r, X3, Y3, t1, t2, t3, t4, t5⟩ := num_sim hL hp3 hB u6 (k := 8) (by decide) 0 100 (p + 6) c (by omega)
          rw [show km 8 = 8 from rfl] at t2
          rw [t1, t2, xb2_some, xb2_some]
          rcases t5 with ⟨rfl, t5⟩ | ⟨rfl, s, X4, Y4, w1, w2, w3, w4, w5⟩
          · rw [if_pos rfl, if_pos rfl]
            exact ⟨X3, Y3, fB.tr (t3.l (by omega) c), u4.tr t4, Or.inr ⟨rfl, rfl, t5⟩⟩
          · rw [if_neg (by decide), if_neg (by decide), w1, w2, xb2_some, xb2_some]
            rcases w5 with ⟨rfl, w5⟩ | ⟨rfl, ⟨e3, w5, w6⟩, w7, w8, w9⟩
            · rw [if_pos rfl, if_pos rfl]
              exact ⟨X4, Y4, fB.tr (w3.l (by omega) c), u4.tr w4, Or.inr ⟨rfl, rfl, w5⟩⟩
            · rw [if_neg (by decide), if_neg (by decide), xl_eq, xl_eq, r7, u7, w7]
              refine ⟨_, Y4, fB.tr ((w3.l (by omega) c).tr (FXl_6 (by omega) X4 _)), u4.tr w4, Or.inl ⟨L, X4 2 11, rfl, rfl, ⟨e3, by omega, w6⟩, ⟨?_, by omega, by omega⟩, ⟨?_, by omega, by omega, fun q => absurd i1 q⟩⟩⟩
              · rw [xu_cell _ _ _ (by omega), w3.1 _ (by omega), hBd, xu_at, if_pos rfl]
              · rw [xu_at, if_pos rfl]
    · simp only [if_neg (show ¬ (k : Int) = 1 by omega)]
      have tail : ∀ (wd lo : Int), (0 ≤ wd ∧ wd < 15) → km wd = wd → 0 ≤ lo → ∃ X' Y', FXl p c X X' ∧ FYt Y Y' ∧ ((∃ L F, (xb2 (f_A_takeKey R 2 wd A) fun r_8 M_9 => if r_8 = 0 then some ((0 : Int), M_9) else xb2 (f_A_takeNumber R 2 lo 9999 4 M_9) fun r_13 M_14 => if r_13 = 0 then some ((0 : Int), M_14) else xch (0 ≤ (c : Int) ∧ (c : Int) < 8) <| xl (xu M_14 (p + 5) c (M_14 2 11)) fun M_18 => some ((1 : Int), M_18)) = some (1, X') ∧ (xb2 (f_M_wantKey S 104 wd Y) fun r_88 M_89 => if r_88 = 0 then some ((0 : Int), M_89) else xb2 (f_M_number S 104 lo 9999 4 M_89) fun r_92 M_93 => if r_92 = 0 then some ((0 : Int), M_93) else xl (M_93 104 12) fun v4_96 => M_makes_J265 S 104 (k : Int) v2 v4_96 0 M_93) = M_makes_J265 S 104 (k : Int) v2 L F Y' ∧ (∃ e', e ≤ e' ∧ SR false b n e' X' Y') ∧ (X' (p + 5) c = L ∧ 0 ≤ L ∧ L ≤ 9999) ∧ (X' (p + 6) c = F ∧ 0 ≤ F ∧ F ≤ 100 ∧ ((k : Int) ≠ 1 → F = 0))) ∨ ((xb2 (f_A_takeKey R 2 wd A) fun r_8 M_9 => if r_8 = 0 then some ((0 : Int), M_9) else xb2 (f_A_takeNumber R 2 lo 9999 4 M_9) fun r_13 M_14 => if r_13 = 0 then some ((0 : Int), M_14) else xch (0 ≤ (c : Int) ∧ (c : Int) < 8) <| xl (xu M_14 (p + 5) c (M_14 2 11)) fun M_18 => some ((1 : Int), M_18)) = some (0, X') ∧ (xb2 (f_M_wantKey S 104 wd Y) fun r_88 M_89 => if r_88 = 0 then some ((0 : Int), M_89) else xb2 (f_M_number S 104 lo 9999 4 M_89) fun r_92 M_93 => if r_92 = 0 then some ((0 : Int), M_93) else xl (M_93 104 12) fun v4_96 => M_makes_J265 S 104 (k : Int) v2 v4_96 0 M_93) = some (0, Y') ∧ FT X' Y')) := by
        intro wd lo hwd hkm hlo
        obtain ⟨r, X1, Y1, t1, t2, t3, t4, t5⟩ := num_sim hL hp3 hB hA' (k := wd) hwd lo 9999 (p + 5) c (by omega)
        rw [hkm] at t2
        rw [t1, t2, xb2_some, xb2_some]
        rcases t5 with ⟨rfl, t5⟩ | ⟨rfl, s, X2, Y2, u1, u2, u3, u4, u5⟩
        · rw [if_pos rfl, if_pos rfl]
          exact ⟨X1, Y1, fA.tr (t3.l (by omega) c), t4, Or.inr ⟨rfl, rfl, t5⟩⟩
        · rw [if_neg (by decide), if_neg (by decide), u1, u2, xb2_some, xb2_some]
          rcases u5 with ⟨rfl, u5⟩ | ⟨rfl, ⟨e2, u5, u6⟩, u7, u8, u9⟩
          · rw [if_pos rfl, if_pos rfl]
            exact ⟨X2, Y2, fA.tr (u3.l (by omega) c), u4, Or.inr ⟨rfl, rfl, u5⟩⟩
          · rw [if_neg (by decide), if_neg (by decide), xch_pos (by omega), xl_eq, xl_eq, u7]
            refine ⟨_, Y2, fA.tr ((u3.l (by omega) c).tr (FXl_5 (by omega) X2 _)), u4, Or.inl ⟨X2 2 11, 0, rfl, rfl, ⟨e2, u5, u6⟩, ⟨?_, by omega, by omega⟩, ⟨?_, by decide, by decide, fun _ => rfl⟩⟩⟩
            · rw [xu_at, if_pos rfl]
            · rw [xu_cell _ _ _ (by omega), u3.1 _ (by omega)]
              exact a6
      by_cases k2 : k = 2
      · subst k2
        have i2 : ((2 : Nat) : Int) = 2 := rfl
        simp only [if_pos i2, xb1_some]
        have e3 : ¬ ((2 : Nat) : Int) = 3 := by decide
        have e1 : ¬ ((2 : Nat) : Int) = 1 := by decide
        simp only [if_neg e3, if_neg e1, r6, Int.toNat_natCast]
        exact tail 9 1 (by decide) rfl (by decide)
      · have k3 : k = 3 := by omega
        subst k3
        have i3 : ((3 : Nat) : Int) = 3 := rfl
        have e2 : ¬ ((3 : Nat) : Int) = 2 := by decide
        have e1 : ¬ ((3 : Nat) : Int) = 1 := by decide
        simp only [if_neg e2, xb1_some]
        simp only [if_pos i3, if_neg e1, r6, Int.toNat_natCast]
        exact tail 10 0 (by decide) rfl (by decide)
theorem makes_F283 {S : xR} (hm : MR S) {m : Nat} (hm8 : m < 8) (l1 v2 v4 v5 : Int) (Q : Int → Int → Int → xM → Option (Int × xM)) : ∀ (k f s : Nat) (Y : xM), k < f → s + k = 4 → Y 104 28 = (m : Int) → ∃ Y', M_makes_F283 S 104 l1 Q f v2 v4 v5 (s : Int) Y = Q v2 v4 v5 Y' ∧ (∀ x, x ≠ 113 → Y' x = Y x) ∧ ∀ i, Y' 113 i = if 4 * m + s ≤ i ∧ i < 4 * m + 4 then Y 120 (i - 4 * m) else Y 113 i := by
  have s20 : S 104 20 = 113 := hm.1 20 (by decide) (by decide)
  have s27 : S 104 27 = 120 := hm.1 27 (by decide) (by decide)
  intro k
  induction k with
  | zero =>
    intro f s Y hf hs h28
    obtain ⟨f, rfl⟩ : ∃ g, f = g + 1 := ⟨f - 1, by omega⟩
    refine ⟨Y, ?_, fun _ _ => rfl, fun i => by rw [if_neg (by omega)]⟩
    rw [M_makes_F283, if_neg (by omega)]
  | succ k ih =>
    intro f s Y hf hs h28
    obtain ⟨f, rfl⟩ : ∃ g, f = g + 1 := ⟨f - 1, by omega⟩
    obtain ⟨N, hN⟩ : ∃ N, N = xu Y 113 (4 * m + s) (Y 120 s) := ⟨_, rfl⟩
    obtain ⟨Y', y1, y2, y3⟩ := ih f (s + 1) N (by omega) (by omega) (by rw [hN, xu_cell _ _ _ (by decide)]; exact h28)
    refine ⟨Y', ?_, fun x hx => by rw [y2 x hx, hN, xu_cell _ _ _ hx], fun i => ?_⟩
    · rw [M_makes_F283, if_pos (by omega), xch_pos (by omega), h28, w32_of (x := 4 * (m : Int)) (by omega) (by omega), w32_of (x := 4 * (m : Int) + (s : Int)) (by omega) (by omega), xch_pos (by omega), xl_eq, xl_eq, s20, s27, Int.toNat_natCast, show (4 * (m : Int) + (s : Int)).toNat = 4 * m + s by omega, ← hN, w32_of (x := (s : Int) + 1) (by omega) (by omega)]
      exact y1
    · rw [y3, hN, xu_cell _ _ _ (by decide), xu_at]
      by_cases z : i = 4 * m + s
      · rw [if_neg (by omega), if_pos z, if_pos (by omega), z, show 4 * m + s - 4 * m = s by omega]
      · by_cases y : 4 * m + (s + 1) ≤ i ∧ i < 4 * m + 4
        · rw [if_pos y, if_pos (by omega)]
        · rw [if_neg y, if_neg z, if_neg (by omega)]
