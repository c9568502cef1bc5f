/-! ===== laws: a law ===== -/
theorem takeKeyL {R S : xR} (hL : LR R S true) {b : Nat → Int} {n e : Nat} (hB : TxB b n) {X Y : xM} (h : SR true b n e X Y) {k : Int} (hk : 0 ≤ k) : ∃ r X' Y', f_A_takeKey R 2 k X = some (r, X') ∧ FXt X X' ∧ FYt Y Y' ∧ ((r = 1 ∧ f_M_inWords S 104 7 Y = some k ∧ f_M_next S 104 Y = some Y' ∧ SR true b n (lxE b n e) X' Y' ∧ e < lxE b n e) ∨ (r = 0 ∧ (∃ v, f_M_inWords S 104 7 Y = some v ∧ v ≠ k) ∧ f_M_fails 104 2 Y = some (0, Y') ∧ FT X' Y')) := by
  obtain ⟨k1, k2, k3⟩ := keyL_eq hL hB h
  unfold f_A_takeKey A_takeKey_J14
  by_cases z : X 2 9 = k
  · have kw := k3 (by omega)
    rw [if_pos z, stands_ok h (by omega) (by decide), xb2_some, if_neg (by decide)]
    obtain ⟨X', Y', x1, x2, x3, x4, x5⟩ := adv_sim hL hB h
    rw [x1, xb1_some]
    exact ⟨1, X', Y', rfl, x4.t, x5.t, Or.inl ⟨rfl, by rw [k1, z], x2, x3, lx_more (lw := true) h.2.2 (by omega)⟩⟩
  · rw [if_neg z]
    obtain ⟨X', Y', x1, x2, x3, x4, x5⟩ := stands_fail h
    rw [x1, xb2_some, if_pos rfl]
    exact ⟨0, X', Y', rfl, x4, x5, Or.inr ⟨rfl, ⟨_, k1, z⟩, x2, x3⟩⟩
/-- law l as both hold it -/
def LwI (q c : Nat) (X Y : xM) (l : Nat) : Prop := NmR (X (q + 1) l) (Y 129 l) ∧ (∃ s t : Nat, X (q + 2) l = (s : Int) ∧ Y 134 l = (s : Int) ∧ X (q + 3) l = (t : Int) ∧ Y 135 l = (t : Int) ∧ s ≤ t ∧ t ≤ c ∧ GD (X (q + 6)) s (t - s) ∧ dp (X (q + 6)) s (t - s) = 1) ∧ ((1 ≤ X (q + 4) l ∧ X (q + 4) l ≤ 24) ∧ Y 136 l = X (q + 4) l) ∧ ((0 ≤ X (q + 5) l ∧ X (q + 5) l ≤ 9999) ∧ Y 137 l = X (q + 5) l)
def LwD (q m c : Nat) (X Y : xM) : Prop := m ≤ 8 ∧ (X q 0 = (m : Int) ∧ Y 104 41 = (m : Int)) ∧ (X q 7 = (c : Int) ∧ Y 104 43 = (c : Int)) ∧ (∀ i, i < c → stR (X (q + 6) i) (Y 140 i) (Y 141 i)) ∧ ∀ l, l < m → LwI q c X Y l
def FXL (q : Nat) (X X' : xM) : Prop := (∀ x, x ≠ 2 → x < q ∨ q + 7 ≤ x → X' x = X x) ∧ ∀ j, j < 3 ∨ j = 4 ∨ j = 5 → X' 2 j = X 2 j
def FYL (Y Y' : xM) : Prop := (∀ x, x ≠ 104 → x < 129 ∨ (130 ≤ x ∧ x < 134) ∨ x = 138 ∨ x = 139 ∨ 144 ≤ x → Y' x = Y x) ∧ ∀ j, j < 8 ∨ j = 13 ∨ (16 ≤ j ∧ j ≠ 41 ∧ j ≠ 43) → Y' 104 j = Y 104 j
theorem FXL.tr {q : Nat} {A B C : xM} (h : FXL q A B) (k : FXL q B C) : FXL q A C := ⟨fun x h1 h2 => (k.1 x h1 h2).trans (h.1 x h1 h2), fun j hj => (k.2 j hj).trans (h.2 j hj)⟩
theorem FYL.tr {A B C : xM} (h : FYL A B) (k : FYL B C) : FYL A C := ⟨fun x h1 h2 => (k.1 x h1 h2).trans (h.1 x h1 h2), fun j hj => (k.2 j hj).trans (h.2 j hj)⟩
theorem FXt.L {A B : xM} (h : FXt A B) (q : Nat) : FXL q A B := ⟨fun x h1 _ => h.1 x h1, h.2⟩
theorem FYt.L {A B : xM} (h : FYt A B) : FYL A B := ⟨fun x h1 _ => h.1 x h1, fun j hj => h.2 j (by omega)⟩
theorem FXq.L {q : Nat} {A B : xM} (h : FXq q A B) : FXL q A B := ⟨fun x h1 h2 => h.1 x h1 (by omega) (by omega), h.2.1⟩
theorem FZ.L {A B : xM} (h : FZ A B) : FYL A B := ⟨fun x h1 h2 => h.1 x h1 (by omega), fun j hj => h.2 j (by omega)⟩
theorem lawN_F {R S : xR} {q : Nat} (hq : LwR R q) (hS : MS S) {X Y : xM} {m : Nat} (hm8 : m ≤ 8) (x0 : X q 0 = (m : Int)) (y0 : Y 104 41 = (m : Int)) (hn : ∀ l, l < m → NmR (X (q + 1) l) (Y 129 l)) {x y : Int} (hxy : NmR x y) {V : xM} (hf : f_M_fails 104 4 Y = some (0, V)) (Q : Int → xM → Option (Int × xM)) : ∀ (k f g l : Nat), k < f → k < g → l + k = m → (L_isLawName_F2 R X q x f (l : Int) = some 1 ∧ M_law_F36 S 104 Q g y (l : Int) Y = some (0, V)) ∨ (L_isLawName_F2 R X q x f (l : Int) = some 0 ∧ M_law_F36 S 104 Q g y (l : Int) Y = Q y Y) := by
  have r1 : R q 1 = q + 1 := hq 1 (by decide) (by decide)
  have s44 : S 104 44 = 129 := hS 44 (by decide) (by decide)
  intro k
  induction k with
  | zero =>
    intro f g l hf hg hl
    obtain ⟨f, rfl⟩ : ∃ g, f = g + 1 := ⟨f - 1, by omega⟩
    obtain ⟨g, rfl⟩ : ∃ h, g = h + 1 := ⟨g - 1, by omega⟩
    rw [L_isLawName_F2, M_law_F36, x0, y0, if_neg (by omega), if_neg (by omega)]
    exact Or.inr ⟨rfl, rfl⟩
  | succ k ih =>
    intro f g l hf' hg hl
    obtain ⟨f, rfl⟩ : ∃ g, f = g + 1 := ⟨f - 1, by omega⟩
    obtain ⟨g, rfl⟩ : ∃ h, g = h + 1 := ⟨g - 1, by omega⟩
    have e := (hn l (by omega)).eq hxy
    rw [L_isLawName_F2, M_law_F36, x0, y0, if_pos (show (l : Int) < (m : Int) by omega), if_pos (show (l : Int) < (m : Int) by omega), xch_pos (by omega), xch_pos (by omega), r1, s44, Int.toNat_natCast, hf, xb2_some, xch_01.1, xl_eq, xl_eq, w32_of (x := (l : Int) + 1) (by omega) (by omega), show (l : Int) + 1 = ((l + 1 : Nat) : Int) by omega]
    by_cases z : X (q + 1) l = x
    · rw [if_pos z, if_pos (e.1 z)]
      exact Or.inl ⟨rfl, rfl⟩
    · rw [if_neg z, if_neg (fun w => z (e.2 w))]
      exact ih f g (l + 1) (by omega) (by omega) (by omega)
/-- the model, behind a law's sum -/
def lwB (S : xR) (M_38 : xM) : Option (Int × xM) :=
              xb1 (f_M_inWords S 104 7 M_38) fun r_39 =>
              if r_39 = 6 then
                xb1 (f_M_next S 104 M_38) fun M_42 =>
                xb2 (f_M_number S 104 1 24 6 M_42) fun r_44 M_45 =>
                if r_44 = 0 then
                  some (0, M_45)
                else
                  xch (0 ≤ M_45 104 41 ∧ M_45 104 41 < 8) <|
                  xl (xu M_45 (S 104 51) (Int.toNat (M_45 104 41)) (M_45 104 12)) fun M_49 =>
                  xb1 (f_M_inWords S 104 7 M_49) fun r_50 =>
                  if r_50 = 7 then
                    xb1 (f_M_next S 104 M_49) fun M_53 =>
                    xb2 (f_M_number S 104 0 9999 6 M_53) fun r_55 M_56 =>
                    if r_55 = 0 then
                      some (0, M_56)
                    else
                      xch (0 ≤ M_56 104 41 ∧ M_56 104 41 < 8) <|
                      xl (xu M_56 (S 104 52) (Int.toNat (M_56 104 41)) (M_56 104 12)) fun M_60 =>
                      xb1 (f_M_isSign 104 59 M_60) fun r_61 =>
                      if r_61 = 0 then
                        xb2 (f_M_fails 104 2 M_60) fun r_64 M_65 =>
                        xch (r_64 = 0 ∨ r_64 = 1) <|
                        some (r_64, M_65)
                      else
                        xb1 (f_M_next S 104 M_60) fun M_68 =>
                        xl (xu M_68 104 41 (w32 ((M_68 104 41) + 1))) fun M_70 =>
                        some (1, M_70)
                  else
                    xb2 (f_M_fails 104 2 M_49) fun r_71 M_72 =>
                    xch (r_71 = 0 ∨ r_71 = 1) <|
                    some (r_71, M_72)
              else
                xb2 (f_M_fails 104 2 M_38) fun r_75 M_76 =>
                xch (r_75 = 0 ∨ r_75 = 1) <|
                some (r_75, M_76)
/-- the model, behind a law's name -/
def lwQ (S : xR) (v1_21 : Int) (M_22 : xM) : Option (Int × xM) :=
          xch (0 ≤ M_22 104 41 ∧ M_22 104 41 < 8) <|
          xl (xu M_22 (S 104 44) (Int.toNat (M_22 104 41)) v1_21) fun M_24 =>
          xb1 (f_M_next S 104 M_24) fun M_25 =>
          xb2 (f_M_want S 104 58 M_25) fun r_27 M_28 =>
          if r_27 = 0 then
            some (0, M_28)
          else
            xch (0 ≤ M_28 104 41 ∧ M_28 104 41 < 8) <|
            xl (xu M_28 (S 104 49) (Int.toNat (M_28 104 41)) (M_28 104 43)) fun M_32 =>
            xb2 (f_M_sum S 104 M_32) fun r_33 M_34 =>
            if r_33 = 0 then
              some (0, M_34)
            else
              xch (0 ≤ M_34 104 41 ∧ M_34 104 41 < 8) <|
              xl (xu M_34 (S 104 50) (Int.toNat (M_34 104 41)) (M_34 104 43)) fun M_38 =>
              lwB S M_38
/-- a sum, whole -/
theorem sum0 {R S : xR} (hL : LR R S true) {q : Nat} (hq : LwR R q) (hq4 : 4 ≤ q) (hS : MS S) {b : Nat → Int} {n : Nat} (hB : TxB b n) {s e c : Nat} {X Y : xM} (h : SR true b n e X Y) (hs : LSt q s c X Y) (hsc : s = c) (hc : c ≤ e) : ∃ r X' Y', f_L_readSum R 10 q 2 0 X = some (r, X') ∧ f_M_sum S 104 Y = some (r, Y') ∧ FXq q X X' ∧ FZ Y Y' ∧ ((r = 1 ∧ ∃ e' c', e < e' ∧ SR true b n e' X' Y' ∧ LSt q s c' X' Y' ∧ DP q s c' X' = 1 ∧ c' ≤ e' ∧ c ≤ c' ∧ ∀ i, i < c → X' (q + 6) i = X (q + 6) i) ∨ (r = 0 ∧ FT X' Y')) := by
  have xf : xfu = 1000000 := rfl
  have hn := hB.1
  have he := h.2.2
  have s57 : S 104 57 = 142 := hS 57 (by decide) (by decide)
  have s58 : S 104 58 = 143 := hS 58 (by decide) (by decide)
  obtain ⟨A, hA⟩ : ∃ A, A = xu (xu Y 142 0 0) 143 0 0 := ⟨_, rfl⟩
  have aO : ∀ x, x ≠ 142 → x ≠ 143 → A x = Y x := fun x h1 h2 => by rw [hA, xu_cell _ _ _ h2, xu_cell _ _ _ h1]
  have h1 : SR true b n e X A := h.ofY (fun j _ _ _ _ => by rw [aO 104 (by decide) (by decide)]) (aO 109 (by decide) (by decide))
  have hs1 : LSt q s c X A := hs.y (by rw [aO 104 (by decide) (by decide)]) (aO 140 (by decide) (by decide)) (aO 141 (by decide) (by decide))
  have d0 : DP q s c X = 0 := by unfold DP; rw [hsc, Nat.sub_self]; rfl
  obtain ⟨X', Y', g1, g2, g3⟩ := sums hL hq hq4 hS hB (s := s) 6 (by omega) e c 0 0 X A h1 hs1 d0 (by omega) (by omega) (by omega) (by rw [hA, xu_cell _ _ _ (by decide), xu_at, if_pos rfl]) (by rw [hA, xu_at, if_pos rfl])
  have st : f_M_sum S 104 Y = M_sum_F18 S 104 xfu 0 1 A := by
    unfold f_M_sum
    rw [xl_eq, xl_eq, s57, s58, hA]
    rfl
  have fz : FZ Y Y' := FZ.tr (B := A) ⟨fun x _ h2 => aO x (by omega) (by omega), fun j _ => by rw [aO 104 (by decide) (by decide)]⟩ g2
  rcases g3 with ⟨e', c', k, g3, g4, g5, g6, g7, g8, g9, g10, g11, g12, -⟩ | ⟨k, g3, g4, g5, g6, g7⟩
  · have g3' : f_L_readSum R 10 q 2 0 X = some (1, X') := g3
    refine ⟨1, X', Y', g3', ?_, g1, fz, Or.inl ⟨rfl, e', c', g6, g7, g8, by rw [g9]; rfl, by omega, g11, g12⟩⟩
    have := g5 (xfu - k)
    have e2 := g7.2.2
    rw [st]
    have this' : M_sum_F18 S 104 (xfu - k + k) 0 1 A = sumE S (xfu - k) 0 Y' := this
    rw [show xfu - k + k = xfu by omega] at this'
    rw [this']
    unfold sumE
    rw [if_pos rfl]
  · have g3' : f_L_readSum R 10 q 2 0 X = some (0, X') := g3
    refine ⟨0, X', Y', g3', ?_, g1, fz, Or.inr ⟨rfl, g6⟩⟩
    have := g5 (xfu - k)
    rw [st]
    have this' : M_sum_F18 S 104 (xfu - k + k) 0 1 A = some (0, Y') := this
    rw [show xfu - k + k = xfu by omega] at this'
    exact this'
theorem SR.cells {lw : Bool} {b : Nat → Int} {n e : Nat} {X Y X' Y' : xM} (h : SR lw b n e X Y) (hx : X' 2 = X 2) (hx3 : X' 3 = X 3) (hy : ∀ j, 7 ≤ j → j < 17 → Y' 104 j = Y 104 j) (hy9 : Y' 109 = Y 109) : SR lw b n e X' Y' := (h.ofX (fun j _ => by rw [hx]) hx3).ofY (fun j h1 _ _ h4 => hy j h1 h4) hy9
/-- what follows a law's sum -/
def FXb (q m : Nat) (X X' : xM) : Prop := (∀ x, x ≠ 2 → x ≠ q + 4 → x ≠ q + 5 → X' x = X x) ∧ (∀ j, j < 3 ∨ j = 4 ∨ j = 5 → X' 2 j = X 2 j) ∧ ∀ i, i ≠ m → X' (q + 4) i = X (q + 4) i ∧ X' (q + 5) i = X (q + 5) i
def FYb (m : Nat) (Y Y' : xM) : Prop := (∀ x, x ≠ 104 → x ≠ 136 → x ≠ 137 → Y' x = Y x) ∧ (∀ j, j < 8 ∨ j = 13 ∨ (16 ≤ j ∧ j ≠ 41) → Y' 104 j = Y 104 j) ∧ ∀ i, i ≠ m → Y' 136 i = Y 136 i ∧ Y' 137 i = Y 137 i
theorem FXb.tr {q m : Nat} {A B C : xM} (h : FXb q m A B) (k : FXb q m B C) : FXb q m A C := ⟨fun x h1 h2 h3 => (k.1 x h1 h2 h3).trans (h.1 x h1 h2 h3), fun j hj => (k.2.1 j hj).trans (h.2.1 j hj), fun i hi => ⟨(k.2.2 i hi).1.trans (h.2.2 i hi).1, (k.2.2 i hi).2.trans (h.2.2 i hi).2⟩⟩
theorem FYb.tr {m : Nat} {A B C : xM} (h : FYb m A B) (k : FYb m B C) : FYb m A C := ⟨fun x h1 h2 h3 => (k.1 x h1 h2 h3).trans (h.1 x h1 h2 h3), fun j hj => (k.2.1 j hj).trans (h.2.1 j hj), fun i hi => ⟨(k.2.2 i hi).1.trans (h.2.2 i hi).1, (k.2.2 i hi).2.trans (h.2.2 i hi).2⟩⟩
theorem FXt.b {A B : xM} (h : FXt A B) {q : Nat} (hq : 4 ≤ q) (m : Nat) : FXb q m A B := ⟨fun x h1 _ _ => h.1 x h1, h.2, fun i _ => by rw [h.1 (q + 4) (by omega), h.1 (q + 5) (by omega)]; exact ⟨rfl, rfl⟩⟩
theorem FYt.b {A B : xM} (h : FYt A B) (m : Nat) : FYb m A B := ⟨fun x h1 _ _ => h.1 x h1, fun j hj => h.2 j (by omega), fun i _ => by rw [h.1 136 (by decide), h.1 137 (by decide)]; exact ⟨rfl, rfl⟩⟩
theorem bounds_sim {R S : xR} (hL : LR R S true) {q : Nat} (hq : LwR R q) (hq4 : 4 ≤ q) (hS : MS S) {b : Nat → Int} {n : Nat} (hB : TxB b n) {e m : Nat} (hm : m < 8) {X Y : xM} (h : SR true b n e X Y) (y41 : Y 104 41 = (m : Int)) : ∃ r X' Y', (xb2 (f_L_readBounds R q 2 (m : Int) X) fun r_27 M_28 => if r_27 = 0 then some ((0 : Int), M_28) else xb2 (f_A_takeSign R 2 59 M_28) fun r_31 M_32 => if r_31 = 0 then some ((0 : Int), M_32) else some ((1 : Int), M_32)) = some (r, X') ∧ lwB S Y = some (r, Y') ∧ FXb q m X X' ∧ FYb m Y Y' ∧ ((r = 1 ∧ ∃ e', e < e' ∧ SR true b n e' X' Y' ∧ Y' 104 41 = (m : Int) + 1 ∧ ((1 ≤ X' (q + 4) m ∧ X' (q + 4) m ≤ 24) ∧ Y' 136 m = X' (q + 4) m) ∧ ((0 ≤ X' (q + 5) m ∧ X' (q + 5) m ≤ 9999) ∧ Y' 137 m = X' (q + 5) m)) ∨ (r = 0 ∧ FT X' Y')) := by
  have n10 : ¬ (1 : Int) = 0 := by decide
  have r4 : R q 4 = q + 4 := hq 4 (by decide) (by decide)
  have r5 : R q 5 = q + 5 := hq 5 (by decide) (by decide)
  have s51 : S 104 51 = 136 := hS 51 (by decide) (by decide)
  have s52 : S 104 52 = 137 := hS 52 (by decide) (by decide)
  unfold f_L_readBounds lwB
  obtain ⟨r, X1, Y1, t1, t2, t3, t4⟩ := takeKeyL hL hB h (k := 6) (by decide)
  rcases t4 with ⟨rfl, t4, t5, t6, t7⟩ | ⟨rfl, ⟨v, t4, t4'⟩, t5, t6⟩
  · rw [t1, t4, xb2_some, xb1_some, if_neg n10, if_pos rfl, t5, xb1_some]
    obtain ⟨r, X2, Y2, u1, u2, u3, u4, u5⟩ := takeNumber_sim hL hB t6 1 24 (fk := 6) (by decide)
    rw [u1, u2, xb2_some, xb2_some]
    have fX2 := t2.tr u3
    have fY2 := t3.tr u4
    rcases u5 with ⟨rfl, u5, u6, u7, u8, u9⟩ | ⟨rfl, u5⟩
    · have y2m : Y2 104 41 = (m : Int) := by rw [fY2.2 41 (by decide)]; exact y41
      rw [if_neg n10, if_neg n10, xch_pos (by omega), y2m, xch_pos (by omega), xl_eq, xl_eq, r4, s51, Int.toNat_natCast, u7]
      obtain ⟨o, ho⟩ : ∃ o, o = X2 2 11 := ⟨_, rfl⟩
      rw [← ho] at u7 u8 u9 ⊢
      obtain ⟨A, hA⟩ : ∃ A, A = xu X2 (q + 4) m o := ⟨_, rfl⟩
      obtain ⟨B, hBd⟩ : ∃ B, B = xu Y2 136 m o := ⟨_, rfl⟩
      rw [← hA, ← hBd]
      have aO : ∀ x, x ≠ q + 4 → A x = X2 x := fun x hx => by rw [hA, xu_cell _ _ _ hx]
      have bO : ∀ x, x ≠ 136 → B x = Y2 x := fun x hx => by rw [hBd, xu_cell _ _ _ hx]
      have hAB : SR true b n (lxE b n (lxE b n e)) A B := u5.cells (aO 2 (by omega)) (aO 3 (by omega)) (fun j _ _ => by rw [bO 104 (by decide)]) (bO 109 (by decide))
      have fA : FXb q m X A := (fX2.b hq4 m).tr ⟨fun x _ h2 _ => aO x h2, fun j _ => by rw [aO 2 (by omega)], fun i hi => by rw [aO (q + 5) (by omega), hA, xu_at, if_neg hi]; exact ⟨rfl, rfl⟩⟩
      have fB : FYb m Y B := (fY2.b m).tr ⟨fun x _ h2 _ => bO x h2, fun j _ => by rw [bO 104 (by decide)], fun i hi => by rw [bO 137 (by decide), hBd, xu_at, if_neg hi]; exact ⟨rfl, rfl⟩⟩
      obtain ⟨r, X3, Y3, v1, v2, v3, v4⟩ := takeKeyL hL hB hAB (k := 7) (by decide)
      rcases v4 with ⟨rfl, v4, v5, v6, v7⟩ | ⟨rfl, ⟨w, v4, v4'⟩, v5, v6⟩
      · rw [v1, v4, xb2_some, xb1_some, if_neg n10, if_pos rfl, v5, xb1_some]
        obtain ⟨r, X4, Y4, w1, w2, w3, w4, w5⟩ := takeNumber_sim hL hB v6 0 9999 (fk := 6) (by decide)
        rw [w1, w2, xb2_some, xb2_some]
        have fX4 := v2.tr w3
        have fY4 := v3.tr w4
        rcases w5 with ⟨rfl, w5, w6, w7, w8, w9⟩ | ⟨rfl, w5⟩
        · have y4m : Y4 104 41 = (m : Int) := by rw [fY4.2 41 (by decide), bO 104 (by decide)]; exact y2m
          rw [if_neg n10, if_neg n10, y4m, xch_pos (by omega), xl_eq, xl_eq, r5, s52, Int.toNat_natCast, w7, xb2_some, if_neg n10]
          obtain ⟨o2, ho2⟩ : ∃ o2, o2 = X4 2 11 := ⟨_, rfl⟩
          rw [← ho2] at w7 w8 w9 ⊢
          obtain ⟨C, hC⟩ : ∃ C, C = xu X4 (q + 5) m o2 := ⟨_, rfl⟩
          obtain ⟨D, hD⟩ : ∃ D, D = xu Y4 137 m o2 := ⟨_, rfl⟩
          rw [← hC, ← hD]
          have cO : ∀ x, x ≠ q + 5 → C x = X4 x := fun x hx => by rw [hC, xu_cell _ _ _ hx]
          have dO : ∀ x, x ≠ 137 → D x = Y4 x := fun x hx => by rw [hD, xu_cell _ _ _ hx]
          obtain ⟨e5, he5⟩ : ∃ e5, e5 = lxE b n (lxE b n (lxE b n (lxE b n e))) := ⟨_, rfl⟩
          have hCD : SR true b n e5 C D := by rw [he5]; exact w5.cells (cO 2 (by omega)) (cO 3 (by omega)) (fun j _ _ => by rw [dO 104 (by decide)]) (dO 109 (by decide))
          have fC : FXb q m X C := fA.tr ((fX4.b hq4 m).tr ⟨fun x _ _ h3 => cO x h3, fun j _ => by rw [cO 2 (by omega)], fun i hi => by rw [cO (q + 4) (by omega), hC, xu_at, if_neg hi]; exact ⟨rfl, rfl⟩⟩)
          have fD : FYb m Y D := fB.tr ((fY4.b m).tr ⟨fun x _ _ h3 => dO x h3, fun j _ => by rw [dO 104 (by decide)], fun i hi => by rw [dO 136 (by decide), hD, xu_at, if_neg hi]; exact ⟨rfl, rfl⟩⟩)
          have sg := isSign_eq hCD 59
          unfold f_A_takeSign
          rw [sg.1, sg.2, xb1_some, xb1_some]
          have le : e < e5 := by
            rw [he5]
            omega
          by_cases z : lxK true b n e5 = 3 ∧ lxV b n e5 = 59
          · rw [if_pos z, stands_ok hCD (by omega) n10, xb2_some, if_neg n10, if_neg n10]
            obtain ⟨X5, Y5, q1, q2, q3, q4, q5⟩ := adv_sim hL hB hCD
            have y5m : Y5 104 41 = (m : Int) := by rw [q5.2 41 (by decide), dO 104 (by decide)]; exact y4m
            rw [q1, q2, xb1_some, xb1_some, xb2_some, if_neg n10, xl_eq, y5m, w32_of (x := (m : Int) + 1) (by omega) (by omega)]
            have li := lx_in (b := b) (n := n) (e := e5) hCD.2.2
            refine ⟨1, X5, xu Y5 104 41 ((m : Int) + 1), rfl, rfl, fC.tr (q4.t.b hq4 m), fD.tr ((q5.t.b m).tr ⟨fun x h1 _ _ => xu_cell _ _ _ h1, fun j hj => by rw [xu_at, if_neg (by omega)], fun i _ => by rw [xu_cell _ _ _ (show 136 ≠ 104 by decide), xu_cell _ _ _ (show 137 ≠ 104 by decide)]; exact ⟨rfl, rfl⟩⟩), Or.inl ⟨rfl, lxE b n e5, by omega, q3.ofY (fun j _ _ _ h4 => by rw [xu_at, if_neg (by omega)]) (xu_cell _ _ _ (by decide)), by rw [xu_at, if_pos rfl], ?_, ?_⟩⟩
            · rw [q4.1 _ (by omega), cO _ (by omega), fX4.1 _ (by omega), hA, xu_at, if_pos rfl, xu_cell _ _ _ (show 136 ≠ 104 by decide), q5.1 136 (by decide), dO 136 (by decide), fY4.1 136 (by decide), hBd, xu_at, if_pos rfl]
              exact ⟨⟨u8, u9⟩, rfl⟩
            · rw [q4.1 _ (by omega), hC, xu_at, if_pos rfl, xu_cell _ _ _ (show 137 ≠ 104 by decide), q5.1 137 (by decide), hD, xu_at, if_pos rfl]
              exact ⟨⟨w8, w9⟩, rfl⟩
          · rw [if_neg z]
            obtain ⟨X', Y', z1, z2, z3, z4, z5⟩ := stands_fail hCD
            rw [z1, z2, xb2_some, xb2_some, if_pos rfl, if_pos rfl, xch_01.1, xb2_some, if_pos rfl]
            exact ⟨0, X', Y', rfl, rfl, fC.tr (z4.b hq4 m), fD.tr (z5.b m), Or.inr ⟨rfl, z3⟩⟩
        · rw [if_pos rfl, if_pos rfl, xb2_some, if_pos rfl]
          exact ⟨0, X4, Y4, rfl, rfl, fA.tr (fX4.b hq4 m), fB.tr (fY4.b m), Or.inr ⟨rfl, w5⟩⟩
      · rw [v1, v4, xb2_some, xb1_some, if_pos rfl, if_neg v4', v5, xb2_some, xb2_some, if_pos rfl, xch_01.1]
        exact ⟨0, X3, Y3, rfl, rfl, fA.tr (v2.b hq4 m), fB.tr (v3.b m), Or.inr ⟨rfl, v6⟩⟩
    · rw [if_pos rfl, if_pos rfl, xb2_some, if_pos rfl]
      exact ⟨0, X2, Y2, rfl, rfl, fX2.b hq4 m, fY2.b m, Or.inr ⟨rfl, u5⟩⟩
  · rw [t1, t4, xb2_some, xb1_some, if_pos rfl, if_neg t4', t5, xb2_some, xb2_some, if_pos rfl, xch_01.1]
    exact ⟨0, X1, Y1, rfl, rfl, t2.b hq4 m, t3.b m, Or.inr ⟨rfl, t6⟩⟩
