/-! ===== texts: class and model side by side; X is the class's memory, Y the model's ===== -/
def SR (lw : Bool) (b : Nat → Int) (n e : Nat) (X Y : xM) : Prop := (TxX b n X ∧ TkX lw b n e X ∧ X 2 12 = 0 ∧ X 2 13 = -1) ∧ (TxM b n Y ∧ TkM lw b n e Y ∧ Y 104 16 = (if lw then 1 else 0) ∧ Y 104 15 = 0 ∧ Y 104 14 = -1) ∧ e ≤ n
/-- the first fault, alike -/
def FT (X Y : xM) : Prop := 1 ≤ X 2 12 ∧ Y 104 15 = X 2 12 ∧ Y 104 14 = X 2 13
def FXt (X X' : xM) : Prop := (∀ x, x ≠ 2 → X' x = X x) ∧ ∀ j, j < 3 ∨ j = 4 ∨ j = 5 → X' 2 j = X 2 j
def FYt (Y Y' : xM) : Prop := (∀ x, x ≠ 104 → Y' x = Y x) ∧ ∀ j, j < 8 ∨ j = 13 ∨ 16 ≤ j → Y' 104 j = Y 104 j
theorem FXt.tr {A B C : xM} (h : FXt A B) (k : FXt B C) : FXt A C := ⟨fun x hx => (k.1 x hx).trans (h.1 x hx), fun j hj => (k.2 j hj).trans (h.2 j hj)⟩
theorem FYt.tr {A B C : xM} (h : FYt A B) (k : FYt B C) : FYt A C := ⟨fun x hx => (k.1 x hx).trans (h.1 x hx), fun j hj => (k.2 j hj).trans (h.2 j hj)⟩
theorem FXt.rf (A : xM) : FXt A A := ⟨fun _ _ => rfl, fun _ _ => rfl⟩
theorem FYt.rf (A : xM) : FYt A A := ⟨fun _ _ => rfl, fun _ _ => rfl⟩
theorem SR.ofX {lw : Bool} {b : Nat → Int} {n e : Nat} {X Y X' : xM} (h : SR lw b n e X Y) (h2 : ∀ j, j ≠ 11 → X' 2 j = X 2 j) (h3 : X' 3 = X 3) : SR lw b n e X' Y := by
  obtain ⟨⟨a1, a2, a3, a4⟩, q⟩ := h
  refine ⟨⟨a1.of (h2 2 (by decide)) h3, ?_, by rw [h2 12 (by decide)]; exact a3, by rw [h2 13 (by decide)]; exact a4⟩, q⟩
  unfold TkX
  rw [h2 3 (by decide), h2 6 (by decide), h2 7 (by decide), h2 8 (by decide), h2 9 (by decide), h2 10 (by decide)]
  exact a2
theorem SR.ofY {lw : Bool} {b : Nat → Int} {n e : Nat} {X Y Y' : xM} (h : SR lw b n e X Y) (h2 : ∀ j, 7 ≤ j → j ≠ 12 → j ≠ 13 → j < 17 → Y' 104 j = Y 104 j) (h3 : Y' 109 = Y 109) : SR lw b n e X Y' := by
  obtain ⟨p, ⟨a1, a2, a3, a4, a5⟩, q⟩ := h
  refine ⟨p, ⟨a1.of (h2 7 (by decide) (by decide) (by decide) (by decide)) h3, ?_, by rw [h2 16 (by decide) (by decide) (by decide) (by decide)]; exact a3, by rw [h2 15 (by decide) (by decide) (by decide) (by decide)]; exact a4, by rw [h2 14 (by decide) (by decide) (by decide) (by decide)]; exact a5⟩, q⟩
  unfold TkM
  rw [h2 8 (by decide) (by decide) (by decide) (by decide), h2 9 (by decide) (by decide) (by decide) (by decide), h2 10 (by decide) (by decide) (by decide) (by decide), h2 11 (by decide) (by decide) (by decide) (by decide)]
  exact a2
/-- the references that texts need -/
def LR (R S : xR) (lw : Bool) : Prop := LG R lw ∧ S 104 5 = 109
theorem adv_sim {R S : xR} {lw : Bool} (hL : LR R S lw) {b : Nat → Int} {n e : Nat} (hB : TxB b n) {X Y : xM} (h : SR lw b n e X Y) : ∃ X' Y', f_A_advance R 2 X = some X' ∧ f_M_next S 104 Y = some Y' ∧ SR lw b n (lxE b n e) X' Y' ∧ FrA X X' ∧ FrQ Y Y' := by
  obtain ⟨⟨a1, a2, a3, a4⟩, ⟨c1, c2, c3, c4, c5⟩, he⟩ := h
  have li := lx_in (b := b) he
  obtain ⟨X', x1, x2, x3⟩ := adv_eq hL.1 hB (e := lxE b n e) (by omega) a1 a2.1
  obtain ⟨Y', y1, y2, y3⟩ := next_eq hL.2 hB (e := lxE b n e) (by omega) c1 c2.1 c3
  exact ⟨X', Y', x1, y1, ⟨⟨a1.of (x2.2 2 (by decide)) (x2.1 3 (by decide)), x3, by rw [x2.2 12 (by decide)]; exact a3, by rw [x2.2 13 (by decide)]; exact a4⟩, ⟨c1.of (y2.2 7 (by decide)) (y2.1 109 (by decide)), y3, by rw [y2.2 16 (by decide)]; exact c3, by rw [y2.2 15 (by decide)]; exact c4, by rw [y2.2 14 (by decide)]; exact c5⟩, by omega⟩, x2, y2⟩
theorem FrA.t {X X' : xM} (h : FrA X X') : FXt X X' := ⟨h.1, fun j hj => h.2 j (by omega)⟩
theorem FrQ.t {Y Y' : xM} (h : FrQ Y Y') : FYt Y Y' := ⟨h.1, fun j hj => h.2 j (by omega)⟩
theorem kmp_inv (k : Int) : (kmp k = 1 → k = 4) ∧ (kmp k = 4 → k = 3) ∧ (kmp k = 3 → k = 2) ∧ (kmp k = 2 → k = 1) := by
  unfold kmp
  by_cases h1 : k = 1
  · rw [if_pos h1]; omega
  · rw [if_neg h1]
    by_cases h2 : k = 2
    · rw [if_pos h2]; omega
    · rw [if_neg h2]
      by_cases h3 : k = 3
      · rw [if_pos h3]; omega
      · rw [if_neg h3]
        by_cases h4 : k = 4
        · rw [if_pos h4]; omega
        · rw [if_neg h4]; omega
/-- the class's fault -/
def wrX (k : Int) (p : Nat) (X : xM) : xM := xu (xu X 2 12 k) 2 13 (p : Int)
def wrY (k : Int) (p : Nat) (Y : xM) : xM := xu (xu Y 104 15 k) 104 14 (p : Int)
theorem wrX_fr (k : Int) (p : Nat) (X : xM) : FXt X (wrX k p X) := ⟨fun x hx => by unfold wrX; rw [xu_cell _ _ _ hx, xu_cell _ _ _ hx], fun j hj => by unfold wrX; rw [xu_at, if_neg (by omega), xu_at, if_neg (by omega)]⟩
theorem wrY_fr (k : Int) (p : Nat) (Y : xM) : FYt Y (wrY k p Y) := ⟨fun x hx => by unfold wrY; rw [xu_cell _ _ _ hx, xu_cell _ _ _ hx], fun j hj => by unfold wrY; rw [xu_at, if_neg (by omega), xu_at, if_neg (by omega)]⟩
theorem FT_wr {k : Int} (hk : 1 ≤ k) (p : Nat) (X Y : xM) : FT (wrX k p X) (wrY k p Y) := by
  unfold FT wrX wrY
  rw [xu_at, if_neg (by decide), xu_at, if_pos rfl, xu_at, if_neg (by decide), xu_at, if_pos rfl, xu_at, if_pos rfl, xu_at, if_pos rfl]
  exact ⟨hk, rfl, rfl⟩
theorem wrong_eq {lw : Bool} {b : Nat → Int} {n e : Nat} {X Y : xM} (h : SR lw b n e X Y) (k : Int) : f_A_wrong 2 k X = some (0, wrX k (lxP b n e) X) := by
  unfold f_A_wrong wrX
  rw [xl_eq, xl_eq, xu_at, if_neg (by decide), h.1.2.1.2.1]
theorem stands_eq {lw : Bool} {b : Nat → Int} {n e : Nat} {X Y : xM} (h : SR lw b n e X Y) (r : Int) : f_A_stands 2 r X = if lxK lw b n e = 4 then some (0, wrX 1 (lxP b n e) X) else if r = 0 then some (0, wrX 2 (lxP b n e) X) else some (1, X) := by
  unfold f_A_stands
  rw [h.1.2.1.2.2.1, wrong_eq h, wrong_eq h, xb2_some, xb2_some, if_pos (show (0 : Int) = 0 from rfl), xch_01.1]
theorem fails_eq {lw : Bool} {b : Nat → Int} {n e : Nat} {X Y : xM} (h : SR lw b n e X Y) (k : Int) : f_M_fails 104 k Y = some (0, wrY (if lxK lw b n e = 4 then 1 else k) (lxP b n e) Y) := by
  obtain ⟨-, ⟨c1, c2, c3, c4, c5⟩, he⟩ := h
  have J : ∀ v, M_fails_J21 104 v 104 Y = some (0, wrY v (lxP b n e) Y) := fun v => by
    unfold M_fails_J21 wrY
    rw [xl_eq, xl_eq, xu_at, if_neg (by decide), c2.2.1]
  unfold f_M_fails
  rw [c4, if_pos rfl, c2.2.2.1, J, J]
  by_cases z : lxK lw b n e = 4
  · rw [if_pos z, z, if_pos (by decide)]
  · rw [if_neg z]
    have : kmp (lxK lw b n e) ≠ 1 := fun q => z ((kmp_inv _).1 q)
    rw [if_neg this]
/-- the token can't stand here: both say so -/
theorem stands_fail {lw : Bool} {b : Nat → Int} {n e : Nat} {X Y : xM} (h : SR lw b n e X Y) : ∃ X' Y', f_A_stands 2 0 X = some (0, X') ∧ f_M_fails 104 2 Y = some (0, Y') ∧ FT X' Y' ∧ FXt X X' ∧ FYt Y Y' := by
  rw [stands_eq h, fails_eq h]
  by_cases z : lxK lw b n e = 4
  · rw [if_pos z, if_pos z]
    exact ⟨_, _, rfl, rfl, FT_wr (by decide) _ X Y, wrX_fr _ _ X, wrY_fr _ _ Y⟩
  · rw [if_neg z, if_neg z, if_pos rfl]
    exact ⟨_, _, rfl, rfl, FT_wr (by decide) _ X Y, wrX_fr _ _ X, wrY_fr _ _ Y⟩
theorem stands_ok {lw : Bool} {b : Nat → Int} {n e : Nat} {X Y : xM} (h : SR lw b n e X Y) (hk : lxK lw b n e ≠ 4) {r : Int} (hr : r ≠ 0) : f_A_stands 2 r X = some (1, X) := by
  rw [stands_eq h, if_neg hk, if_neg hr]
/-- a fault of another kind, at a token that is one -/
theorem wrong_fail {lw : Bool} {b : Nat → Int} {n e : Nat} {X Y : xM} (h : SR lw b n e X Y) (hk : lxK lw b n e ≠ 4) {k : Int} (h1 : 1 ≤ k) : ∃ X' Y', f_A_wrong 2 k X = some (0, X') ∧ f_M_fails 104 k Y = some (0, Y') ∧ FT X' Y' ∧ FXt X X' ∧ FYt Y Y' := by
  rw [wrong_eq h, fails_eq h, if_neg hk]
  exact ⟨_, _, rfl, rfl, FT_wr h1 _ X Y, wrX_fr _ _ X, wrY_fr _ _ Y⟩
theorem isSign_eq {lw : Bool} {b : Nat → Int} {n e : Nat} {X Y : xM} (h : SR lw b n e X Y) (c : Int) : f_A_isSign 2 c X = some (if lxK lw b n e = 3 ∧ lxV b n e = c then 1 else 0) ∧ f_M_isSign 104 c Y = some (if lxK lw b n e = 3 ∧ lxV b n e = c then 1 else 0) := by
  obtain ⟨⟨a1, a2, -⟩, ⟨c1, c2, -⟩, he⟩ := h
  unfold f_A_isSign f_M_isSign
  rw [a2.2.2.1, c2.2.2.1]
  by_cases z : lxK lw b n e = 3
  · rw [if_pos z, a2.2.2.2.2.2 (Or.inr z), c2.2.2.2 (Or.inr z)]
    have : kmp (lxK lw b n e) = 4 := by rw [z]; rfl
    rw [if_pos this]
    by_cases y : lxV b n e = c
    · rw [if_pos y, if_pos ⟨z, y⟩]; exact ⟨rfl, rfl⟩
    · rw [if_neg y, if_neg (fun q => y q.2)]; exact ⟨rfl, rfl⟩
  · rw [if_neg z]
    have : kmp (lxK lw b n e) ≠ 4 := fun q => z ((kmp_inv _).2.1 q)
    rw [if_neg this, if_neg (fun q => z q.1)]
    exact ⟨rfl, rfl⟩
theorem lx_more {lw : Bool} {b : Nat → Int} {n e : Nat} (he : e ≤ n) (hk : lxK lw b n e ≠ 0) : e < lxE b n e := by
  have a := lx_in (b := b) he
  rcases lx_kind lw b he with ⟨q, _⟩ | ⟨q, _⟩
  · exact absurd q hk
  · omega
theorem takeSign_sim {R S : xR} {lw : Bool} (hL : LR R S lw) {b : Nat → Int} {n e : Nat} (hB : TxB b n) {X Y : xM} (h : SR lw b n e X Y) (c : Int) : ∃ r X' Y', f_A_takeSign R 2 c X = some (r, X') ∧ f_M_want S 104 c Y = some (r, Y') ∧ FXt X X' ∧ FYt Y Y' ∧ ((r = 1 ∧ SR lw b n (lxE b n e) X' Y' ∧ e < lxE b n e ∧ X' 2 11 = X 2 11 ∧ Y' 104 12 = Y 104 12) ∨ (r = 0 ∧ FT X' Y')) := by
  have s := isSign_eq h c
  unfold f_A_takeSign f_M_want
  rw [s.1, s.2, xb1_some, xb1_some]
  by_cases z : lxK lw b n e = 3 ∧ lxV b n e = c
  · rw [if_pos z, stands_ok h (by omega) (by decide), xb2_some, if_neg (by decide), if_neg (by decide)]
    obtain ⟨X', Y', x1, x2, x3, x4, x5⟩ := adv_sim hL hB h
    rw [x1, x2, xb1_some, xb1_some]
    exact ⟨1, X', Y', rfl, rfl, x4.t, x5.t, Or.inl ⟨rfl, x3, lx_more (lw := lw) h.2.2 (by omega), x4.2 11 (by decide), x5.2 12 (by decide)⟩⟩
  · rw [if_neg z]
    obtain ⟨X', Y', x1, x2, x3, x4, x5⟩ := stands_fail h
    rw [x1, x2, xb2_some, xb2_some, if_pos rfl, if_pos rfl, xch_01.1]
    exact ⟨0, X', Y', rfl, rfl, x4, x5, Or.inr ⟨rfl, x3⟩⟩
theorem takeNumber_sim {R S : xR} {lw : Bool} (hL : LR R S lw) {b : Nat → Int} {n e : Nat} (hB : TxB b n) {X Y : xM} (h : SR lw b n e X Y) (lo hi : Int) {fk : Int} (hf : 1 ≤ fk) : ∃ r X' Y', f_A_takeNumber R 2 lo hi fk X = some (r, X') ∧ f_M_number S 104 lo hi fk Y = some (r, Y') ∧ FXt X X' ∧ FYt Y Y' ∧ ((r = 1 ∧ SR lw b n (lxE b n e) X' Y' ∧ e < lxE b n e ∧ Y' 104 12 = X' 2 11 ∧ lo ≤ X' 2 11 ∧ X' 2 11 ≤ hi) ∨ (r = 0 ∧ FT X' Y')) := by
  have h' := h
  obtain ⟨⟨a1, a2, a3, a4⟩, ⟨c1, c2, c3, c4, c5⟩, he⟩ := h'
  unfold f_A_takeNumber f_M_number A_takeNumber_J14
  rw [a2.2.2.1, c2.2.2.1]
  by_cases z : lxK lw b n e = 2
  · have km3 : kmp (lxK lw b n e) = 3 := by rw [z]; rfl
    have x10 := a2.2.2.2.2.2 (Or.inl z)
    have y11 := c2.2.2.2 (Or.inl z)
    rw [if_pos z, if_pos km3, stands_ok h (by omega) (by decide), xb2_some, if_neg (by decide), x10, y11]
    obtain ⟨W, V, w1, w2, w3, w4, w5⟩ := wrong_fail h (by omega) hf
    simp only [w1, w2, xb2_some, xch_01.1]
    by_cases y1 : lxV b n e < lo
    · rw [if_pos y1, if_pos y1]
      exact ⟨0, W, V, rfl, rfl, w4, w5, Or.inr ⟨rfl, w3⟩⟩
    · rw [if_neg y1, if_neg y1]
      by_cases y2 : hi < lxV b n e
      · rw [if_pos y2, if_pos y2]
        exact ⟨0, W, V, rfl, rfl, w4, w5, Or.inr ⟨rfl, w3⟩⟩
      · rw [if_neg y2, if_neg y2, xl_eq, xl_eq]
        have h2 : SR lw b n e (xu X 2 11 (lxV b n e)) (xu Y 104 12 (lxV b n e)) := (h.ofX (fun j hj => by rw [xu_at, if_neg hj]) (xu_cell _ _ _ (by decide))).ofY (fun j _ h2 _ _ => by rw [xu_at, if_neg h2]) (xu_cell _ _ _ (by decide))
        obtain ⟨X', Y', x1, x2, x3, x4, x5⟩ := adv_sim hL hB h2
        rw [x1, x2, xb1_some, xb1_some]
        have e1 : X' 2 11 = lxV b n e := by rw [x4.2 11 (by decide), xu_at, if_pos rfl]
        have e2 : Y' 104 12 = lxV b n e := by rw [x5.2 12 (by decide), xu_at, if_pos rfl]
        refine ⟨1, X', Y', rfl, rfl, ⟨fun x hx => by rw [x4.1 x hx, xu_cell _ _ _ hx], fun j hj => by rw [x4.2 j (by omega), xu_at, if_neg (by omega)]⟩, ⟨fun x hx => by rw [x5.1 x hx, xu_cell _ _ _ hx], fun j hj => by rw [x5.2 j (by omega), xu_at, if_neg (by omega)]⟩, Or.inl ⟨rfl, x3, lx_more (lw := lw) he (by omega), by rw [e1, e2], by rw [e1]; omega, by rw [e1]; omega⟩⟩
  · have : kmp (lxK lw b n e) ≠ 3 := fun q => z ((kmp_inv _).2.2.1 q)
    rw [if_neg z, if_neg this]
    obtain ⟨X', Y', x1, x2, x3, x4, x5⟩ := stands_fail h
    rw [x1, x2, xb2_some, xb2_some, if_pos rfl, xch_01.1]
    exact ⟨0, X', Y', rfl, rfl, x4, x5, Or.inr ⟨rfl, x3⟩⟩
/-- the class's number of a word against the model's, plants -/
theorem key_eq {R S : xR} (hL : LR R S false) {b : Nat → Int} {n e : Nat} (hB : TxB b n) {X Y : xM} (h : SR false b n e X Y) : f_M_inWords S 104 6 Y = some (km (X 2 9)) ∧ (X 2 9 = -1 ∨ (0 ≤ X 2 9 ∧ X 2 9 < 15)) ∧ (X 2 9 ≠ -1 → lxK false b n e = 1) := by
  obtain ⟨⟨a1, a2, a3, a4⟩, ⟨c1, c2, c3, c4, c5⟩, he⟩ := h
  rw [(inWords_eq hL.2 hB c1 c2).1]
  by_cases z : lxK false b n e = 1
  · rw [if_pos z, (a2.2.2.2.1 z).2, ix_km]
    refine ⟨rfl, ?_, fun _ => z⟩
    have := ix_in (kl := kls false) (w := lxW b n e) 0 (by decide)
    have el : (kls false).length = 15 := by decide
    rw [el] at this
    omega
  · rw [if_neg z, a2.2.2.2.2.1 z]
    exact ⟨rfl, Or.inl rfl, fun q => absurd rfl q⟩
theorem km_inj {x k : Int} (h : x = -1 ∨ (0 ≤ x ∧ x < 15)) (hk : 0 ≤ k ∧ k < 15) : km x = km k ↔ x = k := by
  refine ⟨fun q => ?_, fun q => by rw [q]⟩
  unfold km at q
  split at q <;> split at q <;> first | omega | (split at q <;> first | omega | (split at q <;> first | omega | (split at q <;> first | omega | (split at q <;> omega))))
theorem takeKey_sim {R S : xR} (hL : LR R S false) {b : Nat → Int} {n e : Nat} (hB : TxB b n) {X Y : xM} (h : SR false b n e X Y) {k : Int} (hk : 0 ≤ k ∧ k < 15) : ∃ r X' Y', f_A_takeKey R 2 k X = some (r, X') ∧ f_M_wantKey S 104 (km k) Y = some (r, Y') ∧ FXt X X' ∧ FYt Y Y' ∧ ((r = 1 ∧ SR false b n (lxE b n e) X' Y' ∧ e < lxE b n e ∧ X' 2 11 = X 2 11 ∧ Y' 104 12 = Y 104 12) ∨ (r = 0 ∧ FT X' Y')) := by
  obtain ⟨k1, k2, k3⟩ := key_eq hL hB h
  have ki := km_inj k2 hk
  unfold f_A_takeKey f_M_wantKey A_takeKey_J14
  rw [k1, xb1_some]
  by_cases z : X 2 9 = k
  · have kw := k3 (by omega)
    rw [if_pos z, if_pos (ki.2 z), stands_ok h (by omega) (by decide), xb2_some, if_neg (by decide)]
    obtain ⟨X', Y', x1, x2, x3, x4, x5⟩ := adv_sim hL hB h
    rw [x1, x2, xb1_some, xb1_some]
    exact ⟨1, X', Y', rfl, rfl, x4.t, x5.t, Or.inl ⟨rfl, x3, lx_more (lw := false) h.2.2 (by omega), x4.2 11 (by decide), x5.2 12 (by decide)⟩⟩
  · rw [if_neg z, if_neg (fun q => z (ki.1 q))]
    obtain ⟨X', Y', x1, x2, x3, x4, x5⟩ := stands_fail h
    rw [x1, x2, xb2_some, xb2_some, if_pos rfl, xch_01.1]
    exact ⟨0, X', Y', rfl, rfl, x4, x5, Or.inr ⟨rfl, x3⟩⟩
/-- a name in the class and in the model -/
def NmR (x y : Int) : Prop := ∃ w, LW w ∧ x = c5 w ∧ y = c8 w
theorem NmR.eq {x y u v : Int} (h : NmR x y) (k : NmR u v) : x = u ↔ y = v := by
  obtain ⟨w, h1, h2, h3⟩ := h
  obtain ⟨z, k1, k2, k3⟩ := k
  rw [h2, k2, h3, k3, c5_inj h1 k1, c8_inj h1 k1]
/-- the token as a name: both take it, or both refuse it -/
theorem name_sim {R S : xR} {lw : Bool} (hL : LR R S lw) {b : Nat → Int} {n e : Nat} (hB : TxB b n) {X Y : xM} (h : SR lw b n e X Y) : (nmo lw b n e ∧ lxK lw b n e = 1 ∧ f_A_isName 2 X = some 1 ∧ ∃ v, f_M_nameHere S 104 Y = some v ∧ 0 ≤ v ∧ NmR (X 2 8) v) ∨ (¬ nmo lw b n e ∧ f_A_isName 2 X = some 0 ∧ f_M_nameHere S 104 Y = some (-1)) := by
  obtain ⟨⟨a1, a2, a3, a4⟩, ⟨c1, c2, c3, c4, c5'⟩, he⟩ := h
  have i := isName_eq a2
  have j := nameHere_eq hL.2 hB c1 c2 c3
  by_cases z : nmo lw b n e
  · obtain ⟨w1, w2, w3, w4, w5, w6⟩ := lx_word z.1
    exact Or.inl ⟨z, z.1, (i.1 z).1, _, j.1 z, (c8_nn w4).1, lxW b n e, w4, (i.1 z).2, rfl⟩
  · exact Or.inr ⟨z, i.2 z, j.2 z⟩
