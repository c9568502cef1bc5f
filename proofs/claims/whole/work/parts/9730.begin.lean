/-! ===== texts: the start ===== -/
theorem begin_F7 {S : xR} (s4 : S 104 4 = 108) (s5 : S 104 5 = 109) {b : Nat → Int} {n : Nat} (hB : TxB b n) (l2 : Int) (Q : xM → Option xM) : ∀ (k f i : Nat) (Y : xM), k < f → i + k = n → (∀ j, j < n → Y 108 j = b j) → ∃ Y', M_begin_F7 S 104 (n : Int) l2 Q f (i : Int) Y = Q Y' ∧ (∀ x, x ≠ 109 → Y' x = Y x) ∧ ∀ j, j < n → Y' 109 j = if i ≤ j then b j else Y 109 j := by
  have hn := hB.1
  intro k
  induction k with
  | zero =>
    intro f i Y hf hi h8
    obtain ⟨f, rfl⟩ : ∃ g, f = g + 1 := ⟨f - 1, by omega⟩
    refine ⟨Y, ?_, fun _ _ => rfl, fun j hj => by rw [if_neg (by omega)]⟩
    rw [M_begin_F7, if_neg (by omega)]
  | succ k ih =>
    intro f i Y hf hi h8
    obtain ⟨f, rfl⟩ : ∃ g, f = g + 1 := ⟨f - 1, by omega⟩
    have bb := hB.2 i
    obtain ⟨Y', y1, y2, y3⟩ := ih f (i + 1) (xu Y 109 i (b i)) (by omega) (by omega) (by rw [xu_cell _ _ _ (by decide)]; exact h8)
    refine ⟨Y', ?_, fun x hx => by rw [y2 x hx, xu_cell _ _ _ hx], fun j hj => ?_⟩
    · rw [M_begin_F7, if_pos (by omega), xch_pos (by omega), xl_eq, xl_eq, s4, s5, Int.toNat_natCast, h8 i (by omega), w8_of bb.1 bb.2, w32_of (x := (i : Int) + 1) (by omega) (by omega)]
      exact y1
    · rw [y3 j hj, xu_at]
      by_cases z : j = i
      · rw [if_neg (by omega), if_pos z, if_pos (by omega), z]
      · by_cases y : i + 1 ≤ j
        · rw [if_pos y, if_pos (by omega)]
        · rw [if_neg y, if_neg z, if_neg (by omega)]
def ssn (lw : Bool) : Nat := if lw then 4 else 2
def wsn (lw : Bool) : Nat := if lw then 5 else 3
def Rop (lw : Bool) (R : xR) : xR := xu (xu R 2 4 (ssn lw)) 2 5 (wsn lw)
theorem Rop_LG {R : xR} (lw : Bool) (r0 : R 2 0 = 3) : LG (Rop lw R) lw := by
  unfold LG Rop
  rw [xu_at, if_neg (by decide), xu_at, if_neg (by decide), xu_at, if_neg (by decide), xu_at, if_pos rfl, xu_at, if_pos rfl]
  exact ⟨r0, rfl, rfl⟩
theorem Rop_oth {R : xR} (lw : Bool) {i : Nat} (h : i ≠ 2) : Rop lw R i = R i := by
  unfold Rop
  rw [xu_cell _ _ _ h, xu_cell _ _ _ h]
theorem Rop_RG {R : xR} {pn ps ln ls : Nat} (lw : Bool) (h : RG R pn ps ln ls) : RG (Rop lw R) pn ps ln ls := by
  obtain ⟨h1, h2, h3, h4⟩ := h
  refine ⟨fun i k i1 i2 => by rw [Rop_oth lw i2]; exact h1 i k i1 i2, by rw [Rop_oth lw (by decide)]; exact h2, ?_, h4⟩
  unfold Rop
  rw [xu_at, if_neg (by decide), xu_at, if_neg (by decide)]
  exact h3
theorem open_eq {R : xR} (lw : Bool) (r0 : R 2 0 = 3) {b : Nat → Int} {n : Nat} (hB : TxB b n) {M : xM} (hx : ∀ i, i < n → M 3 i = b i) : ∃ X0, f_A_open R 2 (n : Int) (ssn lw) (wsn lw) M = some (Rop lw R, X0) ∧ (TxX b n X0 ∧ TkX lw b n 0 X0 ∧ X0 2 12 = 0 ∧ X0 2 13 = -1) ∧ (∀ x, x ≠ 2 → X0 x = M x) ∧ X0 2 1 = 0 := by
  unfold f_A_open
  rw [xl_eq, xl_eq, xl_eq, xl_eq, xl_eq, xl_eq, xl_eq]
  obtain ⟨A, hA⟩ : ∃ A, A = xu (xu (xu (xu (xu M 2 2 (n : Int)) 2 3 0) 2 1 0) 2 12 0) 2 13 (-1) := ⟨_, rfl⟩
  rw [← hA]
  have aO : ∀ x, x ≠ 2 → A x = M x := fun x hx => by rw [hA, xu_cell _ _ _ hx, xu_cell _ _ _ hx, xu_cell _ _ _ hx, xu_cell _ _ _ hx, xu_cell _ _ _ hx]
  have a2 : ∀ j, A 2 j = if j = 13 then -1 else if j = 12 then 0 else if j = 1 then 0 else if j = 3 then 0 else if j = 2 then (n : Int) else M 2 j := fun j => by rw [hA, xu_at, xu_at, xu_at, xu_at, xu_at]
  have tA : TxX b n A := ⟨by rw [a2, if_neg (by decide), if_neg (by decide), if_neg (by decide), if_neg (by decide), if_pos rfl], by rw [aO 3 (by decide)]; exact hx⟩
  obtain ⟨X0, x1, x2, x3⟩ := adv_eq (R := Rop lw R) (Rop_LG lw r0) hB (e := 0) (by omega) tA (by rw [a2, if_neg (by decide), if_neg (by decide), if_neg (by decide), if_pos rfl]; rfl)
  have x1' : f_A_advance (xu (xu R 2 4 (ssn lw)) 2 5 (wsn lw)) 2 A = some X0 := x1
  rw [x1', xb1_some]
  exact ⟨X0, rfl, ⟨tA.of (x2.2 2 (by decide)) (x2.1 3 (by decide)), x3, by rw [x2.2 12 (by decide), a2, if_neg (by decide), if_pos rfl], by rw [x2.2 13 (by decide), a2, if_pos rfl]⟩, fun x hx => by rw [x2.1 x hx, aO x hx], by rw [x2.2 1 (by decide), a2, if_neg (by decide), if_neg (by decide), if_pos rfl]⟩
theorem begin_eq {S : xR} (lw : Bool) (s4 : S 104 4 = 108) (s5 : S 104 5 = 109) {b : Nat → Int} {n : Nat} (hB : TxB b n) {Y : xM} (hy : ∀ i, i < n → Y 108 i = b i) : ∃ Y1, f_M_begin S 104 (n : Int) (if lw then 1 else 0) Y = some Y1 ∧ (TxM b n Y1 ∧ TkM lw b n 0 Y1 ∧ Y1 104 16 = (if lw then 1 else 0) ∧ Y1 104 15 = 0 ∧ Y1 104 14 = -1) ∧ (∀ x, x ≠ 104 → x ≠ 109 → Y1 x = Y x) ∧ (∀ j, j < 6 ∨ j = 12 ∨ j = 13 ∨ 17 ≤ j → Y1 104 j = Y 104 j) ∧ Y1 104 6 = 0 := by
  have hn := hB.1
  have xf : xfu = 1000000 := rfl
  obtain ⟨A, a1, a2, a3⟩ := begin_F7 s4 s5 hB (if lw then 1 else 0) (fun (M_6 : xM) =>
      xl (xu M_6 104 6 0) fun M_7 =>
      xl (xu M_7 104 15 0) fun M_8 =>
      xl (xu M_8 104 14 (-1)) fun M_9 =>
      xl (xu M_9 104 10 0) fun M_10 =>
      xch ((if lw then (1 : Int) else 0) = 0 ∨ (if lw then (1 : Int) else 0) = 1) <|
      xl (xu M_10 104 16 (if lw then 1 else 0)) fun M_12 =>
      xb1 (f_M_next S 104 M_12) fun M_13 =>
      some (M_13)) n xfu 0 (xu Y 104 7 (n : Int)) (by omega) (by omega) (by rw [xu_cell _ _ _ (by decide)]; exact hy)
  obtain ⟨B, hBd⟩ : ∃ B, B = xu (xu (xu (xu (xu A 104 6 0) 104 15 0) 104 14 (-1)) 104 10 0) 104 16 (if lw then 1 else 0) := ⟨_, rfl⟩
  have bO : ∀ x, x ≠ 104 → B x = A x := fun x hx => by rw [hBd, xu_cell _ _ _ hx, xu_cell _ _ _ hx, xu_cell _ _ _ hx, xu_cell _ _ _ hx, xu_cell _ _ _ hx]
  have b4 : ∀ j, B 104 j = if j = 16 then (if lw then 1 else 0) else if j = 10 then 0 else if j = 14 then -1 else if j = 15 then 0 else if j = 6 then 0 else if j = 7 then (n : Int) else Y 104 j := fun j => by rw [hBd, xu_at, xu_at, xu_at, xu_at, xu_at, a2 104 (by decide), xu_at]
  have tB : TxM b n B := ⟨by rw [b4, if_neg (by decide), if_neg (by decide), if_neg (by decide), if_neg (by decide), if_neg (by decide), if_pos rfl], fun i hi => by rw [bO 109 (by decide), a3 i hi, if_pos (by omega)]⟩
  have b16 : B 104 16 = (if lw then 1 else 0) := by rw [b4, if_pos rfl]
  obtain ⟨Y1, y1, y2, y3⟩ := next_eq s5 (lw := lw) hB (e := 0) (by omega) tB (by rw [b4, if_neg (by decide), if_pos rfl]; rfl) b16
  refine ⟨Y1, ?_, ⟨tB.of (y2.2 7 (by decide)) (y2.1 109 (by decide)), y3, by rw [y2.2 16 (by decide)]; exact b16, by rw [y2.2 15 (by decide), b4, if_neg (by decide), if_neg (by decide), if_neg (by decide), if_pos rfl], by rw [y2.2 14 (by decide), b4, if_neg (by decide), if_neg (by decide), if_pos rfl]⟩, fun x h1 h2 => by rw [y2.1 x h1, bO x h1, a2 x h2, xu_cell _ _ _ h1], fun j hj => by rw [y2.2 j (by omega), b4, if_neg (by omega), if_neg (by omega), if_neg (by omega), if_neg (by omega), if_neg (by omega), if_neg (by omega)], by rw [y2.2 6 (by decide), b4, if_neg (by decide), if_neg (by decide), if_neg (by decide), if_neg (by decide), if_pos rfl]⟩
  unfold f_M_begin
  rw [xl_eq]
  refine a1.trans ?_
  rw [xl_eq, xl_eq, xl_eq, xl_eq, xch_pos (by cases lw <;> decide), xl_eq, ← hBd, y1, xb1_some]
/-! ===== plant: the model takes it over ===== -/
theorem pl_F169 {S : xR} (hm : MR S) (Q : xM → Option (Int × xM)) : ∀ (k f i : Nat) (Y : xM), k < f → i + k = 32 → ∃ Y', M_plant_F169 S 104 Q f (i : Int) Y = Q Y' ∧ (∀ x, x ≠ 122 → Y' x = Y x) ∧ ∀ j, j < 32 → Y' 122 j = if i ≤ j then Y 113 j else Y 122 j := by
  have s20 : S 104 20 = 113 := hm.1 20 (by decide) (by decide)
  have s33 : S 104 33 = 122 := hm.2 33 (by decide) (by decide)
  intro k
  induction k with
  | zero =>
    intro f i Y hf hi
    obtain ⟨f, rfl⟩ : ∃ g, f = g + 1 := ⟨f - 1, by omega⟩
    refine ⟨Y, ?_, fun _ _ => rfl, fun j hj => by rw [if_neg (by omega)]⟩
    rw [M_plant_F169, if_neg (by omega)]
  | succ k ih =>
    intro f i Y hf hi
    obtain ⟨f, rfl⟩ : ∃ g, f = g + 1 := ⟨f - 1, by omega⟩
    obtain ⟨Y', y1, y2, y3⟩ := ih f (i + 1) (xu Y 122 i (Y 113 i)) (by omega) (by omega)
    refine ⟨Y', ?_, fun x hx => by rw [y2 x hx, xu_cell _ _ _ hx], fun j hj => ?_⟩
    · rw [M_plant_F169, if_pos (by omega), xch_pos (by omega), xl_eq, xl_eq, s20, s33, Int.toNat_natCast, w32_of (x := (i : Int) + 1) (by omega) (by omega)]
      exact y1
    · rw [y3 j hj, xu_at, xu_cell _ _ _ (show 113 ≠ 122 by decide)]
      by_cases z : j = i
      · rw [if_neg (by omega), if_pos z, if_pos (by omega), z]
      · by_cases y : i + 1 ≤ j
        · rw [if_pos y, if_pos (by omega)]
        · rw [if_neg y, if_neg z, if_neg (by omega)]
theorem pl_F195 {S : xR} (hm : MR S) (Q : xM → Option (Int × xM)) : ∀ (k f i : Nat) (Y : xM), k < f → i + k = 4 → ∃ Y', M_plant_F195 S 104 Q f (i : Int) Y = Q Y' ∧ (∀ x, x ≠ 128 → Y' x = Y x) ∧ ∀ j, j < 4 → Y' 128 j = if i ≤ j then Y 119 j else Y 128 j := by
  have s26 : S 104 26 = 119 := hm.1 26 (by decide) (by decide)
  have s39 : S 104 39 = 128 := hm.2 39 (by decide) (by decide)
  intro k
  induction k with
  | zero =>
    intro f i Y hf hi
    obtain ⟨f, rfl⟩ : ∃ g, f = g + 1 := ⟨f - 1, by omega⟩
    refine ⟨Y, ?_, fun _ _ => rfl, fun j hj => by rw [if_neg (by omega)]⟩
    rw [M_plant_F195, if_neg (by omega)]
  | succ k ih =>
    intro f i Y hf hi
    obtain ⟨f, rfl⟩ : ∃ g, f = g + 1 := ⟨f - 1, by omega⟩
    obtain ⟨Y', y1, y2, y3⟩ := ih f (i + 1) (xu Y 128 i (Y 119 i)) (by omega) (by omega)
    refine ⟨Y', ?_, fun x hx => by rw [y2 x hx, xu_cell _ _ _ hx], fun j hj => ?_⟩
    · rw [M_plant_F195, if_pos (by omega), xch_pos (by omega), xl_eq, xl_eq, s26, s39, Int.toNat_natCast, w32_of (x := (i : Int) + 1) (by omega) (by omega)]
      exact y1
    · rw [y3 j hj, xu_at, xu_cell _ _ _ (show 119 ≠ 128 by decide)]
      by_cases z : j = i
      · rw [if_neg (by omega), if_pos z, if_pos (by omega), z]
      · by_cases y : i + 1 ≤ j
        · rw [if_pos y, if_pos (by omega)]
        · rw [if_neg y, if_neg z, if_neg (by omega)]
theorem pl_F279 {S : xR} (hm : MR S) {c j : Nat} (hc : c < 8) (hj : j ≤ 8) (Q : Int → xM → Option (Int × xM)) : ∀ (k f w : Nat) (Y : xM), k < f → w + k = j → Y 125 c = (j : Int) → ∃ Y', M_plant_F279 S 104 Q f (c : Int) (w : Int) Y = Q (c : Int) Y' ∧ (∀ x, x ≠ 126 → x ≠ 127 → Y' x = Y x) ∧ ∀ i, Y' 126 i = (if 8 * c + w ≤ i ∧ i < 8 * c + j then Y 117 i else Y 126 i) ∧ Y' 127 i = if 8 * c + w ≤ i ∧ i < 8 * c + j then Y 118 i else Y 127 i := by
  have s24 : S 104 24 = 117 := hm.1 24 (by decide) (by decide)
  have s25 : S 104 25 = 118 := hm.1 25 (by decide) (by decide)
  have s36 : S 104 36 = 125 := hm.2 36 (by decide) (by decide)
  have s37 : S 104 37 = 126 := hm.2 37 (by decide) (by decide)
  have s38 : S 104 38 = 127 := hm.2 38 (by decide) (by decide)
  intro k
  induction k with
  | zero =>
    intro f w Y hf hw h5
    obtain ⟨f, rfl⟩ : ∃ g, f = g + 1 := ⟨f - 1, by omega⟩
    refine ⟨Y, ?_, fun _ _ _ => rfl, fun i => by rw [if_neg (by omega), if_neg (by omega)]; exact ⟨rfl, rfl⟩⟩
    rw [M_plant_F279, xch_pos (by omega), s36, Int.toNat_natCast, h5, if_neg (by omega)]
  | succ k ih =>
    intro f w Y hf hw h5
    obtain ⟨f, rfl⟩ : ∃ g, f = g + 1 := ⟨f - 1, by omega⟩
    obtain ⟨N, hN⟩ : ∃ N, N = xu (xu Y 126 (8 * c + w) (Y 117 (8 * c + w))) 127 (8 * c + w) (Y 118 (8 * c + w)) := ⟨_, rfl⟩
    have nO : ∀ x, x ≠ 126 → x ≠ 127 → N x = Y x := fun x h1 h2 => by rw [hN, xu_cell _ _ _ h2, xu_cell _ _ _ h1]
    obtain ⟨Y', y1, y2, y3⟩ := ih f (w + 1) N (by omega) (by omega) (by rw [nO 125 (by decide) (by decide)]; exact h5)
    refine ⟨Y', ?_, fun x h1 h2 => by rw [y2 x h1 h2, nO x h1 h2], fun i => ?_⟩
    · rw [M_plant_F279, xch_pos (by omega), s36, Int.toNat_natCast, h5, if_pos (by omega), w32_of (x := 8 * (c : Int)) (by omega) (by omega), w32_of (x := 8 * (c : Int) + (w : Int)) (by omega) (by omega), xch_pos (by omega), xl_eq, xl_eq, xl_eq, s24, s25, s37, s38, show (8 * (c : Int) + (w : Int)).toNat = 8 * c + w by omega, w32_of (x := (w : Int) + 1) (by omega) (by omega), xu_cell _ _ _ (show 118 ≠ 126 by decide), ← hN]
      exact y1
    · have n6 : N 126 i = if i = 8 * c + w then Y 117 (8 * c + w) else Y 126 i := by rw [hN, xu_cell _ _ _ (by decide), xu_at]
      have n7 : N 127 i = if i = 8 * c + w then Y 118 (8 * c + w) else Y 127 i := by rw [hN, xu_at, xu_cell _ _ _ (by decide)]
      rw [(y3 i).1, (y3 i).2, nO 117 (by decide) (by decide), nO 118 (by decide) (by decide), n6, n7]
      by_cases z : i = 8 * c + w
      · have y1 : ¬ (8 * c + (w + 1) ≤ i ∧ i < 8 * c + j) := by omega
        have y2 : 8 * c + w ≤ i ∧ i < 8 * c + j := by omega
        rw [if_neg y1, if_neg y1, if_pos z, if_pos z, if_pos y2, if_pos y2, z]
        exact ⟨rfl, rfl⟩
      · by_cases y : 8 * c + (w + 1) ≤ i ∧ i < 8 * c + j
        · have y2 : 8 * c + w ≤ i ∧ i < 8 * c + j := by omega
          rw [if_pos y, if_pos y, if_pos y2, if_pos y2]
          exact ⟨rfl, rfl⟩
        · have y2 : ¬ (8 * c + w ≤ i ∧ i < 8 * c + j) := by omega
          rw [if_neg y, if_neg y, if_neg z, if_neg z, if_neg y2, if_neg y2]
          exact ⟨rfl, rfl⟩
/-- cleaner d as the model has taken it over -/
def TkO (Y Y' : xM) (d : Nat) : Prop := Y' 121 d = Y 112 d ∧ Y' 123 d = Y 114 d ∧ Y' 124 d = Y 115 d ∧ ((Y 116 d = 0 ∧ Y' 125 d = 1 ∧ Y' 126 (8 * d) = 8 ∧ Y' 127 (8 * d) = 100) ∨ (1 ≤ Y 116 d ∧ Y' 125 d = Y 116 d ∧ ∀ w : Nat, (w : Int) < Y 116 d → Y' 126 (8 * d + w) = Y 117 (8 * d + w) ∧ Y' 127 (8 * d + w) = Y 118 (8 * d + w)))
theorem pl_F220 {S : xR} (hm : MR S) {m : Nat} (hm8 : m ≤ 8) (Q : xM → Option (Int × xM)) : ∀ (k f c : Nat) (Y : xM), k < f → c + k = m → Y 104 30 = (m : Int) → (∀ d, d < m → 0 ≤ Y 116 d ∧ Y 116 d ≤ 8) → ∃ Y', M_plant_F220 S 104 Q f (c : Int) Y = Q Y' ∧ (∀ x, x < 121 ∨ x = 122 ∨ 128 ≤ x → Y' x = Y x) ∧ (∀ d, d < c → Y' 121 d = Y 121 d ∧ Y' 123 d = Y 123 d ∧ Y' 124 d = Y 124 d ∧ Y' 125 d = Y 125 d ∧ ∀ w, w < 8 → Y' 126 (8 * d + w) = Y 126 (8 * d + w) ∧ Y' 127 (8 * d + w) = Y 127 (8 * d + w)) ∧ ∀ d, c ≤ d → d < m → TkO Y Y' d := by
  have xf : xfu = 1000000 := rfl
  have s19 : S 104 19 = 112 := hm.1 19 (by decide) (by decide)
  have s21 : S 104 21 = 114 := hm.1 21 (by decide) (by decide)
  have s22 : S 104 22 = 115 := hm.1 22 (by decide) (by decide)
  have s23 : S 104 23 = 116 := hm.1 23 (by decide) (by decide)
  have s32 : S 104 32 = 121 := hm.2 32 (by decide) (by decide)
  have s34 : S 104 34 = 123 := hm.2 34 (by decide) (by decide)
  have s35 : S 104 35 = 124 := hm.2 35 (by decide) (by decide)
  have s36 : S 104 36 = 125 := hm.2 36 (by decide) (by decide)
  have s37 : S 104 37 = 126 := hm.2 37 (by decide) (by decide)
  have s38 : S 104 38 = 127 := hm.2 38 (by decide) (by decide)
  intro k
  induction k with
  | zero =>
    intro f c Y hf hc h30 _
    obtain ⟨f, rfl⟩ : ∃ g, f = g + 1 := ⟨f - 1, by omega⟩
    refine ⟨Y, ?_, fun _ _ => rfl, fun d _ => ⟨rfl, rfl, rfl, rfl, fun w _ => ⟨rfl, rfl⟩⟩, fun d h1 h2 => by omega⟩
    rw [M_plant_F220, h30, if_neg (by omega)]
  | succ k ih =>
    intro f c Y hf hc h30 h6
    obtain ⟨f, rfl⟩ : ∃ g, f = g + 1 := ⟨f - 1, by omega⟩
    have b6 := h6 c (by omega)
    obtain ⟨j, hj⟩ : ∃ j : Nat, Y 116 c = (j : Int) := ⟨(Y 116 c).toNat, by omega⟩
    obtain ⟨A, hA⟩ : ∃ A, A = xu (xu (xu (xu Y 121 c (Y 112 c)) 123 c (Y 114 c)) 124 c (Y 115 c)) 125 c (Y 116 c) := ⟨_, rfl⟩
    have aO : ∀ x, x ≠ 121 → x ≠ 123 → x ≠ 124 → x ≠ 125 → A x = Y x := fun x h1 h2 h3 h4 => by rw [hA, xu_cell _ _ _ h4, xu_cell _ _ _ h3, xu_cell _ _ _ h2, xu_cell _ _ _ h1]
    have a1 : ∀ i, A 121 i = if i = c then Y 112 c else Y 121 i := fun i => by rw [hA, xu_cell _ _ _ (by decide), xu_cell _ _ _ (by decide), xu_cell _ _ _ (by decide), xu_at]
    have a3 : ∀ i, A 123 i = if i = c then Y 114 c else Y 123 i := fun i => by rw [hA, xu_cell _ _ _ (by decide), xu_cell _ _ _ (by decide), xu_at, xu_cell _ _ _ (by decide)]
    have a4 : ∀ i, A 124 i = if i = c then Y 115 c else Y 124 i := fun i => by rw [hA, xu_cell _ _ _ (by decide), xu_at, xu_cell _ _ _ (by decide), xu_cell _ _ _ (by decide)]
    have a5 : ∀ i, A 125 i = if i = c then Y 116 c else Y 125 i := fun i => by rw [hA, xu_at, xu_cell _ _ _ (by decide), xu_cell _ _ _ (by decide), xu_cell _ _ _ (by decide)]
    obtain ⟨B, b1, b2, b3⟩ := pl_F279 hm (show c < 8 by omega) (show j ≤ 8 by omega) (fun (v3_65 : Int) (M_66 : xM) =>
          xch (0 ≤ v3_65 ∧ v3_65 < 8) <|
          if 0 < M_66 125 (Int.toNat v3_65) then
            M_plant_J385 S 104 (M_plant_F220 S 104 Q f) Q v3_65 M_66
          else
            xl (xu M_66 125 (Int.toNat v3_65) 1) fun M_70 =>
            xch (0 ≤ w32 (8 * v3_65) ∧ w32 (8 * v3_65) < 64) <|
            xl (xu M_70 126 (Int.toNat (w32 (8 * v3_65))) 8) fun M_72 =>
            xl (xu M_72 127 (Int.toNat (w32 (8 * v3_65))) 100) fun M_73 =>
            M_plant_J385 S 104 (M_plant_F220 S 104 Q f) Q v3_65 M_73) j xfu 0 A (by omega) (by omega) (by rw [a5, if_pos rfl, hj])
    have st : M_plant_F220 S 104 Q (f + 1) (c : Int) Y = (xch (0 ≤ (c : Int) ∧ (c : Int) < 8) <|
          if 0 < B 125 c then
            M_plant_J385 S 104 (M_plant_F220 S 104 Q f) Q (c : Int) B
          else
            xl (xu B 125 c 1) fun M_70 =>
            xch (0 ≤ w32 (8 * (c : Int)) ∧ w32 (8 * (c : Int)) < 64) <|
            xl (xu M_70 126 (Int.toNat (w32 (8 * (c : Int)))) 8) fun M_72 =>
            xl (xu M_72 127 (Int.toNat (w32 (8 * (c : Int)))) 100) fun M_73 =>
            M_plant_J385 S 104 (M_plant_F220 S 104 Q f) Q (c : Int) M_73) := by
      rw [M_plant_F220, h30, if_pos (by omega), xch_pos (by omega), xl_eq, xl_eq, xl_eq, xl_eq, s19, s21, s22, s23, s32, s34, s35, s36, s37, s38, Int.toNat_natCast, xu_cell _ _ _ (show 114 ≠ 121 by decide), xu_cell _ _ _ (show 115 ≠ 123 by decide), xu_cell _ _ _ (show 115 ≠ 121 by decide), xu_cell _ _ _ (show 116 ≠ 124 by decide), xu_cell _ _ _ (show 116 ≠ 123 by decide), xu_cell _ _ _ (show 116 ≠ 121 by decide), ← hA]
      refine b1.trans ?_
      rw [Int.toNat_natCast]
    have b5 : B 125 c = (j : Int) := by rw [b2 125 (by decide) (by decide), a5, if_pos rfl, hj]
    have J : ∀ V, M_plant_J385 S 104 (M_plant_F220 S 104 Q f) Q (c : Int) V = M_plant_F220 S 104 Q f ((c + 1 : Nat) : Int) V := by
      intro V
      unfold M_plant_J385
      rw [xl_eq, w32_of (x := (c : Int) + 1) (by omega) (by omega)]
      rfl
    rw [st, xch_pos (by omega), b5, J]
    have go : ∀ G : xM, (∀ x, x ≠ 125 → x ≠ 126 → x ≠ 127 → G x = A x) → (∀ i, i ≠ c → G 125 i = Y 125 i) → (∀ i, i < 8 * c ∨ 8 * c + 8 ≤ i → G 126 i = Y 126 i ∧ G 127 i = Y 127 i) → ((Y 116 c = 0 ∧ G 125 c = 1 ∧ G 126 (8 * c) = 8 ∧ G 127 (8 * c) = 100) ∨ (1 ≤ Y 116 c ∧ G 125 c = Y 116 c ∧ ∀ w : Nat, (w : Int) < Y 116 c → G 126 (8 * c + w) = Y 117 (8 * c + w) ∧ G 127 (8 * c + w) = Y 118 (8 * c + w))) → ∃ Y', M_plant_F220 S 104 Q f ((c + 1 : Nat) : Int) G = Q Y' ∧ (∀ x, x < 121 ∨ x = 122 ∨ 128 ≤ x → Y' x = Y x) ∧ (∀ d, d < c → Y' 121 d = Y 121 d ∧ Y' 123 d = Y 123 d ∧ Y' 124 d = Y 124 d ∧ Y' 125 d = Y 125 d ∧ ∀ w, w < 8 → Y' 126 (8 * d + w) = Y 126 (8 * d + w) ∧ Y' 127 (8 * d + w) = Y 127 (8 * d + w)) ∧ ∀ d, c ≤ d → d < m → TkO Y Y' d := by
      intro G g1 g5 g6 gw
      have gY : ∀ x, x < 121 ∨ x = 122 ∨ 128 ≤ x → G x = Y x := fun x hx => by rw [g1 x (by omega) (by omega) (by omega), aO x (by omega) (by omega) (by omega) (by omega)]
      obtain ⟨Y', y1, y2, y3, y4⟩ := ih f (c + 1) G (by omega) (by omega) (by rw [gY 104 (by omega)]; exact h30) (by rw [gY 116 (by omega)]; exact h6)
      refine ⟨Y', y1, fun x hx => by rw [y2 x hx, gY x hx], fun d hd => ?_, fun d h1 h2 => ?_⟩
      · obtain ⟨q1, q3, q4, q5, q6⟩ := y3 d (by omega)
        refine ⟨by rw [q1, g1 121 (by decide) (by decide) (by decide), a1, if_neg (by omega)], by rw [q3, g1 123 (by decide) (by decide) (by decide), a3, if_neg (by omega)], by rw [q4, g1 124 (by decide) (by decide) (by decide), a4, if_neg (by omega)], by rw [q5, g5 d (by omega)], fun w hw => ?_⟩
        have := g6 (8 * d + w) (by omega)
        rw [(q6 w hw).1, (q6 w hw).2, this.1, this.2]
        exact ⟨rfl, rfl⟩
      · by_cases z : d = c
        · subst z
          obtain ⟨q1, q3, q4, q5, q6⟩ := y3 d (by omega)
          refine ⟨by rw [q1, g1 121 (by decide) (by decide) (by decide), a1, if_pos rfl], by rw [q3, g1 123 (by decide) (by decide) (by decide), a3, if_pos rfl], by rw [q4, g1 124 (by decide) (by decide) (by decide), a4, if_pos rfl], ?_⟩
          rcases gw with ⟨u1, u2, u3, u4⟩ | ⟨u1, u2, u3⟩
          · have z0 := q6 0 (by decide)
            rw [Nat.add_zero] at z0
            exact Or.inl ⟨u1, by rw [q5]; exact u2, by rw [z0.1]; exact u3, by rw [z0.2]; exact u4⟩
          · refine Or.inr ⟨u1, by rw [q5]; exact u2, fun w hw => ?_⟩
            rw [(q6 w (by omega)).1, (q6 w (by omega)).2]
            exact u3 w hw
        · have t := y4 d (by omega) h2
          unfold TkO at t ⊢
          rw [gY 112 (by omega), gY 114 (by omega), gY 115 (by omega), gY 116 (by omega), gY 117 (by omega), gY 118 (by omega)] at t
          exact t
    have bA : ∀ x, x ≠ 126 → x ≠ 127 → B x = A x := b2
    by_cases z : 0 < (j : Int)
    · rw [if_pos z]
      refine go B (fun x _ h2 h3 => bA x h2 h3) (fun i hi => by rw [bA 125 (by decide) (by decide), a5, if_neg hi]) (fun i hi => by rw [(b3 i).1, (b3 i).2, if_neg (by omega), if_neg (by omega), aO 126 (by decide) (by decide) (by decide) (by decide), aO 127 (by decide) (by decide) (by decide) (by decide)]; exact ⟨rfl, rfl⟩) (Or.inr ⟨by omega, by rw [b5, hj], fun w hw => ?_⟩)
      rw [(b3 _).1, (b3 _).2, if_pos (by omega), if_pos (by omega), aO 117 (by decide) (by decide) (by decide) (by decide), aO 118 (by decide) (by decide) (by decide) (by decide)]
      exact ⟨rfl, rfl⟩
    · rw [if_neg z, xl_eq, w32_of (x := 8 * (c : Int)) (by omega) (by omega), xch_pos (by omega), xl_eq, xl_eq, show (8 * (c : Int)).toNat = 8 * c by omega, J]
      obtain ⟨G, hG⟩ : ∃ G, G = xu (xu (xu B 125 c 1) 126 (8 * c) 8) 127 (8 * c) 100 := ⟨_, rfl⟩
      rw [← hG]
      have g125 : ∀ i, G 125 i = if i = c then 1 else B 125 i := fun i => by rw [hG, xu_cell _ _ _ (by decide), xu_cell _ _ _ (by decide), xu_at]
      have g126 : ∀ i, G 126 i = if i = 8 * c then 8 else B 126 i := fun i => by rw [hG, xu_cell _ _ _ (by decide), xu_at, xu_cell _ _ _ (by decide)]
      have g127 : ∀ i, G 127 i = if i = 8 * c then 100 else B 127 i := fun i => by rw [hG, xu_at, xu_cell _ _ _ (by decide), xu_cell _ _ _ (by decide)]
      refine go G (fun x h1 h2 h3 => by rw [hG, xu_cell _ _ _ h3, xu_cell _ _ _ h2, xu_cell _ _ _ h1, bA x h2 h3]) (fun i hi => by rw [g125, if_neg hi, bA 125 (by decide) (by decide), a5, if_neg hi]) (fun i hi => by rw [g126, g127, if_neg (by omega), if_neg (by omega), (b3 i).1, (b3 i).2, if_neg (by omega), if_neg (by omega), aO 126 (by decide) (by decide) (by decide) (by decide), aO 127 (by decide) (by decide) (by decide) (by decide)]; exact ⟨rfl, rfl⟩) (Or.inl ⟨by omega, by rw [g125, if_pos rfl], by rw [g126, if_pos rfl], by rw [g127, if_pos rfl]⟩)
