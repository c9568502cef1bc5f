/-! ===== plant: what both hold while they read ===== -/
def GlR (c m : Nat) (x y : Int) : Prop := (x = -1 ∧ y = 8) ∨ ((c : Int) < x ∧ x < (m : Int) ∧ y = x)
def WyR (p m : Nat) (X Y : xM) (c : Nat) : Prop := (X (p + 7) c = 0 ∧ Y 116 c = 0 ∧ X (p + 8) c = 1 ∧ X (p + 9) (8 * c) = -1 ∧ X (p + 10) (8 * c) = 100) ∨ (X (p + 7) c ≠ 0 ∧ (1 ≤ X (p + 8) c ∧ X (p + 8) c ≤ 8) ∧ Y 116 c = X (p + 8) c ∧ (∀ w : Nat, (w : Int) < X (p + 8) c → GlR c m (X (p + 9) (8 * c + w)) (Y 117 (8 * c + w)) ∧ (0 ≤ X (p + 10) (8 * c + w) ∧ X (p + 10) (8 * c + w) ≤ 100) ∧ Y 118 (8 * c + w) = X (p + 10) (8 * c + w)) ∧ sumN (fun w => X (p + 10) (8 * c + w)) (X (p + 8) c).toNat = 100)
def CR (p m : Nat) (X Y : xM) (c : Nat) : Prop := NmR (X (p + 1) c) (Y 110 c) ∧ ((0 ≤ X (p + 3) c ∧ X (p + 3) c < 4) ∧ Y 112 c = X (p + 3) c) ∧ (∀ s, s < 4 → (0 ≤ X (p + 4) (4 * c + s) ∧ X (p + 4) (4 * c + s) ≤ 100) ∧ Y 113 (4 * c + s) = X (p + 4) (4 * c + s)) ∧ ((0 ≤ X (p + 5) c ∧ X (p + 5) c ≤ 9999) ∧ Y 114 c = X (p + 5) c) ∧ ((0 ≤ X (p + 6) c ∧ X (p + 6) c ≤ 100) ∧ Y 115 c = X (p + 6) c ∧ (X (p + 3) c ≠ 1 → X (p + 6) c = 0)) ∧ WyR p m X Y c
def PR (p m q : Nat) (X Y : xM) : Prop := (m ≤ 8 ∧ q ≤ 4) ∧ (X p 0 = (m : Int) ∧ Y 104 28 = (m : Int)) ∧ (X p 1 = (q : Int) ∧ Y 104 29 = (q : Int)) ∧ (∀ c, c < m → CR p m X Y c) ∧ ∀ w, w < q → NmR (X (p + 2) w) (Y 111 w) ∧ (0 ≤ X (p + 11) w ∧ X (p + 11) w < (m : Int)) ∧ Y 119 w = X (p + 11) w
/-- what reading leaves as it was -/
def FXp (p : Nat) (X X' : xM) : Prop := (∀ x, x ≠ 2 → x < p ∨ p + 12 ≤ x → X' x = X x) ∧ ∀ j, j < 3 ∨ j = 4 ∨ j = 5 → X' 2 j = X 2 j
def FYp (Y Y' : xM) : Prop := (∀ x, x ≠ 104 → x < 110 ∨ 121 ≤ x → Y' x = Y x) ∧ ∀ j, j < 8 ∨ j = 13 ∨ (16 ≤ j ∧ j ≠ 28 ∧ j ≠ 29) → Y' 104 j = Y 104 j
theorem FXp.tr {p : Nat} {A B C : xM} (h : FXp p A B) (k : FXp p B C) : FXp p A C := ⟨fun x h1 hx => (k.1 x h1 hx).trans (h.1 x h1 hx), fun j hj => (k.2 j hj).trans (h.2 j hj)⟩
theorem FYp.tr {A B C : xM} (h : FYp A B) (k : FYp B C) : FYp A C := ⟨fun x h1 hx => (k.1 x h1 hx).trans (h.1 x h1 hx), fun j hj => (k.2 j hj).trans (h.2 j hj)⟩
theorem FXt.p {A B : xM} (h : FXt A B) (p : Nat) : FXp p A B := ⟨fun x h1 _ => h.1 x h1, h.2⟩
theorem FYt.p {A B : xM} (h : FYt A B) : FYp A B := ⟨fun x h1 _ => h.1 x h1, fun j hj => h.2 j (by omega)⟩
/-- the first m cleaners and the works stay -/
def KX (p m : Nat) (X X' : xM) : Prop := (∀ j, j = 1 ∨ j = 3 ∨ j = 5 ∨ j = 6 ∨ j = 7 ∨ j = 8 → ∀ c, c < m → X' (p + j) c = X (p + j) c) ∧ (∀ i, i < 4 * m → X' (p + 4) i = X (p + 4) i) ∧ (∀ j, j = 9 ∨ j = 10 → ∀ i, i < 8 * m → X' (p + j) i = X (p + j) i)
def KY (m : Nat) (Y Y' : xM) : Prop := (∀ j, j = 110 ∨ j = 112 ∨ j = 114 ∨ j = 115 ∨ j = 116 → ∀ c, c < m → Y' j c = Y j c) ∧ (∀ i, i < 4 * m → Y' 113 i = Y 113 i) ∧ (∀ j, j = 117 ∨ j = 118 → ∀ i, i < 8 * m → Y' j i = Y j i)
theorem KX.tr {p m : Nat} {A B C : xM} (h : KX p m A B) (k : KX p m B C) : KX p m A C := ⟨fun j hj c hc => (k.1 j hj c hc).trans (h.1 j hj c hc), fun i hi => (k.2.1 i hi).trans (h.2.1 i hi), fun j hj i hi => (k.2.2 j hj i hi).trans (h.2.2 j hj i hi)⟩
theorem KY.tr {m : Nat} {A B C : xM} (h : KY m A B) (k : KY m B C) : KY m A C := ⟨fun j hj c hc => (k.1 j hj c hc).trans (h.1 j hj c hc), fun i hi => (k.2.1 i hi).trans (h.2.1 i hi), fun j hj i hi => (k.2.2 j hj i hi).trans (h.2.2 j hj i hi)⟩
theorem KX.of {p m : Nat} {X X' : xM} (h : ∀ j, 1 ≤ j → j < 11 → X' (p + j) = X (p + j)) : KX p m X X' := ⟨fun j hj c _ => by rw [h j (by omega) (by omega)], fun i _ => by rw [h 4 (by decide) (by decide)], fun j hj i _ => by rw [h j (by omega) (by omega)]⟩
theorem KY.of {m : Nat} {Y Y' : xM} (h : ∀ x, 110 ≤ x → x < 119 → Y' x = Y x) : KY m Y Y' := ⟨fun j hj c _ => by rw [h j (by omega) (by omega)], fun i _ => by rw [h 113 (by decide) (by decide)], fun j hj i _ => by rw [h j (by omega) (by omega)]⟩
theorem FXt.k {p m : Nat} (hp : 3 ≤ p) {A B : xM} (h : FXt A B) : KX p m A B := KX.of fun j _ _ => h.1 _ (by omega)
theorem FYt.k {m : Nat} {A B : xM} (h : FYt A B) : KY m A B := KY.of fun x h1 _ => h.1 x (by omega)
theorem CR.keep {p m m' c : Nat} {X X' Y Y' : xM} (h : CR p m X Y c) (hc : c < m) (hm : m ≤ m') (kx : KX p m X X') (ky : KY m Y Y') : CR p m' X' Y' c := by
  obtain ⟨h1, h2, h3, h4, h5, h6⟩ := h
  have x1 := kx.1 1 (by decide) c hc
  have x3 := kx.1 3 (by decide) c hc
  have x5 := kx.1 5 (by decide) c hc
  have x6 := kx.1 6 (by decide) c hc
  have x7 := kx.1 7 (by decide) c hc
  have x8 := kx.1 8 (by decide) c hc
  have y0 := ky.1 110 (by decide) c hc
  have y2 := ky.1 112 (by decide) c hc
  have y4 := ky.1 114 (by decide) c hc
  have y5 := ky.1 115 (by decide) c hc
  have y6 := ky.1 116 (by decide) c hc
  have x4 : ∀ s, s < 4 → X' (p + 4) (4 * c + s) = X (p + 4) (4 * c + s) := fun s hs => kx.2.1 _ (by omega)
  have y3 : ∀ s, s < 4 → Y' 113 (4 * c + s) = Y 113 (4 * c + s) := fun s hs => ky.2.1 _ (by omega)
  have x9 : ∀ w, w < 8 → X' (p + 9) (8 * c + w) = X (p + 9) (8 * c + w) := fun w hw => kx.2.2 9 (by decide) _ (by omega)
  have x10 : ∀ w, w < 8 → X' (p + 10) (8 * c + w) = X (p + 10) (8 * c + w) := fun w hw => kx.2.2 10 (by decide) _ (by omega)
  have y7 : ∀ w, w < 8 → Y' 117 (8 * c + w) = Y 117 (8 * c + w) := fun w hw => ky.2.2 117 (by decide) _ (by omega)
  have y8 : ∀ w, w < 8 → Y' 118 (8 * c + w) = Y 118 (8 * c + w) := fun w hw => ky.2.2 118 (by decide) _ (by omega)
  unfold CR WyR
  rw [x1, x3, x5, x6, x7, x8, y0, y2, y4, y5, y6]
  refine ⟨h1, h2, fun s hs => by rw [x4 s hs, y3 s hs]; exact h3 s hs, h4, h5, ?_⟩
  rcases h6 with ⟨a1, a2, a3, a4, a5⟩ | ⟨a1, a2, a3, a4, a5⟩
  · exact Or.inl ⟨a1, a2, a3, by rw [show 8 * c = 8 * c + 0 from rfl, x9 0 (by decide)]; exact a4, by rw [show 8 * c = 8 * c + 0 from rfl, x10 0 (by decide)]; exact a5⟩
  · refine Or.inr ⟨a1, a2, a3, fun w hw => ?_, ?_⟩
    · rw [x9 w (by omega), x10 w (by omega), y7 w (by omega), y8 w (by omega)]
      obtain ⟨b1, b2, b3⟩ := a4 w hw
      refine ⟨?_, b2, b3⟩
      unfold GlR at b1 ⊢
      omega
    · rw [← a5]
      have cg : ∀ k : Nat, k ≤ 8 → sumN (fun w => X' (p + 10) (8 * c + w)) k = sumN (fun w => X (p + 10) (8 * c + w)) k := by
        intro k
        induction k with
        | zero => intro _; rfl
        | succ k ih =>
          intro hk
          show sumN (fun w => X' (p + 10) (8 * c + w)) k + X' (p + 10) (8 * c + k) = sumN (fun w => X (p + 10) (8 * c + w)) k + X (p + 10) (8 * c + k)
          rw [ih (by omega), x10 k (by omega)]
      exact cg _ (by omega)
/-- PR, when nothing of it has changed -/
theorem PR.of {p m q : Nat} {X X' Y Y' : xM} (h : PR p m q X Y) (hx : ∀ j, j < 12 → X' (p + j) = X (p + j)) (hy : ∀ x, 110 ≤ x → x < 121 → Y' x = Y x) (h8 : Y' 104 28 = Y 104 28) (h9 : Y' 104 29 = Y 104 29) : PR p m q X' Y' := by
  obtain ⟨h1, h2, h3, h4, h5⟩ := h
  have x0 : X' p = X p := hx 0 (by decide)
  refine ⟨h1, by rw [x0, h8]; exact h2, by rw [x0, h9]; exact h3, fun c hc => (h4 c hc).keep hc (Nat.le_refl m) (KX.of fun j _ _ => hx j (by omega)) (KY.of fun x _ _ => hy x (by omega) (by omega)), fun w hw => ?_⟩
  rw [hx 2 (by decide), hx 11 (by decide), hy 111 (by decide) (by decide), hy 119 (by decide) (by decide)]
  exact h5 w hw
theorem PR.t {p m q : Nat} (hp : 3 ≤ p) {X X' Y Y' : xM} (h : PR p m q X Y) (fx : FXt X X') (fy : FYt Y Y') : PR p m q X' Y' := h.of (fun j _ => fx.1 _ (by omega)) (fun x h1 _ => fy.1 x (by omega)) (fy.2 28 (by decide)) (fy.2 29 (by decide))
/-- the model's references -/
def MR (R : xR) : Prop := (∀ k, 17 ≤ k → k < 28 → R 104 k = 110 + (k - 17)) ∧ ∀ k, 32 ≤ k → k < 40 → R 104 k = 121 + (k - 32)
set_option maxRecDepth 100000 in
theorem xR0_new : (∀ k, k < 28 → 17 ≤ k → xR0 104 k = 110 + (k - 17)) ∧ ∀ k, k < 40 → 32 ≤ k → xR0 104 k = 121 + (k - 32) := by decide +kernel
theorem RG.mr {R : xR} {pn ps ln ls : Nat} (h : RG R pn ps ln ls) : MR R := ⟨fun k h1 h2 => by rw [h.at 104 k (by decide) (by decide)]; exact xR0_new.1 k h2 h1, fun k h1 h2 => by rw [h.at 104 k (by decide) (by decide)]; exact xR0_new.2 k h2 h1⟩
theorem RG.spR {R : xR} {pn ps ln ls : Nat} (h : RG R pn ps ln ls) : PnR R ps := by
  intro k h1 h2
  rcases h.2.2.2.1 with ⟨-, e⟩ | ⟨-, e⟩ <;> subst e
  · rw [h.at 20 k (by decide) (by decide)]; exact (xR0_pl k h2 h1).2
  · rw [h.at 8 k (by decide) (by decide)]; exact (xR0_pl k h2 h1).1
theorem cln_F2 {R S : xR} {p : Nat} (hp : PnR R p) (hm : MR S) {X Y : xM} {m : Nat} (hm8 : m ≤ 8) (x0 : X p 0 = (m : Int)) (y0 : Y 104 28 = (m : Int)) (hn : ∀ c, c < m → NmR (X (p + 1) c) (Y 110 c)) {x y : Int} (hxy : NmR x y) : ∀ (k f g c : Nat), k < f → k < g → c + k = m → ∃ r, N_cleanerNamed_F2 R X p x f (c : Int) = some r ∧ M_cleanerOf_F2 S Y 104 y g (c : Int) = some r ∧ (r = -1 ∨ (0 ≤ r ∧ r < (m : Int))) := by
  have r2 : R p 2 = p + 1 := hp 2 (by decide) (by decide)
  have s17 : S 104 17 = 110 := hm.1 17 (by decide) (by decide)
  intro k
  induction k with
  | zero =>
    intro f g c hf hg hc
    obtain ⟨f, rfl⟩ : ∃ g, f = g + 1 := ⟨f - 1, by omega⟩
    obtain ⟨g, rfl⟩ : ∃ h, g = h + 1 := ⟨g - 1, by omega⟩
    rw [N_cleanerNamed_F2, M_cleanerOf_F2, x0, y0, if_neg (by omega), if_neg (by omega)]
    exact ⟨-1, rfl, rfl, Or.inl rfl⟩
  | succ k ih =>
    intro f g c hf hg hc
    obtain ⟨f, rfl⟩ : ∃ g, f = g + 1 := ⟨f - 1, by omega⟩
    obtain ⟨g, rfl⟩ : ∃ h, g = h + 1 := ⟨g - 1, by omega⟩
    have e := (hn c (by omega)).eq hxy
    rw [N_cleanerNamed_F2, M_cleanerOf_F2, x0, y0, if_pos (show (c : Int) < (m : Int) by omega), if_pos (show (c : Int) < (m : Int) by omega), xch_pos (by omega), xch_pos (by omega), r2, s17, Int.toNat_natCast, xl_eq, xl_eq, w32_of (x := (c : Int) + 1) (by omega) (by omega), show (c : Int) + 1 = ((c + 1 : Nat) : Int) by omega]
    by_cases z : X (p + 1) c = x
    · rw [if_pos z, if_pos (e.1 z)]
      exact ⟨_, rfl, rfl, Or.inr (by omega)⟩
    · rw [if_neg z, if_neg (fun q => z (e.2 q))]
      exact ih f g (c + 1) (by omega) (by omega) (by omega)
theorem wks_F2 {R S : xR} {p : Nat} (hp : PnR R p) (hm : MR S) {X Y : xM} {q : Nat} (hq4 : q ≤ 4) (x0 : X p 1 = (q : Int)) (y0 : Y 104 29 = (q : Int)) (hn : ∀ c, c < q → NmR (X (p + 2) c) (Y 111 c)) {x y : Int} (hxy : NmR x y) (Q : Option Int) : ∀ (k f g c : Nat), k < f → k < g → c + k = q → (N_isWorksName_F2 R X p x f (c : Int) = some 1 ∧ M_isThere_F2 S Y 104 y Q g (c : Int) = some 1) ∨ (N_isWorksName_F2 R X p x f (c : Int) = some 0 ∧ M_isThere_F2 S Y 104 y Q g (c : Int) = Q) := by
  have r3 : R p 3 = p + 2 := hp 3 (by decide) (by decide)
  have s18 : S 104 18 = 111 := hm.1 18 (by decide) (by decide)
  intro k
  induction k with
  | zero =>
    intro f g c hf hg hc
    obtain ⟨f, rfl⟩ : ∃ g, f = g + 1 := ⟨f - 1, by omega⟩
    obtain ⟨g, rfl⟩ : ∃ h, g = h + 1 := ⟨g - 1, by omega⟩
    rw [N_isWorksName_F2, M_isThere_F2, x0, y0, if_neg (by omega), if_neg (by omega)]
    exact Or.inr ⟨rfl, rfl⟩
  | succ k ih =>
    intro f g c hf hg hc
    obtain ⟨f, rfl⟩ : ∃ g, f = g + 1 := ⟨f - 1, by omega⟩
    obtain ⟨g, rfl⟩ : ∃ h, g = h + 1 := ⟨g - 1, by omega⟩
    have e := (hn c (by omega)).eq hxy
    rw [N_isWorksName_F2, M_isThere_F2, x0, y0, if_pos (show (c : Int) < (q : Int) by omega), if_pos (show (c : Int) < (q : Int) by omega), xch_pos (by omega), xch_pos (by omega), r3, s18, Int.toNat_natCast, xl_eq, xl_eq, w32_of (x := (c : Int) + 1) (by omega) (by omega), show (c : Int) + 1 = ((c + 1 : Nat) : Int) by omega]
    by_cases z : X (p + 2) c = x
    · rw [if_pos z, if_pos (e.1 z)]
      exact Or.inl ⟨rfl, rfl⟩
    · rw [if_neg z, if_neg (fun q => z (e.2 q))]
      exact ih f g (c + 1) (by omega) (by omega) (by omega)
/-- a cleaner's name, looked up -/
theorem cln_sim {R S : xR} {p : Nat} (hp : PnR R p) (hm : MR S) {X Y : xM} {m q : Nat} (h : PR p m q X Y) {x y : Int} (hxy : NmR x y) : ∃ r, f_N_cleanerNamed R p x X = some r ∧ f_M_cleanerOf S 104 y Y = some r ∧ (r = -1 ∨ (0 ≤ r ∧ r < (m : Int))) := by
  have xf : xfu = 1000000 := rfl
  have h8 := h.1.1
  exact cln_F2 hp hm h8 h.2.1.1 h.2.1.2 (fun c hc => (h.2.2.2.1 c hc).1) hxy m xfu xfu 0 (by omega) (by omega) (by omega)
/-- a new name: refused alike, or taken -/
theorem new_sim {R S : xR} (hL : LR R S false) {p : Nat} (hp : PnR R p) (hm : MR S) {b : Nat → Int} {n e : Nat} (hB : TxB b n) {X Y : xM} (h : SR false b n e X Y) {m q : Nat} (hP : PR p m q X Y) (fl : Int) :
    (∃ X' Y', f_N_isNewName R p 2 fl X = some (0, X') ∧ f_M_nameHere S 104 Y = some (-1) ∧ f_M_fails 104 2 Y = some (0, Y') ∧ FT X' Y' ∧ FXt X X' ∧ FYt Y Y') ∨
    (∃ v X' Y', f_N_isNewName R p 2 fl X = some (0, X') ∧ f_M_nameHere S 104 Y = some v ∧ v ≠ -1 ∧ f_M_isThere S 104 v Y = some 1 ∧ f_M_fails 104 3 Y = some (0, Y') ∧ FT X' Y' ∧ FXt X X' ∧ FYt Y Y') ∨
    (fl ≠ 0 ∧ ∃ v X' Y', f_N_isNewName R p 2 fl X = some (0, X') ∧ f_M_nameHere S 104 Y = some v ∧ v ≠ -1 ∧ f_M_isThere S 104 v Y = some 0 ∧ f_M_fails 104 6 Y = some (0, Y') ∧ FT X' Y' ∧ FXt X X' ∧ FYt Y Y') ∨
    (fl = 0 ∧ ∃ v, f_N_isNewName R p 2 fl X = some (1, X) ∧ f_M_nameHere S 104 Y = some v ∧ v ≠ -1 ∧ f_M_isThere S 104 v Y = some 0 ∧ NmR (X 2 8) v ∧ lxK false b n e = 1) := by
  have xf : xfu = 1000000 := rfl
  unfold f_N_isNewName
  rcases name_sim hL hB h with ⟨-, k1, i1, v, j1, j2, j3⟩ | ⟨-, i1, j1⟩
  · rw [i1, xb1_some, stands_ok h (by omega) (by decide), xb2_some, if_neg (by decide)]
    obtain ⟨r, c1, c2, c3⟩ := cln_sim hp hm hP j3
    rw [c1, xb1_some]
    have h4 := hP.1.2
    have wk := wks_F2 hp hm h4 hP.2.2.1.1 hP.2.2.1.2 (fun c hc => (hP.2.2.2.2 c hc).1) j3 (xb1 (f_M_cleanerOf S 104 v Y) fun r_5 => if r_5 = -1 then some (0) else some (1)) q xfu xfu 0 (by omega) (by omega) (by omega)
    rw [c2, xb1_some, show ((0 : Nat) : Int) = 0 from rfl] at wk
    have e1 : f_N_isWorksName R p (X 2 8) X = N_isWorksName_F2 R X p (X 2 8) xfu 0 := rfl
    have e2 : f_M_isThere S 104 v Y = M_isThere_F2 S Y 104 v (if r = -1 then some 0 else some 1) xfu 0 := by
      unfold f_M_isThere
      rw [c2, xb1_some]
    obtain ⟨W, V, w1, w2, w3, w4, w5⟩ := wrong_fail h (show lxK false b n e ≠ 4 by omega) (k := 3) (by decide)
    obtain ⟨W', V', w1', w2', w3', w4', w5'⟩ := wrong_fail h (show lxK false b n e ≠ 4 by omega) (k := 6) (by decide)
    rw [e1]
    by_cases z : r = -1
    · rw [if_pos z] at wk e2
      rw [if_pos z]
      rcases wk with ⟨a1, a2⟩ | ⟨a1, a2⟩
      · rw [a1, xb1_some, if_neg (by decide), w1, xb2_some, xch_01.1]
        exact Or.inr (Or.inl ⟨v, W, V, rfl, j1, by omega, e2.trans a2, w2, w3, w4, w5⟩)
      · rw [a1, xb1_some, if_pos rfl]
        by_cases y : fl = 0
        · rw [if_pos y]
          exact Or.inr (Or.inr (Or.inr ⟨y, v, rfl, j1, by omega, e2.trans a2, j3, k1⟩))
        · rw [if_neg y, w1', xb2_some, if_pos rfl]
          exact Or.inr (Or.inr (Or.inl ⟨y, v, W', V', rfl, j1, by omega, e2.trans a2, w2', w3', w4', w5'⟩))
    · rw [if_neg z] at wk e2
      rw [if_neg z, w1, xb2_some, xch_01.1]
      refine Or.inr (Or.inl ⟨v, W, V, rfl, j1, by omega, ?_, w2, w3, w4, w5⟩)
      rcases wk with ⟨a1, a2⟩ | ⟨a1, a2⟩
      · exact e2.trans a2
      · exact e2.trans a2
  · rw [i1, xb1_some]
    obtain ⟨X', Y', x1, x2, x3, x4, x5⟩ := stands_fail h
    rw [x1, xb2_some, if_pos rfl]
    exact Or.inl ⟨X', Y', rfl, j1, x2, x3, x4, x5⟩
theorem holds_sim {R S : xR} (hL : LR R S false) {p : Nat} (hp : PnR R p) (hp3 : 3 ≤ p) (hm : MR S) {b : Nat → Int} {n : Nat} (hB : TxB b n) {c : Nat} (hc : c < 8) (l1 v2 : Int) (Q : Int → xM → Option (Int × xM)) : ∀ (k f g s e : Nat) (X Y : xM), k < f → k < g → s + k = 4 → SR false b n e X Y → (∀ i, i < s → (0 ≤ X (p + 4) (4 * c + i) ∧ X (p + 4) (4 * c + i) ≤ 100) ∧ Y 120 i = X (p + 4) (4 * c + i)) →
    ∃ X' Y', (∀ x, x ≠ 2 → x ≠ p + 4 → X' x = X x) ∧ (∀ j, j < 3 ∨ j = 4 ∨ j = 5 → X' 2 j = X 2 j) ∧ (∀ i, i < 4 * c → X' (p + 4) i = X (p + 4) i) ∧ (∀ x, x ≠ 104 → x ≠ 120 → Y' x = Y x) ∧ (∀ j, j < 8 ∨ j = 13 ∨ 16 ≤ j → Y' 104 j = Y 104 j) ∧ ((N_readHolds_F13 R p 2 (c : Int) f (s : Int) X = some (1, X') ∧ M_makes_F71 S 104 l1 Q g v2 (s : Int) Y = Q v2 Y' ∧ (∃ e', e ≤ e' ∧ SR false b n e' X' Y') ∧ ∀ i, i < 4 → (0 ≤ X' (p + 4) (4 * c + i) ∧ X' (p + 4) (4 * c + i) ≤ 100) ∧ Y' 120 i = X' (p + 4) (4 * c + i)) ∨ (N_readHolds_F13 R p 2 (c : Int) f (s : Int) X = some (0, X') ∧ M_makes_F71 S 104 l1 Q g v2 (s : Int) Y = some (0, Y') ∧ FT X' Y')) := by
  have r5 : R p 5 = p + 4 := hp 5 (by decide) (by decide)
  have s27 : S 104 27 = 120 := hm.1 27 (by decide) (by decide)
  intro k
  induction k with
  | zero =>
    intro f g s e X Y hf hg hs h hv
    obtain ⟨f, rfl⟩ : ∃ g, f = g + 1 := ⟨f - 1, by omega⟩
    obtain ⟨g, rfl⟩ : ∃ h, g = h + 1 := ⟨g - 1, by omega⟩
    refine ⟨X, Y, fun _ _ _ => rfl, fun _ _ => rfl, fun _ _ => rfl, fun _ _ _ => rfl, fun _ _ => rfl, Or.inl ⟨?_, ?_, ⟨e, Nat.le_refl e, h⟩, fun i hi => hv i (by omega)⟩⟩
    · rw [N_readHolds_F13, if_neg (by omega)]
    · rw [M_makes_F71, if_neg (by omega)]
  | succ k ih =>
    intro f g s e X Y hf hg hs h hv
    obtain ⟨f, rfl⟩ : ∃ g, f = g + 1 := ⟨f - 1, by omega⟩
    obtain ⟨g, rfl⟩ : ∃ h, g = h + 1 := ⟨g - 1, by omega⟩
    have go : ∀ (e0 : Nat) (A B : xM), e ≤ e0 → SR false b n e0 A B → FXt X A → FYt Y B → ∃ X' Y', (∀ x, x ≠ 2 → x ≠ p + 4 → X' x = X x) ∧ (∀ j, j < 3 ∨ j = 4 ∨ j = 5 → X' 2 j = X 2 j) ∧ (∀ i, i < 4 * c → X' (p + 4) i = X (p + 4) i) ∧ (∀ x, x ≠ 104 → x ≠ 120 → Y' x = Y x) ∧ (∀ j, j < 8 ∨ j = 13 ∨ 16 ≤ j → Y' 104 j = Y 104 j) ∧ ((N_readHolds_J33 R p 2 (c : Int) (N_readHolds_F13 R p 2 (c : Int) f) (s : Int) A = some (1, X') ∧ M_makes_J93 S 104 l1 (M_makes_F71 S 104 l1 Q g) Q v2 (s : Int) B = Q v2 Y' ∧ (∃ e', e ≤ e' ∧ SR false b n e' X' Y') ∧ ∀ i, i < 4 → (0 ≤ X' (p + 4) (4 * c + i) ∧ X' (p + 4) (4 * c + i) ≤ 100) ∧ Y' 120 i = X' (p + 4) (4 * c + i)) ∨ (N_readHolds_J33 R p 2 (c : Int) (N_readHolds_F13 R p 2 (c : Int) f) (s : Int) A = some (0, X') ∧ M_makes_J93 S 104 l1 (M_makes_F71 S 104 l1 Q g) Q v2 (s : Int) B = some (0, Y') ∧ FT X' Y')) := by
      intro e0 A B he0 hAB fA fB
      obtain ⟨r, A', B', t1, t2, t3, t4, t5⟩ := takeNumber_sim hL hB hAB 0 100 (fk := 4) (by decide)
      have fA' := fA.tr t3
      have fB' := fB.tr t4
      unfold N_readHolds_J33 M_makes_J93
      rw [t1, t2, xb2_some, xb2_some]
      rcases t5 with ⟨rfl, t5, t6, t7, t8, t9⟩ | ⟨rfl, t5⟩
      · rw [if_neg (by decide), if_neg (by decide), w32_of (x := (c : Int) * 4) (by omega) (by omega), w32_of (x := (c : Int) * 4 + (s : Int)) (by omega) (by omega), xch_pos (by omega), xch_pos (by omega), xl_eq, xl_eq, xl_eq, xl_eq, r5, s27, Int.toNat_natCast, show ((c : Int) * 4 + (s : Int)).toNat = 4 * c + s by omega, w32_of (x := (s : Int) + 1) (by omega) (by omega), show (s : Int) + 1 = ((s + 1 : Nat) : Int) by omega, t7]
        obtain ⟨v, hv'⟩ : ∃ v, v = A' 2 11 := ⟨_, rfl⟩
        rw [← hv'] at t8 t9 ⊢
        have hsr : SR false b n (lxE b n e0) (xu A' (p + 4) (4 * c + s) v) (xu B' 120 s v) := (t5.ofX (fun j _ => by rw [xu_cell _ _ _ (by omega)]) (xu_cell _ _ _ (by omega))).ofY (fun j _ _ _ _ => by rw [xu_cell _ _ _ (by decide)]) (xu_cell _ _ _ (by decide))
        obtain ⟨X', Y', m1, m2, m3, m4, m5, m6⟩ := ih f g (s + 1) (lxE b n e0) (xu A' (p + 4) (4 * c + s) v) (xu B' 120 s v) (by omega) (by omega) (by omega) hsr (fun i hi => by
          rw [xu_at, xu_at]
          by_cases z : i = s
          · rw [if_pos (by omega), if_pos z]
            exact ⟨⟨t8, t9⟩, rfl⟩
          · rw [if_neg (by omega), if_neg z, fA'.1 _ (by omega), fB'.1 _ (by omega)]
            exact hv i (by omega))
        refine ⟨X', Y', fun x h1 h2 => by rw [m1 x h1 h2, xu_cell _ _ _ h2, fA'.1 x h1], fun j hj => by rw [m2 j hj, xu_cell _ _ _ (by omega), fA'.2 j hj], fun i hi => by rw [m3 i hi, xu_at, if_neg (by omega), fA'.1 _ (by omega)], fun x h1 h2 => by rw [m4 x h1 h2, xu_cell _ _ _ h2, fB'.1 x h1], fun j hj => by rw [m5 j hj, xu_cell _ _ _ (by decide), fB'.2 j hj], ?_⟩
        rcases m6 with ⟨q1, q2, ⟨e', q3, q4⟩, q5⟩ | q
        · exact Or.inl ⟨q1, q2, ⟨e', by omega, q4⟩, q5⟩
        · exact Or.inr q
      · rw [if_pos rfl, if_pos rfl]
        exact ⟨A', B', fun x h1 _ => fA'.1 x h1, fA'.2, fun i _ => by rw [fA'.1 _ (by omega)], fun x h1 _ => fB'.1 x h1, fB'.2, Or.inr ⟨rfl, rfl, t5⟩⟩
    rw [N_readHolds_F13, M_makes_F71, if_pos (show (s : Int) < 4 by omega), if_pos (show (s : Int) < 4 by omega)]
    by_cases z : 0 < s
    · rw [if_pos (show (0 : Int) < (s : Int) by omega), if_pos (show (0 : Int) < (s : Int) by omega)]
      obtain ⟨r, A, B, t1, t2, t3, t4, t5⟩ := takeSign_sim hL hB h 44
      rw [t1, t2, xb2_some, xb2_some]
      rcases t5 with ⟨rfl, t5, t6, -⟩ | ⟨rfl, t5⟩
      · rw [if_neg (by decide), if_neg (by decide)]
        exact go (lxE b n e) A B (by omega) t5 t3 t4
      · rw [if_pos rfl, if_pos rfl]
        exact ⟨A, B, fun x h1 _ => t3.1 x h1, t3.2, fun i _ => by rw [t3.1 _ (by omega)], fun x h1 _ => t4.1 x h1, t4.2, Or.inr ⟨rfl, rfl, t5⟩⟩
    · rw [if_neg (show ¬ (0 : Int) < (s : Int) by omega), if_neg (show ¬ (0 : Int) < (s : Int) by omega)]
      exact go e X Y (Nat.le_refl e) h (FXt.rf X) (FYt.rf Y)
