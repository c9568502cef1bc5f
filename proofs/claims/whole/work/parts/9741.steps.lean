/-! ===== laws: steps of a sum ===== -/
/-- a step of the class, and the model's sign -/
def stR (x y z : Int) : Prop := (0 ≤ x ∧ x < 10000 ∧ y = 0 ∧ z = x) ∨ (10000 ≤ x ∧ x < 10006 ∧ y = 1 ∧ z = x - 10000) ∨ (x = 10010 ∧ y = 43) ∨ (x = 10011 ∧ y = 45) ∨ (x = 10012 ∧ y = 42)
/-- how many stand on the stack behind k steps from s on -/
def dp (st : Nat → Int) (s : Nat) : Nat → Int
  | 0 => 0
  | k + 1 => dp st s k + (if st (s + k) < 10010 then 1 else -1)
def GD (st : Nat → Int) (s k : Nat) : Prop := ∀ i, i < k → 0 ≤ dp st s i ∧ (st (s + i) < 10010 → dp st s i < 32) ∧ (¬ st (s + i) < 10010 → 2 ≤ dp st s i)
theorem dp_cg {st st' : Nat → Int} {s : Nat} : ∀ k, (∀ i, i < k → st' (s + i) = st (s + i)) → dp st' s k = dp st s k := by
  intro k
  induction k with
  | zero => intro _; rfl
  | succ k ih =>
    intro h
    show dp st' s k + _ = dp st s k + _
    rw [ih fun i hi => h i (by omega), h k (by omega)]
theorem GD.cg {st st' : Nat → Int} {s k : Nat} (q : GD st s k) (h : ∀ i, i < k → st' (s + i) = st (s + i)) : GD st' s k := by
  intro i hi
  rw [dp_cg i fun j hj => h j (by omega), h i hi]
  exact q i hi
def LSt (q s c : Nat) (X Y : xM) : Prop := X q 7 = (c : Int) ∧ Y 104 43 = (c : Int) ∧ s ≤ c ∧ (∀ i, i < c → stR (X (q + 6) i) (Y 140 i) (Y 141 i)) ∧ GD (X (q + 6)) s (c - s)
/-- the depth as it stands -/
def DP (q s c : Nat) (X : xM) : Int := dp (X (q + 6)) s (c - s)
def FXq (q : Nat) (X X' : xM) : Prop := (∀ x, x ≠ 2 → x ≠ q → x ≠ q + 6 → X' x = X x) ∧ (∀ j, j < 3 ∨ j = 4 ∨ j = 5 → X' 2 j = X 2 j) ∧ ∀ j, j ≠ 7 → X' q j = X q j
def FYq (d : Nat) (Y Y' : xM) : Prop := (∀ x, x ≠ 104 → x < 140 ∨ 144 ≤ x → Y' x = Y x) ∧ (∀ j, j < 8 ∨ j = 13 ∨ (16 ≤ j ∧ j ≠ 43) → Y' 104 j = Y 104 j) ∧ ∀ i, i ≤ d → Y' 142 i = Y 142 i ∧ Y' 143 i = Y 143 i
def FZ (Y Y' : xM) : Prop := (∀ x, x ≠ 104 → x < 140 ∨ 144 ≤ x → Y' x = Y x) ∧ (∀ j, j < 8 ∨ j = 13 ∨ (16 ≤ j ∧ j ≠ 43) → Y' 104 j = Y 104 j)
theorem FYq.z {d : Nat} {A B : xM} (h : FYq d A B) : FZ A B := ⟨h.1, h.2.1⟩
theorem FZ.tr {A B C : xM} (h : FZ A B) (k : FZ B C) : FZ A C := ⟨fun x h1 h2 => (k.1 x h1 h2).trans (h.1 x h1 h2), fun j hj => (k.2 j hj).trans (h.2 j hj)⟩
theorem FXq.tr {q : Nat} {A B C : xM} (h : FXq q A B) (k : FXq q B C) : FXq q A C := ⟨fun x h1 h2 h3 => (k.1 x h1 h2 h3).trans (h.1 x h1 h2 h3), fun j hj => (k.2.1 j hj).trans (h.2.1 j hj), fun j hj => (k.2.2 j hj).trans (h.2.2 j hj)⟩
theorem FYq.tr {d : Nat} {A B C : xM} (h : FYq d A B) (k : FYq d B C) : FYq d A C := ⟨fun x h1 h2 => (k.1 x h1 h2).trans (h.1 x h1 h2), fun j hj => (k.2.1 j hj).trans (h.2.1 j hj), fun i hi => ⟨(k.2.2 i hi).1.trans (h.2.2 i hi).1, (k.2.2 i hi).2.trans (h.2.2 i hi).2⟩⟩
theorem FYq.le {d d' : Nat} {A B : xM} (h : FYq d' A B) (hd : d ≤ d') : FYq d A B := ⟨h.1, h.2.1, fun i hi => h.2.2 i (by omega)⟩
theorem FXt.q {A B : xM} (h : FXt A B) {q : Nat} (hq : 4 ≤ q) : FXq q A B := ⟨fun x h1 _ _ => h.1 x h1, h.2, fun j _ => by rw [h.1 q (by omega)]⟩
theorem FYt.q {A B : xM} (h : FYt A B) (d : Nat) : FYq d A B := ⟨fun x h1 _ => h.1 x h1, fun j hj => h.2 j (by omega), fun i _ => by rw [h.1 142 (by decide), h.1 143 (by decide)]; exact ⟨rfl, rfl⟩⟩
theorem FXq.rf (q : Nat) (A : xM) : FXq q A A := ⟨fun _ _ _ _ => rfl, fun _ _ => rfl, fun _ _ => rfl⟩
theorem FYq.rf (d : Nat) (A : xM) : FYq d A A := ⟨fun _ _ _ => rfl, fun _ _ => rfl, fun _ _ => ⟨rfl, rfl⟩⟩
theorem LSt.t {q s c : Nat} (hq : 4 ≤ q) {X Y X' Y' : xM} (h : LSt q s c X Y) (fx : FXt X X') (fy : FYt Y Y') : LSt q s c X' Y' := by
  unfold LSt
  rw [fx.1 q (by omega), fx.1 (q + 6) (by omega), fy.2 43 (by decide), fy.1 140 (by decide), fy.1 141 (by decide)]
  exact h
/-- the references of laws: the class's at q, the model's -/
def LwR (R : xR) (q : Nat) : Prop := ∀ k, 1 ≤ k → k < 7 → R q k = q + k
def MS (S : xR) : Prop := ∀ k, 44 ≤ k → k < 59 → S 104 k = 129 + (k - 44)
set_option maxRecDepth 100000 in
theorem xR0_sg : ∀ k, k < 59 → 44 ≤ k → xR0 104 k = 129 + (k - 44) := by decide +kernel
theorem RG.ms {R : xR} {pn ps ln ls : Nat} (h : RG R pn ps ln ls) : MS R := fun k h1 h2 => by rw [h.at 104 k (by decide) (by decide)]; exact xR0_sg k h2 h1
theorem RG.lsR {R : xR} {pn ps ln ls : Nat} (h : RG R pn ps ln ls) : LwR R ls := by
  intro k h1 h2
  rcases h.2.2.2.2 with ⟨-, e⟩ | ⟨-, e⟩ <;> subst e
  · rw [h.at 40 k (by decide) (by decide)]; exact (xR0_lw k h2 h1).2
  · rw [h.at 32 k (by decide) (by decide)]; exact (xR0_lw k h2 h1).1
theorem RG.lnR {R : xR} {pn ps ln ls : Nat} (h : RG R pn ps ln ls) : LwR R ln := by
  intro k h1 h2
  rcases h.2.2.2.2 with ⟨e, -⟩ | ⟨e, -⟩ <;> subst e
  · rw [h.at 32 k (by decide) (by decide)]; exact (xR0_lw k h2 h1).1
  · rw [h.at 40 k (by decide) (by decide)]; exact (xR0_lw k h2 h1).2
/-- a step more in the class, whatever stands there -/
theorem addX {R : xR} {q : Nat} (hq : LwR R q) (x : Int) {X : xM} (h : 0 ≤ X q 7 ∧ X q 7 ≤ 600) : ∃ X', f_L_addStep R q x X = some X' ∧ (∀ x, x ≠ q → x ≠ q + 6 → X' x = X x) ∧ (∀ j, j ≠ 7 → X' q j = X q j) ∧ (0 ≤ X' q 7 ∧ X' q 7 ≤ 600) := by
  have r6 : R q 6 = q + 6 := hq 6 (by decide) (by decide)
  unfold f_L_addStep
  by_cases z : X q 7 < 600
  · rw [if_pos z, xch_pos (by omega), xl_eq, r6]
    have e : xu X (q + 6) (X q 7).toNat x q 7 = X q 7 := by rw [xu_cell _ _ _ (by omega)]
    rw [e, xl_eq, w32_of (x := X q 7 + 1) (by omega) (by omega)]
    exact ⟨_, rfl, fun y h1 h2 => by rw [xu_cell _ _ _ h1, xu_cell _ _ _ h2], fun j hj => by rw [xu_at, if_neg hj, xu_cell _ _ _ (by omega)], by rw [xu_at, if_pos rfl]; omega⟩
  · rw [if_neg z]
    exact ⟨X, rfl, fun _ _ _ => rfl, fun _ _ => rfl, h⟩
theorem add_sim {R S : xR} {q : Nat} (hq : LwR R q) (hq4 : 4 ≤ q) (hS : MS S) {s c : Nat} (hc : c < 600) {X Y : xM} (h : LSt q s c X Y) {x y z : Int} (hst : stR x y z) (h1 : x < 10010 → 0 ≤ DP q s c X ∧ DP q s c X < 32) (h2 : ¬ x < 10010 → 2 ≤ DP q s c X) :
    ∃ X' Y', f_L_addStep R q x X = some X' ∧ f_M_puts S 104 y z Y = some Y' ∧ LSt q s (c + 1) X' Y' ∧ DP q s (c + 1) X' = DP q s c X + (if x < 10010 then 1 else -1) ∧ (∀ i, i < c → X' (q + 6) i = X (q + 6) i) ∧ (∀ x, x ≠ q → x ≠ q + 6 → X' x = X x) ∧ (∀ j, j ≠ 7 → X' q j = X q j) ∧ (∀ x, x ≠ 104 → x ≠ 140 → x ≠ 141 → Y' x = Y x) ∧ (∀ j, j ≠ 43 → Y' 104 j = Y 104 j) := by
  have r6 : R q 6 = q + 6 := hq 6 (by decide) (by decide)
  have s55 : S 104 55 = 140 := hS 55 (by decide) (by decide)
  have s56 : S 104 56 = 141 := hS 56 (by decide) (by decide)
  obtain ⟨l1, l2, l3, l4, l5⟩ := h
  obtain ⟨A, hA⟩ : ∃ A, A = xu (xu X (q + 6) c x) q 7 ((c : Int) + 1) := ⟨_, rfl⟩
  obtain ⟨B, hB⟩ : ∃ B, B = xu (xu (xu Y 140 c y) 141 c z) 104 43 ((c : Int) + 1) := ⟨_, rfl⟩
  have a6 : ∀ i, A (q + 6) i = if i = c then x else X (q + 6) i := fun i => by rw [hA, xu_cell _ _ _ (by omega), xu_at]
  have b0 : ∀ i, B 140 i = if i = c then y else Y 140 i := fun i => by rw [hB, xu_cell _ _ _ (by decide), xu_cell _ _ _ (by decide), xu_at]
  have b1 : ∀ i, B 141 i = if i = c then z else Y 141 i := fun i => by rw [hB, xu_cell _ _ _ (by decide), xu_at, xu_cell _ _ _ (by decide)]
  have pre : ∀ i, i < c - s → A (q + 6) (s + i) = X (q + 6) (s + i) := fun i hi => by rw [a6, if_neg (by omega)]
  have e0 : dp (A (q + 6)) s (c - s) = DP q s c X := dp_cg _ pre
  have ec : c + 1 - s = (c - s) + 1 := by omega
  have ex : A (q + 6) (s + (c - s)) = x := by rw [a6, if_pos (by omega)]
  have e1 : DP q s (c + 1) A = DP q s c X + (if x < 10010 then 1 else -1) := by
    unfold DP
    rw [ec]
    show dp (A (q + 6)) s (c - s) + (if A (q + 6) (s + (c - s)) < 10010 then 1 else -1) = _
    rw [e0, ex]
    rfl
  refine ⟨A, B, ?_, ?_, ⟨by rw [hA, xu_at, if_pos rfl]; rfl, by rw [hB, xu_at, if_pos rfl]; rfl, by omega, fun i hi => ?_, fun i hi => ?_⟩, e1, fun i hi => by rw [a6, if_neg (by omega)], fun y h1 h2 => by rw [hA, xu_cell _ _ _ h1, xu_cell _ _ _ h2], fun j hj => by rw [hA, xu_at, if_neg hj, xu_cell _ _ _ (by omega)], fun y h1 h2 h3 => by rw [hB, xu_cell _ _ _ h1, xu_cell _ _ _ h3, xu_cell _ _ _ h2], fun j hj => by rw [hB, xu_at, if_neg hj, xu_cell _ _ _ (by decide), xu_cell _ _ _ (by decide)]⟩
  · unfold f_L_addStep
    have e : xu X (q + 6) c x q 7 = (c : Int) := by rw [xu_cell _ _ _ (by omega)]; exact l1
    rw [l1, if_pos (by omega), xch_pos (by omega), xl_eq, r6, Int.toNat_natCast, e, xl_eq, w32_of (x := (c : Int) + 1) (by omega) (by omega), hA]
  · unfold f_M_puts
    have f1 : xu Y 140 c y 104 43 = (c : Int) := by rw [xu_cell _ _ _ (by decide)]; exact l2
    have f2 : xu (xu Y 140 c y) 141 c z 104 43 = (c : Int) := by rw [xu_cell _ _ _ (by decide)]; exact f1
    rw [l2, xch_pos (by omega), xl_eq, s55, Int.toNat_natCast, f1, xch_pos (by omega), xl_eq, s56, Int.toNat_natCast, f2, xl_eq, w32_of (x := (c : Int) + 1) (by omega) (by omega), hB]
  · rw [a6, b0, b1]
    by_cases w : i = c
    · rw [if_pos w, if_pos w, if_pos w]; exact hst
    · rw [if_neg w, if_neg w, if_neg w]; exact l4 i (by omega)
  · rw [ec] at hi
    by_cases w : i = c - s
    · rw [w, ex, e0]
      by_cases x1 : x < 10010
      · exact ⟨(h1 x1).1, fun _ => (h1 x1).2, fun q => absurd x1 q⟩
      · have := h2 x1
        exact ⟨by omega, fun q => absurd q x1, fun _ => this⟩
    · rw [dp_cg i fun j hj => pre j (by omega), pre i (by omega)]
      exact l5 i (by omega)
/-- the class's number of a word against the model's, laws -/
theorem keyL_eq {R S : xR} (hL : LR R S true) {b : Nat → Int} {n e : Nat} (hB : TxB b n) {X Y : xM} (h : SR true b n e X Y) : f_M_inWords S 104 7 Y = some (X 2 9) ∧ (X 2 9 = -1 ∨ (0 ≤ X 2 9 ∧ X 2 9 < 8)) ∧ (X 2 9 ≠ -1 → lxK true b n e = 1) := by
  obtain ⟨⟨a1, a2, a3, a4⟩, ⟨c1, c2, c3, c4, c5⟩, he⟩ := h
  rw [(inWords_eq hL.2 hB c1 c2).2]
  by_cases z : lxK true b n e = 1
  · rw [if_pos z, (a2.2.2.2.1 z).2]
    refine ⟨rfl, ?_, fun _ => z⟩
    have := ix_in (kl := kls true) (w := lxW b n e) 0 (by decide)
    have el : (kls true).length = 8 := by decide
    rw [el] at this
    omega
  · rw [if_neg z, a2.2.2.2.2.1 z]
    exact ⟨rfl, Or.inl rfl, fun q => absurd rfl q⟩
/-- the end of a sum at depth d in the model -/
def sumE (S : xR) (f : Nat) (d : Int) (Y : xM) : Option (Int × xM) := if d = 0 then some (1, Y) else xb2 (f_M_want S 104 41 Y) fun r_22 M_23 => if r_22 = 0 then some (0, M_23) else xl (w32 (d + (-1))) fun v1_26 => M_sum_F18 S 104 f v1_26 0 M_23
/-- the end of an item at depth d in the model -/
def itmE (S : xR) (f : Nat) (d : Nat) (Y : xM) : Option (Int × xM) := if Y 142 d = 0 then M_sum_J217 S 104 (M_sum_F18 S 104 f) (d : Int) 0 Y else xb1 (f_M_puts S 104 (Y 142 d) 0 Y) fun M_31 => M_sum_J217 S 104 (M_sum_F18 S 104 f) (d : Int) 0 M_31
/-- what came of it: well, or the same fault -/
def OutG (b : Nat → Int) (n q s d : Nat) (pend : Nat) (D : Int) (e c : Nat) (X Y : xM) (fx : Option (Int × xM)) (sl : Nat) (Fy : Nat → Option (Int × xM)) (Ey : Nat → xM → Option (Int × xM)) (ok : Nat → Prop) : Prop :=
  ∃ X' Y', FXq q X X' ∧ FZ Y Y' ∧ ((∃ e' c' k : Nat, fx = some (1, X') ∧ k ≤ e' - e + sl ∧ (∀ f, Fy (f + k) = Ey f Y') ∧ e < e' ∧ SR true b n e' X' Y' ∧ LSt q s c' X' Y' ∧ DP q s c' X' = D + 1 ∧ c' + pend ≤ e' ∧ c ≤ c' ∧ (∀ i, i < c → X' (q + 6) i = X (q + 6) i) ∧ FYq d Y Y' ∧ ok e') ∨ (∃ k : Nat, fx = some (0, X') ∧ k ≤ 2 * (n - e) + 3 ∧ (∀ f, Fy (f + k) = some (0, Y')) ∧ FT X' Y' ∧ (0 ≤ X' q 7 ∧ X' q 7 ≤ 600)))
def AtomS (R S : xR) (rs : Nat → Nat → Int → xM → Option (Int × xM)) (b : Nat → Int) (n q s d : Nat) : Prop := ∀ (e c pend : Nat) (D : Int) (X Y : xM), SR true b n e X Y → LSt q s c X Y → DP q s c X = D → 0 ≤ D → D ≤ 2 * d + 2 → c + pend ≤ e → OutG b n q s d pend D e c X Y (f_L_readAtom R rs q 2 (d : Int) X) 0 (fun f => M_sum_F18 S 104 f (d : Int) 1 Y) (fun f Y' => M_sum_F18 S 104 f (d : Int) 0 Y') (fun _ => True)
def ItemS (R S : xR) (rs : Nat → Nat → Int → xM → Option (Int × xM)) (b : Nat → Int) (n q s d : Nat) : Prop := ∀ (e c pend : Nat) (D : Int) (X Y : xM), SR true b n e X Y → LSt q s c X Y → DP q s c X = D → 0 ≤ D → D ≤ 2 * d + 1 → c + pend ≤ e → Y 143 d = 0 → OutG b n q s d pend D e c X Y (f_L_readItem R rs q 2 (d : Int) X) 1 (fun f => M_sum_F18 S 104 f (d : Int) 1 Y) (fun f Y' => itmE S f d Y') (fun e' => ¬ (lxK true b n e' = 3 ∧ lxV b n e' = 42))
def SumS (S : xR) (b : Nat → Int) (n q s d : Nat) (fs : Nat → Nat → Int → xM → Option (Int × xM)) : Prop := ∀ (e c pend : Nat) (D : Int) (X Y : xM), SR true b n e X Y → LSt q s c X Y → DP q s c X = D → 0 ≤ D → D ≤ 2 * d → c + pend ≤ e → Y 142 d = 0 → Y 143 d = 0 → OutG b n q s d pend D e c X Y (fs q 2 (d : Int) X) 1 (fun f => M_sum_F18 S 104 f (d : Int) 1 Y) (fun f Y' => sumE S f (d : Int) Y') (fun _ => True)
