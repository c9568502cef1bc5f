/-! ===== parting a number by weights ===== -/
def prB (a w : Int) (sh : Nat → Int) (i : Nat) : Int := Int.tdiv (a * sh i) w
def prR (a w : Int) (sh : Nat → Int) (i : Nat) : Int := Int.tmod (a * sh i) w
def sumN (f : Nat → Int) : Nat → Int
  | 0 => 0
  | k + 1 => sumN f k + f k
def prU (m : Nat) : Nat → (Nat → Int) → (Nat → Int) → (Nat → Int)
  | 0, p, _ => p
  | k + 1, p, r => prU m k (fun i => if i = amin (fun i => -r i) (m - 1) 0 1 then p i + 1 else p i) (fun i => if i = amin (fun i => -r i) (m - 1) 0 1 then -1 else r i)
def prL (a w : Int) (m : Nat) (sh : Nat → Int) : Int := a - sumN (prB a w sh) m
def prt (a w : Int) (m : Nat) (sh : Nat → Int) : Nat → Int := prU m (prL a w m sh).toNat (prB a w sh) (prR a w sh)
theorem sumN_cg {f g : Nat → Int} : ∀ k, (∀ i, i < k → f i = g i) → sumN f k = sumN g k := by
  intro k
  induction k with
  | zero => intro _; rfl
  | succ k ih =>
    intro h
    show sumN f k + f k = sumN g k + g k
    rw [ih fun i hi => h i (by omega), h k (by omega)]
theorem sumN_nn {f : Nat → Int} : ∀ k, (∀ i, i < k → 0 ≤ f i) → 0 ≤ sumN f k := by
  intro k
  induction k with
  | zero => intro _; exact Int.le_refl 0
  | succ k ih =>
    intro h
    have := ih fun i hi => h i (by omega)
    have := h k (by omega)
    show 0 ≤ sumN f k + f k
    omega
theorem sumN_ge {f : Nat → Int} : ∀ k j, j < k → (∀ i, i < k → 0 ≤ f i) → f j ≤ sumN f k := by
  intro k
  induction k with
  | zero => intro j h; omega
  | succ k ih =>
    intro j hj h
    have a := sumN_nn k fun i hi => h i (by omega)
    have b := h k (by omega)
    show f j ≤ sumN f k + f k
    by_cases e : j = k
    · rw [e]; omega
    · have := ih j (by omega) fun i hi => h i (by omega)
      omega
theorem sumN_up {f : Nat → Int} {b : Nat} {v : Int} : ∀ k, sumN (fun i => if i = b then v else f i) k = sumN f k + (if b < k then v - f b else 0) := by
  intro k
  induction k with
  | zero => rw [if_neg (by omega)]; rfl
  | succ k ih =>
    show sumN _ k + (if k = b then v else f k) = sumN f k + f k + _
    rw [ih]
    by_cases e : k = b
    · rw [if_pos e, if_neg (by omega), if_pos (by omega), e]; omega
    · rw [if_neg e]
      by_cases h : b < k
      · rw [if_pos h, if_pos (by omega)]; omega
      · rw [if_neg h, if_neg (by omega)]; omega
theorem pr_in {a w : Int} {sh : Nat → Int} {i : Nat} (ha : 0 ≤ a) (hw : 0 < w) (h0 : 0 ≤ sh i) (h1 : sh i ≤ w) : 0 ≤ a * sh i ∧ a * sh i ≤ a * w ∧ 0 ≤ prB a w sh i ∧ prB a w sh i ≤ a ∧ 0 ≤ prR a w sh i ∧ prR a w sh i < w ∧ prB a w sh i * w + prR a w sh i = a * sh i := by
  have a0 : 0 ≤ a * sh i := Int.mul_nonneg ha h0
  have a1 : a * sh i ≤ a * w := Int.mul_le_mul_of_nonneg_left h1 ha
  unfold prB prR
  rw [Int.tdiv_eq_ediv_of_nonneg a0, Int.tmod_eq_emod_of_nonneg a0]
  refine ⟨a0, a1, Int.ediv_nonneg a0 (by omega), ?_, Int.emod_nonneg _ (by omega), Int.emod_lt_of_pos _ hw, ?_⟩
  · exact Int.ediv_le_of_le_mul hw a1
  · have := Int.emod_add_mul_ediv (a * sh i) w
    rw [Int.mul_comm w] at this
    omega
theorem prL_in {a w : Int} {sh : Nat → Int} {m : Nat} (ha : 0 ≤ a) (hw : 0 < w) (hm : 1 ≤ m) (h : ∀ i, i < m → 0 ≤ sh i ∧ sh i ≤ w) (hs : sumN sh m = w) : 0 ≤ prL a w m sh ∧ prL a w m sh < m := by
  have key : ∀ k, k ≤ m → sumN (prB a w sh) k * w + sumN (prR a w sh) k = a * sumN sh k ∧ 0 ≤ sumN (prR a w sh) k ∧ sumN (prR a w sh) k ≤ k * (w - 1) := by
    intro k
    induction k with
    | zero => intro _; exact ⟨by show (0 : Int) * w + 0 = a * 0; simp, Int.le_refl 0, by show (0 : Int) ≤ ((0 : Nat) : Int) * (w - 1); simp⟩
    | succ k ih =>
      intro hk
      obtain ⟨i1, i2, i3⟩ := ih (by omega)
      obtain ⟨-, -, -, -, p5, p6, p7⟩ := pr_in ha hw (h k (by omega)).1 (h k (by omega)).2
      refine ⟨?_, ?_, ?_⟩
      · show (sumN (prB a w sh) k + prB a w sh k) * w + (sumN (prR a w sh) k + prR a w sh k) = a * (sumN sh k + sh k)
        rw [Int.add_mul, Int.mul_add]
        omega
      · show 0 ≤ sumN (prR a w sh) k + prR a w sh k
        omega
      · show sumN (prR a w sh) k + prR a w sh k ≤ ((k + 1 : Nat) : Int) * (w - 1)
        have : ((k + 1 : Nat) : Int) * (w - 1) = (k : Int) * (w - 1) + (w - 1) := by
          rw [Int.natCast_add, Int.add_mul]; simp
        omega
  obtain ⟨k1, k2, k3⟩ := key m (Nat.le_refl m)
  rw [hs] at k1
  have e : prL a w m sh * w = sumN (prR a w sh) m := by
    unfold prL
    rw [Int.sub_mul]
    omega
  have hmw : (m : Int) * (w - 1) < (m : Int) * w := Int.mul_lt_mul_of_pos_left (by omega) (by omega)
  refine ⟨?_, ?_⟩
  · refine Int.le_of_mul_le_mul_right (a := w) ?_ hw
    rw [Int.zero_mul, e]
    exact k2
  · refine Int.lt_of_mul_lt_mul_right (a := w) ?_ (by omega)
    rw [e]
    omega
theorem prU_cg {m : Nat} (hm : 1 ≤ m) : ∀ k (p p' r r' : Nat → Int), (∀ i, i < m → p i = p' i) → (∀ i, i < m → r i = r' i) → ∀ i, i < m → prU m k p r i = prU m k p' r' i := by
  intro k
  induction k with
  | zero => intro p p' r r' hp _ i hi; exact hp i hi
  | succ k ih =>
    intro p p' r r' hp hr i hi
    have e : amin (fun i => -r i) (m - 1) 0 1 = amin (fun i => -r' i) (m - 1) 0 1 := amin_congr (n := m) (fun j hj => by rw [hr j hj]) _ _ _ (by omega) (by omega)
    show prU m k _ _ i = prU m k _ _ i
    rw [e]
    refine ih _ _ _ _ (fun j hj => ?_) (fun j hj => ?_) i hi
    · rw [hp j hj]
    · rw [hr j hj]
theorem prU_in {m : Nat} (hm : 1 ≤ m) : ∀ k (p r : Nat → Int) (B : Int), (∀ i, i < m → 0 ≤ p i ∧ p i ≤ B) → (∀ i, i < m → 0 ≤ prU m k p r i ∧ prU m k p r i ≤ B + k) ∧ sumN (prU m k p r) m = sumN p m + k := by
  intro k
  induction k with
  | zero => intro p r B h; exact ⟨fun i hi => ⟨(h i hi).1, by have := (h i hi).2; show p i ≤ _; omega⟩, by show _ = _ + ((0 : Nat) : Int); rw [Int.natCast_zero, Int.add_zero]; rfl⟩
  | succ k ih =>
    intro p r B h
    have hb : amin (fun i => -r i) (m - 1) 0 1 < m := amin_lt _ m _ _ _ (by omega) (by omega)
    obtain ⟨i1, i2⟩ := ih (fun i => if i = amin (fun i => -r i) (m - 1) 0 1 then p i + 1 else p i) (fun i => if i = amin (fun i => -r i) (m - 1) 0 1 then -1 else r i) (B + 1) (fun i hi => by
      have := h i hi
      split <;> omega)
    refine ⟨fun i hi => ?_, ?_⟩
    · have := i1 i hi
      show 0 ≤ prU m k _ _ i ∧ prU m k _ _ i ≤ _
      omega
    · show sumN (prU m k _ _) m = _
      rw [i2]
      have e : (fun i => if i = amin (fun i => -r i) (m - 1) 0 1 then p i + 1 else p i) = (fun i => if i = amin (fun i => -r i) (m - 1) 0 1 then p (amin (fun i => -r i) (m - 1) 0 1) + 1 else p i) := by
        funext i
        by_cases q : i = amin (fun i => -r i) (m - 1) 0 1
        · rw [if_pos q, if_pos q, ← q]
        · rw [if_neg q, if_neg q]
      rw [e, sumN_up, if_pos hb]
      omega
theorem prt_in {a w : Int} {sh : Nat → Int} {m : Nat} (ha : 0 ≤ a) (hw : 0 < w) (hm : 1 ≤ m) (h : ∀ i, i < m → 0 ≤ sh i ∧ sh i ≤ w) (hs : sumN sh m = w) : (∀ i, i < m → 0 ≤ prt a w m sh i ∧ prt a w m sh i ≤ a) ∧ sumN (prt a w m sh) m = a := by
  have hl := prL_in ha hw hm h hs
  obtain ⟨q1, q2⟩ := prU_in hm (prL a w m sh).toNat (prB a w sh) (prR a w sh) a (fun i hi => by
    have := pr_in ha hw (h i hi).1 (h i hi).2
    exact ⟨this.2.2.1, this.2.2.2.1⟩)
  have e : sumN (prt a w m sh) m = a := by
    show sumN (prU m _ _ _) m = a
    rw [q2]
    have : ((prL a w m sh).toNat : Int) = prL a w m sh := by omega
    rw [this]
    unfold prL
    omega
  refine ⟨fun i hi => ⟨(q1 i hi).1, ?_⟩, e⟩
  exact Int.le_trans (sumN_ge m i hi fun j hj => (q1 j hj).1) (Int.le_of_eq e)
theorem prt_cg {a w : Int} {sh sh' : Nat → Int} {m : Nat} (hm : 1 ≤ m) (h : ∀ i, i < m → sh i = sh' i) : ∀ i, i < m → prt a w m sh i = prt a w m sh' i := by
  intro i hi
  have e1 : ∀ i, i < m → prB a w sh i = prB a w sh' i := fun i hi => by unfold prB; rw [h i hi]
  have e2 : ∀ i, i < m → prR a w sh i = prR a w sh' i := fun i hi => by unfold prR; rw [h i hi]
  have e3 : prL a w m sh = prL a w m sh' := by unfold prL; rw [sumN_cg m e1]
  unfold prt
  rw [e3]
  exact prU_cg hm _ _ _ _ _ e1 e2 i hi
