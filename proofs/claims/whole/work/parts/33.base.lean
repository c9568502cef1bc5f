/-! ===== plain functions: words for the proofs ===== -/
theorem xb1_some {α β : Type} (a : α) (k : α → Option β) : xb1 (some a) k = k a := rfl
theorem xb2_some {α γ β : Type} (a : α) (c : γ) (k : α → γ → Option β) : xb2 (some (a, c)) k = k a c := rfl
theorem xb3_some {α γ δ β : Type} (a : α) (c : γ) (e : δ) (k : α → γ → δ → Option β) : xb3 (some (a, c, e)) k = k a c e := rfl
theorem xl_eq {α β : Type} (a : α) (k : α → Option β) : xl a k = k a := rfl
theorem xch_pos {β : Type} {c : Prop} [Decidable c] {e : Option β} (h : c) : xch c e = e := if_pos h
theorem w32_of {x : Int} (h1 : -2147483648 ≤ x) (h2 : x < 2147483648) : w32 x = x := by
  unfold w32
  rw [Int.bmod_eq_of_le] <;> omega
theorem w64_of {x : Int} (h1 : -9223372036854775808 ≤ x) (h2 : x < 9223372036854775808) : w64 x = x := by
  unfold w64
  rw [Int.bmod_eq_of_le] <;> omega
theorem w8_of {x : Int} (h1 : -128 ≤ x) (h2 : x < 128) : w8 x = x := by
  unfold w8
  rw [Int.bmod_eq_of_le] <;> omega
theorem w8_in (x : Int) : -128 ≤ w8 x ∧ w8 x < 128 := by
  have h1 := Int.le_bmod (x := x) (m := 256) (by decide)
  have h2 := Int.bmod_lt (x := x) (m := 256) (by decide)
  unfold w8
  omega
theorem w8_w8 (x : Int) : w8 (w8 x) = w8 x := w8_of (w8_in x).1 (w8_in x).2
theorem w16_in (x : Int) : -32768 ≤ w16 x ∧ w16 x < 32768 := by
  have h1 := Int.le_bmod (x := x) (m := 65536) (by decide)
  have h2 := Int.bmod_lt (x := x) (m := 65536) (by decide)
  unfold w16
  omega
/-- a whole cell behind a write to another one -/
theorem xu_cell {α : Type} (f : Nat → Nat → α) {c a : Nat} (i : Nat) (v : α) (h : a ≠ c) : xu f c i v a = f a := by
  funext b
  exact xu_oth f v h
theorem xu_at {α : Type} (f : Nat → Nat → α) (c i b : Nat) (v : α) : xu f c i v c b = if b = i then v else f c b := by
  unfold xu
  by_cases h : b = i <;> simp [h]
def xfil (M : xM) (c a b : Nat) (v : Int) : xM := fun x y => if x = c ∧ a ≤ y ∧ y < b then v else M x y
theorem xfil_cell (M : xM) {c x : Nat} (a b : Nat) (v : Int) (h : x ≠ c) : xfil M c a b v x = M x := by
  funext y
  exact if_neg (fun q => h q.1)
theorem xfil_at (M : xM) (c a b y : Nat) (v : Int) : xfil M c a b v c y = if a ≤ y ∧ y < b then v else M c y := by
  unfold xfil
  by_cases h : a ≤ y ∧ y < b <;> simp [h]
theorem xfil_nil (M : xM) (c a b : Nat) (v : Int) (h : b ≤ a) : xfil M c a b v = M := by
  funext x y
  exact if_neg (fun q => by omega)
theorem xfil_step (M : xM) (c a b : Nat) (v : Int) (h : a < b) : xfil (xu M c a v) c (a + 1) b v = xfil M c a b v := by
  funext x y
  unfold xfil xu
  by_cases h1 : x = c
  · by_cases h2 : y = a
    · subst h2; subst h1; simp [h]
    · by_cases h3 : a ≤ y ∧ y < b
      · rw [if_pos ⟨h1, by omega, h3.2⟩, if_pos ⟨h1, h3⟩]
      · rw [if_neg (fun q => h3 ⟨by omega, q.2.2⟩), if_neg (fun q => h2 q.2), if_neg (fun q => h3 q.2)]
  · simp [h1]
theorem xcpy_cell (M : xM) {c d x : Nat} (sp dp n : Nat) (h : x ≠ d) : xcpy M c d sp dp n x = M x := by
  funext y
  exact xcpy_oth h
theorem xcpy_at (M : xM) (c d sp dp n y : Nat) : xcpy M c d sp dp n d y = if dp ≤ y ∧ y < dp + n then M c (sp + (y - dp)) else M d y := by
  unfold xcpy
  by_cases h : dp ≤ y ∧ y < dp + n <;> simp [h]
theorem fill_aJIIJV_F {k c : Nat} {b v : Int} (hb : b ≤ (xan k : Int)) : ∀ (n : Nat) (i : Int) (M : xM), 0 ≤ i → i ≤ b → b - i < n → J_fill_aJIIJV_F10 k c b v n i M = some (xfil M c i.toNat b.toNat v) := by
  intro n
  induction n with
  | zero =>
    intro i M h0 h2 h1
    omega
  | succ n ih =>
    intro i M h0 h2 h1
    have hx := xan_le k
    rw [J_fill_aJIIJV_F10]
    by_cases h : i < b
    · rw [if_pos h, xch_pos ⟨h0, by omega⟩, xl_eq, xl_eq, w32_of (by omega) (by omega), ih _ _ (by omega) (by omega) (by omega)]
      rw [show (i + 1).toNat = i.toNat + 1 by omega, xfil_step _ _ _ _ _ (by omega)]
    · rw [if_neg h, xfil_nil _ _ _ _ _ (by omega)]
theorem fill_aJIIJV {k c : Nat} {a b v : Int} {M : xM} (h0 : 0 ≤ a) (h1 : a ≤ b) (hb : b ≤ (xan k : Int)) : f_J_fill_aJIIJV k c a b v M = some (xfil M c a.toNat b.toNat v) := by
  have hx := xan_le k
  unfold f_J_fill_aJIIJV f_J_rangeCheck
  rw [if_neg (by omega), if_neg (by omega), if_neg (by omega), xb1_some]
  exact fill_aJIIJV_F hb xfu a M h0 h1 (by unfold xfu; omega)
theorem fill_aIIIIV_F {k c : Nat} {b v : Int} (hb : b ≤ (xan k : Int)) : ∀ (n : Nat) (i : Int) (M : xM), 0 ≤ i → i ≤ b → b - i < n → J_fill_aIIIIV_F10 k c b v n i M = some (xfil M c i.toNat b.toNat v) := by
  intro n
  induction n with
  | zero =>
    intro i M h0 h2 h1
    omega
  | succ n ih =>
    intro i M h0 h2 h1
    have hx := xan_le k
    rw [J_fill_aIIIIV_F10]
    by_cases h : i < b
    · rw [if_pos h, xch_pos ⟨h0, by omega⟩, xl_eq, xl_eq, w32_of (by omega) (by omega), ih _ _ (by omega) (by omega) (by omega)]
      rw [show (i + 1).toNat = i.toNat + 1 by omega, xfil_step _ _ _ _ _ (by omega)]
    · rw [if_neg h, xfil_nil _ _ _ _ _ (by omega)]
theorem fill_aIIIIV {k c : Nat} {a b v : Int} {M : xM} (h0 : 0 ≤ a) (h1 : a ≤ b) (hb : b ≤ (xan k : Int)) : f_J_fill_aIIIIV k c a b v M = some (xfil M c a.toNat b.toNat v) := by
  have hx := xan_le k
  unfold f_J_fill_aIIIIV f_J_rangeCheck
  rw [if_neg (by omega), if_neg (by omega), if_neg (by omega), xb1_some]
  exact fill_aIIIIV_F hb xfu a M h0 h1 (by unfold xfu; omega)
theorem fill_aJJV_F {k c : Nat} {v : Int} : ∀ (n : Nat) (i : Int) (M : xM), 0 ≤ i → i ≤ (xan k : Int) → (xan k : Int) - i < n → J_fill_aJJV_F6 k c v n i (xan k : Int) M = some (xfil M c i.toNat (xan k) v) := by
  intro n
  induction n with
  | zero =>
    intro i M h0 h2 h1
    omega
  | succ n ih =>
    intro i M h0 h2 h1
    have hx := xan_le k
    rw [J_fill_aJJV_F6]
    by_cases h : i < (xan k : Int)
    · rw [if_pos h, xch_pos ⟨h0, by omega⟩, xl_eq, xl_eq, w32_of (by omega) (by omega), ih _ _ (by omega) (by omega) (by omega)]
      rw [show (i + 1).toNat = i.toNat + 1 by omega, xfil_step _ _ _ _ _ (by omega)]
    · rw [if_neg h, xfil_nil _ _ _ _ _ (by omega)]
theorem fill_aJJV {k c : Nat} {v : Int} {M : xM} : f_J_fill_aJJV k c v M = some (xfil M c 0 (xan k) v) := by
  have hx := xan_le k
  unfold f_J_fill_aJJV
  rw [xl_eq]
  exact fill_aJJV_F xfu 0 M (by omega) (by omega) (by unfold xfu; omega)
theorem fill_aIIV_F {k c : Nat} {v : Int} : ∀ (n : Nat) (i : Int) (M : xM), 0 ≤ i → i ≤ (xan k : Int) → (xan k : Int) - i < n → J_fill_aIIV_F5 k c v n i (xan k : Int) M = some (xfil M c i.toNat (xan k) v) := by
  intro n
  induction n with
  | zero =>
    intro i M h0 h2 h1
    omega
  | succ n ih =>
    intro i M h0 h2 h1
    have hx := xan_le k
    rw [J_fill_aIIV_F5]
    by_cases h : i < (xan k : Int)
    · rw [if_pos h, xch_pos ⟨h0, by omega⟩, xl_eq, xl_eq, w32_of (by omega) (by omega), ih _ _ (by omega) (by omega) (by omega)]
      rw [show (i + 1).toNat = i.toNat + 1 by omega, xfil_step _ _ _ _ _ (by omega)]
    · rw [if_neg h, xfil_nil _ _ _ _ _ (by omega)]
theorem fill_aIIV {k c : Nat} {v : Int} {M : xM} : f_J_fill_aIIV k c v M = some (xfil M c 0 (xan k) v) := by
  have hx := xan_le k
  unfold f_J_fill_aIIV
  rw [xl_eq]
  exact fill_aIIV_F xfu 0 M (by omega) (by omega) (by unfold xfu; omega)
