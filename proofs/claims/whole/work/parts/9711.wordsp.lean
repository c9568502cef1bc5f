/-! ===== texts: words, pure; a word's letters stand from the last to the first ===== -/
def LW (w : List Int) : Prop := ∀ c, c ∈ w → 97 ≤ c ∧ c ≤ 122
def c5 : List Int → Int
  | [] => 0
  | c :: w => c5 w * 32 + (c - 96)
def c8 : List Int → Int
  | [] => 0
  | c :: w => c8 w * 256 + c
theorem LW.tl {c : Int} {w : List Int} (h : LW (c :: w)) : LW w := fun x hx => h x (List.mem_cons_of_mem c hx)
theorem LW.hd {c : Int} {w : List Int} (h : LW (c :: w)) : 97 ≤ c ∧ c ≤ 122 := h c List.mem_cons_self
theorem c5_nn : ∀ {w : List Int}, LW w → 0 ≤ c5 w ∧ c5 w < 32 ^ w.length := by
  intro w
  induction w with
  | nil => intro _; exact ⟨Int.le_refl 0, by show (0 : Int) < 32 ^ 0; decide⟩
  | cons c w ih =>
    intro h
    have a := ih h.tl
    have b := h.hd
    have e : (32 : Int) ^ (c :: w).length = 32 ^ w.length * 32 := by rw [List.length_cons, Int.pow_succ]
    rw [e]
    show 0 ≤ c5 w * 32 + (c - 96) ∧ c5 w * 32 + (c - 96) < _
    omega
theorem c5_pos {w : List Int} (h : LW w) (hw : w ≠ []) : 1 ≤ c5 w := by
  cases w with
  | nil => exact absurd rfl hw
  | cons c w =>
    have a := c5_nn h.tl
    have b := h.hd
    show 1 ≤ c5 w * 32 + (c - 96)
    omega
theorem c5_inj : ∀ {w v : List Int}, LW w → LW v → (c5 w = c5 v ↔ w = v) := by
  intro w
  induction w with
  | nil =>
    intro v _ hv
    cases v with
    | nil => exact ⟨fun _ => rfl, fun _ => rfl⟩
    | cons d v =>
      have := c5_pos hv (by simp)
      exact ⟨fun q => by rw [← q] at this; exact absurd this (by decide), fun q => by cases q⟩
  | cons c w ih =>
    intro v hw hv
    cases v with
    | nil =>
      have := c5_pos hw (by simp)
      exact ⟨fun q => by rw [q] at this; exact absurd this (by decide), fun q => by cases q⟩
    | cons d v =>
      have i := ih hw.tl hv.tl
      have b1 := hw.hd
      have b2 := hv.hd
      constructor
      · intro q
        have q' : c5 w * 32 + (c - 96) = c5 v * 32 + (d - 96) := q
        have e1 : c5 w = c5 v := by omega
        have e2 : c = d := by omega
        rw [i.1 e1, e2]
      · intro q
        rw [q]
theorem c8_nn : ∀ {w : List Int}, LW w → 0 ≤ c8 w ∧ 2 * c8 w < 256 ^ w.length := by
  intro w
  induction w with
  | nil => intro _; exact ⟨Int.le_refl 0, by show (2 : Int) * 0 < 256 ^ 0; decide⟩
  | cons c w ih =>
    intro h
    have a := ih h.tl
    have b := h.hd
    have e : (256 : Int) ^ (c :: w).length = 256 ^ w.length * 256 := by rw [List.length_cons, Int.pow_succ]
    rw [e]
    show 0 ≤ c8 w * 256 + c ∧ 2 * (c8 w * 256 + c) < _
    omega
theorem c8_inj : ∀ {w v : List Int}, LW w → LW v → (c8 w = c8 v ↔ w = v) := by
  intro w
  induction w with
  | nil =>
    intro v _ hv
    cases v with
    | nil => exact ⟨fun _ => rfl, fun _ => rfl⟩
    | cons d v =>
      have a := c8_nn hv.tl
      have b := hv.hd
      refine ⟨fun q => ?_, fun q => by cases q⟩
      have : (0 : Int) = c8 v * 256 + d := q
      omega
  | cons c w ih =>
    intro v hw hv
    cases v with
    | nil =>
      have a := c8_nn hw.tl
      have b := hw.hd
      refine ⟨fun q => ?_, fun q => by cases q⟩
      have : c8 w * 256 + c = (0 : Int) := q
      omega
    | cons d v =>
      have i := ih hw.tl hv.tl
      have b1 := hw.hd
      have b2 := hv.hd
      constructor
      · intro q
        have q' : c8 w * 256 + c = c8 v * 256 + d := q
        have e1 : c8 w = c8 v := by omega
        have e2 : c = d := by omega
        rw [i.1 e1, e2]
      · intro q
        rw [q]
/-- which of the words it is, the first being n; -1: none -/
def ix : List (List Int) → List Int → Int → Int
  | [], _, _ => -1
  | k :: r, w, n => if k = w then n else ix r w (n + 1)
def ix5 : List (List Int) → Int → Int → Int
  | [], _, _ => -1
  | k :: r, x, n => if c5 k = x then n else ix5 r x (n + 1)
/-- a text of words, each with a blank behind it -/
def jn : List (List Int) → List Int
  | [] => []
  | k :: r => k.reverse ++ 32 :: jn r
def KW (kl : List (List Int)) : Prop := ∀ k, k ∈ kl → LW k ∧ k ≠ [] ∧ k.length ≤ 8
theorem ix5_eq : ∀ {kl : List (List Int)} {w : List Int} (n : Int), KW kl → LW w → ix5 kl (c5 w) n = ix kl w n := by
  intro kl
  induction kl with
  | nil => intro w n _ _; rfl
  | cons k r ih =>
    intro w n hk hw
    have e := c5_inj (hk k List.mem_cons_self).1 hw
    have i := ih (w := w) (n + 1) (fun x hx => hk x (List.mem_cons_of_mem k hx)) hw
    unfold ix5 ix
    by_cases z : k = w
    · rw [if_pos z, if_pos (e.2 z)]
    · rw [if_neg z, if_neg (fun q => z (e.1 q)), i]
theorem ix5_zero : ∀ {kl : List (List Int)} (n : Int), KW kl → ix5 kl 0 n = -1 := by
  intro kl
  induction kl with
  | nil => intro n _; rfl
  | cons k r ih =>
    intro n hk
    have a := hk k List.mem_cons_self
    have b := c5_pos a.1 a.2.1
    unfold ix5
    rw [if_neg (by omega), ih (n + 1) (fun x hx => hk x (List.mem_cons_of_mem k hx))]
theorem ix_long : ∀ {kl : List (List Int)} {w : List Int} (n : Int), KW kl → 8 < w.length → ix kl w n = -1 := by
  intro kl
  induction kl with
  | nil => intro w n _ _; rfl
  | cons k r ih =>
    intro w n hk hw
    have a := hk k List.mem_cons_self
    unfold ix
    rw [if_neg (fun q => by rw [q] at a; omega), ih (n + 1) (fun x hx => hk x (List.mem_cons_of_mem k hx)) hw]
/-- the words of a plant in the class's order, of laws; of a plant in the model's -/
def KP : List (List Int) := [[101, 110, 111, 108, 99, 121, 99], [115, 101, 116, 97, 108, 112], [104, 116, 111, 108, 99], [121, 97, 114, 112, 115], [110, 105, 111, 106], [115, 107, 114, 111, 119], [115, 100, 108, 111, 104], [114, 101, 121, 97, 108], [115, 101, 105, 108, 102], [108, 108, 117, 102], [109, 114, 97, 119], [111, 116], [116, 97], [101, 114, 97, 104, 115], [107, 99, 97, 116, 115]]
def KL : List (List Int) := [[101, 110, 105, 102], [108, 108, 97, 109, 115], [101, 115, 114, 97, 111, 99], [116, 105, 114, 103], [104, 116, 109, 114, 97, 119], [114, 117, 111, 104], [114, 101, 118, 111], [119, 111, 108, 101, 98]]
def KQ : List (List Int) := [[101, 110, 111, 108, 99, 121, 99], [115, 101, 116, 97, 108, 112], [104, 116, 111, 108, 99], [121, 97, 114, 112, 115], [110, 105, 111, 106], [115, 107, 114, 111, 119], [115, 100, 108, 111, 104], [114, 101, 121, 97, 108], [115, 101, 105, 108, 102], [108, 108, 117, 102], [109, 114, 97, 119], [111, 116], [101, 114, 97, 104, 115], [107, 99, 97, 116, 115], [116, 97]]
set_option maxRecDepth 100000 in
theorem xsL_w : xsL.getD 3 [] = jn KP ∧ xsL.getD 5 [] = jn KL ∧ xsL.getD 6 [] = 32 :: jn KQ ∧ xsL.getD 7 [] = 32 :: jn KL := by decide +kernel
set_option maxRecDepth 100000 in
theorem KW_all : KW KP ∧ KW KL ∧ KW KQ := by
  have h : ∀ kl : List (List Int), (kl.all fun k => k.all (fun c => decide (97 ≤ c) && decide (c ≤ 122)) && !k.isEmpty && decide (k.length ≤ 8)) = true → KW kl := by
    intro kl hq k hk
    have a := List.all_eq_true.1 hq k hk
    rw [Bool.and_eq_true, Bool.and_eq_true] at a
    refine ⟨fun c hc => ?_, fun q => ?_, of_decide_eq_true a.2⟩
    · have b := List.all_eq_true.1 a.1.1 c hc
      rw [Bool.and_eq_true] at b
      exact ⟨of_decide_eq_true b.1, of_decide_eq_true b.2⟩
    · rw [q] at a
      exact absurd a.1.2 (by decide)
  exact ⟨h KP (by decide +kernel), h KL (by decide +kernel), h KQ (by decide +kernel)⟩
/-- the class's number of a plant's word, turned to the model's -/
def km (k : Int) : Int := if k = 12 then 14 else if k = 13 then 12 else if k = 14 then 13 else k
theorem ix_ne : ∀ {kl : List (List Int)} {w : List Int} (n : Int), w ∉ kl → ix kl w n = -1 := by
  intro kl
  induction kl with
  | nil => intro w n _; rfl
  | cons k r ih =>
    intro w n h
    unfold ix
    rw [if_neg (fun q : k = w => h (q ▸ List.mem_cons_self)), ih (n + 1) (fun q => h (List.mem_cons_of_mem k q))]
set_option maxRecDepth 100000 in
theorem ix_km (w : List Int) : ix KQ w 0 = km (ix KP w 0) := by
  have h : ∀ k, k ∈ KP → ix KQ k 0 = km (ix KP k 0) := by decide +kernel
  by_cases z : w ∈ KP
  · exact h w z
  · have y : w ∉ KQ := by
      intro q
      have : ∀ k, k ∈ KQ → k ∈ KP := by decide +kernel
      exact z (this w q)
    rw [ix_ne 0 z, ix_ne 0 y]
    rfl
theorem ix_in : ∀ {kl : List (List Int)} {w : List Int} (n : Int), 0 ≤ n → ix kl w n = -1 ∨ (n ≤ ix kl w n ∧ ix kl w n < n + kl.length) := by
  intro kl
  induction kl with
  | nil => intro w n _; exact Or.inl rfl
  | cons k r ih =>
    intro w n hn
    unfold ix
    by_cases z : k = w
    · rw [if_pos z, List.length_cons]
      exact Or.inr ⟨Int.le_refl n, by omega⟩
    · rw [if_neg z, List.length_cons]
      rcases ih (w := w) (n + 1) (by omega) with i | i
      · exact Or.inl i
      · exact Or.inr (by omega)
/-- the letters of a row of bytes, L of them from p on -/
def wds (b : Nat → Int) (p : Nat) : Nat → List Int
  | 0 => []
  | L + 1 => b (p + L) :: wds b p L
theorem wds_len (b : Nat → Int) (p : Nat) : ∀ L, (wds b p L).length = L := by
  intro L
  induction L with
  | zero => rfl
  | succ L ih => show (wds b p L).length + 1 = L + 1; rw [ih]
theorem wds_LW {b : Nat → Int} {p : Nat} : ∀ L, (∀ i, i < L → 97 ≤ b (p + i) ∧ b (p + i) ≤ 122) → LW (wds b p L) := by
  intro L
  induction L with
  | zero => intro _ c hc; cases hc
  | succ L ih =>
    intro h c hc
    rcases List.mem_cons.1 hc with rfl | hc
    · exact h L (by omega)
    · exact ih (fun i hi => h i (by omega)) c hc
theorem app_at (a l : List Int) (j : Nat) : (a ++ l).getD (a.length + j) 0 = l.getD j 0 := by
  induction a with
  | nil => rw [List.nil_append, List.length_nil, Nat.zero_add]
  | cons c a ih =>
    rw [List.cons_append, List.length_cons, Nat.add_right_comm, List.getD_cons_succ]
    exact ih
theorem app_lt (a l : List Int) : ∀ j, j < a.length → (a ++ l).getD j 0 = a.getD j 0 := by
  induction a with
  | nil => intro j hj; exact absurd hj (by simp)
  | cons c a ih =>
    intro j hj
    cases j with
    | zero => rfl
    | succ j =>
      rw [List.cons_append, List.getD_cons_succ, List.getD_cons_succ]
      exact ih j (by simpa using hj)
theorem wds_eq {b : Nat → Int} {p : Nat} : ∀ (L : Nat) (k : List Int), k = wds b p L ↔ (k.length = L ∧ ∀ j, j < L → k.reverse.getD j 0 = b (p + j)) := by
  intro L
  induction L with
  | zero =>
    intro k
    constructor
    · intro q; rw [q]; exact ⟨rfl, fun j hj => by omega⟩
    · intro q; exact List.length_eq_zero_iff.1 q.1
  | succ L ih =>
    intro k
    cases k with
    | nil => exact ⟨fun q => (List.cons_ne_nil _ _ q.symm).elim, fun q => absurd q.1 (Nat.succ_ne_zero L).symm⟩
    | cons c k =>
      have i := ih k
      have e : k.reverse.length = k.length := List.length_reverse
      rw [List.reverse_cons, List.length_cons]
      constructor
      · intro q
        have q1 : c = b (p + L) := (List.cons.inj q).1
        have q2 := i.1 (List.cons.inj q).2
        refine ⟨by rw [q2.1], fun j hj => ?_⟩
        by_cases z : j < L
        · rw [app_lt _ _ _ (by rw [e, q2.1]; exact z)]
          exact q2.2 j z
        · have : j = k.reverse.length + 0 := by rw [e, q2.1]; omega
          rw [this, app_at, e, q2.1, Nat.add_zero]
          exact q1
      · rintro ⟨q1, q2⟩
        have hk : k.length = L := by omega
        have a : k = wds b p L := i.2 ⟨hk, fun j hj => by
          rw [← app_lt k.reverse [c] j (by rw [e, hk]; exact hj)]
          exact q2 j (by omega)⟩
        have d := q2 L (by omega)
        rw [show L = k.reverse.length + 0 by rw [e, hk]; omega, app_at, e, hk] at d
        have d' : c = b (p + (L + 0)) := d
        rw [Nat.add_zero] at d'
        show c :: k = b (p + L) :: wds b p L
        rw [← a, d']
/-! runs of bytes -/
def isL (c : Int) : Prop := 97 ≤ c ∧ c ≤ 122
def isD (c : Int) : Prop := 48 ≤ c ∧ c ≤ 57
def isBl (c : Int) : Prop := c = 32 ∨ c = 10
/-- the end of the run of bytes like P, at most k of them, from e on -/
noncomputable def rn (P : Int → Prop) (b : Nat → Int) : Nat → Nat → Nat
  | 0, e => e
  | k + 1, e => @ite _ (P (b e)) (Classical.propDecidable _) (rn P b k (e + 1)) e
theorem rn_pos {P : Int → Prop} {b : Nat → Int} {k e : Nat} (h : P (b e)) : rn P b (k + 1) e = rn P b k (e + 1) := if_pos h
theorem rn_neg {P : Int → Prop} {b : Nat → Int} {k e : Nat} (h : ¬ P (b e)) : rn P b (k + 1) e = e := if_neg h
theorem rn_in {P : Int → Prop} {b : Nat → Int} : ∀ k e, e ≤ rn P b k e ∧ rn P b k e ≤ e + k ∧ (∀ i, e ≤ i → i < rn P b k e → P (b i)) ∧ (rn P b k e < e + k → ¬ P (b (rn P b k e))) := by
  intro k
  induction k with
  | zero =>
    intro e
    have : rn P b 0 e = e := rfl
    rw [this]
    exact ⟨Nat.le_refl e, by omega, fun i h1 h2 => by omega, fun h => by omega⟩
  | succ k ih =>
    intro e
    by_cases z : P (b e)
    · rw [rn_pos z]
      obtain ⟨i1, i2, i3, i4⟩ := ih (e + 1)
      refine ⟨by omega, by omega, fun i h1 h2 => ?_, fun h => i4 (by omega)⟩
      by_cases y : i = e
      · rw [y]; exact z
      · exact i3 i (by omega) h2
    · rw [rn_neg z]
      exact ⟨Nat.le_refl e, by omega, fun i h1 h2 => by omega, fun _ => z⟩
/-- the value of L digits -/
def nv (b : Nat → Int) (p : Nat) : Nat → Int
  | 0 => 0
  | L + 1 => nv b p L * 10 + (b (p + L) - 48)
theorem nv_in {b : Nat → Int} {p : Nat} : ∀ L, (∀ i, i < L → isD (b (p + i))) → 0 ≤ nv b p L ∧ nv b p L < 10 ^ L := by
  intro L
  induction L with
  | zero => intro _; exact ⟨Int.le_refl 0, by show (0 : Int) < 10 ^ 0; decide⟩
  | succ L ih =>
    intro h
    have a := ih fun i hi => h i (by omega)
    have d := h L (by omega)
    unfold isD at d
    have e : (10 : Int) ^ (L + 1) = 10 ^ L * 10 := Int.pow_succ _ _
    rw [e]
    show 0 ≤ nv b p L * 10 + (b (p + L) - 48) ∧ nv b p L * 10 + (b (p + L) - 48) < _
    omega
/-- a byte without its sign -/
def ub (c : Int) : Int := if c < 0 then c + 256 else c
set_option maxRecDepth 100000 in
theorem xand_255 {c : Int} (h1 : -128 ≤ c) (h2 : c < 128) : xand c 255 = ub c := by
  have h : ∀ v : Nat, v < 256 → xand ((v : Int) - 128) 255 = ub ((v : Int) - 128) := by decide +kernel
  have := h (c + 128).toNat (by omega)
  rw [show (((c + 128).toNat : Nat) : Int) - 128 = c by omega] at this
  exact this
