/-! ===== texts: the class cuts tokens ===== -/
def sgs (lw : Bool) : List Int := if lw then [58, 59, 43, 45, 42, 40, 41] else [59, 44]
def kls (lw : Bool) : List (List Int) := if lw then KL else KP
/-- the tape's texts -/
def LG (R : xR) (lw : Bool) : Prop := R 2 0 = 3 ∧ R 2 4 = (if lw then 4 else 2) ∧ R 2 5 = (if lw then 5 else 3)
def TxX (b : Nat → Int) (n : Nat) (M : xM) : Prop := M 2 2 = (n : Int) ∧ ∀ i, i < n → M 3 i = b i
def TxB (b : Nat → Int) (n : Nat) : Prop := n ≤ 600 ∧ ∀ i, -128 ≤ b i ∧ b i < 128
noncomputable def lxP (b : Nat → Int) (n e : Nat) : Nat := rn isBl b (n - e) e
noncomputable def lxE (b : Nat → Int) (n e : Nat) : Nat := if lxP b n e < n then (if 97 ≤ b (lxP b n e) ∧ b (lxP b n e) ≤ 122 then rn isL b (n - lxP b n e) (lxP b n e) else if 48 ≤ b (lxP b n e) ∧ b (lxP b n e) ≤ 57 then rn isD b (n - lxP b n e) (lxP b n e) else lxP b n e + 1) else lxP b n e
noncomputable def lxK (lw : Bool) (b : Nat → Int) (n e : Nat) : Int := if lxP b n e < n then (if 97 ≤ b (lxP b n e) ∧ b (lxP b n e) ≤ 122 then 1 else if 48 ≤ b (lxP b n e) ∧ b (lxP b n e) ≤ 57 then (if 4 < lxE b n e - lxP b n e then 4 else 2) else if ub (b (lxP b n e)) ∈ sgs lw then 3 else 4) else 0
noncomputable def lxV (b : Nat → Int) (n e : Nat) : Int := if 48 ≤ b (lxP b n e) ∧ b (lxP b n e) ≤ 57 then nv b (lxP b n e) (lxE b n e - lxP b n e) else ub (b (lxP b n e))
noncomputable def lxW (b : Nat → Int) (n e : Nat) : List Int := wds b (lxP b n e) (lxE b n e - lxP b n e)
/-- the class stands at the token behind place e -/
def TkX (lw : Bool) (b : Nat → Int) (n e : Nat) (M : xM) : Prop := M 2 3 = (lxE b n e : Int) ∧ M 2 6 = (lxP b n e : Int) ∧ M 2 7 = lxK lw b n e ∧ (lxK lw b n e = 1 → M 2 8 = (if (lxW b n e).length ≤ 8 then c5 (lxW b n e) else 0) ∧ M 2 9 = ix (kls lw) (lxW b n e) 0) ∧ (lxK lw b n e ≠ 1 → M 2 9 = -1) ∧ (lxK lw b n e = 2 ∨ lxK lw b n e = 3 → M 2 10 = lxV b n e)
/-- what advancing leaves as it was -/
def FrA (M N : xM) : Prop := (∀ x, x ≠ 2 → N x = M x) ∧ ∀ j, j < 3 ∨ j = 4 ∨ j = 5 ∨ 11 ≤ j → N 2 j = M 2 j
theorem c5_lt {w : List Int} (h : LW w) (hl : w.length ≤ 8) : 0 ≤ c5 w ∧ c5 w < 1099511627776 := by
  have a := c5_nn h
  have b : 32 ^ w.length ≤ 32 ^ 8 := Nat.pow_le_pow_right (by decide) hl
  have e : (32 : Int) ^ w.length = ((32 ^ w.length : Nat) : Int) := by rw [Int.natCast_pow]; rfl
  have c : (32 ^ 8 : Nat) = 1099511627776 := by decide
  rw [e] at a
  omega
set_option maxRecDepth 100000 in
theorem xi2c_low : ∀ v : Nat, v < 256 → xi2c (v : Int) = (v : Int) ∧ (v < 128 → xi2c (xand (v : Int) 255) = (v : Int)) := by decide +kernel
theorem charAt_eq {s i : Nat} {c : Int} (h : i < xsn s) (hc : xsb s i = c) (h1 : 0 ≤ c) (h2 : c < 128) : f_S_charAt s (i : Int) = some c := by
  have e := (xi2c_low c.toNat (by omega)).2 (by omega)
  rw [show ((c.toNat : Nat) : Int) = c by omega] at e
  unfold f_S_charAt f_S_isLatin1 f_Z_charAt f_S_checkIndex f_J_checkIndex
  rw [if_neg (by decide), if_pos rfl, xb1_some, if_neg (by decide), if_neg (by omega), if_pos (by omega), xb1_some, xb1_some, Int.toNat_natCast, hc, e, xch_pos (by omega), xch_pos (by omega), xb1_some, xch_pos (by omega)]
set_option maxRecDepth 100000 in
theorem slen_eq : f_S_length 3 = some (xsn 3 : Int) ∧ f_S_length 5 = some (xsn 5 : Int) ∧ f_S_length 6 = some (xsn 6 : Int) ∧ f_S_length 7 = some (xsn 7 : Int) ∧ xsn 3 < 200 ∧ xsn 5 < 200 ∧ xsn 6 < 200 ∧ xsn 7 < 200 := by decide +kernel
theorem keyL {R : xR} {s : Nat} (r5 : R 2 5 = s) (hl : f_S_length s = some (xsn s : Int)) (hs : xsn s < 200) (x : Int) {r : List Int} : ∀ (u v pre : List Int) (f i : Nat) (n : Int), xsL.getD s [] = pre ++ (u ++ 32 :: r) → pre.length = i → LW u → LW v → u.length + v.length ≤ 8 → 0 ≤ n → n < 1000 →
    A_keyOf_F8 R 2 x (f + u.length + 1) (c5 v) n (i : Int) = if c5 (u.reverse ++ v) = x then some n else A_keyOf_F8 R 2 x f 0 (n + 1) ((i + u.length + 1 : Nat) : Int) := by
  intro u
  induction u with
  | nil =>
    intro v pre f i n hS hi hu hv _ hn1 hn2
    have hlen : i < xsn s := by
      show i < (xsL.getD s []).length
      rw [hS, List.length_append, hi]
      simp
    have hc : xsb s i = 32 := by
      show (xsL.getD s []).getD i 0 = 32
      have := app_at pre (([] : List Int) ++ 32 :: r) 0
      rw [Nat.add_zero, hi, ← hS] at this
      rw [this]
      rfl
    rw [List.length_nil, Nat.add_zero, A_keyOf_F8, r5, hl, xb1_some, if_pos (by omega), charAt_eq hlen hc (by decide) (by decide), xb1_some, if_pos rfl, List.reverse_nil, List.nil_append]
    by_cases z : c5 v = x
    · rw [if_pos z, if_pos z]
    · rw [if_neg z, if_neg z, xl_eq]
      unfold A_keyOf_J70
      rw [xl_eq, w32_of (x := n + 1) (by omega) (by omega), w32_of (x := (i : Int) + 1) (by omega) (by omega), Nat.add_zero]
      rfl
  | cons c u ih =>
    intro v pre f i n hS hi hu hv hl8 hn1 hn2
    have hb := hu.hd
    have hlen : i < xsn s := by
      show i < (xsL.getD s []).length
      rw [hS, List.length_append, hi]
      simp
    have hc : xsb s i = c := by
      show (xsL.getD s []).getD i 0 = c
      have := app_at pre ((c :: u) ++ 32 :: r) 0
      rw [Nat.add_zero, hi, ← hS] at this
      rw [this]
      rfl
    rw [List.length_cons] at hl8
    have cb := c5_lt hv (by omega)
    have lv : LW (c :: v) := fun y hy => by
      rcases List.mem_cons.1 hy with rfl | hy
      · exact hb
      · exact hv y hy
    have i2 := ih (c :: v) (pre ++ [c]) f (i + 1) n (by rw [hS, List.append_assoc]; rfl) (by rw [List.length_append, hi]; rfl) hu.tl lv (by rw [List.length_cons]; omega) hn1 hn2
    rw [List.length_cons, show f + (u.length + 1) + 1 = f + u.length + 1 + 1 by omega, A_keyOf_F8, r5, hl, xb1_some, if_pos (by omega), charAt_eq hlen hc (by omega) (by omega), xb1_some, if_neg (by omega), xl_eq]
    unfold A_keyOf_J70
    rw [xl_eq, w64_of (x := c5 v * 32) (by omega) (by omega), w32_of (x := c - 97) (by omega) (by omega), w32_of (x := c - 97 + 1) (by omega) (by omega), w64_of (x := c5 v * 32 + (c - 97 + 1)) (by omega) (by omega), w32_of (x := (i : Int) + 1) (by omega) (by omega)]
    have e1 : c5 v * 32 + (c - 97 + 1) = c5 (c :: v) := by
      show _ = c5 v * 32 + (c - 96)
      omega
    have e2 : u.reverse ++ (c :: v) = (c :: u).reverse ++ v := by rw [List.reverse_cons, List.append_assoc]; rfl
    rw [e1, show (i : Int) + 1 = ((i + 1 : Nat) : Int) by omega, i2, e2, show i + 1 + u.length + 1 = i + (u.length + 1) + 1 by omega]
theorem keyJ {R : xR} {s : Nat} (r5 : R 2 5 = s) (hl : f_S_length s = some (xsn s : Int)) (hs : xsn s < 200) (x : Int) : ∀ (kl : List (List Int)) (pre : List Int) (f i : Nat) (n : Int), xsL.getD s [] = pre ++ jn kl → pre.length = i → KW kl → (jn kl).length < f → 0 ≤ n → n + kl.length < 1000 →
    A_keyOf_F8 R 2 x f 0 n (i : Int) = some (ix5 kl x n) := by
  intro kl
  induction kl with
  | nil =>
    intro pre f i n hS hi _ hf _ _
    obtain ⟨f, rfl⟩ : ∃ g, f = g + 1 := ⟨f - 1, by omega⟩
    have hlen : xsn s = i := by
      show (xsL.getD s []).length = i
      rw [hS]
      show (pre ++ []).length = i
      rw [List.append_nil, hi]
    rw [A_keyOf_F8, r5, hl, xb1_some, if_neg (by omega)]
    rfl
  | cons k r ih =>
    intro pre f i n hS hi hk hf hn1 hn2
    have a := hk k List.mem_cons_self
    have el : (jn (k :: r)).length = k.length + 1 + (jn r).length := by
      show (k.reverse ++ 32 :: jn r).length = _
      rw [List.length_append, List.length_reverse, List.length_cons]
      omega
    rw [List.length_cons] at hn2
    obtain ⟨g, rfl⟩ : ∃ g, f = g + k.reverse.length + 1 := ⟨f - (k.length + 1), by rw [List.length_reverse]; omega⟩
    have lr : LW k.reverse := fun y hy => a.1 y (List.mem_reverse.1 hy)
    have h := keyL r5 hl hs x (r := jn r) k.reverse [] pre g i n hS hi lr (fun y hy => by cases hy) (by rw [List.length_reverse, List.length_nil]; omega) hn1 (by omega)
    have e0 : c5 ([] : List Int) = 0 := rfl
    rw [e0, List.reverse_reverse, List.append_nil] at h
    rw [h]
    unfold ix5
    by_cases z : c5 k = x
    · rw [if_pos z, if_pos z]
    · rw [if_neg z, if_neg z]
      rw [List.length_reverse] at hf ⊢
      exact ih (pre ++ (k.reverse ++ [32])) g (i + k.length + 1) (n + 1) (by rw [hS, List.append_assoc, List.append_assoc]; rfl) (by rw [List.length_append, List.length_append, List.length_reverse, hi]; rfl) (fun y hy => hk y (List.mem_cons_of_mem k hy)) (by omega) (by omega) (by omega)
theorem keyOf_eq {R : xR} {lw : Bool} (hL : LG R lw) (x : Int) : f_A_keyOf R 2 x = some (ix5 (kls lw) x 0) := by
  have xf : xfu = 1000000 := rfl
  obtain ⟨s3, s5, s6, s7, b3, b5, b6, b7⟩ := slen_eq
  unfold f_A_keyOf
  cases lw with
  | false =>
    have e : xsn 3 = (jn KP).length := by show (xsL.getD 3 []).length = _; rw [xsL_w.1]
    exact keyJ (s := 3) hL.2.2 s3 b3 x KP [] xfu 0 0 xsL_w.1 rfl KW_all.1 (by omega) (by decide) (by decide)
  | true =>
    have e : xsn 5 = (jn KL).length := by show (xsL.getD 5 []).length = _; rw [xsL_w.2.1]
    exact keyJ (s := 5) hL.2.2 s5 b5 x KL [] xfu 0 0 xsL_w.2.1 rfl KW_all.2.1 (by omega) (by decide) (by decide)
set_option maxRecDepth 100000 in
theorem signs_eq : ∀ v : Nat, v < 256 → ((f_S_indexOf_II 2 (xi2c (v : Int))).map fun r => decide (r < 0)) = some (decide ((v : Int) ∉ sgs false)) ∧ ((f_S_indexOf_II 4 (xi2c (v : Int))).map fun r => decide (r < 0)) = some (decide ((v : Int) ∉ sgs true)) := by decide +kernel
theorem indexOf_eq {R : xR} {lw : Bool} (hL : LG R lw) {v : Int} (h1 : 0 ≤ v) (h2 : v < 256) : ∃ r, f_S_indexOf_II (R 2 4) (xi2c v) = some r ∧ (r < 0 ↔ v ∉ sgs lw) := by
  have h := signs_eq v.toNat (by omega)
  rw [show ((v.toNat : Nat) : Int) = v by omega] at h
  cases lw with
  | false =>
    have r4 : R 2 4 = 2 := hL.2.1
    rw [r4]
    cases q : f_S_indexOf_II 2 (xi2c v) with
    | none => rw [q] at h; exact absurd h.1 (by simp)
    | some r =>
      rw [q] at h
      exact ⟨r, rfl, decide_eq_decide.1 (Option.some.inj h.1)⟩
  | true =>
    have r4 : R 2 4 = 4 := hL.2.1
    rw [r4]
    cases q : f_S_indexOf_II 4 (xi2c v) with
    | none => rw [q] at h; exact absurd h.2 (by simp)
    | some r =>
      rw [q] at h
      exact ⟨r, rfl, decide_eq_decide.1 (Option.some.inj h.2)⟩
theorem isLetter_eq {R : xR} (r0 : R 2 0 = 3) {b : Nat → Int} {n e : Nat} {M : xM} (hM : ∀ i, i < n → M 3 i = b i) (he : e < n) (hn : n ≤ 600) : f_A_isLetter R 2 (e : Int) M = some (if 97 ≤ b e ∧ b e ≤ 122 then 1 else 0) := by
  unfold f_A_isLetter
  rw [xch_pos (by omega), r0, Int.toNat_natCast, hM e he]
  by_cases h1 : b e < 97
  · rw [if_pos h1, if_neg (by omega)]
  · rw [if_neg h1]
    by_cases h2 : 122 < b e
    · rw [if_pos h2, if_neg (by omega)]
    · rw [if_neg h2, if_pos (by omega)]
theorem isDigit_eq {R : xR} (r0 : R 2 0 = 3) {b : Nat → Int} {n e : Nat} {M : xM} (hM : ∀ i, i < n → M 3 i = b i) (he : e < n) (hn : n ≤ 600) : f_A_isDigit R 2 (e : Int) M = some (if 48 ≤ b e ∧ b e ≤ 57 then 1 else 0) := by
  unfold f_A_isDigit
  rw [xch_pos (by omega), r0, Int.toNat_natCast, hM e he]
  by_cases h1 : b e < 48
  · rw [if_pos h1, if_neg (by omega)]
  · rw [if_neg h1]
    by_cases h2 : 57 < b e
    · rw [if_pos h2, if_neg (by omega)]
    · rw [if_neg h2, if_pos (by omega)]
theorem TxX.of {b : Nat → Int} {n : Nat} {M N : xM} (h : TxX b n M) (h1 : N 2 2 = M 2 2) (h2 : N 3 = M 3) : TxX b n N := ⟨by rw [h1]; exact h.1, by rw [h2]; exact h.2⟩
theorem adv_F0 {R : xR} (r0 : R 2 0 = 3) {b : Nat → Int} {n : Nat} (hB : TxB b n) (Q : xM → Option xM) : ∀ (k f e : Nat) (M : xM), k < f → e + k = n → TxX b n M → M 2 3 = (e : Int) → ∃ M', A_advance_F0 R 2 Q f M = Q M' ∧ (∀ x, x ≠ 2 → M' x = M x) ∧ (∀ j, j ≠ 3 → M' 2 j = M 2 j) ∧ M' 2 3 = (rn isBl b k e : Int) := by
  have hn := hB.1
  intro k
  induction k with
  | zero =>
    intro f e M hf he hT h3
    obtain ⟨f, rfl⟩ : ∃ g, f = g + 1 := ⟨f - 1, by omega⟩
    refine ⟨M, ?_, fun _ _ => rfl, fun _ _ => rfl, h3⟩
    rw [A_advance_F0, h3, hT.1, if_neg (by omega)]
  | succ k ih =>
    intro f e M hf he hT h3
    obtain ⟨f, rfl⟩ : ∃ g, f = g + 1 := ⟨f - 1, by omega⟩
    have J : A_advance_J39 R 2 (A_advance_F0 R 2 Q f) Q M = A_advance_F0 R 2 Q f (xu M 2 3 ((e + 1 : Nat) : Int)) := by
      unfold A_advance_J39
      rw [xl_eq, h3, w32_of (x := (e : Int) + 1) (by omega) (by omega)]
      rfl
    rw [A_advance_F0, h3, hT.1, if_pos (by omega), xch_pos (by omega), r0, Int.toNat_natCast, hT.2 e (by omega), J]
    have go : isBl (b e) → ∃ M', A_advance_F0 R 2 Q f (xu M 2 3 ((e + 1 : Nat) : Int)) = Q M' ∧ (∀ x, x ≠ 2 → M' x = M x) ∧ (∀ j, j ≠ 3 → M' 2 j = M 2 j) ∧ M' 2 3 = (rn isBl b (k + 1) e : Int) := by
      intro z
      obtain ⟨M', m1, m2, m3, m4⟩ := ih f (e + 1) (xu M 2 3 ((e + 1 : Nat) : Int)) (by omega) (by omega) (hT.of (by rw [xu_at, if_neg (by decide)]) (xu_cell _ _ _ (by decide))) (by rw [xu_at, if_pos rfl])
      exact ⟨M', m1, fun x hx => by rw [m2 x hx, xu_cell _ _ _ hx], fun j hj => by rw [m3 j hj, xu_at, if_neg hj], by rw [rn_pos z]; exact m4⟩
    by_cases z1 : b e = 32
    · rw [if_pos z1]
      exact go (Or.inl z1)
    · rw [if_neg z1]
      by_cases z2 : b e = 10
      · rw [if_pos z2]
        exact go (Or.inr z2)
      · rw [if_neg z2]
        exact ⟨M, rfl, fun _ _ => rfl, fun _ _ => rfl, by rw [rn_neg (fun q => q.elim z1 z2)]; exact h3⟩
theorem scanW_F10 {R : xR} (r0 : R 2 0 = 3) {b : Nat → Int} {n p : Nat} (hB : TxB b n) (Q : xM → Option xM) : ∀ (k f e : Nat) (M : xM), k < f → e + k = n → TxX b n M → M 2 3 = (e : Int) → M 2 6 = (p : Int) → p ≤ e → (∀ i, p ≤ i → i < e → isL (b i)) → M 2 8 = c5 (wds b p (min (e - p) 8)) → ∃ M', A_scanWord_F10 R 2 Q f M = Q M' ∧ (∀ x, x ≠ 2 → M' x = M x) ∧ (∀ j, j ≠ 3 → j ≠ 8 → M' 2 j = M 2 j) ∧ M' 2 3 = (rn isL b k e : Int) ∧ M' 2 8 = c5 (wds b p (min (rn isL b k e - p) 8)) := by
  have hn := hB.1
  intro k
  induction k with
  | zero =>
    intro f e M hf he hT h3 h6 hp hl h8
    obtain ⟨f, rfl⟩ : ∃ g, f = g + 1 := ⟨f - 1, by omega⟩
    refine ⟨M, ?_, fun _ _ => rfl, fun _ _ _ => rfl, h3, h8⟩
    rw [A_scanWord_F10, h3, hT.1, if_neg (by omega)]
  | succ k ih =>
    intro f e M hf he hT h3 h6 hp hl h8
    obtain ⟨f, rfl⟩ : ∃ g, f = g + 1 := ⟨f - 1, by omega⟩
    rw [A_scanWord_F10, h3, hT.1, if_pos (by omega), isLetter_eq r0 hT.2 (by omega) hn, xb1_some]
    by_cases z : 97 ≤ b e ∧ b e ≤ 122
    · rw [if_pos z, if_neg (by decide), h6, w32_of (x := (e : Int) - (p : Int)) (by omega) (by omega)]
      have hl' : ∀ i, p ≤ i → i < e + 1 → isL (b i) := fun i h1 h2 => by
        by_cases y : i = e
        · rw [y]; exact z
        · exact hl i h1 (by omega)
      have go : ∀ N : xM, (∀ x, x ≠ 2 → N x = M x) → (∀ j, j ≠ 8 → N 2 j = M 2 j) → N 2 8 = c5 (wds b p (min (e + 1 - p) 8)) → ∃ M', A_scanWord_J74 R 2 (A_scanWord_F10 R 2 Q f) Q N = Q M' ∧ (∀ x, x ≠ 2 → M' x = M x) ∧ (∀ j, j ≠ 3 → j ≠ 8 → M' 2 j = M 2 j) ∧ M' 2 3 = (rn isL b (k + 1) e : Int) ∧ M' 2 8 = c5 (wds b p (min (rn isL b (k + 1) e - p) 8)) := by
        intro N n1 n2 n8
        obtain ⟨M', m1, m2, m3, m4, m5⟩ := ih f (e + 1) (xu N 2 3 ((e + 1 : Nat) : Int)) (by omega) (by omega) (hT.of (by rw [xu_at, if_neg (by decide), n2 2 (by decide)]) (by rw [xu_cell _ _ _ (by decide), n1 3 (by decide)])) (by rw [xu_at, if_pos rfl]) (by rw [xu_at, if_neg (by decide), n2 6 (by decide)]; exact h6) (by omega) hl' (by rw [xu_at, if_neg (by decide)]; exact n8)
        refine ⟨M', ?_, fun x hx => by rw [m2 x hx, xu_cell _ _ _ hx, n1 x hx], fun j h1 h2 => by rw [m3 j h1 h2, xu_at, if_neg h1, n2 j h2], by rw [rn_pos (P := isL) z]; exact m4, by rw [rn_pos (P := isL) z]; exact m5⟩
        unfold A_scanWord_J74
        rw [xl_eq, n2 3 (by decide), h3, w32_of (x := (e : Int) + 1) (by omega) (by omega)]
        exact m1
      by_cases y : (e : Int) - (p : Int) < 8
      · have y' : min (e - p) 8 = e - p := by omega
        have y2 : min (e + 1 - p) 8 = (e - p) + 1 := by omega
        have lw : LW (wds b p (e - p)) := wds_LW _ fun i hi => hl (p + i) (by omega) (by omega)
        have cb := c5_lt lw (by rw [wds_len]; omega)
        rw [y'] at h8
        rw [if_pos y, xch_pos (by omega), xl_eq, h8, r0, Int.toNat_natCast, hT.2 e (by omega), w64_of (x := c5 (wds b p (e - p)) * 32) (by omega) (by omega), w32_of (x := b e - 97) (by omega) (by omega), w32_of (x := b e - 97 + 1) (by omega) (by omega), w64_of (x := c5 (wds b p (e - p)) * 32 + (b e - 97 + 1)) (by omega) (by omega)]
        refine go _ (fun x hx => xu_cell _ _ _ hx) (fun j hj => by rw [xu_at, if_neg hj]) ?_
        rw [xu_at, if_pos rfl, y2]
        show _ = c5 (wds b p (e - p)) * 32 + (b (p + (e - p)) - 96)
        rw [show p + (e - p) = e by omega]
        omega
      · rw [if_neg y]
        refine go M (fun _ _ => rfl) (fun _ _ => rfl) ?_
        rw [h8, show min (e + 1 - p) 8 = min (e - p) 8 by omega]
    · rw [if_neg z, if_pos rfl]
      have z' : ¬ isL (b e) := z
      exact ⟨M, rfl, fun _ _ => rfl, fun _ _ _ => rfl, by rw [rn_neg z']; exact h3, by rw [rn_neg z']; exact h8⟩
theorem scanN_F5 {R : xR} (r0 : R 2 0 = 3) {b : Nat → Int} {n p : Nat} (hB : TxB b n) (Q : xM → Option xM) : ∀ (k f e : Nat) (M : xM), k < f → e + k = n → TxX b n M → M 2 3 = (e : Int) → M 2 6 = (p : Int) → p ≤ e → (∀ i, p ≤ i → i < e → isD (b i)) → M 2 10 = nv b p (min (e - p) 4) → ∃ M', A_scanNumber_F5 R 2 Q f M = Q M' ∧ (∀ x, x ≠ 2 → M' x = M x) ∧ (∀ j, j ≠ 3 → j ≠ 10 → M' 2 j = M 2 j) ∧ M' 2 3 = (rn isD b k e : Int) ∧ M' 2 10 = nv b p (min (rn isD b k e - p) 4) := by
  have hn := hB.1
  intro k
  induction k with
  | zero =>
    intro f e M hf he hT h3 h6 hp hl h8
    obtain ⟨f, rfl⟩ : ∃ g, f = g + 1 := ⟨f - 1, by omega⟩
    refine ⟨M, ?_, fun _ _ => rfl, fun _ _ _ => rfl, h3, h8⟩
    rw [A_scanNumber_F5, h3, hT.1, if_neg (by omega)]
  | succ k ih =>
    intro f e M hf he hT h3 h6 hp hl h8
    obtain ⟨f, rfl⟩ : ∃ g, f = g + 1 := ⟨f - 1, by omega⟩
    rw [A_scanNumber_F5, h3, hT.1, if_pos (by omega), isDigit_eq r0 hT.2 (by omega) hn, xb1_some]
    by_cases z : 48 ≤ b e ∧ b e ≤ 57
    · rw [if_pos z, if_neg (by decide), h6, w32_of (x := (e : Int) - (p : Int)) (by omega) (by omega)]
      have hl' : ∀ i, p ≤ i → i < e + 1 → isD (b i) := fun i h1 h2 => by
        by_cases y : i = e
        · rw [y]; exact z
        · exact hl i h1 (by omega)
      have go : ∀ N : xM, (∀ x, x ≠ 2 → N x = M x) → (∀ j, j ≠ 10 → N 2 j = M 2 j) → N 2 10 = nv b p (min (e + 1 - p) 4) → ∃ M', A_scanNumber_J64 R 2 (A_scanNumber_F5 R 2 Q f) Q N = Q M' ∧ (∀ x, x ≠ 2 → M' x = M x) ∧ (∀ j, j ≠ 3 → j ≠ 10 → M' 2 j = M 2 j) ∧ M' 2 3 = (rn isD b (k + 1) e : Int) ∧ M' 2 10 = nv b p (min (rn isD b (k + 1) e - p) 4) := by
        intro N n1 n2 n8
        obtain ⟨M', m1, m2, m3, m4, m5⟩ := ih f (e + 1) (xu N 2 3 ((e + 1 : Nat) : Int)) (by omega) (by omega) (hT.of (by rw [xu_at, if_neg (by decide), n2 2 (by decide)]) (by rw [xu_cell _ _ _ (by decide), n1 3 (by decide)])) (by rw [xu_at, if_pos rfl]) (by rw [xu_at, if_neg (by decide), n2 6 (by decide)]; exact h6) (by omega) hl' (by rw [xu_at, if_neg (by decide)]; exact n8)
        refine ⟨M', ?_, fun x hx => by rw [m2 x hx, xu_cell _ _ _ hx, n1 x hx], fun j h1 h2 => by rw [m3 j h1 h2, xu_at, if_neg h1, n2 j h2], by rw [rn_pos (P := isD) z]; exact m4, by rw [rn_pos (P := isD) z]; exact m5⟩
        unfold A_scanNumber_J64
        rw [xl_eq, n2 3 (by decide), h3, w32_of (x := (e : Int) + 1) (by omega) (by omega)]
        exact m1
      by_cases y : (e : Int) - (p : Int) < 4
      · have y' : min (e - p) 4 = e - p := by omega
        have y2 : min (e + 1 - p) 4 = (e - p) + 1 := by omega
        have cb := nv_in (b := b) (p := p) (e - p) fun i hi => hl (p + i) (by omega) (by omega)
        have pb : 10 ^ (e - p) ≤ 10 ^ 4 := Nat.pow_le_pow_right (by decide) (by omega)
        have pe : (10 : Int) ^ (e - p) = ((10 ^ (e - p) : Nat) : Int) := by rw [Int.natCast_pow]; rfl
        have pc : (10 ^ 4 : Nat) = 10000 := by decide
        rw [pe] at cb
        rw [y'] at h8
        rw [if_pos y, xch_pos (by omega), xl_eq, h8, r0, Int.toNat_natCast, hT.2 e (by omega), w32_of (x := nv b p (e - p) * 10) (by omega) (by omega), w32_of (x := b e - 48) (by omega) (by omega), w32_of (x := nv b p (e - p) * 10 + (b e - 48)) (by omega) (by omega)]
        refine go _ (fun x hx => xu_cell _ _ _ hx) (fun j hj => by rw [xu_at, if_neg hj]) ?_
        rw [xu_at, if_pos rfl, y2]
        show _ = nv b p (e - p) * 10 + (b (p + (e - p)) - 48)
        rw [show p + (e - p) = e by omega]
      · rw [if_neg y]
        refine go M (fun _ _ => rfl) (fun _ _ => rfl) ?_
        rw [h8, show min (e + 1 - p) 4 = min (e - p) 4 by omega]
    · rw [if_neg z, if_pos rfl]
      have z' : ¬ isD (b e) := z
      exact ⟨M, rfl, fun _ _ => rfl, fun _ _ _ => rfl, by rw [rn_neg z']; exact h3, by rw [rn_neg z']; exact h8⟩
theorem adv_eq {R : xR} {lw : Bool} (hL : LG R lw) {b : Nat → Int} {n e : Nat} (hB : TxB b n) (he : e ≤ n) {M : xM} (hT : TxX b n M) (h3 : M 2 3 = (e : Int)) : ∃ M', f_A_advance R 2 M = some M' ∧ FrA M M' ∧ TkX lw b n e M' := by
  have r0 := hL.1
  have hn := hB.1
  have xf : xfu = 1000000 := rfl
  obtain ⟨A, a1, a2, a3, a4⟩ := adv_F0 r0 hB (fun (M_6 : xM) => A_advance_J52 R 2 M_6) (n - e) xfu e M (by omega) (by omega) hT h3
  obtain ⟨p1, p2, p3, p4⟩ := rn_in (P := isBl) (b := b) (n - e) e
  obtain ⟨p, hp⟩ : ∃ p, p = lxP b n e := ⟨_, rfl⟩
  have hp' : rn isBl b (n - e) e = p := by rw [hp]; rfl
  rw [hp'] at a4 p1 p2 p3 p4
  obtain ⟨B, hBd⟩ : ∃ B, B = xu (xu A 2 6 (p : Int)) 2 9 (-1) := ⟨_, rfl⟩
  have bO : ∀ x, x ≠ 2 → B x = M x := fun x hx => by rw [hBd, xu_cell _ _ _ hx, xu_cell _ _ _ hx, a2 x hx]
  have b2 : ∀ j, B 2 j = if j = 9 then -1 else if j = 6 then (p : Int) else A 2 j := fun j => by rw [hBd, xu_at, xu_at]
  have tB : TxX b n B := hT.of (by rw [b2, if_neg (by decide), if_neg (by decide), a3 2 (by decide)]) (bO 3 (by decide))
  have b3 : B 2 3 = (p : Int) := by rw [b2, if_neg (by decide), if_neg (by decide), a4]
  have b6 : B 2 6 = (p : Int) := by rw [b2, if_neg (by decide), if_pos rfl]
  have b9 : B 2 9 = -1 := by rw [b2, if_pos rfl]
  have fB : FrA M B := ⟨bO, fun j hj => by rw [b2, if_neg (by omega), if_neg (by omega), a3 j (by omega)]⟩
  have start : f_A_advance R 2 M = A_advance_J52 R 2 A := a1
  rw [start]
  unfold A_advance_J52
  rw [xl_eq, a4, xl_eq, ← hBd, b3, tB.1]
  unfold TkX
  by_cases z : p < n
  · rw [if_pos (by omega), isLetter_eq r0 tB.2 z hn, xb1_some]
    by_cases zl : 97 ≤ b p ∧ b p ≤ 122
    · rw [if_pos zl, if_neg (by decide)]
      have eE : lxE b n e = rn isL b (n - p) p := by unfold lxE; rw [← hp, if_pos z, if_pos zl]
      have eK : lxK lw b n e = 1 := by unfold lxK; rw [← hp, if_pos z, if_pos zl]
      obtain ⟨C, hC⟩ : ∃ C, C = xu (xu B 2 7 1) 2 8 0 := ⟨_, rfl⟩
      have c2 : ∀ j, C 2 j = if j = 8 then 0 else if j = 7 then 1 else B 2 j := fun j => by rw [hC, xu_at, xu_at]
      have cO : ∀ x, x ≠ 2 → C x = B x := fun x hx => by rw [hC, xu_cell _ _ _ hx, xu_cell _ _ _ hx]
      obtain ⟨D, d1, d2, d3, d4, d5⟩ := scanW_F10 r0 hB (p := p) (fun (M_11 : xM) => A_scanWord_J87 R 2 M_11) (n - p) xfu p C (by omega) (by omega) (tB.of (by rw [c2, if_neg (by decide), if_neg (by decide)]) (cO 3 (by decide))) (by rw [c2, if_neg (by decide), if_neg (by decide)]; exact b3) (by rw [c2, if_neg (by decide), if_neg (by decide)]; exact b6) (Nat.le_refl p) (fun i h1 h2 => by omega) (by rw [c2, if_pos rfl, show min (p - p) 8 = 0 by omega]; rfl)
      rw [← eE] at d4 d5
      obtain ⟨q1, q2, q3, q4⟩ := rn_in (P := isL) (b := b) (n - p) p
      rw [← eE] at q1 q2 q3
      have eW : lxW b n e = wds b p (lxE b n e - p) := by unfold lxW; rw [← hp]
      have lW : LW (lxW b n e) := by rw [eW]; exact wds_LW _ fun i hi => q3 (p + i) (by omega) (by omega)
      have len : (lxW b n e).length = lxE b n e - p := by rw [eW, wds_len]
      have d6 : D 2 6 = (p : Int) := by rw [d3 6 (by decide) (by decide), c2, if_neg (by decide), if_neg (by decide)]; exact b6
      have sw : ∃ F, f_A_scanWord R 2 B = some F ∧ (∀ x, x ≠ 2 → F x = D x) ∧ (∀ j, j ≠ 8 → F 2 j = D 2 j) ∧ F 2 8 = if (lxW b n e).length ≤ 8 then c5 (lxW b n e) else 0 := by
        have st : f_A_scanWord R 2 B = A_scanWord_J87 R 2 D := by
          unfold f_A_scanWord
          rw [xl_eq, xl_eq, ← hC]
          exact d1
        rw [st]
        unfold A_scanWord_J87
        rw [d4, d6, w32_of (x := (lxE b n e : Int) - (p : Int)) (by omega) (by omega)]
        by_cases y : 8 < (lxE b n e : Int) - (p : Int)
        · rw [if_pos y, xl_eq]
          exact ⟨_, rfl, fun x hx => xu_cell _ _ _ hx, fun j hj => by rw [xu_at, if_neg hj], by rw [xu_at, if_pos rfl, if_neg (by omega)]⟩
        · rw [if_neg y]
          refine ⟨D, rfl, fun _ _ => rfl, fun _ _ => rfl, ?_⟩
          rw [d5, if_pos (by omega), show min (lxE b n e - p) 8 = lxE b n e - p by omega, ← eW]
      obtain ⟨F, f1, f2, f3, f4⟩ := sw
      have key : f_A_keyOf R 2 (F 2 8) = some (ix (kls lw) (lxW b n e) 0) := by
        rw [keyOf_eq hL, f4]
        have kw : KW (kls lw) := by cases lw; exact KW_all.1; exact KW_all.2.1
        by_cases y : (lxW b n e).length ≤ 8
        · rw [if_pos y, ix5_eq 0 kw lW]
        · rw [if_neg y, ix5_zero 0 kw, ix_long 0 kw (by omega)]
      rw [f1, xb1_some, key, xb1_some, xl_eq]
      obtain ⟨G, hG⟩ : ∃ G, G = xu F 2 9 (ix (kls lw) (lxW b n e) 0) := ⟨_, rfl⟩
      have g2 : ∀ j, G 2 j = if j = 9 then ix (kls lw) (lxW b n e) 0 else F 2 j := fun j => by rw [hG, xu_at]
      refine ⟨G, by rw [hG], ⟨fun x hx => by rw [hG, xu_cell _ _ _ hx, f2 x hx, d2 x hx, cO x hx, bO x hx], fun j hj => by rw [g2, if_neg (by omega), f3 j (by omega), d3 j (by omega) (by omega), c2, if_neg (by omega), if_neg (by omega), fB.2 j hj]⟩, ?_, ?_, ?_, fun _ => ⟨?_, ?_⟩, fun q => absurd eK q, fun q => ?_⟩
      · rw [g2, if_neg (by decide), f3 3 (by decide), d4]
      · rw [g2, if_neg (by decide), f3 6 (by decide), d6, ← hp]
      · rw [g2, if_neg (by decide), f3 7 (by decide), d3 7 (by decide) (by decide), c2, if_neg (by decide), if_pos rfl, eK]
      · rw [g2, if_neg (by decide), f4]
      · rw [g2, if_pos rfl]
      · rw [eK] at q
        exact absurd q (by decide)
    · rw [if_neg zl, if_pos rfl, isDigit_eq r0 tB.2 z hn, xb1_some]
      by_cases zd : 48 ≤ b p ∧ b p ≤ 57
      · rw [if_pos zd, if_neg (by decide)]
        have eE : lxE b n e = rn isD b (n - p) p := by unfold lxE; rw [← hp, if_pos z, if_neg zl, if_pos zd]
        have eK : lxK lw b n e = if 4 < lxE b n e - p then 4 else 2 := by unfold lxK; rw [← hp, if_pos z, if_neg zl, if_pos zd]
        have eV : lxV b n e = nv b p (lxE b n e - p) := by unfold lxV; rw [← hp, if_pos zd]
        obtain ⟨C, hC⟩ : ∃ C, C = xu B 2 10 0 := ⟨_, rfl⟩
        have c2 : ∀ j, C 2 j = if j = 10 then 0 else B 2 j := fun j => by rw [hC, xu_at]
        have cO : ∀ x, x ≠ 2 → C x = B x := fun x hx => by rw [hC, xu_cell _ _ _ hx]
        obtain ⟨D, d1, d2, d3, d4, d5⟩ := scanN_F5 r0 hB (p := p) (fun (M_10 : xM) => A_scanNumber_J77 R 2 M_10) (n - p) xfu p C (by omega) (by omega) (tB.of (by rw [c2, if_neg (by decide)]) (cO 3 (by decide))) (by rw [c2, if_neg (by decide)]; exact b3) (by rw [c2, if_neg (by decide)]; exact b6) (Nat.le_refl p) (fun i h1 h2 => by omega) (by rw [c2, if_pos rfl, show min (p - p) 4 = 0 by omega]; rfl)
        rw [← eE] at d4 d5
        obtain ⟨q1, q2, q3, q4⟩ := rn_in (P := isD) (b := b) (n - p) p
        rw [← eE] at q1 q2 q3
        have d6 : D 2 6 = (p : Int) := by rw [d3 6 (by decide) (by decide), c2, if_neg (by decide)]; exact b6
        have d9 : D 2 9 = -1 := by rw [d3 9 (by decide) (by decide), c2, if_neg (by decide)]; exact b9
        have sn : f_A_scanNumber R 2 B = some (xu D 2 7 (lxK lw b n e)) := by
          have st : f_A_scanNumber R 2 B = A_scanNumber_J77 R 2 D := by
            unfold f_A_scanNumber
            rw [xl_eq, ← hC]
            exact d1
          rw [st]
          unfold A_scanNumber_J77 A_scanNumber_J96
          rw [d4, d6, w32_of (x := (lxE b n e : Int) - (p : Int)) (by omega) (by omega), eK]
          by_cases y : 4 < (lxE b n e : Int) - (p : Int)
          · rw [if_pos y, if_pos (by omega), xl_eq]
          · rw [if_neg y, if_neg (by omega), xl_eq]
        rw [sn, xb1_some]
        obtain ⟨G, hG⟩ : ∃ G, G = xu D 2 7 (lxK lw b n e) := ⟨_, rfl⟩
        have g2 : ∀ j, G 2 j = if j = 7 then lxK lw b n e else D 2 j := fun j => by rw [hG, xu_at]
        have k1 : lxK lw b n e ≠ 1 := by rw [eK]; split <;> decide
        refine ⟨G, by rw [hG], ⟨fun x hx => by rw [hG, xu_cell _ _ _ hx, d2 x hx, cO x hx, bO x hx], fun j hj => by rw [g2, if_neg (by omega), d3 j (by omega) (by omega), c2, if_neg (by omega), fB.2 j hj]⟩, ?_, ?_, ?_, fun q => absurd q k1, fun _ => ?_, fun q => ?_⟩
        · rw [g2, if_neg (by decide), d4]
        · rw [g2, if_neg (by decide), d6, ← hp]
        · rw [g2, if_pos rfl]
        · rw [g2, if_neg (by decide), d9]
        · have y : ¬ 4 < lxE b n e - p := by
            intro y
            rw [eK, if_pos y] at q
            exact absurd q (by decide)
          rw [g2, if_neg (by decide), d5, eV, show min (lxE b n e - p) 4 = lxE b n e - p by omega]
      · rw [if_neg zd, if_pos rfl, xch_pos (by omega), xl_eq, r0, Int.toNat_natCast, tB.2 p z, xand_255 (hB.2 p).1 (hB.2 p).2]
        have eE : lxE b n e = p + 1 := by unfold lxE; rw [← hp, if_pos z, if_neg zl, if_neg zd]
        have eK : lxK lw b n e = if ub (b p) ∈ sgs lw then 3 else 4 := by unfold lxK; rw [← hp, if_pos z, if_neg zl, if_neg zd]
        have eV : lxV b n e = ub (b p) := by unfold lxV; rw [← hp, if_neg zd]
        have uB : 0 ≤ ub (b p) ∧ ub (b p) < 256 := by
          have := hB.2 p
          unfold ub
          split <;> omega
        obtain ⟨r, r1, r2⟩ := indexOf_eq hL uB.1 uB.2
        have e10 : xu B 2 10 (ub (b p)) 2 10 = ub (b p) := by rw [xu_at, if_pos rfl]
        rw [e10, r1, xb1_some]
        obtain ⟨G, hG⟩ : ∃ G, G = xu (xu (xu B 2 10 (ub (b p))) 2 7 (lxK lw b n e)) 2 3 ((p : Int) + 1) := ⟨_, rfl⟩
        have g2 : ∀ j, G 2 j = if j = 3 then (p : Int) + 1 else if j = 7 then lxK lw b n e else if j = 10 then ub (b p) else B 2 j := fun j => by rw [hG, xu_at, xu_at, xu_at]
        have J : ∀ v, v = lxK lw b n e → A_advance_J170 R 2 v 2 (xu B 2 10 (ub (b p))) = some G := by
          intro v hv
          unfold A_advance_J170
          rw [xl_eq, xl_eq, hv]
          have e3 : xu (xu B 2 10 (ub (b p))) 2 7 (lxK lw b n e) 2 3 = (p : Int) := by rw [xu_at, if_neg (by decide), xu_at, if_neg (by decide)]; exact b3
          rw [e3, w32_of (x := (p : Int) + 1) (by omega) (by omega), hG]
        have k1 : lxK lw b n e ≠ 1 := by rw [eK]; split <;> decide
        have fin : (if r < 0 then A_advance_J170 R 2 4 2 (xu B 2 10 (ub (b p))) else A_advance_J170 R 2 3 2 (xu B 2 10 (ub (b p)))) = some G := by
          by_cases y : ub (b p) ∈ sgs lw
          · rw [if_neg (fun q => r2.1 q y)]
            exact J 3 (by rw [eK, if_pos y])
          · rw [if_pos (r2.2 y)]
            exact J 4 (by rw [eK, if_neg y])
        rw [fin]
        refine ⟨G, rfl, ⟨fun x hx => by rw [hG, xu_cell _ _ _ hx, xu_cell _ _ _ hx, xu_cell _ _ _ hx, bO x hx], fun j hj => by rw [g2, if_neg (by omega), if_neg (by omega), if_neg (by omega), fB.2 j hj]⟩, ?_, ?_, ?_, fun q => absurd q k1, fun _ => ?_, fun _ => ?_⟩
        · rw [g2, if_pos rfl, eE]; rfl
        · rw [g2, if_neg (by decide), if_neg (by decide), if_neg (by decide), b6, ← hp]
        · rw [g2, if_neg (by decide), if_pos rfl]
        · rw [g2, if_neg (by decide), if_neg (by decide), if_neg (by decide), b9]
        · rw [g2, if_neg (by decide), if_neg (by decide), if_pos rfl, eV]
  · rw [if_neg (by omega), xl_eq]
    have eE : lxE b n e = p := by unfold lxE; rw [← hp, if_neg z]
    have eK : lxK lw b n e = 0 := by unfold lxK; rw [← hp, if_neg z]
    refine ⟨_, rfl, ⟨fun x hx => by rw [xu_cell _ _ _ hx, bO x hx], fun j hj => by rw [xu_at, if_neg (by omega), fB.2 j hj]⟩, ?_, ?_, ?_, fun q => ?_, fun _ => ?_, fun q => ?_⟩
    · rw [xu_at, if_neg (by decide), b3, eE]
    · rw [xu_at, if_neg (by decide), b6, ← hp]
    · rw [xu_at, if_pos rfl, eK]
    · rw [eK] at q; exact absurd q (by decide)
    · rw [xu_at, if_neg (by decide), b9]
    · rw [eK] at q; exact absurd q (by decide)
