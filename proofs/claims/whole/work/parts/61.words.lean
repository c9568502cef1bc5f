/-! ===== rowOf: words over n letters ===== -/
set_option maxRecDepth 100000 in
theorem xbit : ∀ u : Nat, u < 128 → ∀ d : Nat, d < 7 → xand (xshr (u : Int) (d : Int)) 1 = (if u.testBit d = true then 1 else 0) ∧ xior (u : Int) (xshl 1 (d : Int)) = ((u ||| (1 <<< d) : Nat) : Int) ∧ (u ||| (1 <<< d)) < 128 ∧ ∀ e : Nat, e < 7 → ((u ||| (1 <<< d)).testBit e = true ↔ u.testBit e = true ∨ d = e) := by decide +kernel
def wrd (n : Nat) : Nat → Nat → (Nat → Int) → (Nat → Int)
  | 0, _, g => g
  | k + 1, m, g => wrd n k (m / n) (fun i => if i = k then ((m % n : Nat) : Int) else g i)
theorem wrd_ge (n : Nat) : ∀ (k m : Nat) (g : Nat → Int) (i : Nat), k ≤ i → wrd n k m g i = g i := by
  intro k
  induction k with
  | zero => intro m g i _; rfl
  | succ k ih =>
    intro m g i h
    show wrd n k (m / n) _ i = _
    rw [ih _ _ _ (by omega), if_neg (by omega)]
theorem wrd_in {n : Nat} (hn : 1 ≤ n) : ∀ (k m : Nat) (g : Nat → Int) (i : Nat), i < k → 0 ≤ wrd n k m g i ∧ wrd n k m g i < n := by
  intro k
  induction k with
  | zero => intro m g i h; omega
  | succ k ih =>
    intro m g i h
    show 0 ≤ wrd n k (m / n) _ i ∧ wrd n k (m / n) _ i < n
    by_cases e : i = k
    · rw [wrd_ge _ _ _ _ _ (by omega), if_pos e]
      have := Nat.mod_lt m (show n > 0 by omega)
      omega
    · exact ih _ _ _ (by omega)
theorem wrd_cg (n : Nat) : ∀ (k m : Nat) (g h : Nat → Int) (i : Nat), i < k → wrd n k m g i = wrd n k m h i := by
  intro k
  induction k with
  | zero => intro m g h i q; omega
  | succ k ih =>
    intro m g h i q
    show wrd n k (m / n) _ i = wrd n k (m / n) _ i
    by_cases e : i = k
    · rw [wrd_ge _ _ _ _ _ (by omega), wrd_ge _ _ _ _ _ (by omega), if_pos e, if_pos e]
    · exact ih _ _ _ _ (by omega)
/-- no letter of the first k comes again behind it -/
def Dst (w : Nat → Int) (L k : Nat) : Prop := ∀ i j, i < k → i < j → j < L → w i ≠ w j
/-- the cost, from the back -/
def cbk (f w : Nat → Int) : Nat → Int
  | 0 => 0
  | k + 1 => cbk f w k + f (5 * (w k).toNat + 4)
theorem cst_cbk (f w : Nat → Int) : ∀ k v x, cst f w k v x + cbk f w v = x + cbk f w (v + k) := by
  intro k
  induction k with
  | zero => intro v x; rfl
  | succ k ih =>
    intro v x
    have h := ih (v + 1) (x + f (5 * (w v).toNat + 4))
    show cst f w k (v + 1) (x + f (5 * (w v).toNat + 4)) + _ = _
    rw [show v + 1 + k = v + (k + 1) by omega] at h
    have e : cbk f w (v + 1) = cbk f w v + f (5 * (w v).toNat + 4) := rfl
    omega
theorem cbk_cg {f f' w w' : Nat → Int} : ∀ k, (∀ i, i < k → w i = w' i) → (∀ i, i < k → f (5 * (w i).toNat + 4) = f' (5 * (w i).toNat + 4)) → cbk f w k = cbk f' w' k := by
  intro k
  induction k with
  | zero => intro _ _; rfl
  | succ k ih =>
    intro h1 h2
    show cbk f w k + _ = cbk f' w' k + _
    rw [ih (fun i hi => h1 i (by omega)) (fun i hi => h2 i (by omega)), h2 k (by omega), h1 k (by omega)]
theorem cbk_le {f w : Nat → Int} : ∀ k, (∀ i, i < k → 0 ≤ f (5 * (w i).toNat + 4) ∧ f (5 * (w i).toNat + 4) ≤ 1000) → 0 ≤ cbk f w k ∧ cbk f w k ≤ 1000 * k := by
  intro k
  induction k with
  | zero => intro _; exact ⟨Int.le_refl 0, by show (0 : Int) ≤ _; omega⟩
  | succ k ih =>
    intro h
    have a := ih fun i hi => h i (by omega)
    have b := h k (by omega)
    show 0 ≤ cbk f w k + _ ∧ cbk f w k + _ ≤ _
    omega
theorem spell_F17 {R : xR} {pn ps ln ls : Nat} (hR : RG R pn ps ln ls) {n L : Nat} (hn : 1 ≤ n) (hn7 : n ≤ 7) (hL : L ≤ 4) : ∀ (k f m u : Nat) (M : xM), k < f → k ≤ L → m < 10000 → u < 128 → (∀ d : Nat, d < 7 → (u.testBit d = true ↔ ∃ j, k ≤ j ∧ j < L ∧ M 97 j = d)) →
    (Dst (wrd n k m (M 97)) L k → P_spellRow_F17 R 93 (n : Int) f (m : Int) (u : Int) ((k : Int) - 1) M = some (1, xrow M 97 (wrd n k m (M 97)))) ∧ (¬ Dst (wrd n k m (M 97)) L k → ∃ g, P_spellRow_F17 R 93 (n : Int) f (m : Int) (u : Int) ((k : Int) - 1) M = some (0, xrow M 97 g)) := by
  have r3 : R 93 3 = 97 := by rw [hR.at 93 3 (by decide) (by decide)]; exact xR0_ro.1.2.2.2.1
  intro k
  induction k with
  | zero =>
    intro f m u M hf hk hm hu hb
    obtain ⟨f, rfl⟩ : ∃ g, f = g + 1 := ⟨f - 1, by omega⟩
    refine ⟨fun _ => ?_, fun q => absurd (fun i j h => by omega) q⟩
    rw [P_spellRow_F17, if_pos (by omega)]
    show _ = some ((1 : Int), xrow M 97 (M 97))
    rw [xrow_self]
  | succ k ih =>
    intro f m u M hf hk hm hu hb
    obtain ⟨f, rfl⟩ : ∃ g, f = g + 1 := ⟨f - 1, by omega⟩
    have hd : m % n < n := Nat.mod_lt m (by omega)
    have hq : m / n ≤ m := Nat.div_le_self m n
    have hq0 : (0 : Int) ≤ ((m / n : Nat) : Int) := Int.natCast_nonneg _
    obtain ⟨x1, x2, x3, x4⟩ := xbit u hu (m % n) (by omega)
    have hw : wrd n (k + 1) m (M 97) = wrd n k (m / n) (fun i => if i = k then ((m % n : Nat) : Int) else M 97 i) := rfl
    rw [P_spellRow_F17, if_neg (by omega), xch_pos (by omega), xl_eq, xl_eq, ← Int.ofNat_tmod, ← Int.ofNat_tdiv, w32_of (x := ((m / n : Nat) : Int)) (by omega) (by omega), x1, x2, hw]
    by_cases h : u.testBit (m % n) = true
    · rw [if_pos h, if_neg (by decide)]
      obtain ⟨j, j1, j2, j3⟩ := (hb (m % n) (by omega)).1 h
      refine ⟨fun q => absurd ?_ (q k j (by omega) (by omega) j2), fun _ => ⟨M 97, by rw [xrow_self]⟩⟩
      rw [wrd_ge _ _ _ _ _ (by omega), wrd_ge _ _ _ _ _ (by omega), if_pos rfl, if_neg (by omega), j3]
    · rw [if_neg h, if_pos rfl, xl_eq, xch_pos (by omega), xl_eq, xl_eq, r3, show ((((k + 1 : Nat) : Int) - 1)).toNat = k by omega, show ((k + 1 : Nat) : Int) - 1 = (k : Int) by omega, w32_of (x := (k : Int) + -1) (by omega) (by omega), show (k : Int) + -1 = (k : Int) - 1 by omega]
      have hrow : xu M 97 k ((m % n : Nat) : Int) 97 = fun i => if i = k then ((m % n : Nat) : Int) else M 97 i := xu_row _ _ _ _
      have hi := ih f (m / n) (u ||| (1 <<< (m % n))) (xu M 97 k ((m % n : Nat) : Int)) (by omega) (by omega) (by omega) x3 (by
        intro d hd7
        rw [x4 d hd7, hb d hd7, hrow]
        constructor
        · rintro (⟨j, j1, j2, j3⟩ | e)
          · refine ⟨j, by omega, j2, ?_⟩
            show (if j = k then _ else _) = _
            rw [if_neg (by omega), j3]
          · refine ⟨k, by omega, by omega, ?_⟩
            show (if k = k then _ else _) = _
            rw [if_pos rfl, e]
        · rintro ⟨j, j1, j2, j3⟩
          have j3' : (if j = k then ((m % n : Nat) : Int) else M 97 j) = d := j3
          by_cases e : j = k
          · rw [if_pos e] at j3'
            exact Or.inr (by omega)
          · rw [if_neg e] at j3'
            exact Or.inl ⟨j, by omega, j2, j3'⟩)
      rw [hrow, xrow_xu] at hi
      have hiff : Dst (wrd n k (m / n) (fun i => if i = k then ((m % n : Nat) : Int) else M 97 i)) L (k + 1) ↔ Dst (wrd n k (m / n) (fun i => if i = k then ((m % n : Nat) : Int) else M 97 i)) L k := by
        constructor
        · intro q i j i1 i2 i3
          exact q i j (by omega) i2 i3
        · intro q i j i1 i2 i3
          by_cases e : i = k
          · subst e
            rw [wrd_ge _ _ _ _ _ (by omega), wrd_ge _ _ _ _ _ (by omega), if_pos rfl, if_neg (by omega)]
            intro z
            exact h ((hb (m % n) (by omega)).2 ⟨j, by omega, i3, z.symm⟩)
          · exact q i j (by omega) i2 i3
      rw [hiff]
      refine ⟨hi.1, fun q => ?_⟩
      obtain ⟨g, hg⟩ := hi.2 q
      exact ⟨g, by rw [hg, xrow_xu]⟩
theorem rowOf_F365 {R : xR} {pn ps ln ls : Nat} (hR : RG R pn ps ln ls) {L c : Nat} (hL : L ≤ 4) (hc : c < 4) (l2 l4 : Int) (q : Int → Int → Int → Int → Int → Int → Int → Int → Int → xM → Option (Int × xM)) (v5 v6 v7 v9 v10 v11 : Int) (M : xM) : ∀ (k f t : Nat) (b : Int), k < f → t + k = L → (b = 0 ∨ b = 1) → ∃ b' : Int, (b' = 0 ∨ b' = 1) ∧ (b' = 1 ↔ b = 1 ∧ ∀ i, t ≤ i → i < L → M 168 i ≠ M 168 c) ∧ M_rowOf_F365 R 104 l2 l4 q f v5 v6 v7 (L : Int) v9 v10 v11 b (c : Int) (t : Int) M = q v5 v6 v7 (L : Int) v9 v10 v11 b' (c : Int) M := by
  have r7 : R 104 97 = 168 := by rw [hR.at 104 97 (by decide) (by decide)]; exact xR0_ro.2.2.2.1
  intro k
  induction k with
  | zero =>
    intro f t b hf ht hb
    obtain ⟨f, rfl⟩ : ∃ g, f = g + 1 := ⟨f - 1, by omega⟩
    refine ⟨b, hb, ⟨fun h => ⟨h, fun i h1 h2 => by omega⟩, fun h => h.1⟩, ?_⟩
    rw [M_rowOf_F365, if_neg (by omega)]
  | succ k ih =>
    intro f t b hf ht hb
    obtain ⟨f, rfl⟩ : ∃ g, f = g + 1 := ⟨f - 1, by omega⟩
    have go : ∀ x : Int, M_rowOf_J399 R 104 l2 l4 (M_rowOf_F365 R 104 l2 l4 q f) q v5 v6 v7 (L : Int) v9 v10 v11 (c : Int) (t : Int) x M = M_rowOf_F365 R 104 l2 l4 q f v5 v6 v7 (L : Int) v9 v10 v11 x (c : Int) ((t + 1 : Nat) : Int) M := by
      intro x
      unfold M_rowOf_J399
      rw [xl_eq, w32_of (x := (t : Int) + 1) (by omega) (by omega)]
      rfl
    rw [M_rowOf_F365, if_pos (by omega), go, go]
    rcases hb with rfl | rfl
    · rw [if_pos rfl]
      obtain ⟨b', h1, h2, h3⟩ := ih f (t + 1) 0 (by omega) (by omega) (Or.inl rfl)
      exact ⟨b', h1, ⟨fun z => absurd (h2.1 z).1 (by decide), fun z => absurd z.1 (by decide)⟩, h3⟩
    · rw [if_neg (by decide), xch_pos (by omega), xch_pos (by omega), r7, Int.toNat_natCast, Int.toNat_natCast]
      by_cases e : M 168 t = M 168 c
      · rw [if_pos e]
        obtain ⟨b', h1, h2, h3⟩ := ih f (t + 1) 0 (by omega) (by omega) (Or.inl rfl)
        exact ⟨b', h1, ⟨fun z => absurd (h2.1 z).1 (by decide), fun z => absurd e (z.2 t (by omega) (by omega))⟩, h3⟩
      · rw [if_neg e]
        obtain ⟨b', h1, h2, h3⟩ := ih f (t + 1) 1 (by omega) (by omega) (Or.inr rfl)
        refine ⟨b', h1, ⟨fun z => ⟨rfl, fun i i1 i2 => ?_⟩, fun z => h2.2 ⟨rfl, fun i i1 i2 => z.2 i (by omega) i2⟩⟩, h3⟩
        by_cases e2 : i = t
        · rw [e2]; exact e
        · exact (h2.1 z).2 i (by omega) i2
theorem rowOf_F316 {R : xR} {pn ps ln ls : Nat} (hR : RG R pn ps ln ls) {n L : Nat} (hn : 1 ≤ n) (hn7 : n ≤ 7) (hL : L ≤ 4) (l4 : Int) (q : Int → Int → Int → Int → Int → Int → Int → xM → Option (Int × xM)) (v5 v6 v7 v9 : Int) : ∀ (k f m : Nat) (x b : Int) (M : xM), k < f → k ≤ L → m < 10000 → (b = 0 ∨ b = 1) → 0 ≤ x → x + 1000 * k ≤ 4000 → (∀ d, d < 7 → 0 ≤ M 166 (5 * d + 4) ∧ M 166 (5 * d + 4) ≤ 1000 ∨ n ≤ d) →
    ∃ b' : Int, (b' = 0 ∨ b' = 1) ∧ (b' = 1 ↔ b = 1 ∧ Dst (wrd n k m (M 168)) L k) ∧ M_rowOf_F316 R 104 (n : Int) l4 q f v5 v6 v7 (L : Int) v9 (m : Int) x b ((k : Int) - 1) M = q v5 v6 v7 (L : Int) v9 (x + cbk (M 166) (wrd n k m (M 168)) k) b' (xrow M 168 (wrd n k m (M 168))) := by
  have r7 : R 104 97 = 168 := by rw [hR.at 104 97 (by decide) (by decide)]; exact xR0_ro.2.2.2.1
  have r5 : R 104 95 = 166 := by rw [hR.at 104 95 (by decide) (by decide)]; exact xR0_ro.2.1
  intro k
  induction k with
  | zero =>
    intro f m x b M hf hk hm hb h0 h1 hc
    obtain ⟨f, rfl⟩ : ∃ g, f = g + 1 := ⟨f - 1, by omega⟩
    refine ⟨b, hb, ⟨fun z => ⟨z, fun i j h => by omega⟩, fun z => z.1⟩, ?_⟩
    rw [M_rowOf_F316, if_pos (by omega)]
    show _ = q v5 v6 v7 (L : Int) v9 (x + 0) b (xrow M 168 (M 168))
    rw [xrow_self, Int.add_zero]
  | succ k ih =>
    intro f m x b M hf hk hm hb h0 h1 hc
    obtain ⟨f, rfl⟩ : ∃ g, f = g + 1 := ⟨f - 1, by omega⟩
    have hd : m % n < n := Nat.mod_lt m (by omega)
    have hq : m / n ≤ m := Nat.div_le_self m n
    have hq0 : (0 : Int) ≤ ((m / n : Nat) : Int) := Int.natCast_nonneg _
    have hcd := hc (m % n) (by omega)
    have hw : wrd n (k + 1) m (M 168) = wrd n k (m / n) (fun i => if i = k then ((m % n : Nat) : Int) else M 168 i) := rfl
    have hrow : xu M 168 k ((m % n : Nat) : Int) 168 = fun i => if i = k then ((m % n : Nat) : Int) else M 168 i := xu_row _ _ _ _
    have h66 : xu M 168 k ((m % n : Nat) : Int) 166 = M 166 := xu_cell _ _ _ (by decide)
    have hk8 : xu M 168 k ((m % n : Nat) : Int) 168 k = ((m % n : Nat) : Int) := by rw [xu_at, if_pos rfl]
    rw [M_rowOf_F316, if_neg (by omega), xch_pos (by omega), xch_pos (by omega), xl_eq, xl_eq, ← Int.ofNat_tmod, ← Int.ofNat_tdiv, w32_of (x := ((m / n : Nat) : Int)) (by omega) (by omega), r7, r5, show ((((k + 1 : Nat) : Int) - 1)).toNat = k by omega, show ((k + 1 : Nat) : Int) - 1 = (k : Int) by omega, hk8, h66]
    obtain ⟨d, hdd⟩ : ∃ d, d = m % n := ⟨_, rfl⟩
    rw [← hdd] at hd hcd hk8 h66 hrow hw ⊢
    rw [w32_of (x := 5 * (d : Int)) (by omega) (by omega), w32_of (x := 5 * (d : Int) + 4) (by omega) (by omega), xch_pos (by omega), xl_eq, xl_eq, show (5 * (d : Int) + 4).toNat = 5 * d + 4 by omega, w32_of (x := x + M 166 (5 * d + 4)) (by omega) (by omega), w32_of (x := (k : Int) + 1) (by omega) (by omega), show (k : Int) + 1 = ((k + 1 : Nat) : Int) by omega]
    obtain ⟨b1, c1, c2, c3⟩ := rowOf_F365 hR hL (show k < 4 by omega) (n : Int) l4 (fun (v5_97 : Int) (v6_98 : Int) (v7_99 : Int) (v8_100 : Int) (v9_101 : Int) (v10_102 : Int) (v11_103 : Int) (v12_104 : Int) (v13_105 : Int) (M_106 : xM) =>
          xl (w32 (v13_105 + (-1))) fun v13_107 =>
          M_rowOf_F316 R 104 (n : Int) l4 q f v5_97 v6_98 v7_99 v8_100 v9_101 v10_102 v11_103 v12_104 v13_107 M_106) v5 v6 v7 v9 ((m / n : Nat) : Int) (x + M 166 (5 * d + 4)) (xu M 168 k (d : Int)) (L - (k + 1)) xfu (k + 1) b (by have : xfu = 1000000 := rfl; omega) (by omega) hb
    rw [c3, xl_eq, w32_of (x := (k : Int) + -1) (by omega) (by omega), show (k : Int) + -1 = (k : Int) - 1 by omega]
    obtain ⟨b2, e1, e2, e3⟩ := ih f (m / n) (x + M 166 (5 * d + 4)) b1 (xu M 168 k (d : Int)) (by omega) (by omega) (by omega) c1 (by omega) (by omega) (by rw [h66]; exact hc)
    rw [hrow, h66, xrow_xu] at e3
    rw [hrow] at e2 c2
    refine ⟨b2, e1, ?_, ?_⟩
    · rw [e2, c2, hw]
      constructor
      · rintro ⟨⟨z1, z2⟩, z3⟩
        refine ⟨z1, fun i j i1 i2 i3 => ?_⟩
        by_cases e : i = k
        · subst e
          have := z2 j (by omega) i3
          dsimp only at this
          rw [if_neg (by omega), if_pos rfl] at this
          rw [wrd_ge _ _ _ _ _ (by omega), wrd_ge _ _ _ _ _ (by omega), if_pos rfl, if_neg (by omega)]
          exact fun z => this z.symm
        · exact z3 i j (by omega) i2 i3
      · rintro ⟨z1, z2⟩
        refine ⟨⟨z1, fun i i1 i2 => ?_⟩, fun i j i1 i2 i3 => z2 i j (by omega) i2 i3⟩
        have := z2 k i (by omega) (by omega) i2
        rw [wrd_ge _ _ _ _ _ (by omega), wrd_ge _ _ _ _ _ (by omega), if_pos rfl, if_neg (by omega)] at this
        dsimp only
        rw [if_neg (by omega), if_pos rfl]
        exact fun z => this z.symm
    · rw [e3, hw]
      have : cbk (M 166) (wrd n k (m / n) (fun i => if i = k then (d : Int) else M 168 i)) (k + 1) = cbk (M 166) (wrd n k (m / n) (fun i => if i = k then (d : Int) else M 168 i)) k + M 166 (5 * d + 4) := by
        show cbk _ _ k + M 166 _ = _
        rw [wrd_ge _ _ _ _ _ (by omega), if_pos rfl, Int.toNat_natCast]
      rw [this, Int.add_assoc, Int.add_comm (M 166 _)]
