/-! ===== broken, breach: a law's sum of an hour ===== -/
def jnS (x a b : Int) : Int := if x = 10010 then w64 (a + b) else if x = 10011 then w64 (a - b) else w64 (a * b)
/-- the value of a step that is no operator -/
def vlS (u wv : Nat → Int) (h : Nat) (x : Int) : Int := if x < 10000 then x else if x < 10004 then u (4 * h + (x - 10000).toNat) else if x = 10004 then wv h else (h : Int)
def sk (st : Nat → Int) (s : Nat) (vl : Int → Int) : Nat → Nat → Int
  | 0 => fun _ => 0
  | k + 1 => fun j => if st (s + k) < 10010 then (if j = (dp st s k).toNat then vl (st (s + k)) else sk st s vl k j) else (if j = (dp st s k).toNat - 2 then jnS (st (s + k)) (sk st s vl k ((dp st s k).toNat - 2)) (sk st s vl k ((dp st s k).toNat - 1)) else sk st s vl k j)
theorem dp_le {st : Nat → Int} {s K : Nat} (h : GD st s K) : ∀ i, i ≤ K → dp st s i ≤ 32 := by
  intro i
  induction i with
  | zero => intro _; show (0 : Int) ≤ 32; decide
  | succ i ih =>
    intro hi
    have a := ih (by omega)
    have b := h i (by omega)
    show dp st s i + (if st (s + i) < 10010 then 1 else -1) ≤ 32
    by_cases z : st (s + i) < 10010
    · rw [if_pos z]
      have := b.2.1 z
      omega
    · rw [if_neg z]
      omega
set_option maxRecDepth 100000 in
theorem xR0_l8 : xR0 32 8 = 39 ∧ xR0 40 8 = 47 ∧ xR0 104 89 = 165 := by decide +kernel
theorem RG.l8 {R : xR} {pn ps ln ls : Nat} (h : RG R pn ps ln ls) : R ln 8 = ln + 7 := by
  rcases h.2.2.2.2 with ⟨e, -⟩ | ⟨e, -⟩ <;> subst e
  · rw [h.at 32 8 (by decide) (by decide)]; exact xR0_l8.1
  · rw [h.at 40 8 (by decide) (by decide)]; exact xR0_l8.2.1
theorem sumX_F11 {R : xR} {q : Nat} (hq : LwR R q) (q8 : R q 8 = q + 7) (hq62 : q + 8 ≤ 48) {l h s t : Nat} (hl : l < 8) (hh : h < 48) {st u wv : Nat → Int} (hst6 : t ≤ 600) (hsx : ∀ i, s ≤ i → i < t → (0 ≤ st i ∧ st i < 10006) ∨ (10010 ≤ st i ∧ st i ≤ 10012)) (hG : GD st s (t - s)) (hs : s ≤ t) (Q : Int → xM → Option (Int × xM)) : ∀ (k f i : Nat) (M : xM), k < f → i + k = t - s → M (q + 3) l = (t : Int) → (∀ i, s ≤ i → i < t → M (q + 6) i = st i) → (∀ j, j < 4 → M 63 (4 * h + j) = u (4 * h + j)) → M 57 h = wv h → (∀ j : Nat, (j : Int) < dp st s i → M (q + 7) j = sk st s (vlS u wv h) i j) →
    ∃ M', L_sumOf_F11 R q (l : Int) (h : Int) 63 57 Q f (dp st s i) ((s + i : Nat) : Int) M = Q (dp st s (t - s)) M' ∧ (∀ x, x ≠ q + 7 → M' x = M x) ∧ ∀ j : Nat, (j : Int) < dp st s (t - s) → M' (q + 7) j = sk st s (vlS u wv h) (t - s) j := by
  have r3 : R q 3 = q + 3 := hq 3 (by decide) (by decide)
  have r6 : R q 6 = q + 6 := hq 6 (by decide) (by decide)
  intro k
  induction k with
  | zero =>
    intro f i M hf hi h3 _ _ _ hS
    obtain ⟨f, rfl⟩ : ∃ g, f = g + 1 := ⟨f - 1, by omega⟩
    have e : i = t - s := by omega
    refine ⟨M, ?_, fun _ _ => rfl, by rw [← e]; exact hS⟩
    rw [L_sumOf_F11, xch_pos (by omega), r3, Int.toNat_natCast, h3, if_neg (by omega), e]
  | succ k ih =>
    intro f i M hf hi h3 h6 hu hw hS
    obtain ⟨f, rfl⟩ : ∃ g, f = g + 1 := ⟨f - 1, by omega⟩
    have g := hG i (by omega)
    have g32 := dp_le hG i (by omega)
    obtain ⟨d, hd⟩ : ∃ d : Nat, dp st s i = (d : Int) := ⟨(dp st s i).toNat, by omega⟩
    have sx := hsx (s + i) (by omega) (by omega)
    have J : ∀ v X, L_sumOf_J125 R q (l : Int) (h : Int) 63 57 (L_sumOf_F11 R q (l : Int) (h : Int) 63 57 Q f) Q v ((s + i : Nat) : Int) X = L_sumOf_F11 R q (l : Int) (h : Int) 63 57 Q f v ((s + (i + 1) : Nat) : Int) X := by
      intro v X
      unfold L_sumOf_J125
      rw [xl_eq, w32_of (x := ((s + i : Nat) : Int) + 1) (by omega) (by omega)]
      rfl
    have go : ∀ N : xM, (∀ x, x ≠ q + 7 → N x = M x) → (∀ j : Nat, (j : Int) < dp st s (i + 1) → N (q + 7) j = sk st s (vlS u wv h) (i + 1) j) → ∃ M', L_sumOf_F11 R q (l : Int) (h : Int) 63 57 Q f (dp st s (i + 1)) ((s + (i + 1) : Nat) : Int) N = Q (dp st s (t - s)) M' ∧ (∀ x, x ≠ q + 7 → M' x = M x) ∧ ∀ j : Nat, (j : Int) < dp st s (t - s) → M' (q + 7) j = sk st s (vlS u wv h) (t - s) j := by
      intro N hN hS'
      obtain ⟨M', m1, m2, m3⟩ := ih f (i + 1) N (by omega) (by omega) (by rw [hN _ (by omega)]; exact h3) (by rw [hN _ (by omega)]; exact h6) (by rw [hN _ (by omega)]; exact hu) (by rw [hN _ (by omega)]; exact hw) hS'
      exact ⟨M', m1, fun x hx => (m2 x hx).trans (hN x hx), m3⟩
    have sd : dp st s (i + 1) = dp st s i + (if st (s + i) < 10010 then 1 else -1) := rfl
    rw [L_sumOf_F11, xch_pos (show 0 ≤ (l : Int) ∧ (l : Int) < 8 by omega), r3, Int.toNat_natCast, h3, if_pos (show ((s + i : Nat) : Int) < (t : Int) by omega), xch_pos (show 0 ≤ ((s + i : Nat) : Int) ∧ ((s + i : Nat) : Int) < 600 by omega), xl_eq, r6, Int.toNat_natCast, h6 (s + i) (by omega) (by omega)]
    by_cases z : st (s + i) < 10010
    · have g1 := g.2.1 z
      rw [if_pos z] at sd
      rw [if_pos z, if_pos g1, q8]
      have J79 : ∀ v, v = vlS u wv h (st (s + i)) → ∃ M', L_sumOf_J79 R q (l : Int) (h : Int) 63 57 (L_sumOf_F11 R q (l : Int) (h : Int) 63 57 Q f) Q (dp st s i) ((s + i : Nat) : Int) v (dp st s i) (q + 7) M = Q (dp st s (t - s)) M' ∧ (∀ x, x ≠ q + 7 → M' x = M x) ∧ ∀ j : Nat, (j : Int) < dp st s (t - s) → M' (q + 7) j = sk st s (vlS u wv h) (t - s) j := by
        intro v hv
        unfold L_sumOf_J79
        rw [xch_pos (by omega), xl_eq, xl_eq, J, w32_of (x := dp st s i + 1) (by omega) (by omega), ← sd]
        refine go _ (fun x hx => xu_cell _ _ _ hx) (fun j hj => ?_)
        show _ = if st (s + i) < 10010 then (if j = (dp st s i).toNat then vlS u wv h (st (s + i)) else sk st s (vlS u wv h) i j) else _
        rw [if_pos z, xu_at]
        by_cases y : j = (dp st s i).toNat
        · rw [if_pos y, if_pos y, hv]
        · rw [if_neg y, if_neg y, hS j (by omega)]
      by_cases y : st (s + i) < 10000
      · rw [if_pos y]
        exact J79 _ (by unfold vlS; rw [if_pos y])
      · rw [if_neg y, w32_of (x := st (s + i) - 10000) (by omega) (by omega)]
        have var : f_L_variable (st (s + i) - 10000) (h : Int) 63 57 M = some (vlS u wv h (st (s + i))) := by
          unfold f_L_variable vlS
          rw [if_neg y]
          by_cases y4 : st (s + i) < 10004
          · rw [if_pos (by omega), if_pos y4, w32_of (x := (h : Int) * 4) (by omega) (by omega), w32_of (x := (h : Int) * 4 + (st (s + i) - 10000)) (by omega) (by omega), xch_pos (by omega), show ((h : Int) * 4 + (st (s + i) - 10000)).toNat = 4 * h + (st (s + i) - 10000).toNat by omega, hu _ (by omega)]
          · rw [if_neg (by omega), if_neg y4]
            by_cases y5 : st (s + i) = 10004
            · rw [if_pos (by omega), if_pos y5, xch_pos (by omega), Int.toNat_natCast, hw]
            · rw [if_neg (by omega), if_neg y5]
        rw [var, xb1_some]
        exact J79 _ rfl
    · have g2 := g.2.2 z
      rw [if_neg z] at sd
      rw [if_neg z, if_neg (by omega), xl_eq, w32_of (x := dp st s i + (-1)) (by omega) (by omega), w32_of (x := dp st s i + (-1) - 1) (by omega) (by omega), xch_pos (by omega), xch_pos (by omega), q8, show (dp st s i + (-1) - 1).toNat = (dp st s i).toNat - 2 by omega, show (dp st s i + (-1)).toNat = (dp st s i).toNat - 1 by omega, hS _ (by omega), hS _ (by omega)]
      have js : f_L_joinSides (st (s + i)) (sk st s (vlS u wv h) i ((dp st s i).toNat - 2)) (sk st s (vlS u wv h) i ((dp st s i).toNat - 1)) = some (jnS (st (s + i)) (sk st s (vlS u wv h) i ((dp st s i).toNat - 2)) (sk st s (vlS u wv h) i ((dp st s i).toNat - 1))) := by
        unfold f_L_joinSides jnS
        by_cases y : st (s + i) = 10010
        · rw [if_pos y, if_pos y]
        · rw [if_neg y, if_neg y]
          by_cases y2 : st (s + i) = 10011
          · rw [if_pos y2, if_pos y2]
          · rw [if_neg y2, if_neg y2]
      rw [js, xb1_some, xl_eq, J, ← sd]
      refine go _ (fun x hx => xu_cell _ _ _ hx) (fun j hj => ?_)
      show _ = if st (s + i) < 10010 then _ else (if j = (dp st s i).toNat - 2 then jnS (st (s + i)) (sk st s (vlS u wv h) i ((dp st s i).toNat - 2)) (sk st s (vlS u wv h) i ((dp st s i).toNat - 1)) else sk st s (vlS u wv h) i j)
      rw [if_neg z, xu_at]
      by_cases y : j = (dp st s i).toNat - 2
      · rw [if_pos y, if_pos y]
      · rw [if_neg y, if_neg y, hS j (by omega)]
theorem workM_F10 {S : xR} (hS : MS S) (s89 : S 104 89 = 165) (s80 : S 104 80 = 156) (s73 : S 104 73 = 154) {l h s t : Nat} (hl : l < 8) (hh : h < 48) {st u wv : Nat → Int} (ht6 : t ≤ 600) (hG : GD st s (t - s)) (hs : s ≤ t) : ∀ (k f i : Nat) (M : xM), k < f → i + k = t - s → M 131 l = (t : Int) → (∀ i, s ≤ i → i < t → stR (st i) (M 138 i) (M 139 i)) → (∀ j, j < 4 → M 156 (4 * h + j) = u (4 * h + j)) → M 154 h = wv h → (∀ j : Nat, (j : Int) < dp st s i → M 165 j = sk st s (vlS u wv h) i j) → dp st s (t - s) = 1 →
    ∃ M', M_work_F10 S 104 (l : Int) (h : Int) f (dp st s i) ((s + i : Nat) : Int) M = some (sk st s (vlS u wv h) (t - s) 0, M') ∧ ∀ x, x ≠ 165 → M' x = M x := by
  have s46 : S 104 46 = 131 := hS 46 (by decide) (by decide)
  have s53 : S 104 53 = 138 := hS 53 (by decide) (by decide)
  have s54 : S 104 54 = 139 := hS 54 (by decide) (by decide)
  intro k
  induction k with
  | zero =>
    intro f i M hf hi h1 _ _ _ hk hD
    obtain ⟨f, rfl⟩ : ∃ g, f = g + 1 := ⟨f - 1, by omega⟩
    have e : i = t - s := by omega
    refine ⟨M, ?_, fun _ _ => rfl⟩
    have := hk 0 (by rw [e, hD]; decide)
    rw [M_work_F10, xch_pos (by omega), s46, Int.toNat_natCast, h1, if_neg (by omega), s89]
    show some (M 165 0, M) = _
    rw [this, e]
  | succ k ih =>
    intro f i M hf hi h1 h6 hu hw hk hD
    obtain ⟨f, rfl⟩ : ∃ g, f = g + 1 := ⟨f - 1, by omega⟩
    have g := hG i (by omega)
    have g32 := dp_le hG i (by omega)
    obtain ⟨d, hd⟩ : ∃ d : Nat, dp st s i = (d : Int) := ⟨(dp st s i).toNat, by omega⟩
    have sx := h6 (s + i) (by omega) (by omega)
    have J : ∀ v X, M_work_J173 S 104 (l : Int) (h : Int) (M_work_F10 S 104 (l : Int) (h : Int) f) v ((s + i : Nat) : Int) X = M_work_F10 S 104 (l : Int) (h : Int) f v ((s + (i + 1) : Nat) : Int) X := by
      intro v X
      unfold M_work_J173
      rw [xl_eq, w32_of (x := ((s + i : Nat) : Int) + 1) (by omega) (by omega)]
      rfl
    have go : ∀ N : xM, (∀ x, x ≠ 165 → N x = M x) → (∀ j : Nat, (j : Int) < dp st s (i + 1) → N 165 j = sk st s (vlS u wv h) (i + 1) j) → ∃ M', M_work_F10 S 104 (l : Int) (h : Int) f (dp st s (i + 1)) ((s + (i + 1) : Nat) : Int) N = some (sk st s (vlS u wv h) (t - s) 0, M') ∧ ∀ x, x ≠ 165 → M' x = M x := by
      intro N hN hS'
      obtain ⟨M', m1, m2⟩ := ih f (i + 1) N (by omega) (by omega) (by rw [hN 131 (by decide)]; exact h1) (by rw [hN 138 (by decide), hN 139 (by decide)]; exact h6) (by rw [hN 156 (by decide)]; exact hu) (by rw [hN 154 (by decide)]; exact hw) hS' hD
      exact ⟨M', m1, fun x hx => (m2 x hx).trans (hN x hx)⟩
    have sd : dp st s (i + 1) = dp st s i + (if st (s + i) < 10010 then 1 else -1) := rfl
    rw [M_work_F10, xch_pos (show 0 ≤ (l : Int) ∧ (l : Int) < 8 by omega), s46, Int.toNat_natCast, h1, if_pos (show ((s + i : Nat) : Int) < (t : Int) by omega), xch_pos (show 0 ≤ ((s + i : Nat) : Int) ∧ ((s + i : Nat) : Int) < 700 by omega), xl_eq, s53, s54, Int.toNat_natCast, s89]
    by_cases z : st (s + i) < 10010
    · have g1 := g.2.1 z
      rw [if_pos z] at sd
      have J100 : ∀ v, v = vlS u wv h (st (s + i)) → ∃ M', M_work_J100 S 104 (l : Int) (h : Int) (M_work_F10 S 104 (l : Int) (h : Int) f) (dp st s i) ((s + i : Nat) : Int) v (dp st s i) 165 M = some (sk st s (vlS u wv h) (t - s) 0, M') ∧ ∀ x, x ≠ 165 → M' x = M x := by
        intro v hv
        unfold M_work_J100
        rw [xch_pos (by omega), xl_eq, xl_eq, J, w32_of (x := dp st s i + 1) (by omega) (by omega), ← sd]
        refine go _ (fun x hx => xu_cell _ _ _ hx) (fun j hj => ?_)
        show _ = if st (s + i) < 10010 then (if j = (dp st s i).toNat then vlS u wv h (st (s + i)) else sk st s (vlS u wv h) i j) else _
        rw [if_pos z, xu_at]
        by_cases y : j = (dp st s i).toNat
        · rw [if_pos y, if_pos y, hv]
        · rw [if_neg y, if_neg y, hk j (by omega)]
      unfold stR at sx
      by_cases y : st (s + i) < 10000
      · have e0 : M 138 (s + i) = 0 ∧ M 139 (s + i) = st (s + i) := by omega
        rw [e0.1, if_pos (by decide), xl_eq, if_pos rfl, e0.2]
        exact J100 _ (by unfold vlS; rw [if_pos y])
      · have e0 : M 138 (s + i) = 1 ∧ M 139 (s + i) = st (s + i) - 10000 ∧ st (s + i) < 10006 := by omega
        rw [e0.1, if_pos (by decide), xl_eq, if_neg (by decide), e0.2.1]
        by_cases y4 : st (s + i) < 10004
        · rw [if_pos (show st (s + i) - 10000 < 4 by omega), w32_of (x := 4 * (h : Int)) (by omega) (by omega), w32_of (x := 4 * (h : Int) + (st (s + i) - 10000)) (by omega) (by omega), xch_pos (by omega), s80, show (4 * (h : Int) + (st (s + i) - 10000)).toNat = 4 * h + (st (s + i) - 10000).toNat by omega, hu _ (by omega)]
          exact J100 _ (by unfold vlS; rw [if_neg y, if_pos y4])
        · rw [if_neg (show ¬ st (s + i) - 10000 < 4 by omega)]
          by_cases y5 : st (s + i) = 10004
          · rw [if_pos (show st (s + i) - 10000 = 4 by omega), xch_pos (by omega), s73, Int.toNat_natCast, hw]
            exact J100 _ (by unfold vlS; rw [if_neg y, if_neg y4, if_pos y5])
          · rw [if_neg (show ¬ st (s + i) - 10000 = 4 by omega)]
            exact J100 _ (by unfold vlS; rw [if_neg y, if_neg y4, if_neg y5])
    · have g2 := g.2.2 z
      rw [if_neg z] at sd
      have J172 : ∀ v, v = jnS (st (s + i)) (sk st s (vlS u wv h) i ((dp st s i).toNat - 2)) (sk st s (vlS u wv h) i ((dp st s i).toNat - 1)) → ∃ M', M_work_J172 S 104 (l : Int) (h : Int) (M_work_F10 S 104 (l : Int) (h : Int) f) (dp st s i + (-1)) ((s + i : Nat) : Int) v (dp st s i + (-1) - 1) 165 M = some (sk st s (vlS u wv h) (t - s) 0, M') ∧ ∀ x, x ≠ 165 → M' x = M x := by
        intro v hv
        unfold M_work_J172
        rw [xch_pos (by omega), xl_eq, J, show (dp st s i + (-1) - 1).toNat = (dp st s i).toNat - 2 by omega, ← sd]
        refine go _ (fun x hx => xu_cell _ _ _ hx) (fun j hj => ?_)
        show _ = if st (s + i) < 10010 then _ else (if j = (dp st s i).toNat - 2 then jnS (st (s + i)) (sk st s (vlS u wv h) i ((dp st s i).toNat - 2)) (sk st s (vlS u wv h) i ((dp st s i).toNat - 1)) else sk st s (vlS u wv h) i j)
        rw [if_neg z, xu_at]
        by_cases y : j = (dp st s i).toNat - 2
        · rw [if_pos y, if_pos y, hv]
        · rw [if_neg y, if_neg y, hk j (by omega)]
      unfold stR at sx
      have n2 : ¬ M 138 (s + i) < 2 := by omega
      rw [if_neg n2, w32_of (x := dp st s i - 2) (by omega) (by omega), xch_pos (by omega), xl_eq, w32_of (x := dp st s i - 1) (by omega) (by omega), xch_pos (by omega), xl_eq, xl_eq, w32_of (x := dp st s i + (-1)) (by omega) (by omega), w32_of (x := dp st s i + (-1) - 1) (by omega) (by omega), show (dp st s i - 2).toNat = (dp st s i).toNat - 2 by omega, show (dp st s i - 1).toNat = (dp st s i).toNat - 1 by omega, hk _ (by omega), hk _ (by omega)]
      by_cases y : st (s + i) = 10010
      · rw [if_pos (show M 138 (s + i) = 43 by omega)]
        exact J172 _ (by unfold jnS; rw [if_pos y])
      · rw [if_neg (show ¬ M 138 (s + i) = 43 by omega)]
        by_cases y2 : st (s + i) = 10011
        · rw [if_pos (show M 138 (s + i) = 45 by omega)]
          exact J172 _ (by unfold jnS; rw [if_neg y, if_pos y2])
        · rw [if_neg (show ¬ M 138 (s + i) = 45 by omega)]
          exact J172 _ (by unfold jnS; rw [if_neg y, if_neg y2])
