/-! ===== knocks in the model: the hours of a set ===== -/
theorem kn_F62 {R : xR} {pn ps ln ls : Nat} (hR : RG R pn ps ln ls) {N : xM} {q c h : Nat} (h78 : N 104 78 = (q : Int)) (hq : q ≤ 6) {c0 : Nat} (h77 : N 104 77 = (c0 : Int)) : ∀ (k f v : Nat), k < f → v + k = q → ((c = c0 ∧ ∃ j, v ≤ j ∧ j < q ∧ N 155 j = (h : Int)) → M_isKnocked_F62 R N 104 (c : Int) (h : Int) f (v : Int) = some 1) ∧ (¬ (c = c0 ∧ ∃ j, v ≤ j ∧ j < q ∧ N 155 j = (h : Int)) → M_isKnocked_F62 R N 104 (c : Int) (h : Int) f (v : Int) = some 0) := by
  have r79 : R 104 79 = 155 := by rw [hR.at 104 79 (by decide) (by decide)]; exact xR0_mb.2.2
  intro k
  induction k with
  | zero =>
    intro f v hf hv
    obtain ⟨f, rfl⟩ : ∃ g, f = g + 1 := ⟨f - 1, by omega⟩
    rw [M_isKnocked_F62, h78, if_neg (by omega)]
    exact ⟨fun ⟨_, j, h1, h2, _⟩ => by omega, fun _ => rfl⟩
  | succ k ih =>
    intro f v hf hv
    obtain ⟨f, rfl⟩ : ∃ g, f = g + 1 := ⟨f - 1, by omega⟩
    have hi := ih f (v + 1) (by omega) (by omega)
    rw [M_isKnocked_F62, h78, if_pos (by omega), h77]
    by_cases z : c = c0
    · rw [if_pos (by omega), xch_pos (by omega), r79, Int.toNat_natCast, xl_eq, w32_of (x := (v : Int) + 1) (by omega) (by omega), show (v : Int) + 1 = ((v + 1 : Nat) : Int) by omega]
      by_cases y : N 155 v = (h : Int)
      · rw [if_pos y]
        exact ⟨fun _ => rfl, fun q => absurd ⟨z, v, by omega, by omega, y⟩ q⟩
      · rw [if_neg y]
        have e : (c = c0 ∧ ∃ j, v ≤ j ∧ j < q ∧ N 155 j = (h : Int)) ↔ (c = c0 ∧ ∃ j, v + 1 ≤ j ∧ j < q ∧ N 155 j = (h : Int)) := by
          refine and_congr_right fun _ => ⟨fun ⟨j, h1, h2, h3⟩ => ⟨j, ?_, h2, h3⟩, fun ⟨j, h1, h2, h3⟩ => ⟨j, by omega, h2, h3⟩⟩
          have : j ≠ v := fun x => y (x ▸ h3)
          omega
        rw [e]
        exact hi
    · rw [if_neg (by omega)]
      exact ⟨fun q => absurd q.1 z, fun _ => rfl⟩
/-- the hours kept are those of the first j places of the set v -/
def HrM (hr : Nat → Int) (N : xM) (j v : Nat) : Prop := ∃ q : Nat, q ≤ j ∧ N 104 78 = (q : Int) ∧ ∀ h : Nat, (∃ i, i < q ∧ N 155 i = (h : Int)) ↔ inSet hr j v h
theorem knocks_F232 {R : xR} {pn ps ln ls : Nat} (hR : RG R pn ps ln ls) {t m v : Nat} (ht : t < 4) (hm : m ≤ 6) (hv : v < 64) (l4 l5 v6 v7 : Int) (Q : Int → Int → Int → xM → Option (Int × xM)) {hr : Nat → Int} (hb : ∀ j, j < m → 0 ≤ hr j ∧ hr j < 48) : ∀ (k f j : Nat) (M : xM), k < f → j + k = m → (∀ j, j < m → M 107 (60 * t + j) = hr j) → HrM hr M j v →
    ∃ M', M_knocks_F232 R 104 (t : Int) (m : Int) l4 l5 Q f v6 v7 (v : Int) (j : Int) M = Q v6 v7 (v : Int) M' ∧ Fr [104, 155] M M' ∧ (∀ k, k ≠ 78 → M' 104 k = M 104 k) ∧ HrM hr M' m v := by
  have r79 : R 104 79 = 155 := by rw [hR.at 104 79 (by decide) (by decide)]; exact xR0_mb.2.2
  have r3 : R 104 3 = 107 := by rw [hR.at 104 3 (by decide) (by decide)]; exact xR0_104.2.2.1
  intro k
  induction k with
  | zero =>
    intro f j M hf hj h7 hH
    obtain ⟨f, rfl⟩ : ∃ g, f = g + 1 := ⟨f - 1, by omega⟩
    have e : j = m := by omega
    refine ⟨M, ?_, fun _ _ => rfl, fun _ _ => rfl, by rw [← e]; exact hH⟩
    rw [M_knocks_F232, if_neg (by omega)]
  | succ k ih =>
    intro f j M hf hj h7 hH
    obtain ⟨f, rfl⟩ : ∃ g, f = g + 1 := ⟨f - 1, by omega⟩
    have J : ∀ X, M_knocks_J283 R 104 (t : Int) (m : Int) l4 l5 (M_knocks_F232 R 104 (t : Int) (m : Int) l4 l5 Q f) Q v6 v7 (v : Int) (j : Int) X = M_knocks_F232 R 104 (t : Int) (m : Int) l4 l5 Q f v6 v7 (v : Int) ((j + 1 : Nat) : Int) X := by
      intro X
      unfold M_knocks_J283
      rw [xl_eq, w32_of (x := (j : Int) + 1) (by omega) (by omega)]
      rfl
    obtain ⟨q, q1, q2, q3⟩ := hH
    have hbj := hb j (by omega)
    rw [M_knocks_F232, if_pos (by omega), setbit v hv j (by omega), J]
    by_cases z : v.testBit j = true
    · rw [if_pos z, if_neg (by decide), w32_of (x := 60 * (t : Int)) (by omega) (by omega), w32_of (x := 60 * (t : Int) + (j : Int)) (by omega) (by omega), xch_pos (by omega), q2, xch_pos (by omega), xl_eq, xl_eq, J, r79, r3, Int.toNat_natCast, show (60 * (t : Int) + (j : Int)).toNat = 60 * t + j by omega, h7 j (by omega), w32_of (x := hr j) (by omega) (by omega)]
      have e78 : xu M 155 q (hr j) 104 78 = (q : Int) := by rw [xu_cell _ _ _ (by decide)]; exact q2
      rw [e78, w32_of (x := (q : Int) + 1) (by omega) (by omega)]
      obtain ⟨N, hN⟩ : ∃ N, N = xu (xu M 155 q (hr j)) 104 78 ((q : Int) + 1) := ⟨_, rfl⟩
      rw [← hN]
      have nO : ∀ x, x ≠ 104 → x ≠ 155 → N x = M x := fun x h1 h2 => by rw [hN, xu_cell _ _ _ h1, xu_cell _ _ _ h2]
      have n4 : ∀ k, N 104 k = if k = 78 then (q : Int) + 1 else M 104 k := fun k => by rw [hN, xu_at, xu_cell _ _ _ (by decide)]
      have n5 : ∀ i, N 155 i = if i = q then hr j else M 155 i := fun i => by rw [hN, xu_cell _ _ _ (by decide), xu_at]
      obtain ⟨M', m1, m2, m3, m4⟩ := ih f (j + 1) N (by omega) (by omega) (by rw [nO 107 (by decide) (by decide)]; exact h7) ⟨q + 1, by omega, by rw [n4, if_pos rfl]; rfl, fun h => by
        constructor
        · rintro ⟨i, i1, i2⟩
          rw [n5] at i2
          by_cases y : i = q
          · rw [if_pos y] at i2
            exact ⟨j, by omega, z, i2⟩
          · rw [if_neg y] at i2
            obtain ⟨a, a1, a2, a3⟩ := (q3 h).1 ⟨i, by omega, i2⟩
            exact ⟨a, by omega, a2, a3⟩
        · rintro ⟨a, a1, a2, a3⟩
          by_cases y : a = j
          · exact ⟨q, by omega, by rw [n5, if_pos rfl, ← y]; exact a3⟩
          · obtain ⟨i, i1, i2⟩ := (q3 h).2 ⟨a, by omega, a2, a3⟩
            exact ⟨i, by omega, by rw [n5, if_neg (by omega)]; exact i2⟩⟩
      refine ⟨M', m1, fun x hx => ?_, fun k hk => by rw [m3 k hk, n4, if_neg hk], m4⟩
      rw [m2 x hx]
      simp only [List.mem_cons, List.not_mem_nil, or_false, not_or] at hx
      exact nO x hx.1 hx.2
    · rw [if_neg z, if_pos rfl]
      refine ih f (j + 1) M (by omega) (by omega) h7 ⟨q, by omega, q2, fun h => ?_⟩
      rw [q3 h]
      constructor
      · rintro ⟨a, a1, a2, a3⟩
        exact ⟨a, by omega, a2, a3⟩
      · rintro ⟨a, a1, a2, a3⟩
        have : a ≠ j := fun x => z (x ▸ a2)
        exact ⟨a, by omega, a2, a3⟩
