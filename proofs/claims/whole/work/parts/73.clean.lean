/-! ===== a cleaner's hour in the class: shake, hold ===== -/
theorem shake_F4 {R : xR} {b p : Nat} (hF : FlR R b) (hP : PnR R p) (hne : p + 11 < b) {c : Nat} (hc : c < 8) : ∀ (k f v : Nat) (M : xM), k < f → v + k = 4 * c + 4 → 4 * c ≤ v → (∀ i, v ≤ i → i < 4 * c + 4 → (0 ≤ M (b + 5) i ∧ M (b + 5) i ≤ 2000000)) → (0 ≤ M (p + 6) c ∧ M (p + 6) c ≤ 100) →
    ∃ M', F_shake_F4 R b p (c : Int) f (v : Int) M = some M' ∧ Fr [b + 4, b + 5, b + 6] M M' ∧ (∀ i, (¬ (v ≤ i ∧ i < 4 * c + 4)) → M' (b + 4) i = M (b + 4) i ∧ M' (b + 5) i = M (b + 5) i ∧ M' (b + 6) i = M (b + 6) i) ∧ ∀ i, v ≤ i → i < 4 * c + 4 → M' (b + 4) i = Int.tdiv (M (b + 5) i * M (p + 6) c) 100 ∧ M' (b + 5) i = 0 ∧ M' (b + 6) i = w32 (M (b + 6) i + (M (b + 5) i - Int.tdiv (M (b + 5) i * M (p + 6) c) 100)) := by
  have r4 := hF.2.2.2.1
  have r5 := hF.2.2.2.2.1
  have r6 := hF.2.2.2.2.2.1
  have p7 : R p 7 = p + 6 := hP 7 (by decide) (by decide)
  intro k
  induction k with
  | zero =>
    intro f v M hf hv h1 _ _
    obtain ⟨f, rfl⟩ : ∃ g, f = g + 1 := ⟨f - 1, by omega⟩
    refine ⟨M, ?_, fun _ _ => rfl, fun i _ => ⟨rfl, rfl, rfl⟩, fun i h2 h3 => by omega⟩
    rw [F_shake_F4, w32_of (x := (c : Int) + 1) (by omega) (by omega), w32_of (x := ((c : Int) + 1) * 4) (by omega) (by omega), if_neg (by omega)]
  | succ k ih =>
    intro f v M hf hv h1 hb hy
    obtain ⟨f, rfl⟩ : ∃ g, f = g + 1 := ⟨f - 1, by omega⟩
    have bv := hb v (by omega) (by omega)
    have a0 : 0 ≤ M (b + 5) v * M (p + 6) c := Int.mul_nonneg bv.1 hy.1
    have a1 : M (b + 5) v * M (p + 6) c ≤ M (b + 5) v * 100 := Int.mul_le_mul_of_nonneg_left hy.2 bv.1
    have a2 : Int.tdiv (M (b + 5) v * M (p + 6) c) 100 = (M (b + 5) v * M (p + 6) c) / 100 := Int.tdiv_eq_ediv_of_nonneg a0
    obtain ⟨x, hx⟩ : ∃ x, x = Int.tdiv (M (b + 5) v * M (p + 6) c) 100 := ⟨_, rfl⟩
    have hxx : 0 ≤ x ∧ x ≤ M (b + 5) v := by rw [hx, a2]; omega
    have y4 : ∀ z, xu M (b + 4) v z (b + 6) = M (b + 6) := fun z => xu_cell _ _ _ (by omega)
    have y5 : ∀ z, xu M (b + 4) v z (b + 5) = M (b + 5) := fun z => xu_cell _ _ _ (by omega)
    have y6 : ∀ z, xu M (b + 4) v z (b + 4) v = z := fun z => by rw [xu_at, if_pos rfl]
    rw [F_shake_F4, w32_of (x := (c : Int) + 1) (by omega) (by omega), w32_of (x := ((c : Int) + 1) * 4) (by omega) (by omega), if_pos (by omega), xch_pos (by omega), xch_pos (by omega), xl_eq, xl_eq, xl_eq, xl_eq, r4, r5, r6, p7, Int.toNat_natCast, Int.toNat_natCast, w32_of (x := M (b + 5) v * M (p + 6) c) (by omega) (by omega), ← hx, w32_of (x := x) (by omega) (by omega), y4, y5, y6, w32_of (x := M (b + 5) v - x) (by omega) (by omega), w32_of (x := (v : Int) + 1) (by omega) (by omega), show (v : Int) + 1 = ((v + 1 : Nat) : Int) by omega]
    obtain ⟨N, hN⟩ : ∃ N, N = xu (xu (xu M (b + 4) v x) (b + 6) v (w32 (M (b + 6) v + (M (b + 5) v - x)))) (b + 5) v 0 := ⟨_, rfl⟩
    rw [← hN]
    have n4 : ∀ i, N (b + 4) i = if i = v then x else M (b + 4) i := fun i => by rw [hN, xu_cell _ _ _ (by omega), xu_cell _ _ _ (by omega), xu_at]
    have n5 : ∀ i, N (b + 5) i = if i = v then 0 else M (b + 5) i := fun i => by rw [hN, xu_at, xu_cell _ _ _ (show b + 5 ≠ b + 6 by omega), xu_cell _ _ _ (show b + 5 ≠ b + 4 by omega)]
    have n6 : ∀ i, N (b + 6) i = if i = v then w32 (M (b + 6) v + (M (b + 5) v - x)) else M (b + 6) i := fun i => by rw [hN, xu_cell _ _ _ (by omega), xu_at, xu_cell _ _ _ (show b + 6 ≠ b + 4 by omega)]
    have nO : ∀ z, z ≠ b + 4 → z ≠ b + 5 → z ≠ b + 6 → N z = M z := fun z h1 h2 h3 => by rw [hN, xu_cell _ _ _ h2, xu_cell _ _ _ h3, xu_cell _ _ _ h1]
    have np : N (p + 6) = M (p + 6) := nO _ (by omega) (by omega) (by omega)
    obtain ⟨M', m1, m2, m3, m4⟩ := ih f (v + 1) N (by omega) (by omega) (by omega) (fun i i1 i2 => by rw [n5, if_neg (by omega)]; exact hb i (by omega) i2) (by rw [np]; exact hy)
    refine ⟨M', m1, fun z hz => ?_, fun i hi => ?_, fun i i1 i2 => ?_⟩
    · rw [m2 z hz]
      simp only [List.mem_cons, List.not_mem_nil, or_false, not_or] at hz
      exact nO z hz.1 hz.2.1 hz.2.2
    · have := m3 i (by omega)
      rw [n4, n5, n6, if_neg (by omega), if_neg (by omega), if_neg (by omega)] at this
      exact this
    · by_cases e : i = v
      · have := m3 i (by omega)
        rw [n4, n5, n6, if_pos e, if_pos e, if_pos e] at this
        rw [e] at this ⊢
        rw [← hx]
        exact this
      · have := m4 i (by omega) i2
        rw [n5, n6, if_neg e, if_neg e, np] at this
        exact this
theorem hold_eq {R : xR} {b : Nat} (hF : FlR R b) {i : Nat} (hi : i < 32) {u k : Int} {M : xM} (h2 : 0 ≤ M (b + 2) i ∧ M (b + 2) i ≤ 2000000) (h5 : 0 ≤ M (b + 5) i ∧ M (b + 5) i ≤ 2000000) (h7 : 0 ≤ M (b + 7) i ∧ M (b + 7) i < 100) (hu : 0 ≤ u ∧ u ≤ 100) :
    ∃ M', f_F_hold R b (i : Int) u k M = some M' ∧ Fr [b + 3, b + 5, b + 6, b + 7] M M' ∧ (∀ j, j ≠ i → M' (b + 3) j = M (b + 3) j ∧ M' (b + 5) j = M (b + 5) j ∧ M' (b + 6) j = M (b + 6) j ∧ M' (b + 7) j = M (b + 7) j) ∧ M' (b + 3) i = Int.tdiv (M (b + 2) i * u + M (b + 7) i) 100 ∧ M' (b + 7) i = Int.tmod (M (b + 2) i * u + M (b + 7) i) 100 ∧ M' (b + 5) i = (if k = 0 then M (b + 5) i else M (b + 5) i + Int.tdiv (M (b + 2) i * u + M (b + 7) i) 100) ∧ M' (b + 6) i = (if k = 0 then w32 (M (b + 6) i + Int.tdiv (M (b + 2) i * u + M (b + 7) i) 100) else M (b + 6) i) := by
  have r2 := hF.2.1
  have r3 := hF.2.2.1
  have r5 := hF.2.2.2.2.1
  have r6 := hF.2.2.2.2.2.1
  have r7 := hF.2.2.2.2.2.2.1
  have a0 : 0 ≤ M (b + 2) i * u := Int.mul_nonneg h2.1 hu.1
  have a1 : M (b + 2) i * u ≤ M (b + 2) i * 100 := Int.mul_le_mul_of_nonneg_left hu.2 h2.1
  obtain ⟨x, hx⟩ : ∃ x, x = Int.tdiv (M (b + 2) i * u + M (b + 7) i) 100 := ⟨_, rfl⟩
  obtain ⟨y, hy⟩ : ∃ y, y = Int.tmod (M (b + 2) i * u + M (b + 7) i) 100 := ⟨_, rfl⟩
  have hxx : 0 ≤ x ∧ x ≤ 2000000 := by rw [hx, Int.tdiv_eq_ediv_of_nonneg (by omega)]; omega
  have g1 : ∀ z w, xu (xu M (b + 3) i z) (b + 7) i w (b + 6) i = M (b + 6) i := fun z w => by rw [xu_cell _ _ _ (by omega), xu_cell _ _ _ (by omega)]
  have g2 : ∀ z w, xu (xu M (b + 3) i z) (b + 7) i w (b + 5) i = M (b + 5) i := fun z w => by rw [xu_cell _ _ _ (by omega), xu_cell _ _ _ (by omega)]
  have g3 : ∀ z w, xu (xu M (b + 3) i z) (b + 7) i w (b + 3) i = z := fun z w => by rw [xu_cell _ _ _ (by omega), xu_at, if_pos rfl]
  unfold f_F_hold
  rw [xch_pos (by omega), xl_eq, xl_eq, xl_eq, xl_eq, xl_eq, r2, r3, r5, r6, r7, Int.toNat_natCast, w32_of (x := M (b + 2) i * u) (by omega) (by omega), w32_of (x := M (b + 2) i * u + M (b + 7) i) (by omega) (by omega), ← hx, ← hy, w32_of (x := x) (by omega) (by omega), g1, g2, g3, w32_of (x := M (b + 5) i + x) (by omega) (by omega)]
  by_cases z : k = 0
  · rw [if_pos z, if_pos z, if_pos z]
    refine ⟨_, rfl, fun c hc => ?_, fun j hj => ⟨?_, ?_, ?_, ?_⟩, ?_, ?_, ?_, ?_⟩
    · simp only [List.mem_cons, List.not_mem_nil, or_false, not_or] at hc
      rw [xu_cell _ _ _ (by omega), xu_cell _ _ _ (by omega), xu_cell _ _ _ (by omega)]
    · rw [xu_cell _ _ _ (by omega), xu_cell _ _ _ (by omega), xu_at, if_neg hj]
    · rw [xu_cell _ _ _ (by omega), xu_cell _ _ _ (by omega), xu_cell _ _ _ (by omega)]
    · rw [xu_at, if_neg hj, xu_cell _ _ _ (by omega), xu_cell _ _ _ (by omega)]
    · rw [xu_cell _ _ _ (by omega), xu_at, if_neg hj, xu_cell _ _ _ (by omega)]
    · rw [xu_cell _ _ _ (by omega), xu_cell _ _ _ (by omega), xu_at, if_pos rfl]
    · rw [xu_cell _ _ _ (by omega), xu_at, if_pos rfl]
    · rw [xu_cell _ _ _ (by omega), g2]
    · rw [xu_at, if_pos rfl]
  · rw [if_neg z, if_neg z, if_neg z]
    refine ⟨_, rfl, fun c hc => ?_, fun j hj => ⟨?_, ?_, ?_, ?_⟩, ?_, ?_, ?_, ?_⟩
    · simp only [List.mem_cons, List.not_mem_nil, or_false, not_or] at hc
      rw [xu_cell _ _ _ (by omega), xu_cell _ _ _ (by omega), xu_cell _ _ _ (by omega)]
    · rw [xu_cell _ _ _ (by omega), xu_cell _ _ _ (by omega), xu_at, if_neg hj]
    · rw [xu_at, if_neg hj, xu_cell _ _ _ (by omega), xu_cell _ _ _ (by omega)]
    · rw [xu_cell _ _ _ (by omega), xu_cell _ _ _ (by omega), xu_cell _ _ _ (by omega)]
    · rw [xu_cell _ _ _ (by omega), xu_at, if_neg hj, xu_cell _ _ _ (by omega)]
    · rw [xu_cell _ _ _ (by omega), xu_cell _ _ _ (by omega), xu_at, if_pos rfl]
    · rw [xu_cell _ _ _ (by omega), xu_at, if_pos rfl]
    · rw [xu_at, if_pos rfl]
    · rw [xu_cell _ _ _ (by omega), g1]
/-- what the places of cleaner c have become: by u held -/
def HdB (b : Nat) (M M' : xM) (k : Int) (u : Int) (i : Nat) : Prop := M' (b + 3) i = Int.tdiv (M (b + 2) i * u + M (b + 7) i) 100 ∧ M' (b + 7) i = Int.tmod (M (b + 2) i * u + M (b + 7) i) 100 ∧ M' (b + 5) i = (if k = 0 then M (b + 5) i else M (b + 5) i + Int.tdiv (M (b + 2) i * u + M (b + 7) i) 100) ∧ M' (b + 6) i = (if k = 0 then w32 (M (b + 6) i + Int.tdiv (M (b + 2) i * u + M (b + 7) i) 100) else M (b + 6) i)
theorem clean_F128 {R : xR} {b p : Nat} (hF : FlR R b) (hP : PnR R p) (hne : p + 11 < b) {c : Nat} (hc : c < 8) {v8 v9 v10 v11 : Int} (h10 : 0 ≤ v10 ∧ v10 ≤ 100000) {u : Nat → Int} (hu : ∀ s, s < 4 → 0 ≤ u (4 * c + s) ∧ u (4 * c + s) ≤ 100) : ∀ (k f v : Nat) (M : xM), k < f → v + k = 4 * c + 4 → 4 * c ≤ v → (∀ i, v ≤ i → i < 4 * c + 4 → (0 ≤ M (b + 2) i ∧ M (b + 2) i ≤ 2000000) ∧ (0 ≤ M (b + 5) i ∧ M (b + 5) i ≤ 2000000) ∧ (0 ≤ M (b + 7) i ∧ M (b + 7) i < 100) ∧ (0 ≤ M (p + 4) i ∧ M (p + 4) i ≤ 100)) →
    (∀ i, v ≤ i → i < 4 * c + 4 → u i = if v8 = 0 then (if v9 = 0 then xmax 0 (M (p + 4) i - v10) else Int.tdiv (M (p + 4) i) 2) else 0) →
    ∃ M', F_clean_F128 R b p (c : Int) f v8 v9 v10 v11 (v : Int) M = some M' ∧ Fr [b + 3, b + 5, b + 6, b + 7] M M' ∧ (∀ i, (¬ (v ≤ i ∧ i < 4 * c + 4)) → M' (b + 3) i = M (b + 3) i ∧ M' (b + 5) i = M (b + 5) i ∧ M' (b + 6) i = M (b + 6) i ∧ M' (b + 7) i = M (b + 7) i) ∧ ∀ i, v ≤ i → i < 4 * c + 4 → HdB b M M' v11 (u i) i := by
  have p5 : R p 5 = p + 4 := hP 5 (by decide) (by decide)
  intro k
  induction k with
  | zero =>
    intro f v M hf hv h1 _ _
    obtain ⟨f, rfl⟩ : ∃ g, f = g + 1 := ⟨f - 1, by omega⟩
    refine ⟨M, ?_, fun _ _ => rfl, fun i _ => ⟨rfl, rfl, rfl, rfl⟩, fun i h2 h3 => by omega⟩
    rw [F_clean_F128, w32_of (x := (c : Int) + 1) (by omega) (by omega), w32_of (x := ((c : Int) + 1) * 4) (by omega) (by omega), if_neg (by omega)]
  | succ k ih =>
    intro f v M hf hv h1 hb hui
    obtain ⟨f, rfl⟩ : ∃ g, f = g + 1 := ⟨f - 1, by omega⟩
    obtain ⟨b2, b5, b7, b4⟩ := hb v (by omega) (by omega)
    have huv := hui v (by omega) (by omega)
    have hub : 0 ≤ u v ∧ u v ≤ 100 := by
      have := hu (v - 4 * c) (by omega)
      rw [show 4 * c + (v - 4 * c) = v by omega] at this
      exact this
    obtain ⟨N, n1, n2, n3, n4⟩ := hold_eq hF (show v < 32 by omega) (u := u v) (k := v11) b2 b5 b7 hub
    have hd2 : w32 (Int.tdiv (M (p + 4) v) 2) = Int.tdiv (M (p + 4) v) 2 := by
      have : Int.tdiv (M (p + 4) v) 2 = M (p + 4) v / 2 := Int.tdiv_eq_ediv_of_nonneg b4.1
      rw [this, w32_of (by omega) (by omega)]
    have J : F_clean_F128 R b p (c : Int) (f + 1) v8 v9 v10 v11 (v : Int) M = F_clean_F128 R b p (c : Int) f v8 v9 v10 v11 ((v + 1 : Nat) : Int) N := by
      have J2 : ∀ x, x = u v → F_clean_J185 R b p (c : Int) (F_clean_F128 R b p (c : Int) f) v8 v9 v10 v11 (v : Int) x (v : Int) b M = F_clean_F128 R b p (c : Int) f v8 v9 v10 v11 ((v + 1 : Nat) : Int) N := by
        intro x hx
        unfold F_clean_J185
        rw [hx, n1, xb1_some, xl_eq, w32_of (x := (v : Int) + 1) (by omega) (by omega)]
        rfl
      rw [F_clean_F128, w32_of (x := (c : Int) + 1) (by omega) (by omega), w32_of (x := ((c : Int) + 1) * 4) (by omega) (by omega), if_pos (by omega), p5, Int.toNat_natCast, hd2, w32_of (x := M (p + 4) v - v10) (by omega) (by omega), xch_pos (by omega), xch_pos (by omega)]
      unfold F_clean_J169
      by_cases z9 : v9 = 0
      · rw [if_pos z9]
        rw [if_pos z9] at huv
        by_cases z8 : v8 = 0
        · rw [if_pos z8]
          rw [if_pos z8] at huv
          exact J2 _ huv.symm
        · rw [if_neg z8]
          rw [if_neg z8] at huv
          exact J2 _ huv.symm
      · rw [if_neg z9]
        rw [if_neg z9] at huv
        by_cases z8 : v8 = 0
        · rw [if_pos z8]
          rw [if_pos z8] at huv
          exact J2 _ huv.symm
        · rw [if_neg z8]
          rw [if_neg z8] at huv
          exact J2 _ huv.symm
    have nO : ∀ z, z ≠ b + 3 → z ≠ b + 5 → z ≠ b + 6 → z ≠ b + 7 → N z = M z := fun z h1 h2 h3 h4 => n2 z (by simp only [List.mem_cons, List.not_mem_nil, or_false, not_or]; exact ⟨h1, h2, h3, h4⟩)
    have x2 : N (b + 2) = M (b + 2) := nO _ (by omega) (by omega) (by omega) (by omega)
    have x4 : N (p + 4) = M (p + 4) := nO _ (by omega) (by omega) (by omega) (by omega)
    obtain ⟨M', m1, m2, m3, m4⟩ := ih f (v + 1) N (by omega) (by omega) (by omega) (fun i i1 i2 => by
      have := n3 i (by omega)
      rw [x2, x4, this.2.1, this.2.2.2]
      exact hb i (by omega) i2) (fun i i1 i2 => by rw [x4]; exact hui i (by omega) i2)
    refine ⟨M', J.trans m1, fun z hz => (m2 z hz).trans (n2 z hz), fun i hi => ?_, fun i i1 i2 => ?_⟩
    · have a := m3 i (by omega)
      have d := n3 i (by omega)
      rw [a.1, a.2.1, a.2.2.1, a.2.2.2]
      exact d
    · by_cases e : i = v
      · have a := m3 i (by omega)
        unfold HdB
        rw [a.1, a.2.1, a.2.2.1, a.2.2.2, e]
        exact n4
      · have a := m4 i (by omega) i2
        have d := n3 i e
        unfold HdB at a ⊢
        rw [x2, d.2.1, d.2.2.1, d.2.2.2] at a
        exact a
