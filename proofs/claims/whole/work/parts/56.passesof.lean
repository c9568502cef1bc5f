theorem passesOf_F24 {R : xR} {pn ps ln ls : Nat} (hR : RG R pn ps ln ls) {L j : Nat} (hj : j < 4) (q : Int → Int → xM → Option (Int × xM)) (s : Int) : ∀ (k f v : Nat) (M : xM), k < f → v + k = L → RoB (M 94) (M 97) L → 0 ≤ M 96 j → M 96 j ≤ 9999 → P_passesOf_F24 R 93 (L : Int) q f s (j : Int) (v : Int) M = q s (j : Int) (xu M 96 j (psl (M 94) (M 97) j k v (M 96 j))) := by
  have r0 : R 93 0 = 94 := by rw [hR.at 93 0 (by decide) (by decide)]; exact xR0_ro.1.1
  have r2 : R 93 2 = 96 := by rw [hR.at 93 2 (by decide) (by decide)]; exact xR0_ro.1.2.2.1
  have r3 : R 93 3 = 97 := by rw [hR.at 93 3 (by decide) (by decide)]; exact xR0_ro.1.2.2.2.1
  intro k
  induction k with
  | zero =>
    intro f v M hf hv _ _ _
    obtain ⟨f, rfl⟩ : ∃ g, f = g + 1 := ⟨f - 1, by omega⟩
    rw [P_passesOf_F24, if_neg (by omega)]
    have e : xu M 96 j (psl (M 94) (M 97) j 0 v (M 96 j)) = M := by
      funext x y
      unfold xu psl
      by_cases h : x = 96 ∧ y = j
      · simp [h]
      · simp [h]
    rw [e]
  | succ k ih =>
    intro f v M hf hv hB h0 h1
    obtain ⟨f, rfl⟩ : ∃ g, f = g + 1 := ⟨f - 1, by omega⟩
    have hL := hB.1
    have a := hB.2 v (by omega)
    have b := a.2.2 j hj
    have c := part_le h0 h1 b.1 b.2
    rw [P_passesOf_F24, if_pos (by omega), xch_pos (by omega), xch_pos (by omega), r0, r2, r3, Int.toNat_natCast, Int.toNat_natCast, w32_of (x := M 97 v * 5) (by omega) (by omega), w32_of (x := M 97 v * 5 + (j : Int)) (by omega) (by omega), xch_pos (by omega), show (M 97 v * 5 + (j : Int)).toNat = 5 * (M 97 v).toNat + j by omega, xl_eq, xl_eq, w32_of (x := M 96 j * M 94 (5 * (M 97 v).toNat + j)) (by omega) (by omega), w32_of (x := Int.tdiv (M 96 j * M 94 (5 * (M 97 v).toNat + j)) 100) (by omega) (by omega), w32_of (x := M 96 j - Int.tdiv (M 96 j * M 94 (5 * (M 97 v).toNat + j)) 100) (by omega) (by omega), w32_of (x := (v : Int) + 1) (by omega) (by omega), show (v : Int) + 1 = ((v + 1 : Nat) : Int) by omega]
    have oc : ∀ w x, x ≠ 96 → xu M 96 j w x = M x := fun w x hx => xu_cell _ _ _ hx
    have o6 : ∀ w, xu M 96 j w 96 j = w := fun w => by rw [xu_at, if_pos rfl]
    rw [ih f (v + 1) _ (by omega) (by omega) (by rw [oc _ _ (by decide), oc _ _ (by decide)]; exact hB) (by rw [o6]; omega) (by rw [o6]; omega), o6, oc _ _ (by decide), oc _ _ (by decide), xu_xu]
    rfl
theorem passesOf_F4 {R : xR} {pn ps ln ls : Nat} (hR : RG R pn ps ln ls) {L : Nat} : ∀ (k f j : Nat) (s : Int) (M : xM), k < f → j + k = 4 → RoB (M 94) (M 97) L → (∀ j, j < 4 → 0 ≤ M 95 j ∧ M 95 j ≤ 9999) → 0 ≤ s → s ≤ 9999 * j → ∃ g, P_passesOf_F4 R 93 (L : Int) f s (j : Int) M = some (pss (M 94) (M 97) (M 95) L k j s, xrow M 96 g) := by
  have r1 : R 93 1 = 95 := by rw [hR.at 93 1 (by decide) (by decide)]; exact xR0_ro.1.2.1
  have r2 : R 93 2 = 96 := by rw [hR.at 93 2 (by decide) (by decide)]; exact xR0_ro.1.2.2.1
  intro k
  induction k with
  | zero =>
    intro f j s M hf hj _ _ _ _
    obtain ⟨f, rfl⟩ : ∃ g, f = g + 1 := ⟨f - 1, by omega⟩
    refine ⟨M 96, ?_⟩
    rw [P_passesOf_F4, if_neg (by omega), xrow_self]
    rfl
  | succ k ih =>
    intro f j s M hf hj hB hp s0 s1
    obtain ⟨f, rfl⟩ : ∃ g, f = g + 1 := ⟨f - 1, by omega⟩
    have hL := hB.1
    have p := hp j (by omega)
    have c := psl_le hB (j := j) (by omega) L 0 (M 95 j) (by omega) p.1 p.2
    have oc : ∀ w x, x ≠ 96 → xu M 96 j w x = M x := fun w x hx => xu_cell _ _ _ hx
    have o6 : ∀ w, xu M 96 j w 96 j = w := fun w => by rw [xu_at, if_pos rfl]
    rw [P_passesOf_F4, if_pos (by omega), xch_pos (by omega), r1, r2, Int.toNat_natCast, xl_eq]
    have e := passesOf_F24 hR (L := L) (j := j) (by omega) (fun (v2_10 : Int) (v3_11 : Int) (M_12 : xM) =>
          xch (0 ≤ v3_11 ∧ v3_11 < 4) <|
          xl (w32 (v2_10 + (M_12 96 (Int.toNat v3_11)))) fun v2_14 =>
          xl (w32 (v3_11 + 1)) fun v3_15 =>
          P_passesOf_F4 R 93 (L : Int)  f v2_14 v3_15 M_12) s L xfu 0 (xu M 96 j (M 95 j)) (by have : xfu = 1000000 := rfl; omega) (by omega) (by rw [oc _ _ (by decide), oc _ _ (by decide)]; exact hB) (by rw [o6]; exact p.1) (by rw [o6]; exact p.2)
    rw [show ((0 : Nat) : Int) = 0 from rfl, o6, oc _ _ (by decide), oc _ _ (by decide), xu_xu] at e
    rw [e, xch_pos (by omega), xl_eq, xl_eq, Int.toNat_natCast, o6, w32_of (x := s + psl (M 94) (M 97) j L 0 (M 95 j)) (by omega) (by omega), w32_of (x := (j : Int) + 1) (by omega) (by omega), show (j : Int) + 1 = ((j + 1 : Nat) : Int) by omega]
    obtain ⟨g, hg⟩ := ih f (j + 1) (s + psl (M 94) (M 97) j L 0 (M 95 j)) (xu M 96 j (psl (M 94) (M 97) j L 0 (M 95 j))) (by omega) (by omega) (by rw [oc _ _ (by decide), oc _ _ (by decide)]; exact hB) (by rw [oc _ _ (by decide)]; exact hp) (by omega) (by omega)
    refine ⟨g, ?_⟩
    rw [hg, xrow_xu, oc _ _ (by decide), oc _ _ (by decide), oc _ _ (by decide)]
    rfl
