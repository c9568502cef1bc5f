/-! ===== gathering, in the class ===== -/
theorem fold_cg {M N : xM} (h2 : N 52 = M 52) (h3 : N 53 = M 53) (h4 : N 54 = M 54) (h5 : N 55 = M 55) (h6 : N 56 = M 56) (h8 : N 48 11 = M 48 11) (c h : Int) : ∀ k, knF N c h k = knF M c h k ∧ ofF N c h k = ofF M c h k ∧ hoF N c h k = hoF M c h k := by
  intro k
  induction k with
  | zero => exact ⟨rfl, rfl, rfl⟩
  | succ k ih =>
    unfold knF ofF hoF
    rw [h2, h3, h4, h5, h6, h8, ih.1, ih.2.1, ih.2.2]
    exact ⟨rfl, rfl, rfl⟩
theorem RG.bke {R : xR} {pn ps ln ls : Nat} (h : RG R pn ps ln ls) : R 48 1 = 49 ∧ R 48 2 = 50 ∧ R 48 3 = 51 ∧ R 48 5 = 52 ∧ R 48 6 = 53 ∧ R 48 7 = 54 ∧ R 48 8 = 55 ∧ R 48 9 = 56 := by
  have e := xR0_bk
  exact ⟨by rw [h.at 48 1 (by decide) (by decide)]; exact e.1, by rw [h.at 48 2 (by decide) (by decide)]; exact e.2.1, by rw [h.at 48 3 (by decide) (by decide)]; exact e.2.2.1, by rw [h.at 48 5 (by decide) (by decide)]; exact e.2.2.2.1, by rw [h.at 48 6 (by decide) (by decide)]; exact e.2.2.2.2.1, by rw [h.at 48 7 (by decide) (by decide)]; exact e.2.2.2.2.2.1, by rw [h.at 48 8 (by decide) (by decide)]; exact e.2.2.2.2.2.2.1, by rw [h.at 48 9 (by decide) (by decide)]; exact e.2.2.2.2.2.2.2.1⟩
theorem gather_F34 {R : xR} {pn ps ln ls : Nat} (hR : RG R pn ps ln ls) (Q : xM → Option xM) : ∀ (k f v : Nat) (M : xM), k < f → v + k = (M 48 0).toNat → BcOK M → RowOK M → (∀ i : Nat, i < 768 → M 58 i = dstF (M 49) (M 50) (M 51) (M 48 11) v (i : Int)) →
    ∃ M', B_gather_F34 R 48 Q f (v : Int) M = Q M' ∧ Fr [58] M M' ∧ ∀ i : Nat, i < 768 → M' 58 i = dstF (M 49) (M 50) (M 51) (M 48 11) (M 48 0).toNat (i : Int) := by
  obtain ⟨r1, r2, r3, -⟩ := hR.bke
  have r14 := hR.bk.2.1
  intro k
  induction k with
  | zero =>
    intro f v M hf hv hB hr hM
    obtain ⟨f, rfl⟩ : ∃ g, f = g + 1 := ⟨f - 1, by omega⟩
    have e : v = (M 48 0).toNat := by omega
    refine ⟨M, ?_, fun _ _ => rfl, by rw [← e]; exact hM⟩
    rw [B_gather_F34, if_neg (by have := hB.1; omega)]
  | succ k ih =>
    intro f v M hf hv hB hr hM
    obtain ⟨f, rfl⟩ : ∃ g, f = g + 1 := ⟨f - 1, by omega⟩
    have b1 := hB.1
    obtain ⟨a1, a2, a3, a4, a5, a6, a7⟩ := hr v (by omega)
    have J : ∀ X, B_gather_J72 R 48 (B_gather_F34 R 48 Q f) Q (v : Int) X = B_gather_F34 R 48 Q f ((v + 1 : Nat) : Int) X := by
      intro X
      unfold B_gather_J72
      rw [xl_eq, w32_of (x := (v : Int) + 1) (by omega) (by omega)]
      rfl
    rw [B_gather_F34, if_pos (by omega), xch_pos (by omega), r1, r2, r3, r14, Int.toNat_natCast, J]
    by_cases z : M 48 11 < M 51 v
    · rw [if_pos z]
      exact ih f (v + 1) M (by omega) (by omega) hB hr (fun i hi => by rw [dst_st, if_neg (by omega)]; exact hM i hi)
    · rw [if_neg z, xch_pos (by omega), xl_eq, J]
      obtain ⟨N, hN⟩ : ∃ N, N = xu M 58 (M 49 v).toNat (M 50 v) := ⟨_, rfl⟩
      rw [← hN]
      have nO : ∀ x, x ≠ 58 → N x = M x := fun x hx => by rw [hN, xu_cell _ _ _ hx]
      have n48 := nO 48 (by decide)
      obtain ⟨M', m1, m2, m3⟩ := ih f (v + 1) N (by omega) (by rw [n48]; omega) (by unfold BcOK; rw [n48, nO 104 (by decide)]; exact hB) (by unfold RowOK; rw [n48, nO 144 (by decide), nO 145 (by decide), nO 146 (by decide), nO 49 (by decide), nO 147 (by decide), nO 50 (by decide), nO 148 (by decide), nO 51 (by decide)]; exact hr) (fun i hi => by
        rw [nO 49 (by decide), nO 50 (by decide), nO 51 (by decide), n48, dst_st, hN, xu_at]
        by_cases y : i = (M 49 v).toNat
        · rw [if_pos y, if_pos (by omega)]
        · rw [if_neg y, if_neg (by omega)]
          exact hM i hi)
      rw [nO 49 (by decide), nO 50 (by decide), nO 51 (by decide), n48] at m3
      refine ⟨M', m1, fun x hx => ?_, m3⟩
      rw [m2 x hx, nO x (by simpa using hx)]
/-- a row of bits -/
def Bts (M : xM) (x : Nat) (P : Nat → Nat → Prop) : Prop := ∀ c, c < 8 → ∃ u : Nat, u < 2 ^ 48 ∧ M x c = (u : Int) ∧ ∀ h, h < 48 → (u.testBit h = true ↔ P c h)
theorem gev_F27 {R : xR} {pn ps ln ls : Nat} (hR : RG R pn ps ln ls) {c m : Nat} (hc : c < 8) (hm : m < 48) : ∀ (k f v : Nat) (M : xM) (P : Nat → Nat → Prop), k < f → v + k = m + 1 → Bts M 60 P →
    ∃ M', B_gatherEvent_F27 R 48 (c : Int) (m : Int) f (v : Int) M = some M' ∧ Fr [60] M M' ∧ Bts M' 60 (fun c' h => P c' h ∨ (c' = c ∧ v ≤ h ∧ h ≤ m)) := by
  have r16 := hR.bk.2.2.2.1
  intro k
  induction k with
  | zero =>
    intro f v M P hf hv hP
    obtain ⟨f, rfl⟩ : ∃ g, f = g + 1 := ⟨f - 1, by omega⟩
    refine ⟨M, ?_, fun _ _ => rfl, fun c' hc' => ?_⟩
    · rw [B_gatherEvent_F27, if_pos (by omega)]
    · obtain ⟨u, u1, u2, u3⟩ := hP c' hc'
      exact ⟨u, u1, u2, fun h hh => (u3 h hh).trans ⟨Or.inl, fun y => y.elim id fun y => by omega⟩⟩
  | succ k ih =>
    intro f v M P hf hv hP
    obtain ⟨f, rfl⟩ : ∃ g, f = g + 1 := ⟨f - 1, by omega⟩
    obtain ⟨u, u1, u2, u3⟩ := hP c hc
    obtain ⟨w, w1, w2, w3⟩ := yset u1 (show v < 48 by omega)
    rw [B_gatherEvent_F27, if_neg (by omega), if_pos (by omega), xch_pos (by omega), xl_eq, xl_eq, r16, Int.toNat_natCast, u2, w2, w32_of (x := (v : Int) + 1) (by omega) (by omega), show (v : Int) + 1 = ((v + 1 : Nat) : Int) by omega]
    have nP : Bts (xu M 60 c (w : Int)) 60 (fun c' h => P c' h ∨ (c' = c ∧ h = v)) := by
      intro c' hc'
      by_cases y : c' = c
      · refine ⟨w, w1, by rw [xu_at, if_pos y], fun h hh => ?_⟩
        rw [w3, u3 h hh, y]
        exact ⟨fun z => z.imp id fun z => ⟨rfl, z⟩, fun z => z.imp id fun z => z.2⟩
      · obtain ⟨t, t1, t2, t3⟩ := hP c' hc'
        refine ⟨t, t1, by rw [xu_at, if_neg y, t2], fun h hh => ?_⟩
        rw [t3 h hh]
        exact ⟨Or.inl, fun z => z.elim id fun z => absurd z.1 y⟩
    obtain ⟨M', m1, m2, m3⟩ := ih f (v + 1) _ _ (by omega) (by omega) nP
    refine ⟨M', m1, fun x hx => ?_, fun c' hc' => ?_⟩
    · rw [m2 x hx, xu_cell _ _ _ (by simpa using hx)]
    · obtain ⟨t, t1, t2, t3⟩ := m3 c' hc'
      refine ⟨t, t1, t2, fun h hh => (t3 h hh).trans ⟨?_, ?_⟩⟩
      · rintro ((z | ⟨z1, z2⟩) | ⟨z1, z2, z3⟩)
        · exact Or.inl z
        · exact Or.inr ⟨z1, by omega, by omega⟩
        · exact Or.inr ⟨z1, by omega, z3⟩
      · rintro (z | ⟨z1, z2, z3⟩)
        · exact Or.inl (Or.inl z)
        · by_cases y : h = v
          · exact Or.inl (Or.inr ⟨z1, y⟩)
          · exact Or.inr ⟨z1, by omega, z3⟩
theorem gev_F66 {R : xR} {pn ps ln ls : Nat} (hR : RG R pn ps ln ls) {c : Nat} {m : Int} (hc : c < 8) (hm : 0 ≤ m ∧ m ≤ 100) : ∀ (k f v : Nat) (M : xM), k < f → v + k = 48 → (∀ i, i < 384 → 0 ≤ M 61 i ∧ M 61 i ≤ 10000) →
    ∃ M', B_gatherEvent_F66 R 48 (c : Int) m f (v : Int) M = some M' ∧ Fr [61] M M' ∧ ∀ i, M' 61 i = if 48 * c + v ≤ i ∧ i < 48 * c + 48 then M 61 i + m else M 61 i := by
  have r17 := hR.bk.2.2.2.2
  intro k
  induction k with
  | zero =>
    intro f v M hf hv hP
    obtain ⟨f, rfl⟩ : ∃ g, f = g + 1 := ⟨f - 1, by omega⟩
    refine ⟨M, ?_, fun _ _ => rfl, fun i => by rw [if_neg (by omega)]⟩
    rw [B_gatherEvent_F66, if_neg (by omega)]
  | succ k ih =>
    intro f v M hf hv hP
    obtain ⟨f, rfl⟩ : ∃ g, f = g + 1 := ⟨f - 1, by omega⟩
    have hpv := hP (48 * c + v) (by omega)
    rw [B_gatherEvent_F66, if_pos (by omega), w32_of (x := (c : Int) * 48) (by omega) (by omega), w32_of (x := (c : Int) * 48 + (v : Int)) (by omega) (by omega), xch_pos (by omega), xl_eq, xl_eq, r17, show ((c : Int) * 48 + (v : Int)).toNat = 48 * c + v by omega, w32_of (x := M 61 (48 * c + v) + m) (by omega) (by omega), w32_of (x := (v : Int) + 1) (by omega) (by omega), show (v : Int) + 1 = ((v + 1 : Nat) : Int) by omega]
    -- the place v is changed first; the bound of the others stays
    have key : ∀ (k f v : Nat) (M : xM), k < f → v + k = 48 → (∀ i, 48 * c + v ≤ i → i < 48 * c + 48 → 0 ≤ M 61 i ∧ M 61 i ≤ 10000) → ∃ M', B_gatherEvent_F66 R 48 (c : Int) m f (v : Int) M = some M' ∧ Fr [61] M M' ∧ ∀ i, M' 61 i = if 48 * c + v ≤ i ∧ i < 48 * c + 48 then M 61 i + m else M 61 i := by
      intro k
      induction k with
      | zero =>
        intro f v M hf hv hP
        obtain ⟨f, rfl⟩ : ∃ g, f = g + 1 := ⟨f - 1, by omega⟩
        refine ⟨M, ?_, fun _ _ => rfl, fun i => by rw [if_neg (by omega)]⟩
        rw [B_gatherEvent_F66, if_neg (by omega)]
      | succ k ih2 =>
        intro f v M hf hv hP
        obtain ⟨f, rfl⟩ : ∃ g, f = g + 1 := ⟨f - 1, by omega⟩
        have hpv := hP (48 * c + v) (by omega) (by omega)
        rw [B_gatherEvent_F66, if_pos (by omega), w32_of (x := (c : Int) * 48) (by omega) (by omega), w32_of (x := (c : Int) * 48 + (v : Int)) (by omega) (by omega), xch_pos (by omega), xl_eq, xl_eq, r17, show ((c : Int) * 48 + (v : Int)).toNat = 48 * c + v by omega, w32_of (x := M 61 (48 * c + v) + m) (by omega) (by omega), w32_of (x := (v : Int) + 1) (by omega) (by omega), show (v : Int) + 1 = ((v + 1 : Nat) : Int) by omega]
        obtain ⟨M', m1, m2, m3⟩ := ih2 f (v + 1) (xu M 61 (48 * c + v) (M 61 (48 * c + v) + m)) (by omega) (by omega) (fun i i1 i2 => by rw [xu_at, if_neg (by omega)]; exact hP i (by omega) i2)
        refine ⟨M', m1, fun x hx => ?_, fun i => ?_⟩
        · rw [m2 x hx, xu_cell _ _ _ (by simpa using hx)]
        · rw [m3 i, xu_at]
          by_cases z : i = 48 * c + v
          · rw [if_neg (by omega), if_pos z, if_pos (by omega), z]
          · rw [if_neg z]
            by_cases y : 48 * c + v ≤ i ∧ i < 48 * c + 48
            · rw [if_pos (by omega), if_pos y]
            · rw [if_neg (by omega), if_neg y]
    obtain ⟨M', m1, m2, m3⟩ := key k f (v + 1) (xu M 61 (48 * c + v) (M 61 (48 * c + v) + m)) (by omega) (by omega) (fun i i1 i2 => by rw [xu_at, if_neg (by omega)]; exact hP i (by omega))
    refine ⟨M', m1, fun x hx => ?_, fun i => ?_⟩
    · rw [m2 x hx, xu_cell _ _ _ (by simpa using hx)]
    · rw [m3 i, xu_at]
      by_cases z : i = 48 * c + v
      · rw [if_neg (by omega), if_pos z, if_pos (by omega), z]
      · rw [if_neg z]
        by_cases y : 48 * c + v ≤ i ∧ i < 48 * c + 48
        · rw [if_pos (by omega), if_pos y]
        · rw [if_neg (by omega), if_neg y]
/-- what is gathered of the first v events -/
def GaE (M : xM) (v : Nat) : Prop := Bts M 59 (fun c h => knF M c h v = 1) ∧ Bts M 60 (fun c h => ofF M c h v = 1) ∧ ∀ i : Nat, i < 384 → M 61 i = hoF M ((i / 48 : Nat) : Int) ((i % 48 : Nat) : Int) v
theorem gather_F80 {R : xR} {pn ps ln ls : Nat} (hR : RG R pn ps ln ls) {p : Nat} (hp : p + 11 < 48) (Q : xM → Option xM) : ∀ (k f v : Nat) (M : xM), k < f → v + k = (M 48 4).toNat → BcOK M → EvOK p M → M p 0 ≤ 8 → GaE M v →
    ∃ M', B_gather_F80 R 48 Q f (v : Int) M = Q M' ∧ Fr [59, 60, 61] M M' ∧ GaE M' (M 48 4).toNat := by
  obtain ⟨-, -, -, r5, r6, r7, r8, r9⟩ := hR.bke
  have r15 := hR.bk.2.2.1
  intro k
  induction k with
  | zero =>
    intro f v M hf hv hB he h8 hG
    obtain ⟨f, rfl⟩ : ∃ g, f = g + 1 := ⟨f - 1, by omega⟩
    have e : v = (M 48 4).toNat := by omega
    refine ⟨M, ?_, fun _ _ => rfl, by rw [← e]; exact hG⟩
    rw [B_gather_F80, if_neg (by have := hB.2.1; omega)]
  | succ k ih =>
    intro f v M hf hv hB he h8 hG
    obtain ⟨f, rfl⟩ : ∃ g, f = g + 1 := ⟨f - 1, by omega⟩
    have b2 := hB.2.1
    obtain ⟨-, a2, a3, a4⟩ := he v (by omega)
    have J : ∀ X, B_gather_J129 R 48 (B_gather_F80 R 48 Q f) Q (v : Int) X = B_gather_F80 R 48 Q f ((v + 1 : Nat) : Int) X := by
      intro X
      unfold B_gather_J129
      rw [xl_eq, w32_of (x := (v : Int) + 1) (by omega) (by omega)]
      rfl
    -- the way on
    have go : ∀ X, Fr [59, 60, 61] M X → GaE X (v + 1) → ∃ M', B_gather_F80 R 48 Q f ((v + 1 : Nat) : Int) X = Q M' ∧ Fr [59, 60, 61] M M' ∧ GaE M' (M 48 4).toNat := by
      intro X hX hGX
      have xO : ∀ x, x ≠ 59 → x ≠ 60 → x ≠ 61 → X x = M x := fun x h1 h2 h3 => hX x (by simp only [List.mem_cons, List.not_mem_nil, or_false, not_or]; exact ⟨h1, h2, h3⟩)
      have x48 := xO 48 (by decide) (by decide) (by decide)
      obtain ⟨M', m1, m2, m3⟩ := ih f (v + 1) X (by omega) (by rw [x48]; omega) (by unfold BcOK; rw [x48, xO 104 (by decide) (by decide) (by decide)]; exact hB) (by unfold EvOK; rw [x48, xO 149 (by decide) (by decide) (by decide), xO 150 (by decide) (by decide) (by decide), xO 151 (by decide) (by decide) (by decide), xO 152 (by decide) (by decide) (by decide), xO 153 (by decide) (by decide) (by decide), xO 52 (by decide) (by decide) (by decide), xO 53 (by decide) (by decide) (by decide), xO 54 (by decide) (by decide) (by decide), xO 55 (by decide) (by decide) (by decide), xO 56 (by decide) (by decide) (by decide), xO p (by omega) (by omega) (by omega), xO (p + 3) (by omega) (by omega) (by omega)]; exact he) (by rw [xO p (by omega) (by omega) (by omega)]; exact h8) hGX
      rw [x48] at m3
      exact ⟨M', m1, fun x hx => (m2 x hx).trans (hX x hx), m3⟩
    -- folds of X are those of M
    have fc : ∀ X, Fr [59, 60, 61] M X → ∀ c h k, knF X c h k = knF M c h k ∧ ofF X c h k = ofF M c h k ∧ hoF X c h k = hoF M c h k := by
      intro X hX c h k
      exact fold_cg (hX 52 (by decide)) (hX 53 (by decide)) (hX 54 (by decide)) (hX 55 (by decide)) (hX 56 (by decide)) (by rw [hX 48 (by decide)]) c h k
    have kst : ∀ c h, knF M c h (v + 1) = if M 52 v = 0 ∧ M 53 v = c ∧ M 54 v = h ∧ M 56 v ≤ M 48 11 then 1 else knF M c h v := fun _ _ => rfl
    have ost : ∀ c h, ofF M c h (v + 1) = if M 52 v = 2 ∧ M 53 v = c ∧ M 54 v ≤ h ∧ h ≤ M 55 v ∧ M 56 v ≤ M 48 11 then 1 else ofF M c h v := fun _ _ => rfl
    have hst : ∀ c h, hoF M c h (v + 1) = hoF M c h v + (if M 52 v = 1 ∧ M 53 v = c ∧ M 54 v ≤ h ∧ M 56 v ≤ M 48 11 then M 55 v else 0) := fun _ _ => rfl
    obtain ⟨g1, g2, g3⟩ := hG
    rw [B_gather_F80, if_pos (by omega), xch_pos (by omega), r5, r6, r7, r8, r9, Int.toNat_natCast, J]
    by_cases z : M 48 11 < M 56 v
    · rw [if_pos z]
      refine go M (fun _ _ => rfl) ⟨?_, ?_, ?_⟩
      · intro c hc
        obtain ⟨u, u1, u2, u3⟩ := g1 c hc
        exact ⟨u, u1, u2, fun h hh => by rw [u3 h hh]; dsimp only; rw [kst, if_neg (by omega)]⟩
      · intro c hc
        obtain ⟨u, u1, u2, u3⟩ := g2 c hc
        exact ⟨u, u1, u2, fun h hh => by rw [u3 h hh]; dsimp only; rw [ost, if_neg (by omega)]⟩
      · intro i hi
        rw [g3 i hi, hst, if_neg (by omega), Int.add_zero]
    · rw [if_neg z]
      obtain ⟨c0, hc0⟩ : ∃ c0 : Nat, M 53 v = (c0 : Int) := ⟨(M 53 v).toNat, by omega⟩
      obtain ⟨h0, hh0⟩ : ∃ h0 : Nat, M 54 v = (h0 : Int) := ⟨(M 54 v).toNat, by omega⟩
      have hc8 : c0 < 8 := by omega
      unfold f_B_gatherEvent
      rcases a4 with e0 | ⟨e1, -, e2, -⟩ | ⟨e1, -, e2, e3⟩
      · obtain ⟨u, u1, u2, u3⟩ := g1 c0 hc8
        obtain ⟨w, w1, w2, w3⟩ := yset u1 (show h0 < 48 by omega)
        rw [if_pos e0, hc0, xch_pos (by omega), xl_eq, xb1_some, r15, Int.toNat_natCast, u2, hh0, w2, J]
        obtain ⟨N, hN⟩ : ∃ N, N = xu M 59 c0 (w : Int) := ⟨_, rfl⟩
        rw [← hN]
        have nO : ∀ x, x ≠ 59 → N x = M x := fun x hx => by rw [hN, xu_cell _ _ _ hx]
        have hfr : Fr [59, 60, 61] M N := fun x hx => nO x (fun q => hx (by simp [q]))
        refine go N hfr ⟨?_, ?_, ?_⟩
        · intro c hc
          by_cases y : c = c0
          · refine ⟨w, w1, by rw [hN, xu_at, if_pos y], fun h hh => ?_⟩
            rw [w3, u3 h hh]; dsimp only; rw [(fc N hfr _ _ _).1, kst, y]
            by_cases x : h = h0
            · rw [if_pos ⟨e0, hc0, by omega, by omega⟩]
              exact ⟨fun _ => rfl, fun _ => Or.inr x⟩
            · rw [if_neg (by omega)]
              exact ⟨fun q => q.elim id fun q => absurd q x, Or.inl⟩
          · obtain ⟨t, t1, t2, t3⟩ := g1 c hc
            refine ⟨t, t1, by rw [hN, xu_at, if_neg y, t2], fun h hh => ?_⟩
            rw [t3 h hh]; dsimp only; rw [(fc N hfr _ _ _).1, kst, if_neg (by omega)]
        · intro c hc
          obtain ⟨t, t1, t2, t3⟩ := g2 c hc
          exact ⟨t, t1, by rw [nO 60 (by decide), t2], fun h hh => by rw [t3 h hh]; dsimp only; rw [(fc N hfr _ _ _).2.1, ost, if_neg (by omega)]⟩
        · intro i hi
          rw [nO 61 (by decide), g3 i hi, (fc N hfr _ _ _).2.2, hst, if_neg (by omega), Int.add_zero]
      · rw [if_neg (by omega), if_neg (by omega), hc0, hh0]
        have bd : ∀ i : Nat, i < 384 → 0 ≤ M 61 i ∧ M 61 i ≤ 10000 := by
          intro i hi
          rw [g3 i hi]
          have := hoF_in he (c := ((i / 48 : Nat) : Int)) (h := ((i % 48 : Nat) : Int)) v (by omega)
          omega
        obtain ⟨N, n1, n2, n3⟩ := gev_F66 hR hc8 (m := M 55 v) (by omega) (48 - h0) xfu h0 M (by have : xfu = 1000000 := rfl; omega) (by omega) bd
        rw [n1, xb1_some, J]
        have nO : ∀ x, x ≠ 61 → N x = M x := fun x hx => n2 x (by simpa using hx)
        have hfr : Fr [59, 60, 61] M N := fun x hx => nO x (fun q => hx (by simp [q]))
        refine go N hfr ⟨?_, ?_, ?_⟩
        · intro c hc
          obtain ⟨t, t1, t2, t3⟩ := g1 c hc
          exact ⟨t, t1, by rw [nO 59 (by decide), t2], fun h hh => by rw [t3 h hh]; dsimp only; rw [(fc N hfr _ _ _).1, kst, if_neg (by omega)]⟩
        · intro c hc
          obtain ⟨t, t1, t2, t3⟩ := g2 c hc
          exact ⟨t, t1, by rw [nO 60 (by decide), t2], fun h hh => by rw [t3 h hh]; dsimp only; rw [(fc N hfr _ _ _).2.1, ost, if_neg (by omega)]⟩
        · intro i hi
          rw [n3 i, (fc N hfr _ _ _).2.2, hst, g3 i hi]
          by_cases y : 48 * c0 + h0 ≤ i ∧ i < 48 * c0 + 48
          · rw [if_pos y, if_pos (by omega)]
          · rw [if_neg y, if_neg (by omega), Int.add_zero]
      · obtain ⟨m, hm⟩ : ∃ m : Nat, M 55 v = (m : Int) := ⟨(M 55 v).toNat, by omega⟩
        rw [if_neg (by omega), if_pos e1, hc0, hh0, hm]
        obtain ⟨N, n1, n2, n3⟩ := gev_F27 hR hc8 (show m < 48 by omega) (m + 1 - h0) xfu h0 M _ (by have : xfu = 1000000 := rfl; omega) (by omega) g2
        rw [n1, xb1_some, J]
        have nO : ∀ x, x ≠ 60 → N x = M x := fun x hx => n2 x (by simpa using hx)
        have hfr : Fr [59, 60, 61] M N := fun x hx => nO x (fun q => hx (by simp [q]))
        refine go N hfr ⟨?_, ?_, ?_⟩
        · intro c hc
          obtain ⟨t, t1, t2, t3⟩ := g1 c hc
          exact ⟨t, t1, by rw [nO 59 (by decide), t2], fun h hh => by rw [t3 h hh]; dsimp only; rw [(fc N hfr _ _ _).1, kst, if_neg (by omega)]⟩
        · intro c hc
          obtain ⟨t, t1, t2, t3⟩ := n3 c hc
          refine ⟨t, t1, t2, fun h hh => ?_⟩
          rw [t3 h hh]; dsimp only; rw [(fc N hfr _ _ _).2.1, ost]
          by_cases y : c = c0 ∧ h0 ≤ h ∧ h ≤ m
          · rw [if_pos (by omega)]
            exact ⟨fun _ => rfl, fun _ => Or.inr y⟩
          · rw [if_neg (by omega)]
            exact ⟨fun q => q.elim id fun q => absurd q y, Or.inl⟩
        · intro i hi
          rw [nO 61 (by decide), g3 i hi, (fc N hfr _ _ _).2.2, hst, if_neg (by omega), Int.add_zero]
