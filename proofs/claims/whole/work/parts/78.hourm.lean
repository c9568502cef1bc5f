/-! ===== a cleaner's hour in the model ===== -/
def FrM (N N' : xM) : Prop := ∀ x, x < 156 ∨ 165 ≤ x → N' x = N x
theorem FrM.trans {M N P : xM} (h : FrM M N) (k : FrM N P) : FrM M P := fun x hx => (k x hx).trans (h x hx)
/-- what the model says of cleaner c at hour h is what the world says -/
def WMc (R : xR) (h c : Nat) (W N : xM) : Prop := N 121 c = W 1 c ∧ (∀ s, s < 4 → N 122 (4 * c + s) = W 2 (4 * c + s)) ∧ N 123 c = W 3 c ∧ N 124 c = W 4 c ∧ N 125 c = W 5 c ∧ (∀ i, i < (W 5 c).toNat → (N 126 (8 * c + i) = if W 6 (8 * c + i) = -1 then 8 else W 6 (8 * c + i)) ∧ N 127 (8 * c + i) = W 7 (8 * c + i)) ∧ N 154 h = W 9 h ∧ ∀ N' : xM, (∀ x, x < 156 → N' x = N x) → f_M_isKnocked R 104 (c : Int) (h : Int) N' = some (W 11 (48 * c + h)) ∧ f_M_isOff R 104 (c : Int) (h : Int) N' = some (W 12 (48 * c + h)) ∧ (W 1 c = 2 → f_M_holesOf R 104 (c : Int) (h : Int) N' = some (W 13 (48 * c + h)))
theorem WMc.of {R : xR} {h c : Nat} {W M N : xM} (q : WMc R h c W M) (hf : FrM M N) : WMc R h c W N := by
  have e : ∀ x, x < 156 → N x = M x := fun x hx => hf x (Or.inl hx)
  obtain ⟨q1, q2, q3, q4, q5, q6, q7, q8⟩ := q
  exact ⟨by rw [e _ (by decide)]; exact q1, fun s hs => by rw [e _ (by decide)]; exact q2 s hs, by rw [e _ (by decide)]; exact q3, by rw [e _ (by decide)]; exact q4, by rw [e _ (by decide)]; exact q5, fun i hi => by rw [e _ (by decide), e _ (by decide)]; exact q6 i hi, by rw [e _ (by decide)]; exact q7, fun N' hN => q8 N' fun x hx => (hN x hx).trans (e x hx)⟩
theorem holdsNow_eq {R : xR} {pn ps ln ls : Nat} (hR : RG R pn ps ln ls) {h c s : Nat} (hh : h < 48) (hc : c < 8) (hs : s < 4) {W N S : xM} (hW : WC W h c) (hM : WMc R h c W N) : f_M_holdsNow R 104 (c : Int) (s : Int) (h : Int) (cIt W h c S) N = some (cHu W h c S (4 * c + s)) := by
  have rm := xR0_mp
  have r32 : R 104 32 = 121 := by rw [hR.at 104 32 (by decide) (by decide)]; exact rm.1
  have r33 : R 104 33 = 122 := by rw [hR.at 104 33 (by decide) (by decide)]; exact rm.2.1
  have r34 : R 104 34 = 123 := by rw [hR.at 104 34 (by decide) (by decide)]; exact rm.2.2.1
  have r73 : R 104 73 = 154 := by rw [hR.at 104 73 (by decide) (by decide)]; exact xR0_mb.2.1
  obtain ⟨q1, q2, q3, q4, q5, q6, q7, q8⟩ := hM
  obtain ⟨-, k2, k3⟩ := q8 N fun _ _ => rfl
  have a := hW.2.1 s hs
  have h13 := hW.2.2.2.2.2.2.2
  have hd2 : w32 (Int.tdiv (W 2 (4 * c + s)) 2) = Int.tdiv (W 2 (4 * c + s)) 2 := by
    have : Int.tdiv (W 2 (4 * c + s)) 2 = W 2 (4 * c + s) / 2 := Int.tdiv_eq_ediv_of_nonneg a.1
    rw [this, w32_of (by omega) (by omega)]
  unfold f_M_holdsNow cHu
  rw [w32_of (x := 4 * (c : Int)) (by omega) (by omega), w32_of (x := 4 * (c : Int) + (s : Int)) (by omega) (by omega), xch_pos (by omega), xl_eq, k2, xb1_some, r32, r33, r34, r73, show (4 * (c : Int) + (s : Int)).toNat = 4 * c + s by omega, Int.toNat_natCast, Int.toNat_natCast, q1, q2 s hs, q3, q7, hd2]
  by_cases z0 : W 12 (48 * c + h) = 0
  · rw [if_pos z0, if_pos z0, xch_pos (by omega)]
    by_cases z1 : W 1 c = 1
    · rw [if_pos z1, if_pos z1]
      by_cases z : cIt W h c S < W 3 c
      · rw [if_pos z, if_pos z]
      · rw [if_neg z, if_neg z]
    · rw [if_neg z1, if_neg z1]
      by_cases z2 : W 1 c = 2
      · rw [if_pos z2, if_pos z2, k3 z2, xb1_some]
        by_cases z : cIt W h c S < W 3 c
        · rw [if_pos z, if_pos z, w32_of (x := W 2 (4 * c + s) - W 13 (48 * c + h)) (by omega) (by omega), xmax0]
        · rw [if_neg z, if_neg z]
      · rw [if_neg z2, if_neg z2]
        by_cases z3 : W 1 c = 3
        · rw [if_pos z3, if_pos z3, xch_pos (by omega)]
          by_cases z : W 9 h < W 3 c
          · rw [if_pos z, if_pos z]
          · rw [if_neg z, if_neg z]
        · rw [if_neg z3, if_neg z3]
  · rw [if_neg z0, if_neg z0]
theorem hour_F98 {R : xR} {pn ps ln ls : Nat} (hR : RG R pn ps ln ls) {c : Nat} (hc : c < 8) (l1 : Int) (Q : Int → xM → Option xM) : ∀ (k f s : Nat) (M : xM), k < f → s + k = 4 → M_hour_F98 R 104 l1 Q f (c : Int) (s : Int) M = Q (c : Int) (xrow M 159 (fun i => if 4 * c + s ≤ i ∧ i < 4 * c + 4 then 0 else M 159 i)) := by
  have r83 : R 104 83 = 159 := hR.m80 (k := 3) (by decide)
  intro k
  induction k with
  | zero =>
    intro f s M hf hs
    obtain ⟨f, rfl⟩ : ∃ g, f = g + 1 := ⟨f - 1, by omega⟩
    rw [M_hour_F98, if_neg (by omega)]
    have e : (fun i => if 4 * c + s ≤ i ∧ i < 4 * c + 4 then 0 else M 159 i) = M 159 := by
      funext i
      rw [if_neg (by omega)]
    rw [e, xrow_self]
  | succ k ih =>
    intro f s M hf hs
    obtain ⟨f, rfl⟩ : ∃ g, f = g + 1 := ⟨f - 1, by omega⟩
    rw [M_hour_F98, if_pos (by omega), w32_of (x := 4 * (c : Int)) (by omega) (by omega), w32_of (x := 4 * (c : Int) + (s : Int)) (by omega) (by omega), xch_pos (by omega), xl_eq, xl_eq, r83, show (4 * (c : Int) + (s : Int)).toNat = 4 * c + s by omega, w32_of (x := (s : Int) + 1) (by omega) (by omega), show (s : Int) + 1 = ((s + 1 : Nat) : Int) by omega, ih f (s + 1) _ (by omega) (by omega), xrow_xu]
    refine congrArg (fun g => Q (c : Int) (xrow M 159 g)) ?_
    funext i
    rw [xu_row]
    show (if _ then _ else (if i = 4 * c + s then _ else _)) = _
    by_cases h1 : i = 4 * c + s
    · rw [if_neg (by omega), if_pos h1, if_pos (by omega)]
    · rw [if_neg h1]
      by_cases h2 : 4 * c + s ≤ i ∧ i < 4 * c + 4
      · rw [if_pos (by omega), if_pos h2]
      · rw [if_neg (by omega), if_neg h2]
theorem knocked_F2 {R : xR} {pn ps ln ls : Nat} (hR : RG R pn ps ln ls) {c : Nat} (hc : c < 8) {fly : Int} (hy : 0 ≤ fly ∧ fly ≤ 100) : ∀ (k f s : Nat) (M : xM), k < f → s + k = 4 → (∀ t, s ≤ t → t < 4 → (0 ≤ M 160 (4 * c + t) ∧ M 160 (4 * c + t) ≤ 2000000)) → M 124 c = fly → (M 121 c ≠ 1 → fly = 0) →
    ∃ M', M_knocked_F2 R 104 (c : Int) f (s : Int) M = some M' ∧ Fr [159, 160, 161] M M' ∧ (∀ i, (¬ (4 * c + s ≤ i ∧ i < 4 * c + 4)) → M' 159 i = M 159 i ∧ M' 160 i = M 160 i ∧ M' 161 i = M 161 i) ∧ ∀ i, 4 * c + s ≤ i → i < 4 * c + 4 → M' 159 i = Int.tdiv (M 160 i * fly) 100 ∧ M' 160 i = 0 ∧ M' 161 i = w32 (M 161 i + (M 160 i - Int.tdiv (M 160 i * fly) 100)) := by
  have r83 : R 104 83 = 159 := hR.m80 (k := 3) (by decide)
  have r84 : R 104 84 = 160 := hR.m80 (k := 4) (by decide)
  have r85 : R 104 85 = 161 := hR.m80 (k := 5) (by decide)
  have r32 : R 104 32 = 121 := by rw [hR.at 104 32 (by decide) (by decide)]; exact xR0_mp.1
  have r35 : R 104 35 = 124 := by rw [hR.at 104 35 (by decide) (by decide)]; exact xR0_mp.2.2.2.1
  intro k
  induction k with
  | zero =>
    intro f s M hf hs _ _ _
    obtain ⟨f, rfl⟩ : ∃ g, f = g + 1 := ⟨f - 1, by omega⟩
    refine ⟨M, ?_, fun _ _ => rfl, fun i _ => ⟨rfl, rfl, rfl⟩, fun i h2 h3 => by omega⟩
    rw [M_knocked_F2, if_neg (by omega)]
  | succ k ih =>
    intro f s M hf hs hb h4 h1
    obtain ⟨f, rfl⟩ : ∃ g, f = g + 1 := ⟨f - 1, by omega⟩
    obtain ⟨v, hv⟩ : ∃ v, v = 4 * c + s := ⟨_, rfl⟩
    have bv := hb s (by omega) (by omega)
    rw [← hv] at bv
    have a0 : 0 ≤ M 160 v * fly := Int.mul_nonneg bv.1 hy.1
    have a1 : M 160 v * fly ≤ M 160 v * 100 := Int.mul_le_mul_of_nonneg_left hy.2 bv.1
    have a2 : Int.tdiv (M 160 v * fly) 100 = (M 160 v * fly) / 100 := Int.tdiv_eq_ediv_of_nonneg a0
    obtain ⟨x, hx⟩ : ∃ x, x = Int.tdiv (M 160 v * fly) 100 := ⟨_, rfl⟩
    have hxx : 0 ≤ x ∧ x ≤ M 160 v := by rw [hx, a2]; omega
    have y4 : ∀ z, xu M 159 v z 161 = M 161 := fun z => xu_cell _ _ _ (by decide)
    have y5 : ∀ z, xu M 159 v z 160 = M 160 := fun z => xu_cell _ _ _ (by decide)
    have y6 : ∀ z, xu M 159 v z 159 v = z := fun z => by rw [xu_at, if_pos rfl]
    obtain ⟨N, hN⟩ : ∃ N, N = xu (xu (xu M 159 v x) 161 v (w32 (M 161 v + (M 160 v - x)))) 160 v 0 := ⟨_, rfl⟩
    have J : ∀ z, z = x → M_knocked_J48 R 104 (c : Int) (M_knocked_F2 R 104 (c : Int) f) (s : Int) (v : Int) z (v : Int) 159 M = M_knocked_F2 R 104 (c : Int) f ((s + 1 : Nat) : Int) N := by
      intro z hz
      unfold M_knocked_J48
      rw [hz, xch_pos (by omega), xl_eq, xch_pos (by omega), xl_eq, xl_eq, xl_eq, r83, r84, r85, Int.toNat_natCast, y4, y5, y6, w32_of (x := M 160 v - x) (by omega) (by omega), w32_of (x := (s : Int) + 1) (by omega) (by omega), ← hN]
      rfl
    have st : M_knocked_F2 R 104 (c : Int) (f + 1) (s : Int) M = M_knocked_F2 R 104 (c : Int) f ((s + 1 : Nat) : Int) N := by
      rw [M_knocked_F2, if_pos (by omega), xl_eq, w32_of (x := 4 * (c : Int)) (by omega) (by omega), w32_of (x := 4 * (c : Int) + (s : Int)) (by omega) (by omega), xch_pos (by omega), r32, r35, r83, r84, show 4 * (c : Int) + (s : Int) = (v : Int) by omega, Int.toNat_natCast, Int.toNat_natCast, h4]
      by_cases z : M 121 c = 1
      · rw [if_pos z, xch_pos (by omega), w32_of (x := M 160 v * fly) (by omega) (by omega), ← hx, w32_of (x := x) (by omega) (by omega), J x rfl]
      · rw [if_neg z, J 0 ?_]
        rw [hx, h1 z, Int.mul_zero]
        rfl
    have n4 : ∀ i, N 159 i = if i = v then x else M 159 i := fun i => by rw [hN, xu_cell _ _ _ (by decide), xu_cell _ _ _ (by decide), xu_at]
    have n5 : ∀ i, N 160 i = if i = v then 0 else M 160 i := fun i => by rw [hN, xu_at, xu_cell _ _ _ (show (160 : Nat) ≠ 161 by decide), xu_cell _ _ _ (show (160 : Nat) ≠ 159 by decide)]
    have n6 : ∀ i, N 161 i = if i = v then w32 (M 161 v + (M 160 v - x)) else M 161 i := fun i => by rw [hN, xu_cell _ _ _ (by decide), xu_at, xu_cell _ _ _ (show (161 : Nat) ≠ 159 by decide)]
    have nO : ∀ z, z ≠ 159 → z ≠ 160 → z ≠ 161 → N z = M z := fun z h1 h2 h3 => by rw [hN, xu_cell _ _ _ h2, xu_cell _ _ _ h3, xu_cell _ _ _ h1]
    obtain ⟨M', m1, m2, m3, m4⟩ := ih f (s + 1) N (by omega) (by omega) (fun t t1 t2 => by rw [n5, if_neg (by omega)]; exact hb t (by omega) t2) (by rw [nO 124 (by decide) (by decide) (by decide)]; exact h4) (by rw [nO 121 (by decide) (by decide) (by decide)]; exact h1)
    refine ⟨M', st.trans m1, fun z hz => ?_, fun i hi => ?_, fun i i1 i2 => ?_⟩
    · rw [m2 z hz]
      simp only [List.mem_cons, List.not_mem_nil, or_false, not_or] at hz
      exact nO z hz.1 hz.2.1 hz.2.2
    · have := m3 i (by omega)
      rw [n4, n5, n6, if_neg (by omega), if_neg (by omega), if_neg (by omega)] at this
      exact this
    · by_cases e : i = v
      · have := m3 i (by omega)
        rw [n4, n5, n6, if_pos e, if_pos e, if_pos e] at this
        rw [e] at this ⊢
        rw [← hx]
        exact this
      · have := m4 i (by omega) i2
        rw [n5, n6, if_neg e, if_neg e] at this
        exact this
