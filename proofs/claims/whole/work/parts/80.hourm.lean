/-! ===== hours in the model ===== -/
/-- what the model says of the works at hour h is what the world says -/
def WMw (R : xR) (h : Nat) (W N : xM) : Prop := N 104 30 = W 0 0 ∧ N 104 31 = W 0 1 ∧ ∀ w : Nat, w < (W 0 1).toNat → N 128 w = W 8 w ∧ ∀ N' : xM, (∀ x, x < 156 → N' x = N x) → ∀ s : Nat, s < 4 → f_M_portionsOf R 104 (w : Int) (h : Int) (s : Int) N' = some (W 10 ((w * 48 + h) * 4 + s))
theorem WMw.of {R : xR} {h : Nat} {W M N : xM} (q : WMw R h W M) (hf : FrM M N) : WMw R h W N := by
  have e : ∀ x, x < 156 → N x = M x := fun x hx => hf x (Or.inl hx)
  exact ⟨by rw [e _ (by decide)]; exact q.1, by rw [e _ (by decide)]; exact q.2.1, fun w hw => ⟨by rw [e _ (by decide)]; exact (q.2.2 w hw).1, fun N' hN => (q.2.2 w hw).2 N' fun x hx => (hN x hx).trans (e x hx)⟩⟩
theorem hour_F2 {R : xR} {pn ps ln ls : Nat} (hR : RG R pn ps ln ls) (l1 : Int) (Q : xM → Option xM) : ∀ (k f v : Nat) (M : xM), k < f → v + k = 32 → M_hour_F2 R 104 l1 Q f (v : Int) M = Q (xrow M 157 (fun i => if v ≤ i ∧ i < 32 then 0 else M 157 i)) := by
  have r81 : R 104 81 = 157 := hR.m80 (k := 1) (by decide)
  intro k
  induction k with
  | zero =>
    intro f v M hf hv
    obtain ⟨f, rfl⟩ : ∃ g, f = g + 1 := ⟨f - 1, by omega⟩
    rw [M_hour_F2, if_neg (by omega)]
    have e : (fun i => if v ≤ i ∧ i < 32 then 0 else M 157 i) = M 157 := by
      funext i
      rw [if_neg (by omega)]
    rw [e, xrow_self]
  | succ k ih =>
    intro f v M hf hv
    obtain ⟨f, rfl⟩ : ∃ g, f = g + 1 := ⟨f - 1, by omega⟩
    rw [M_hour_F2, if_pos (by omega), xch_pos (by omega), xl_eq, xl_eq, r81, Int.toNat_natCast, w32_of (x := (v : Int) + 1) (by omega) (by omega), show (v : Int) + 1 = ((v + 1 : Nat) : Int) by omega, ih f (v + 1) _ (by omega) (by omega), xrow_xu]
    refine congrArg (fun g => Q (xrow M 157 g)) ?_
    funext i
    rw [xu_row]
    show (if _ then _ else (if i = v then _ else _)) = _
    by_cases h1 : i = v
    · rw [if_neg (by omega), if_pos h1, if_pos (by omega)]
    · rw [if_neg h1]
      by_cases h2 : v ≤ i ∧ i < 32
      · rw [if_pos (by omega), if_pos h2]
      · rw [if_neg (by omega), if_neg h2]
theorem hour_F41 {R : xR} {pn ps ln ls : Nat} (hR : RG R pn ps ln ls) {h s : Nat} (hh : h < 48) (hs : s < 4) {W : xM} (hW : WH W h) (Q : Int → xM → Option xM) : ∀ (k f w : Nat) (M : xM), k < f → w + k = (W 0 1).toNat → WMw R h W M → (∀ i, i < 32 → M 157 i = if i % 4 < s then dsm W h (W 0 1).toNat i else if i % 4 = s then dsm W h w i else 0) →
    ∃ M', M_hour_F41 R 104 (h : Int) Q f (s : Int) (w : Int) M = Q (s : Int) M' ∧ Fr [157] M M' ∧ ∀ i, i < 32 → M' 157 i = if i % 4 < s + 1 then dsm W h (W 0 1).toNat i else 0 := by
  have r81 : R 104 81 = 157 := hR.m80 (k := 1) (by decide)
  have r39 : R 104 39 = 128 := by rw [hR.at 104 39 (by decide) (by decide)]; exact xR0_mp.2.2.2.2.2.2.2
  have w01 := hW.2.1
  intro k
  induction k with
  | zero =>
    intro f w M hf hw hX hM
    obtain ⟨f, rfl⟩ : ∃ g, f = g + 1 := ⟨f - 1, by omega⟩
    have e : w = (W 0 1).toNat := by omega
    refine ⟨M, ?_, fun _ _ => rfl, fun i hi => ?_⟩
    · rw [M_hour_F41, hX.2.1, if_neg (by omega)]
    · rw [hM i hi, e]
      by_cases z : i % 4 < s
      · rw [if_pos z, if_pos (by omega)]
      · rw [if_neg z]
        by_cases z2 : i % 4 = s
        · rw [if_pos z2, if_pos (by omega)]
        · rw [if_neg z2, if_neg (by omega)]
  | succ k ih =>
    intro f w M hf hw hX hM
    obtain ⟨f, rfl⟩ : ∃ g, f = g + 1 := ⟨f - 1, by omega⟩
    obtain ⟨ww1, ww2⟩ := hW.2.2.1 w (by omega)
    have din := (dsm_in hW w (by omega)).1
    obtain ⟨x1, x2⟩ := hX.2.2 w (by omega)
    have xs := x2 M (fun _ _ => rfl) s hs
    have ws := ww2 s hs
    have dd := din (4 * (W 8 w).toNat + s)
    rw [M_hour_F41, hX.2.1, if_pos (by omega), xch_pos (by omega), r39, Int.toNat_natCast, x1, w32_of (x := 4 * W 8 w) (by omega) (by omega), w32_of (x := 4 * W 8 w + (s : Int)) (by omega) (by omega), xch_pos (by omega), xs, xb1_some, xl_eq, xl_eq, r81, show (4 * W 8 w + (s : Int)).toNat = 4 * (W 8 w).toNat + s by omega, hM _ (by omega), if_neg (by omega), if_pos (by omega), w32_of (x := dsm W h w (4 * (W 8 w).toNat + s) + W 10 ((w * 48 + h) * 4 + s)) (by omega) (by omega), w32_of (x := (w : Int) + 1) (by omega) (by omega), show (w : Int) + 1 = ((w + 1 : Nat) : Int) by omega]
    obtain ⟨N, hN⟩ : ∃ N, N = xu M 157 (4 * (W 8 w).toNat + s) (dsm W h w (4 * (W 8 w).toNat + s) + W 10 ((w * 48 + h) * 4 + s)) := ⟨_, rfl⟩
    rw [← hN]
    have nO : ∀ x, x ≠ 157 → N x = M x := fun x hx => by rw [hN, xu_cell _ _ _ hx]
    have n2 : ∀ i, i < 32 → N 157 i = if i % 4 < s then dsm W h (W 0 1).toNat i else if i % 4 = s then dsm W h (w + 1) i else 0 := by
      intro i hi
      rw [hN, xu_at]
      by_cases z : i = 4 * (W 8 w).toNat + s
      · rw [if_pos z, if_neg (by omega), if_pos (by omega), dsm_st, z, show (4 * (W 8 w).toNat + s) / 4 = (W 8 w).toNat by omega, show (4 * (W 8 w).toNat + s) % 4 = s by omega, if_pos (by omega)]
      · rw [if_neg z, hM i hi]
        by_cases z2 : i % 4 < s
        · rw [if_pos z2, if_pos z2]
        · rw [if_neg z2, if_neg z2]
          by_cases z3 : i % 4 = s
          · rw [if_pos z3, if_pos z3, dsm_st, if_neg (by omega), Int.add_zero]
          · rw [if_neg z3, if_neg z3]
    have frN : FrM M N := fun x hx => nO x (by omega)
    obtain ⟨M', m1, m2, m3⟩ := ih f (w + 1) N (by omega) (by omega) (hX.of frN) n2
    refine ⟨M', m1, fun x hx => ?_, m3⟩
    rw [m2 x hx, nO x (by simpa using hx)]
theorem hour_F23 {R : xR} {pn ps ln ls : Nat} (hR : RG R pn ps ln ls) {h : Nat} (hh : h < 48) {W : xM} (hW : WH W h) (Q : xM → Option xM) : ∀ (k f s : Nat) (M : xM), k < f → s + k = 4 → WMw R h W M → (∀ i, i < 32 → M 157 i = if i % 4 < s then dsm W h (W 0 1).toNat i else 0) →
    ∃ M', M_hour_F23 R 104 (h : Int) Q f (s : Int) M = Q M' ∧ Fr [156, 157] M M' ∧ (∀ i, M' 156 i = if 4 * h + s ≤ i ∧ i < 4 * h + 4 then 0 else M 156 i) ∧ ∀ i, i < 32 → M' 157 i = dsm W h (W 0 1).toNat i := by
  have r80 : R 104 80 = 156 := hR.m80 (k := 0) (by decide)
  have w01 := hW.2.1
  intro k
  induction k with
  | zero =>
    intro f s M hf hs hX hM
    obtain ⟨f, rfl⟩ : ∃ g, f = g + 1 := ⟨f - 1, by omega⟩
    refine ⟨M, ?_, fun _ _ => rfl, fun i => by rw [if_neg (by omega)], fun i hi => by rw [hM i hi, if_pos (by omega)]⟩
    rw [M_hour_F23, if_neg (by omega)]
  | succ k ih =>
    intro f s M hf hs hX hM
    obtain ⟨f, rfl⟩ : ∃ g, f = g + 1 := ⟨f - 1, by omega⟩
    rw [M_hour_F23, if_pos (by omega), w32_of (x := 4 * (h : Int)) (by omega) (by omega), w32_of (x := 4 * (h : Int) + (s : Int)) (by omega) (by omega), xch_pos (by omega), xl_eq, r80, show (4 * (h : Int) + (s : Int)).toNat = 4 * h + s by omega]
    obtain ⟨N, hN⟩ : ∃ N, N = xu M 156 (4 * h + s) 0 := ⟨_, rfl⟩
    rw [← hN]
    have nO : ∀ x, x ≠ 156 → N x = M x := fun x hx => by rw [hN, xu_cell _ _ _ hx]
    have frN : FrM M N := fun x hx => nO x (by omega)
    obtain ⟨P, p1, p2, p3⟩ := hour_F41 hR hh (show s < 4 by omega) hW (fun (v2_16 : Int) (M_17 : xM) =>
          xl (w32 (v2_16 + 1)) fun v2_18 =>
          M_hour_F23 R 104 (h : Int) Q f v2_18 M_17) (W 0 1).toNat xfu 0 N (by have : xfu = 1000000 := rfl; omega) (by omega) (hX.of frN) (fun i hi => by
            rw [nO 157 (by decide), hM i hi]
            by_cases z : i % 4 < s
            · rw [if_pos z, if_pos z]
            · rw [if_neg z, if_neg z]
              split <;> rfl)
    have pO : ∀ x, x ≠ 157 → P x = N x := fun x hx => p2 x (by simpa using hx)
    have frP : FrM M P := fun x hx => by rw [pO x (by omega)]; exact frN x hx
    obtain ⟨M', m1, m2, m3, m4⟩ := ih f (s + 1) P (by omega) (by omega) (hX.of frP) p3
    refine ⟨M', ?_, fun x hx => ?_, fun i => ?_, m4⟩
    · rw [show ((0 : Nat) : Int) = 0 from rfl] at p1
      rw [p1, xl_eq, w32_of (x := (s : Int) + 1) (by omega) (by omega)]
      exact m1
    · rw [m2 x hx]
      simp only [List.mem_cons, List.not_mem_nil, or_false, not_or] at hx
      rw [pO x hx.2, nO x hx.1]
    · rw [m3, pO 156 (by decide), hN, xu_at]
      by_cases z : i = 4 * h + s
      · rw [if_neg (by omega), if_pos z, if_pos (by omega)]
      · rw [if_neg z]
        by_cases z2 : 4 * h + s ≤ i ∧ i < 4 * h + 4
        · rw [if_pos (by omega), if_pos z2]
        · rw [if_neg (by omega), if_neg z2]
theorem hour_F88 {R : xR} {pn ps ln ls : Nat} (hR : RG R pn ps ln ls) {h : Nat} (hh : h < 48) {W : xM} (hW : WH W h) {B : Int} (hB2 : B ≤ 2000000) : ∀ (k f c : Nat) (M S : xM), k < f → c + k = (W 0 0).toNat → M 104 30 = W 0 0 → (∀ c, c < (W 0 0).toNat → WMc R h c W M) → CB B h c S → AgC 155 h c M S →
    ∃ M', M_hour_F88 R 104 (h : Int) f (c : Int) M = some M' ∧ FrM M M' ∧ AgC 155 h (W 0 0).toNat M' (csps W h k c S) := by
  have w00 := hW.1
  intro k
  induction k with
  | zero =>
    intro f c M S hf hc h0 hX hC hA
    obtain ⟨f, rfl⟩ : ∃ g, f = g + 1 := ⟨f - 1, by omega⟩
    have e : c = (W 0 0).toNat := by omega
    refine ⟨M, ?_, fun _ _ => rfl, by rw [← e]; exact hA⟩
    rw [M_hour_F88, h0, if_neg (by omega)]
  | succ k ih =>
    intro f c M S hf hc h0 hX hC hA
    obtain ⟨f, rfl⟩ : ∃ g, f = g + 1 := ⟨f - 1, by omega⟩
    have hWc := hW.2.2.2 c (by omega)
    obtain ⟨N, n1, n2, n3⟩ := cln_M hR hh (show c < 8 by omega) hWc (hX c (by omega)) hB2 hC hA (by omega) f
    obtain ⟨M', m1, m2, m3⟩ := ih f (c + 1) N (cstp W h c S) (by omega) (by omega) (by rw [n2 104 (Or.inl (by decide))]; exact h0) (fun c hc => (hX c hc).of n2) (cstp_CB hWc (by omega) hC) n3
    exact ⟨M', n1.trans m1, n2.trans m2, m3⟩
theorem hour_eq {R : xR} {pn ps ln ls : Nat} (hR : RG R pn ps ln ls) {h : Nat} (hh : h < 48) {W M S : xM} (hW : WH W h) (hS : HB h S) (hX : WMw R h W M) (hC : ∀ c, c < (W 0 0).toNat → WMc R h c W M) (hA : AgS 155 h M S) :
    ∃ M', f_M_hour R 104 (h : Int) M = some M' ∧ FrM M M' ∧ AgC 155 h (W 0 0).toNat M' (hstp W h S) := by
  have e1 := hour_F2 hR (h : Int) (fun (M_5 : xM) =>
      M_hour_F23 R 104 (h : Int)
        (fun (M_19 : xM) =>
          M_hour_F88 R 104 (h : Int)
            xfu 0 M_19)
        xfu 0 M_5) 32 xfu 0 M (by have : xfu = 1000000 := rfl; omega) (by omega)
  obtain ⟨N, hN⟩ : ∃ N, N = xrow M 157 (fun i => if 0 ≤ i ∧ i < 32 then 0 else M 157 i) := ⟨_, rfl⟩
  rw [← hN] at e1
  have nO : ∀ x, x ≠ 157 → N x = M x := fun x hx => by rw [hN, xrow_cell _ _ hx]
  have frN : FrM M N := fun x hx => nO x (by omega)
  obtain ⟨P, p1, p2, p3, p4⟩ := hour_F23 hR hh hW (fun (M_19 : xM) =>
          M_hour_F88 R 104 (h : Int)
            xfu 0 M_19) 4 xfu 0 N (by have : xfu = 1000000 := rfl; omega) (by omega) (hX.of frN) (fun i hi => by rw [hN, xrow_at, if_pos ⟨by omega, hi⟩, if_neg (by omega)])
  have pO : ∀ x, x ≠ 156 → x ≠ 157 → P x = M x := fun x h1 h2 => by rw [p2 x (by simp only [List.mem_cons, List.not_mem_nil, or_false, not_or]; exact ⟨h1, h2⟩), nO x h2]
  have frP : FrM M P := fun x hx => pO x (by omega) (by omega)
  have hbd : (39996 : Int) * ((h : Int) + 1) ≤ 2000000 := by omega
  obtain ⟨M', m1, m2, m3⟩ := hour_F88 hR hh hW hbd (W 0 0).toNat xfu 0 P (hini W h S) (by have : xfu = 1000000 := rfl; have := hW.1; omega) (by omega) (by rw [pO 104 (by decide) (by decide)]; exact hX.1) (fun c hc => (hC c hc).of frP) (hini_CB hW hS) (by
    refine ⟨⟨fun i hi => ?_, fun i hi => p4 i hi⟩, fun i hi => ?_, fun i hi => by omega⟩
    · show P 156 i = (if _ then _ else _)
      rw [p3, nO 156 (by decide), if_pos rfl]
      by_cases z : 4 * h ≤ i ∧ i < 4 * h + 4
      · rw [if_pos (by omega), if_pos z]
      · rw [if_neg (by omega), if_neg z]
        exact hA.1 i (by omega)
    · show P 160 i = _ ∧ P 161 i = _ ∧ P 162 i = _
      rw [pO 160 (by decide) (by decide), pO 161 (by decide) (by decide), pO 162 (by decide) (by decide)]
      exact hA.2 i hi)
  refine ⟨M', ?_, frP.trans m2, m3⟩
  unfold f_M_hour
  exact e1.trans (p1.trans m1)
theorem steps_F2 {R : xR} {pn ps ln ls : Nat} (hR : RG R pn ps ln ls) (l1 : Int) (Q : xM → Option xM) : ∀ (k f v : Nat) (M : xM), k < f → v + k = 32 → ∃ M', M_steps_F2 R 104 l1 Q f (v : Int) M = Q M' ∧ Fr [160, 161, 162] M M' ∧ ∀ i, (v ≤ i → i < 32 → M' 160 i = 0 ∧ M' 161 i = 0 ∧ M' 162 i = 0) ∧ (i < v → M' 160 i = M 160 i ∧ M' 161 i = M 161 i ∧ M' 162 i = M 162 i) := by
  have r84 : R 104 84 = 160 := hR.m80 (k := 4) (by decide)
  have r85 : R 104 85 = 161 := hR.m80 (k := 5) (by decide)
  have r86 : R 104 86 = 162 := hR.m80 (k := 6) (by decide)
  intro k
  induction k with
  | zero =>
    intro f v M hf hv
    obtain ⟨f, rfl⟩ : ∃ g, f = g + 1 := ⟨f - 1, by omega⟩
    refine ⟨M, ?_, fun _ _ => rfl, fun i => ⟨fun h1 h2 => by omega, fun _ => ⟨rfl, rfl, rfl⟩⟩⟩
    rw [M_steps_F2, if_neg (by omega)]
  | succ k ih =>
    intro f v M hf hv
    obtain ⟨f, rfl⟩ : ∃ g, f = g + 1 := ⟨f - 1, by omega⟩
    rw [M_steps_F2, if_pos (by omega), xch_pos (by omega), xl_eq, xl_eq, xl_eq, xl_eq, r84, r85, r86, Int.toNat_natCast, w32_of (x := (v : Int) + 1) (by omega) (by omega), show (v : Int) + 1 = ((v + 1 : Nat) : Int) by omega]
    obtain ⟨N, hN⟩ : ∃ N, N = xu (xu (xu M 160 v 0) 161 v 0) 162 v 0 := ⟨_, rfl⟩
    rw [← hN]
    have n0 : ∀ i, N 160 i = if i = v then 0 else M 160 i := fun i => by rw [hN, xu_cell _ _ _ (by decide), xu_cell _ _ _ (by decide), xu_at]
    have n1 : ∀ i, N 161 i = if i = v then 0 else M 161 i := fun i => by rw [hN, xu_cell _ _ _ (by decide), xu_at, xu_cell _ _ _ (by decide)]
    have n2 : ∀ i, N 162 i = if i = v then 0 else M 162 i := fun i => by rw [hN, xu_at, xu_cell _ _ _ (by decide), xu_cell _ _ _ (by decide)]
    obtain ⟨M', m1, m2, m3⟩ := ih f (v + 1) N (by omega) (by omega)
    refine ⟨M', m1, fun x hx => ?_, fun i => ⟨fun h1 h2 => ?_, fun h1 => ?_⟩⟩
    · rw [m2 x hx]
      simp only [List.mem_cons, List.not_mem_nil, or_false, not_or] at hx
      rw [hN, xu_cell _ _ _ hx.2.2, xu_cell _ _ _ hx.2.1, xu_cell _ _ _ hx.1]
    · by_cases z : i = v
      · have := (m3 i).2 (by omega)
        rw [n0, n1, n2, if_pos z, if_pos z, if_pos z] at this
        exact this
      · exact (m3 i).1 (by omega) h2
    · have := (m3 i).2 (by omega)
      rw [n0, n1, n2, if_neg (by omega), if_neg (by omega), if_neg (by omega)] at this
      exact this
theorem steps_F37 {R : xR} {pn ps ln ls : Nat} (hR : RG R pn ps ln ls) {H : Nat} (hH : H < 48) {W : xM} (hW : ∀ h, h ≤ H → WH W h) : ∀ (k f h : Nat) (M : xM), k < f → h + k = H → (∀ h, h ≤ H → WMw R h W M ∧ ∀ c, c < (W 0 0).toNat → WMc R h c W M) → AgS 155 h M (sim W h) →
    ∃ M', M_steps_F37 R 104 (H : Int) (f + 1) (h : Int) M = some M' ∧ FrM M M' ∧ AgC 155 H (W 0 0).toNat M' (sim W (H + 1)) := by
  intro k
  induction k with
  | zero =>
    intro f h M hf hh hX hA
    obtain ⟨f, rfl⟩ : ∃ g, f = g + 1 := ⟨f - 1, by omega⟩
    have e : h = H := by omega
    subst e
    obtain ⟨M', m1, m2, m3⟩ := hour_eq hR hH (hW h (Nat.le_refl h)) (sim_HB h fun k hk => hW k (by omega)) (hX h (Nat.le_refl h)).1 (hX h (Nat.le_refl h)).2 hA
    refine ⟨M', ?_, m2, m3⟩
    rw [M_steps_F37, if_neg (by omega), m1, xb1_some, xl_eq, w32_of (x := (h : Int) + 1) (by omega) (by omega), M_steps_F37, if_pos (by omega)]
  | succ k ih =>
    intro f h M hf hh hX hA
    obtain ⟨f, rfl⟩ : ∃ g, f = g + 1 := ⟨f - 1, by omega⟩
    obtain ⟨N, n1, n2, n3⟩ := hour_eq hR (show h < 48 by omega) (hW h (by omega)) (sim_HB h fun k hk => hW k (by omega)) (hX h (by omega)).1 (hX h (by omega)).2 hA
    obtain ⟨M', m1, m2, m3⟩ := ih f (h + 1) N (by omega) (by omega) (fun h hh => ⟨(hX h hh).1.of n2, fun c hc => ((hX h hh).2 c hc).of n2⟩) n3.s
    refine ⟨M', ?_, n2.trans m2, m3⟩
    rw [M_steps_F37, if_neg (by omega), n1, xb1_some, xl_eq, w32_of (x := (h : Int) + 1) (by omega) (by omega)]
    exact m1
theorem steps_eq {R : xR} {pn ps ln ls : Nat} (hR : RG R pn ps ln ls) {H : Nat} (hH : H < 48) {W M : xM} (hW : ∀ h, h ≤ H → WH W h) (hX : ∀ h, h ≤ H → WMw R h W M ∧ ∀ c, c < (W 0 0).toNat → WMc R h c W M) :
    ∃ M', f_M_steps R 104 (H : Int) M = some M' ∧ FrM M M' ∧ AgC 155 H (W 0 0).toNat M' (sim W (H + 1)) := by
  obtain ⟨N, n1, n2, n3⟩ := steps_F2 hR (H : Int) (fun (M_7 : xM) =>
      M_steps_F37 R 104 (H : Int)
        xfu 0 M_7) 32 xfu 0 M (by have : xfu = 1000000 := rfl; omega) (by omega)
  have frN : FrM M N := fun x hx => n2 x (by simp only [List.mem_cons, List.not_mem_nil, or_false, not_or]; omega)
  obtain ⟨M', m1, m2, m3⟩ := steps_F37 hR hH hW H 999999 0 N (by omega) (by omega) (fun h hh => ⟨(hX h hh).1.of frN, fun c hc => ((hX h hh).2 c hc).of frN⟩) ⟨fun i hi => by omega, fun i hi => (n3 i).1 (by omega) hi⟩
  refine ⟨M', ?_, frN.trans m2, m3⟩
  unfold f_M_steps
  exact n1.trans m1
