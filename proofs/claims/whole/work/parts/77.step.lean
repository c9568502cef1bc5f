/-! ===== an hour in the class ===== -/
theorem dsm_st (W : xM) (h w i : Nat) : dsm W h (w + 1) i = dsm W h w i + (if W 8 w = ((i / 4 : Nat) : Int) then W 10 ((w * 48 + h) * 4 + i % 4) else 0) := rfl
/-- what the class says of the works at hour h is what the world says -/
def WXw (p h : Nat) (W M : xM) : Prop := M p 0 = W 0 0 ∧ M p 1 = W 0 1 ∧ ∀ w, w < (W 0 1).toNat → M (p + 11) w = W 8 w ∧ ∀ s, s < 4 → M 58 ((w * 48 + h) * 4 + s) = W 10 ((w * 48 + h) * 4 + s)
theorem bring_F15 {R : xR} {p b h w : Nat} (hF : FlR R b) (hP : PnR R p) (hB : BkR R) (hp : p + 11 < b) (hb : 61 < b) (hh : h < 48) {W : xM} (hW : WH W h) (hw : w < (W 0 1).toNat) (Q : Int → xM → Option xM) : ∀ (k f s : Nat) (M : xM), k < f → s + k = 4 → WXw p h W M → (∀ i, i < 32 → M (b + 2) i = if i % 4 < s then dsm W h (w + 1) i else dsm W h w i) →
    ∃ M', F_bringDust_F15 R b p 48 (h : Int) Q f (w : Int) (s : Int) M = Q (w : Int) M' ∧ Fr [b + 2] M M' ∧ ∀ i, i < 32 → M' (b + 2) i = dsm W h (w + 1) i := by
  have r2 := hF.2.1
  have p12 : R p 12 = p + 11 := hP 12 (by decide) (by decide)
  have w01 := hW.2.1
  obtain ⟨ww1, ww2⟩ := hW.2.2.1 w hw
  have din := (dsm_in hW w (by omega)).1
  intro k
  induction k with
  | zero =>
    intro f s M hf hs hX hM
    obtain ⟨f, rfl⟩ : ∃ g, f = g + 1 := ⟨f - 1, by omega⟩
    refine ⟨M, ?_, fun _ _ => rfl, fun i hi => by rw [hM i hi, if_pos (by omega)]⟩
    rw [F_bringDust_F15, if_neg (by omega)]
  | succ k ih =>
    intro f s M hf hs hX hM
    obtain ⟨f, rfl⟩ : ∃ g, f = g + 1 := ⟨f - 1, by omega⟩
    obtain ⟨x1, x2⟩ := hX.2.2 w hw
    have xs := x2 s (by omega)
    have ws := ww2 s (by omega)
    have dd := din (4 * (W 8 w).toNat + s)
    have hcell : f_B_cell (w : Int) (h : Int) (s : Int) = some (((w * 48 + h) * 4 + s : Nat) : Int) := by
      unfold f_B_cell
      rw [w32_of (x := (w : Int) * 48) (by omega) (by omega), w32_of (x := (w : Int) * 48 + (h : Int)) (by omega) (by omega), w32_of (x := ((w : Int) * 48 + (h : Int)) * 4) (by omega) (by omega), w32_of (by omega) (by omega)]
      exact congrArg some (by omega)
    rw [F_bringDust_F15, if_pos (by omega), xch_pos (by omega), p12, Int.toNat_natCast, x1, w32_of (x := W 8 w * 4) (by omega) (by omega), w32_of (x := W 8 w * 4 + (s : Int)) (by omega) (by omega), xch_pos (by omega), hcell, xb1_some, xch_pos (by omega), xl_eq, xl_eq, r2, hB.2.1, Int.toNat_natCast, show (W 8 w * 4 + (s : Int)).toNat = 4 * (W 8 w).toNat + s by omega, hM _ (by omega), if_neg (by omega), xs, w32_of (x := dsm W h w (4 * (W 8 w).toNat + s) + W 10 ((w * 48 + h) * 4 + s)) (by omega) (by omega), w32_of (x := (s : Int) + 1) (by omega) (by omega), show (s : Int) + 1 = ((s + 1 : Nat) : Int) by omega]
    obtain ⟨N, hN⟩ : ∃ N, N = xu M (b + 2) (4 * (W 8 w).toNat + s) (dsm W h w (4 * (W 8 w).toNat + s) + W 10 ((w * 48 + h) * 4 + s)) := ⟨_, rfl⟩
    rw [← hN]
    have nO : ∀ x, x ≠ b + 2 → N x = M x := fun x hx => by rw [hN, xu_cell _ _ _ hx]
    have n2 : ∀ i, i < 32 → N (b + 2) i = if i % 4 < s + 1 then dsm W h (w + 1) i else dsm W h w i := by
      intro i hi
      rw [hN, xu_at]
      by_cases z : i = 4 * (W 8 w).toNat + s
      · rw [if_pos z, if_pos (by omega), dsm_st, z, show (4 * (W 8 w).toNat + s) / 4 = (W 8 w).toNat by omega, show (4 * (W 8 w).toNat + s) % 4 = s by omega, if_pos (by omega)]
      · rw [if_neg z, hM i hi]
        by_cases z2 : i % 4 < s
        · rw [if_pos z2, if_pos (by omega)]
        · rw [if_neg z2]
          by_cases z3 : i % 4 < s + 1
          · rw [if_pos z3, dsm_st, if_neg (by omega), Int.add_zero]
          · rw [if_neg z3]
    obtain ⟨M', m1, m2, m3⟩ := ih f (s + 1) N (by omega) (by omega) ⟨by rw [nO p (by omega)]; exact hX.1, by rw [nO p (by omega)]; exact hX.2.1, fun v hv => by rw [nO (p + 11) (by omega), nO 58 (by omega)]; exact hX.2.2 v hv⟩ n2
    refine ⟨M', m1, fun x hx => ?_, m3⟩
    rw [m2 x hx, nO x (by simpa using hx)]
theorem bring_F3 {R : xR} {p b h : Nat} (hF : FlR R b) (hP : PnR R p) (hB : BkR R) (hp : p + 11 < b) (hb : 61 < b) (hh : h < 48) {W : xM} (hW : WH W h) : ∀ (k f w : Nat) (M : xM), k < f → w + k = (W 0 1).toNat → WXw p h W M → (∀ i, i < 32 → M (b + 2) i = dsm W h w i) →
    ∃ M', F_bringDust_F3 R b p 48 (h : Int) f (w : Int) M = some M' ∧ Fr [b + 2] M M' ∧ ∀ i, i < 32 → M' (b + 2) i = dsm W h (W 0 1).toNat i := by
  have w01 := hW.2.1
  intro k
  induction k with
  | zero =>
    intro f w M hf hw hX hM
    obtain ⟨f, rfl⟩ : ∃ g, f = g + 1 := ⟨f - 1, by omega⟩
    have e : w = (W 0 1).toNat := by omega
    refine ⟨M, ?_, fun _ _ => rfl, by rw [← e]; exact hM⟩
    rw [F_bringDust_F3, hX.2.1, if_neg (by omega)]
  | succ k ih =>
    intro f w M hf hw hX hM
    obtain ⟨f, rfl⟩ : ∃ g, f = g + 1 := ⟨f - 1, by omega⟩
    obtain ⟨N, n1, n2, n3⟩ := bring_F15 hF hP hB hp hb hh hW (show w < (W 0 1).toNat by omega) (fun (v4_10 : Int) (M_11 : xM) =>
          xl (w32 (v4_10 + 1)) fun v4_12 =>
          F_bringDust_F3 R b p 48 (h : Int)  f v4_12 M_11) 4 xfu 0 M (by have : xfu = 1000000 := rfl; omega) (by omega) hX (fun i hi => by rw [if_neg (by omega)]; exact hM i hi)
    have nO : ∀ x, x ≠ b + 2 → N x = M x := fun x hx => n2 x (by simpa using hx)
    obtain ⟨M', m1, m2, m3⟩ := ih f (w + 1) N (by omega) (by omega) ⟨by rw [nO p (by omega)]; exact hX.1, by rw [nO p (by omega)]; exact hX.2.1, fun v hv => by rw [nO (p + 11) (by omega), nO 58 (by omega)]; exact hX.2.2 v hv⟩ n3
    refine ⟨M', ?_, fun x hx => (m2 x hx).trans (n2 x hx), m3⟩
    rw [F_bringDust_F3, hX.2.1, if_pos (by omega)]
    refine n1.trans ?_
    show xl _ _ = _
    rw [xl_eq, w32_of (x := (w : Int) + 1) (by omega) (by omega)]
    exact m1
theorem step_F67 {R : xR} {p b h : Nat} (hF : FlR R b) (hP : PnR R p) (hB : BkR R) (hp : p + 11 < b) (hb : 61 < b) (hh : h < 48) {W : xM} (hW : WH W h) {B : Int} (hB2 : B ≤ 2000000) : ∀ (k f c : Nat) (M S : xM), k < f → c + k = (W 0 0).toNat → M p 0 = W 0 0 → (∀ c, c < (W 0 0).toNat → WXc R p b h c W M) → CB B h c S → AgC b h c M S → (∀ i, 4 * c ≤ i → i < 32 → M (b + 4) i = 0) →
    ∃ M', F_step_F67 R b p 48 f (h : Int) (c : Int) M = some M' ∧ FrB b M M' ∧ AgC b h (W 0 0).toNat M' (csps W h k c S) := by
  have w00 := hW.1
  intro k
  induction k with
  | zero =>
    intro f c M S hf hc h0 hX hC hA hz
    obtain ⟨f, rfl⟩ : ∃ g, f = g + 1 := ⟨f - 1, by omega⟩
    have e : c = (W 0 0).toNat := by omega
    refine ⟨M, ?_, fun _ _ => rfl, by rw [← e]; exact hA⟩
    rw [F_step_F67, h0, if_neg (by omega)]
  | succ k ih =>
    intro f c M S hf hc h0 hX hC hA hz
    obtain ⟨f, rfl⟩ : ∃ g, f = g + 1 := ⟨f - 1, by omega⟩
    have hWc := hW.2.2.2 c (by omega)
    obtain ⟨N, n1, n2, n3, n4⟩ := cln_X hF hP hB hp hb hh (show c < 8 by omega) hWc (hX c (by omega)) hB2 hC hA hz (by omega) f
    obtain ⟨M', m1, m2, m3⟩ := ih f (c + 1) N (cstp W h c S) (by omega) (by omega) (by rw [n2 p (Or.inl (by omega))]; exact h0) (fun c hc => WXc.of hB hp hb (hX c hc) n2) (cstp_CB hWc (by omega) hC) n3 n4
    exact ⟨M', n1.trans m1, n2.trans m2, m3⟩
/-- the memory from base b on is the state at the start of hour h -/
def AgS (b h : Nat) (M S : xM) : Prop := (∀ i, i < 4 * h → M (b + 1) i = S 1 i) ∧ ∀ i, i < 32 → M (b + 5) i = S 5 i ∧ M (b + 6) i = S 6 i ∧ M (b + 7) i = S 7 i
theorem AgC.s {b h c : Nat} {M S : xM} (q : AgC b h c M S) : AgS b (h + 1) M S := ⟨fun i hi => q.1.1 i (by omega), q.2.1⟩
theorem step_eq {R : xR} {p b h : Nat} (hF : FlR R b) (hP : PnR R p) (hB : BkR R) (hp : p + 11 < b) (hb : 61 < b) (hh : h < 48) {W M S : xM} (hW : WH W h) (hS : HB h S) (h0 : M b 0 = (h : Int)) (hX : WXw p h W M) (hC : ∀ c, c < (W 0 0).toNat → WXc R p b h c W M) (hA : AgS b h M S) :
    ∃ M', f_F_step R b p 48 M = some M' ∧ (∀ x, x < b ∨ b + 12 ≤ x → M' x = M x) ∧ (∀ k, M' b k = if k = 0 then (h : Int) + 1 else M b k) ∧ AgC b h (W 0 0).toNat M' (hstp W h S) := by
  have r1 := hF.1
  have r2 := hF.2.1
  have r4 := hF.2.2.2.1
  have x27 : xan 27 = 32 := by decide +kernel
  have x26 : xan 26 = 192 := by decide +kernel
  unfold f_F_step
  rw [h0, if_pos (by omega), xl_eq, xl_eq, w32_of (x := (h : Int) + 1) (by omega) (by omega), r2, r4, r1, fill_aIIV, xb1_some, fill_aIIV, xb1_some, w32_of (x := (h : Int) * 4) (by omega) (by omega), w32_of (x := ((h : Int) + 1) * 4) (by omega) (by omega), fill_aIIIIV (by omega) (by omega) (by omega), xb1_some, x27]
  obtain ⟨N, hN⟩ : ∃ N, N = xfil (xfil (xfil (xu M b 0 ((h : Int) + 1)) (b + 2) 0 32 0) (b + 4) 0 32 0) (b + 1) ((h : Int) * 4).toNat (((h : Int) + 1) * 4).toNat 0 := ⟨_, rfl⟩
  rw [← hN]
  have nO : ∀ x, x ≠ b → x ≠ b + 1 → x ≠ b + 2 → x ≠ b + 4 → N x = M x := fun x h1 h2 h3 h4 => by rw [hN, xfil_cell _ _ _ _ h2, xfil_cell _ _ _ _ h4, xfil_cell _ _ _ _ h3, xu_cell _ _ _ h1]
  have nb : ∀ k, N b k = if k = 0 then (h : Int) + 1 else M b k := fun k => by rw [hN, xfil_cell _ _ _ _ (by omega), xfil_cell _ _ _ _ (by omega), xfil_cell _ _ _ _ (by omega), xu_at]
  have n1 : ∀ i, N (b + 1) i = if 4 * h ≤ i ∧ i < 4 * h + 4 then 0 else M (b + 1) i := fun i => by
    rw [hN, xfil_at, xfil_cell _ _ _ _ (by omega), xfil_cell _ _ _ _ (by omega), xu_cell _ _ _ (by omega), show ((h : Int) * 4).toNat = 4 * h by omega, show (((h : Int) + 1) * 4).toNat = 4 * h + 4 by omega]
  have n2 : ∀ i, i < 32 → N (b + 2) i = 0 := fun i hi => by rw [hN, xfil_cell _ _ _ _ (by omega), xfil_cell _ _ _ _ (by omega), xfil_at, if_pos ⟨by omega, hi⟩]
  have n4 : ∀ i, i < 32 → N (b + 4) i = 0 := fun i hi => by rw [hN, xfil_cell _ _ _ _ (by omega), xfil_at, if_pos ⟨by omega, hi⟩]
  have hXN : WXw p h W N := ⟨by rw [nO p (by omega) (by omega) (by omega) (by omega)]; exact hX.1, by rw [nO p (by omega) (by omega) (by omega) (by omega)]; exact hX.2.1, fun v hv => by rw [nO (p + 11) (by omega) (by omega) (by omega) (by omega), nO 58 (by omega) (by omega) (by omega) (by omega)]; exact hX.2.2 v hv⟩
  obtain ⟨P, p1, p2, p3⟩ := bring_F3 hF hP hB hp hb hh hW (W 0 1).toNat xfu 0 N (by have : xfu = 1000000 := rfl; have := hW.2.1; omega) (by omega) hXN (fun i hi => by rw [n2 i hi]; rfl)
  have pO : ∀ x, x ≠ b + 2 → P x = N x := fun x hx => p2 x (by simpa using hx)
  have hfr : ∀ x, x < b ∨ b + 12 ≤ x → P x = M x := fun x hx => by rw [pO x (by omega), nO x (by omega) (by omega) (by omega) (by omega)]
  have hXc : ∀ c, c < (W 0 0).toNat → WXc R p b h c W P := by
    intro c hc
    have e : ∀ x, x < b → P x = M x := fun x hx => hfr x (Or.inl hx)
    have eb : ∀ k, k ≠ 0 → P b k = M b k := fun k hk => by rw [pO b (by omega), nb, if_neg hk]
    obtain ⟨q1, q2, q3, q4, q5, q6, q7, q8, q9, q10⟩ := hC c hc
    refine ⟨by rw [e _ (by omega)]; exact q1, fun s hs => by rw [e _ (by omega)]; exact q2 s hs, by rw [e _ (by omega)]; exact q3, by rw [e _ (by omega)]; exact q4, by rw [e _ (by omega)]; exact q5, fun i hi => by rw [e _ (by omega), e _ (by omega)]; exact q6 i hi, by rw [e _ (by omega)]; exact q7, ?_, ?_, ?_⟩
    · rw [← q8]
      unfold f_F_isKnocked f_B_isKnocked
      rw [hB.2.2.1, e 59 (by omega), eb 9 (by decide), eb 10 (by decide)]
    · rw [← q9]
      unfold f_B_isOff
      rw [hB.2.2.2.1, e 60 (by omega)]
    · rw [← q10]
      unfold f_F_lessBy f_B_holesBy
      rw [hB.2.2.2.2, e 61 (by omega), eb 9 (by decide), eb 11 (by decide)]
  have hbd : (39996 : Int) * ((h : Int) + 1) ≤ 2000000 := by omega
  obtain ⟨M', m1, m2, m3⟩ := step_F67 hF hP hB hp hb hh hW hbd (W 0 0).toNat xfu 0 P (hini W h S) (by have : xfu = 1000000 := rfl; have := hW.1; omega) (by omega) (by rw [hfr p (Or.inl (by omega))]; exact hX.1) hXc (hini_CB hW hS) (by
    refine ⟨⟨fun i hi => ?_, fun i hi => p3 i hi⟩, fun i hi => ?_, fun i hi => by omega⟩
    · rw [pO (b + 1) (by omega), n1]
      show _ = (if _ then _ else _)
      rw [if_pos rfl]
      by_cases z : 4 * h ≤ i ∧ i < 4 * h + 4
      · rw [if_pos z, if_pos z]
      · rw [if_neg z, if_neg z, hA.1 i (by omega)]
    · rw [pO (b + 5) (by omega), pO (b + 6) (by omega), pO (b + 7) (by omega), nO (b + 5) (by omega) (by omega) (by omega) (by omega), nO (b + 6) (by omega) (by omega) (by omega) (by omega), nO (b + 7) (by omega) (by omega) (by omega) (by omega)]
      exact hA.2 i hi) (fun i _ hi => by rw [pO (b + 4) (by omega)]; exact n4 i hi)
  refine ⟨M', ?_, fun x hx => ?_, fun k => ?_, m3⟩
  · unfold f_F_bringDust
    rw [show (0 : Int) = ((0 : Nat) : Int) from rfl, p1, xb1_some]
    exact m1
  · rw [m2 x (by omega), hfr x hx]
  · rw [m2 b (Or.inl (Nat.le_refl b)), pO b (by omega), nb]
