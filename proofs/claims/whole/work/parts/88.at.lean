/-! ===== at ===== -/
theorem w32_in (x : Int) : -2147483648 ≤ w32 x ∧ w32 x < 2147483648 := by
  have h1 := Int.le_bmod (x := x) (m := 4294967296) (by decide)
  have h2 := Int.bmod_lt (x := x) (m := 4294967296) (by decide)
  unfold w32
  omega
theorem w32_w32 (x : Int) : w32 (w32 x) = w32 x := w32_of (w32_in x).1 (w32_in x).2
theorem cA2_in {W S : xM} {h c i : Nat} (q : xi32 (S 6 i)) : xi32 (cA2 W h c S i) := by
  have a : xi32 (cA1 W h c S i) := by
    unfold cA1
    split
    · exact q
    · exact w32_in _
  unfold cA2
  split
  · exact a
  · exact w32_in _
theorem cstp_x6 {W S : xM} {h c : Nat} (q : ∀ i, xi32 (S 6 i)) (i : Nat) : xi32 (cstp W h c S 6 i) := by
  by_cases z : 4 * c ≤ i ∧ i < 4 * c + 4
  · rw [(cstp_in z).2.2.2.1]
    exact cA2_in (q i)
  · rw [cstp_out z (by decide) (by decide)]
    exact q i
theorem csps_x6 {W : xM} {h : Nat} : ∀ k c S, (∀ i, xi32 (S 6 i)) → ∀ i, xi32 (csps W h k c S 6 i) := by
  intro k
  induction k with
  | zero => intro c S q; exact q
  | succ k ih => intro c S q; exact ih (c + 1) _ (cstp_x6 q)
theorem sim_x6 {W : xM} : ∀ h i, xi32 (sim W h 6 i) := by
  intro h
  induction h with
  | zero => intro i; exact ⟨by show (-2147483648 : Int) ≤ 0; decide, by show (0 : Int) < 2147483648; decide⟩
  | succ h ih => exact csps_x6 _ 0 _ ih
/-- bounds of what the first k cleaners have at the end -/
def BB (k : Nat) (S : xM) : Prop := ∀ i, i < 4 * k → xi32 (S 2 i) ∧ xi32 (S 3 i) ∧ xi32 (S 4 i) ∧ xi32 (S 5 i) ∧ xi32 (S 6 i)
theorem cstp_BB {B : Int} (hB : B ≤ 2000000) {W S : xM} {h c : Nat} (hW : WC W h c) (hc : c < 8) (q : CB B h c S) (h6 : ∀ i, xi32 (S 6 i)) (hb : BB c S) : BB (c + 1) (cstp W h c S) := by
  intro i hi
  have e2 : cstp W h c S 2 i = S 2 i := by rw [cstp_12 (Or.inr rfl), csnd_oth hW (Or.inr (Or.inr ⟨rfl, by omega⟩)) 4 0 S (by omega)]
  rw [e2]
  by_cases z : 4 * c ≤ i ∧ i < 4 * c + 4
  · obtain ⟨s, rfl⟩ : ∃ s, i = 4 * c + s := ⟨i - 4 * c, by omega⟩
    have e := cstp_in (W := W) (S := S) (h := h) z
    rw [e.1, e.2.1, e.2.2.1, e.2.2.2.1]
    obtain ⟨a1, a2, a3, a4⟩ := q.1 (4 * c + s) (by omega)
    have f := fl_in hW a2
    have g := hd_in hW (show s < 4 by omega) a1 a3 a4
    have k := q.at (show s < 4 by omega) hc
    have m : 0 ≤ cL2 W h c S (4 * c + s) ∧ cL2 W h c S (4 * c + s) ≤ 4000000 := by
      unfold cL2
      split <;> omega
    refine ⟨⟨by omega, by omega⟩, ⟨by omega, by omega⟩, ⟨by omega, by omega⟩, ⟨by omega, by omega⟩, cA2_in (h6 _)⟩
  · rw [cstp_out z (by decide) (by decide), cstp_out z (by decide) (by decide), cstp_out z (by decide) (by decide), cstp_out z (by decide) (by decide)]
    exact hb i (by omega)
theorem csps_BB {B : Int} (hB : B ≤ 2000000) {W : xM} {h n : Nat} (hn : n ≤ 8) (hW : ∀ c, c < n → WC W h c) : ∀ k c S, c + k = n → CB B h c S → (∀ i, xi32 (S 6 i)) → BB c S → BB n (csps W h k c S) := by
  intro k
  induction k with
  | zero =>
    intro c S hc _ _ q
    have : c = n := by omega
    rw [← this]
    exact q
  | succ k ih =>
    intro c S hc q h6 hb
    exact ih (c + 1) _ (by omega) (cstp_CB (hW c (by omega)) (by omega) q) (cstp_x6 h6) (cstp_BB hB (hW c (by omega)) (by omega) q h6 hb)
theorem sim_BB {W : xM} {h : Nat} (hh : h < 48) (hW : ∀ j, j ≤ h → WH W j) : BB (W 0 0).toNat (sim W (h + 1)) := by
  have w := hW h (Nat.le_refl h)
  exact csps_BB (B := 39996 * ((h : Int) + 1)) (by omega) (by have := w.1; omega) w.2.2.2 _ 0 _ (by omega) (hini_CB w (sim_HB h fun k hk => hW k (by omega))) (fun i => sim_x6 h i) (fun i hi => by omega)
theorem toEnd_eq {R : xR} {pn ps ln ls : Nat} (hR : RG R pn ps ln ls) {M : xM} (hW : WB pn M) (hI : FlI pn M) (hS : SC M) {H : Nat} (hH : H < 48) :
    ∃ A, f_X_stepToEndOf R 1 (H : Int) M = some A ∧ FrG M A ∧ FlI pn A ∧ WB pn A ∧ SC A ∧ w0 pn A = w0 pn M ∧ AgC 62 H (M pn 0).toNat A (sim (w0 pn M) (H + 1)) := by
  have hpn := hR.pnn
  have r8 : R 1 8 = 62 := hR.2.1.2.2.2.2.2.2.2.1
  obtain ⟨i1, i2, i3⟩ := hI
  unfold f_X_stepToEndOf
  rw [w32_of (x := (H : Int) + 1) (by omega) (by omega), r8]
  by_cases z : (H : Int) + 1 < M 62 0
  · rw [if_pos z]
    obtain ⟨B, b1, b2, b3, b4⟩ := restart_eq hR.fl62 M
    have fB : FrF M B := fun x hx => b2 x (by omega)
    have b0 : B 62 0 = 0 := by rw [b3, if_pos rfl]
    have wB := fB.wb (show pn + 11 < 48 by omega) (by omega) hW
    have ew : w0 pn B = w0 pn M := fB.w0 (by omega)
    have ep : B pn = M pn := fB pn (by omega)
    have iB : FlI pn B := by
      refine ⟨by rw [b3, if_neg (by decide)]; exact i1, by rw [b0]; omega, fun q => ⟨fB.ga (i3 (by rw [← fB 48 (by decide)]; exact q)).1, ?_⟩⟩
      rw [b0]
      exact ⟨⟨fun i hi => by have : i < 0 := hi; omega, fun i hi => b4 i hi⟩, fun k hk => by have : 0 = k + 1 := hk; omega⟩
    obtain ⟨A, n, a1, a2, a3, a4, a5, a6, a7, a8, a9, a10, a11, a12, a13, -, -⟩ := both_through hR wB iB (by unfold SC; rw [fB 104 (by decide)]; exact hS) hH
    have hn := a12 (by rw [b0]; omega)
    rw [ew, ep, hn] at a13
    refine ⟨A, by rw [b1, xb1_some, a1, xb1_some], ⟨fun x hx => by rw [a2.1 x hx, fB x (by omega)], fun k hk => by rw [a2.2.1 k hk, fB 48 (by decide)], fun k hk => by rw [a2.2.2 k hk, b3, if_neg hk]⟩, a3, a4, a5, by rw [a7, ew], a13.2 H rfl⟩
  · rw [if_neg z]
    obtain ⟨A, n, a1, a2, a3, a4, a5, a6, a7, a8, a9, a10, a11, a12, a13, -, -⟩ := both_through hR hW ⟨i1, i2, i3⟩ hS hH
    have hn := a12 (by omega)
    rw [hn] at a13
    exact ⟨A, by rw [a1, xb1_some], a2, a3, a4, a5, a7, a13.2 H rfl⟩
/-- an amount of a cleaner: of size b, or of all -/
def amV (f : Nat → Int) (c : Nat) (b : Int) : Int := if b = -1 then w32 (w32 (w32 (w32 (0 + f (4 * c)) + f (4 * c + 1)) + f (4 * c + 2)) + f (4 * c + 3)) else f (4 * c + b.toNat)
theorem amount_eq {R : xR} {b : Nat} (hF : FlR R b) {c w : Nat} (hc : c < 8) (hw : w < 5) {M : xM} {f : Nat → Int} (hf : ∀ s, s < 4 → M (b + 2 + w) (4 * c + s) = f (4 * c + s)) {v : Int} (hv : v = -1 ∨ (0 ≤ v ∧ v < 4)) : f_F_amountOf R b (c : Int) v (w : Int) M = some (amV f c v) := by
  have x27 : xan 27 = 32 := by decide +kernel
  have e : f_F_amountsOf R b (w : Int) = some (b + 2 + w) := by
    unfold f_F_amountsOf
    rcases (show w = 0 ∨ w = 1 ∨ w = 2 ∨ w = 3 ∨ w = 4 by omega) with rfl | rfl | rfl | rfl | rfl
    · rw [if_pos (by decide), hF.2.1]
    · rw [if_neg (by decide), if_pos (by decide), hF.2.2.1]
    · rw [if_neg (by decide), if_neg (by decide), if_pos (by decide), hF.2.2.2.1]
    · rw [if_neg (by decide), if_neg (by decide), if_neg (by decide), if_pos (by decide), hF.2.2.2.2.1]
    · rw [if_neg (by decide), if_neg (by decide), if_neg (by decide), if_neg (by decide), hF.2.2.2.2.2.1]
  have f0 : M (b + 2 + w) (4 * c) = f (4 * c) := hf 0 (by decide)
  unfold f_F_amountOf amV
  rw [e, xb1_some]
  by_cases z : v = -1
  · rw [if_pos z, if_pos z, w32_of (x := (c : Int) * 4) (by omega) (by omega), show (c : Int) * 4 = ((4 * c : Nat) : Int) by omega, sumOf_eq (by omega) (by omega), xb1_some, f0, hf 1 (by decide), hf 2 (by decide), hf 3 (by decide)]
  · rw [if_neg z, if_neg z, w32_of (x := (c : Int) * 4) (by omega) (by omega), w32_of (x := (c : Int) * 4 + v) (by omega) (by omega), xch_pos (by omega), show ((c : Int) * 4 + v).toNat = 4 * c + v.toNat by omega, hf v.toNat (by omega)]
theorem at_F55 {R : xR} {pn ps ln ls : Nat} (hR : RG R pn ps ln ls) {c w : Nat} (hc : c < 8) (hw : w < 5) {M : xM} {f : Nat → Int} (hf : ∀ s, s < 4 → M (157 + w) (4 * c + s) = f (4 * c + s)) (hx : ∀ s, s < 4 → xi32 (f (4 * c + s))) {v : Int} (hv : v = -1 ∨ (0 ≤ v ∧ v < 4)) : M_at_F55 R 104 (c : Int) v (w : Int) xfu 0 0 M = some (amV f c v, xu M 104 0 0) := by
  have r81 : R 104 81 = 157 := hR.m80 (k := 1) (by decide)
  have r82 : R 104 82 = 158 := hR.m80 (k := 2) (by decide)
  have r83 : R 104 83 = 159 := hR.m80 (k := 3) (by decide)
  have r84 : R 104 84 = 160 := hR.m80 (k := 4) (by decide)
  have r85 : R 104 85 = 161 := hR.m80 (k := 5) (by decide)
  have st : ∀ (g : Nat) (x : Int) (s : Nat), s < 4 → M_at_F55 R 104 (c : Int) v (w : Int) (g + 1) x (s : Int) M = M_at_F55 R 104 (c : Int) v (w : Int) g (w32 (x + (if v = -1 ∨ v = (s : Int) then f (4 * c + s) else 0))) ((s + 1 : Nat) : Int) M := by
    intro g x s hs
    have J : ∀ y, M_at_J139 R 104 (c : Int) v (w : Int) (M_at_F55 R 104 (c : Int) v (w : Int) g) x (s : Int) y M = M_at_F55 R 104 (c : Int) v (w : Int) g (w32 (x + (if v = -1 ∨ v = (s : Int) then y else 0))) ((s + 1 : Nat) : Int) M := by
      intro y
      unfold M_at_J139 M_at_J160
      rw [xl_eq, xl_eq, xl_eq, xl_eq, w32_of (x := (s : Int) + 1) (by omega) (by omega)]
      by_cases z : v = -1
      · rw [if_pos z, if_pos (Or.inl z)]; rfl
      · rw [if_neg z]
        by_cases z2 : v = (s : Int)
        · rw [if_pos z2, if_pos (Or.inr z2)]; rfl
        · rw [if_neg z2, if_neg (fun q => q.elim z z2)]; rfl
    have hfs := hf s hs
    rw [M_at_F55, if_pos (by omega), xl_eq, w32_of (x := 4 * (c : Int)) (by omega) (by omega), w32_of (x := 4 * (c : Int) + (s : Int)) (by omega) (by omega), show (4 * (c : Int) + (s : Int)).toNat = 4 * c + s by omega, J, J, J, J, J, xch_pos (by omega), xch_pos (by omega), xch_pos (by omega), xch_pos (by omega), xch_pos (by omega), r81, r82, r83, r84, r85]
    rcases (show w = 0 ∨ w = 1 ∨ w = 2 ∨ w = 3 ∨ w = 4 by omega) with rfl | rfl | rfl | rfl | rfl
    · rw [if_pos (by decide), hfs]
    · rw [if_neg (by decide), if_pos (by decide), hfs]
    · rw [if_neg (by decide), if_neg (by decide), if_pos (by decide), hfs]
    · rw [if_neg (by decide), if_neg (by decide), if_neg (by decide), if_pos (by decide), hfs]
    · rw [if_neg (by decide), if_neg (by decide), if_neg (by decide), if_neg (by decide), hfs]
  have e : M_at_F55 R 104 (c : Int) v (w : Int) xfu 0 0 M = M_at_F55 R 104 (c : Int) v (w : Int) (999995 + 1 + 1 + 1 + 1 + 1) 0 ((0 : Nat) : Int) M := rfl
  rw [e, st _ _ _ (by decide), st _ _ _ (by decide), st _ _ _ (by decide), st _ _ _ (by decide), M_at_F55, if_neg (by decide), gives_eq, xb2_some]
  refine congrArg (fun z => some (z, xu M 104 0 0)) ?_
  have x0 : xi32 (f (4 * c)) := hx 0 (by decide)
  have x1 := hx 1 (by decide)
  have x2 := hx 2 (by decide)
  have x3 := hx 3 (by decide)
  have z0' : w32 0 = 0 := w32_of (by decide) (by decide)
  unfold amV
  rcases hv with rfl | hv
  · rw [if_pos (Or.inl rfl), if_pos (Or.inl rfl), if_pos (Or.inl rfl), if_pos (Or.inl rfl), if_pos rfl]
    rfl
  · rw [if_neg (show ¬ v = -1 by omega)]
    rcases (show v = 0 ∨ v = 1 ∨ v = 2 ∨ v = 3 by omega) with rfl | rfl | rfl | rfl
    · rw [if_pos (by decide), if_neg (by decide), if_neg (by decide), if_neg (by decide), Int.add_zero, Int.add_zero, Int.add_zero, Int.zero_add, w32_w32, w32_w32, w32_w32]
      exact w32_of x0.1 x0.2
    · rw [if_neg (by decide), if_pos (by decide), if_neg (by decide), if_neg (by decide), Int.add_zero, Int.add_zero, Int.add_zero, z0', Int.zero_add, w32_w32, w32_w32]
      exact w32_of x1.1 x1.2
    · rw [if_neg (by decide), if_neg (by decide), if_pos (by decide), if_neg (by decide), Int.add_zero, Int.add_zero, Int.add_zero, z0', z0', Int.zero_add, w32_w32]
      exact w32_of x2.1 x2.2
    · rw [if_neg (by decide), if_neg (by decide), if_neg (by decide), if_pos (by decide), Int.add_zero, Int.add_zero, Int.add_zero, z0', z0', z0', Int.zero_add]
      exact w32_of x3.1 x3.2
theorem op_at {R : xR} {M : xM} {pn ps ln ls : Nat} (hR : RG R pn ps ln ls) (hW : WB pn M) (hI : FlI pn M) (hS : SC M) (a b c d : Int) :
    ∃ (r : Int) (M1 M2 : xM), f_X_at R 1 a b c d M = some (r, M1) ∧ f_M_at R 104 a b c d M1 = some (r, M2) ∧ FrU M M2 ∧ FlI pn M2 := by
  have hpn := hR.pnn
  have r8 : R 1 8 = 62 := hR.2.1.2.2.2.2.2.2.2.1
  have hP := hW.1.1
  have D : ∀ w, FrU M (den w M) ∧ FlI pn (den w M) := fun w => ⟨FrU_den w, hI.of (by omega) (by omega) (fun x _ _ _ _ => den_oth (by omega) (by omega)) (by omega)⟩
  have hcl : ∀ X : xM, X 104 = M 104 → f_M_isCleaner 104 a X = some (if 0 ≤ a ∧ a < M pn 0 then 1 else 0) := fun X hX => by rw [isCleanerM_eq, hX, hP.2.2]
  unfold f_X_at f_M_at
  simp only [isCleaner_eq hR, isHour_eq, isHourM_eq, isSizeOrAll_eq, isSizeM_eq, xb1_some, x01_0, refuse_eq, refuseM_eq, xb2_some]
  by_cases h0 : 0 ≤ a ∧ a < M pn 0
  · simp only [if_neg (show ¬¬(0 ≤ a ∧ a < M pn 0) from fun q => q h0)]
    by_cases h1 : 0 ≤ b ∧ b < 48
    · simp only [if_neg (show ¬¬(0 ≤ b ∧ b < 48) from fun q => q h1)]
      by_cases h2 : c = -1 ∨ (0 ≤ c ∧ c < 4)
      · simp only [if_neg (show ¬¬(c = -1 ∨ (0 ≤ c ∧ c < 4)) from fun q => q h2)]
        by_cases h3 : d < 0
        · simp only [if_pos h3]
          refine ⟨-1, _, den 1 M, rfl, ?_, D 1⟩
          rw [hcl _ (xu1_c _ _ (by decide)), xb1_some, if_pos h0, if_neg (by decide)]
          unfold M_at_J27
          rw [if_pos h3, refuseM_eq, xb2_some]
          by_cases z : c = -1
          · rw [if_pos z]; rfl
          · rw [if_neg z, if_neg (by omega)]; rfl
        · simp only [if_neg h3]
          by_cases h4 : 4 < d
          · simp only [if_pos h4]
            refine ⟨-1, _, den 1 M, rfl, ?_, D 1⟩
            rw [hcl _ (xu1_c _ _ (by decide)), xb1_some, if_pos h0, if_neg (by decide)]
            unfold M_at_J27
            rw [if_neg h3, if_pos h4, refuseM_eq, xb2_some]
            by_cases z : c = -1
            · rw [if_pos z]; rfl
            · rw [if_neg z, if_neg (by omega)]; rfl
          · simp only [if_neg h4]
            obtain ⟨C, rfl⟩ : ∃ C : Nat, a = C := ⟨a.toNat, by omega⟩
            obtain ⟨H, rfl⟩ : ∃ H : Nat, b = H := ⟨b.toNat, by omega⟩
            obtain ⟨w, rfl⟩ : ∃ w : Nat, d = w := ⟨d.toNat, by omega⟩
            have hH : H < 48 := by omega
            have hC : C < 8 := by omega
            obtain ⟨A, a1, a2, a3, a4, a5, a7, a8⟩ := toEnd_eq hR hW hI hS hH
            have rows : ∀ (Q : Nat) (X : xM), AgC Q H (M pn 0).toNat X (sim (w0 pn M) (H + 1)) → ∀ s, s < 4 → X (Q + 2 + w) (4 * C + s) = sim (w0 pn M) (H + 1) (2 + w) (4 * C + s) := by
              intro Q X q s hs
              rcases (show w = 0 ∨ w = 1 ∨ w = 2 ∨ w = 3 ∨ w = 4 by omega) with rfl | rfl | rfl | rfl | rfl
              · exact q.1.2 _ (by omega)
              · exact (q.2.2 _ (by omega)).1
              · exact (q.2.2 _ (by omega)).2
              · exact (q.2.1 _ (by omega)).1
              · exact (q.2.1 _ (by omega)).2.1
            have hx : ∀ s, s < 4 → xi32 (sim (w0 pn M) (H + 1) (2 + w) (4 * C + s)) := by
              intro s hs
              have q := sim_BB (W := w0 pn M) hH (fun j hj => WH_w0 hW (by omega)) (4 * C + s) (by
                show 4 * C + s < 4 * (M pn 0).toNat
                omega)
              rcases (show w = 0 ∨ w = 1 ∨ w = 2 ∨ w = 3 ∨ w = 4 by omega) with rfl | rfl | rfl | rfl | rfl
              · exact q.1
              · exact q.2.1
              · exact q.2.2.1
              · exact q.2.2.2.1
              · exact q.2.2.2.2
            rw [a1, xb1_some, r8, amount_eq hR.fl62 hC (by omega) (rows 62 A a8) h2, xb1_some, answer_eq, xb2_some]
            obtain ⟨B, hB⟩ : ∃ B, B = xu A 1 0 0 := ⟨_, rfl⟩
            rw [← hB]
            have bO : ∀ x, x ≠ 1 → B x = A x := fun x hx => by rw [hB, xu1_c _ _ hx]
            have wB : WB pn B := a4.of (by omega) (fun x _ _ h => bO x h) (fun k _ => by rw [bO 48 (by decide)]) (fun x h _ => bO x (by omega)) (fun k _ _ => by rw [bO 104 (by decide)]) (by omega)
            have sB : SC B := by unfold SC; rw [bO 104 (by decide)]; exact a5
            have ew : w0 pn B = w0 pn M := by rw [← a7]; exact w0_cg (fun k hk => bO _ (by omega)) (fun x _ _ => bO x (by omega)) (fun k _ => by rw [bO 48 (by decide)])
            have ep : B pn = M pn := by rw [bO pn (by omega), a2.1 pn (by omega)]
            obtain ⟨E, c1, c2, c3⟩ := msteps hR wB sB hH
            rw [ew, ep] at c3
            have J : M_at_J27 R 104 (C : Int) (H : Int) c (w : Int) B = some (amV (sim (w0 pn M) (H + 1) (2 + w)) C c, xu E 104 0 0) := by
              unfold M_at_J27
              rw [if_neg h3, if_neg h4, c1, xb1_some]
              exact at_F55 hR hC (by omega) (rows 155 E c3) hx h2
            refine ⟨_, B, xu E 104 0 0, rfl, ?_, ⟨fun x hx => ?_, fun k hk => ?_, fun k hk => ?_, fun k hk => ?_, ?_⟩, ?_⟩
            · rw [hcl B (by rw [bO 104 (by decide), a2.1 104 (by decide)]), xb1_some, if_pos h0, if_neg (by decide), J]
              by_cases z : c = -1
              · rw [if_pos z]
              · rw [if_neg z, if_neg (by omega)]
            · rw [xu_cell _ _ _ (by omega), c2 x (by omega), bO x (by omega), a2.1 x (by omega)]
            · rw [xu_cell _ _ _ (by decide), c2 48 (by decide), bO 48 (by decide), a2.2.1 k hk]
            · rw [xu_cell _ _ _ (by decide), c2 1 (by decide), hB, xu_at, if_neg hk, a2.1 1 (by decide)]
            · rw [xu_at, if_neg hk, c2 104 (by decide), bO 104 (by decide), a2.1 104 (by decide)]
            · rw [xu_at, if_pos rfl, xu_cell _ _ _ (by decide), c2 1 (by decide), hB, xu_at, if_pos rfl]
            · exact a3.of (by omega) (by omega) (fun x h1 h2 _ _ => by rw [xu_cell _ _ _ (by omega), c2 x (by omega), bO x (by omega)]) (by omega)
      · simp only [if_pos h2]
        refine ⟨-1, _, den 1 M, rfl, ?_, D 1⟩
        rw [hcl _ (xu1_c _ _ (by decide)), xb1_some, if_pos h0, if_neg (by decide), if_neg (fun q => h2 (Or.inl q)), if_pos (fun q => h2 (Or.inr q))]
        rfl
    · simp only [if_pos h1]
      refine ⟨-1, _, den 1 M, rfl, ?_, D 1⟩
      rw [hcl _ (xu1_c _ _ (by decide)), xb1_some, if_pos h0, if_neg (by decide)]
      rfl
  · simp only [if_pos h0]
    refine ⟨-1, _, den 1 M, rfl, ?_, D 1⟩
    rw [hcl _ (xu1_c _ _ (by decide)), xb1_some, if_neg h0, if_pos rfl]
    rfl
