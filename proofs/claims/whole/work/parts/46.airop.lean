theorem Fr.rfl (L : List Nat) (M : xM) : Fr L M M := fun _ _ => Eq.refl _
theorem xu_congr {A B : xM} {x : Nat} (c i : Nat) (v : Int) (h : A x = B x) : xu A c i v x = xu B c i v x := by
  funext y
  unfold xu
  rw [h]
theorem rowStX_eq {R : xR} {pn ps ln ls : Nat} (hR : RG R pn ps ln ls) {M : xM} {t n : Nat} (ht : t < 4) (hn : n ≤ 1000) : f_X_rowStatus R 1 (t : Int) (n : Int) M = some (if M 6 t = -1 then 2 else if (n : Int) ≤ M 7 t then 0 else 3) := by
  unfold f_X_rowStatus
  rw [hR.2.1.2.1, isMissing_eq hR (by omega), hasRun_eq hR (by omega) (by omega) (by omega), Int.toNat_natCast, xb1_some, xb1_some, Int.zero_add]
  by_cases h : M 6 t = -1
  · rw [if_pos h, if_pos h, if_neg (by decide)]
  · rw [if_neg h, if_neg h, if_pos rfl]
    by_cases h2 : (n : Int) ≤ M 7 t
    · rw [if_pos h2, if_pos h2, if_neg (by decide)]
    · rw [if_neg h2, if_neg h2, if_pos rfl]
theorem op_air {R : xR} {M : xM} {pn ps ln ls : Nat} (hR : RG R pn ps ln ls) (hT : TrOK (M 6) (M 7) (M 5) (M 105) (M 106) (M 107)) (a b c d : Int) :
    ∃ (r : Int) (M1 M2 : xM), f_X_air R 1 a b c d M = some (r, M1) ∧ f_M_air R 104 a b c d M1 = some (r, M2) ∧ ∃ w, Fr [100, 101, 171] (den w M) M2 := by
  have r2 : R 104 2 = 106 := by rw [hR.at 104 2 (by decide) (by decide)]; exact xR0_104.2.1
  have r8 : R 93 8 = 101 := by rw [hR.at 93 8 (by decide) (by decide)]; exact xR0_air.2.1
  have r11 : R 1 11 = 93 := hR.2.1.2.2.2.2.2.2.2.2.2.2
  have xf : xfu = 1000000 := rfl
  unfold f_X_air f_M_air
  simp only [isTray_eq, isTrayM_eq, xb1_some, x01_0, refuse_eq, refuseM_eq, xb2_some, r2, r8, r11, hR.2.1.2.1]
  by_cases h1 : 0 ≤ a ∧ a < 4
  · simp only [if_neg (show ¬¬(0 ≤ a ∧ a < 4) from fun q => q h1), xch_pos h1]
    by_cases h2 : b < 1
    · simp only [if_pos h2]
      exact ⟨-1, _, _, rfl, rfl, 1, Fr.rfl _ _⟩
    · simp only [if_neg h2]
      by_cases h3 : 8 < b
      · simp only [if_pos h3]
        exact ⟨-1, _, _, rfl, rfl, 1, Fr.rfl _ _⟩
      · simp only [if_neg h3]
        by_cases h4 : c < 0
        · simp only [if_pos h4]
          exact ⟨-1, _, _, rfl, rfl, 1, Fr.rfl _ _⟩
        · simp only [if_neg h4]
          by_cases h5 : 200 < c
          · simp only [if_pos h5]
            exact ⟨-1, _, _, rfl, rfl, 1, Fr.rfl _ _⟩
          · simp only [if_neg h5]
            by_cases h6 : d < 0
            · simp only [if_pos h6]
              exact ⟨-1, _, _, rfl, rfl, 1, Fr.rfl _ _⟩
            · simp only [if_neg h6]
              by_cases h7 : d < b
              · simp only [if_pos h7]
                obtain ⟨t, rfl⟩ : ∃ t : Nat, a = t := ⟨a.toNat, by omega⟩
                obtain ⟨n, rfl⟩ : ∃ n : Nat, b = n := ⟨b.toNat, by omega⟩
                obtain ⟨m, rfl⟩ : ∃ m : Nat, c = m := ⟨c.toNat, by omega⟩
                have ht : t < 4 := by omega
                rw [rowStX_eq hR ht (by omega), xb1_some]
                simp only [Int.toNat_natCast]
                rcases hT t ht with ⟨e1, e2⟩ | ⟨e1, -, e3, e4, e5⟩
                · rw [if_pos e1, if_neg (by decide)]
                  refine ⟨-1, _, _, rfl, ?_, 2, Fr.rfl _ _⟩
                  rw [xu1_c _ _ (show (106 : Nat) ≠ 1 by decide), if_pos e2]
                  rfl
                · rw [if_neg (show M 6 t ≠ -1 by omega)]
                  by_cases h8 : (n : Int) ≤ M 7 t
                  · rw [if_pos h8, if_pos rfl]
                    have e5' : ∀ i, i < n → M 107 (60 * t + i) = M 5 (60 * t + i) := fun i hi => (e5 i (by omega)).symm
                    by_cases h9 : ∀ i, 0 ≤ i → i < n → 1 ≤ M 5 (60 * t + i) ∧ M 5 (60 * t + i) ≤ 100
                    · have hX : f_P_takeHindrances R 93 4 (t : Int) (n : Int) M = some (1, xrow M 100 (fun i => if 0 ≤ i ∧ i < n then M 5 (60 * t + i) else M 100 i)) := takeH_ok hR ht (by omega) n xfu 0 M (by omega) (by omega) h9
                      rw [hX, xb2_some, if_neg (by decide)]
                      obtain ⟨N, hN⟩ : ∃ N, N = xfil (xrow M 100 (fun i => if 0 ≤ i ∧ i < n then M 5 (60 * t + i) else M 100 i)) 101 0 8 0 := ⟨_, rfl⟩
                      have n100 : ∀ i, i < n → N 100 i = M 5 (60 * t + i) := by
                        intro i hi
                        rw [hN, xfil_cell _ _ _ _ (by decide), xrow_at]
                        exact if_pos ⟨by omega, hi⟩
                      have n101 : ∀ i, i < n → N 101 i = 0 := by
                        intro i hi
                        rw [hN, xfil_at, if_pos (by omega)]
                      have nO : ∀ x, x ≠ 100 → x ≠ 101 → N x = M x := by
                        intro x x1 x2
                        rw [hN, xfil_cell _ _ _ _ x2, xrow_cell _ _ x1]
                      have hA : f_P_partAir R 93 (n : Int) (m : Int) (xrow M 100 (fun i => if 0 ≤ i ∧ i < n then M 5 (60 * t + i) else M 100 i)) = some (xrow N 101 (airS (N 100) n m (N 101))) := by
                        unfold f_P_partAir
                        rw [r8, fill_aIIV, xb1_some, xR0_air.2.2.2, ← hN]
                        exact partAir_F10 hR (by omega) (by omega) m xfu 0 N (by omega) (by omega) (by omega) ⟨by omega, fun v hv => by rw [n100 v hv]; exact h9 v (by omega) hv, fun v hv => by rw [n101 v hv]; omega⟩
                      rw [hA, xb1_some, xch_pos (by omega), answer_eq, xb2_some, xrow_at]
                      obtain ⟨N1, hN1⟩ : ∃ N1, N1 = xu (xrow N 101 (airS (N 100) n m (N 101))) 1 0 0 := ⟨_, rfl⟩
                      have q107 : N1 107 = M 107 := by
                        rw [hN1, xu1_c _ _ (by decide), xrow_cell _ _ (by decide), nO _ (by decide) (by decide)]
                      have q106 : N1 106 = M 106 := by
                        rw [hN1, xu1_c _ _ (by decide), xrow_cell _ _ (by decide), nO _ (by decide) (by decide)]
                      rw [← hN1]
                      obtain ⟨N2, hN2⟩ : ∃ N2, N2 = xfil N1 171 0 n 0 := ⟨_, rfl⟩
                      have p107 : N2 107 = M 107 := by
                        rw [hN2, xfil_cell _ _ _ _ (by decide), q107]
                      have p171 : ∀ i, i < n → N2 171 i = 0 := by
                        intro i hi
                        rw [hN2, xfil_at, if_pos (by omega)]
                      refine ⟨_, N1, xu (xrow N2 171 (airS (fun i => N2 107 (60 * t + i)) n m (N2 171))) 104 0 0, rfl, ?_, 0, ?_⟩
                      · rw [q106, if_neg (by omega), if_neg (by omega)]
                        refine (air_F81_ok hR ht (by omega) _ _ _ _ n xfu 0 (by omega) (by omega) (fun i _ hi => by rw [q107, e5' i hi]; exact h9 i (by omega) hi)).trans ?_
                        refine (air_F124 hR (by omega) _ _ _ _ n xfu 0 _ (by omega) (by omega)).trans ?_
                        rw [← hN2]
                        refine (air_F147 hR ht (by omega) (by omega) (by omega) m xfu 0 _ (by omega) (by omega) (by omega) ⟨by omega, fun v hv => by rw [p107]; show 1 ≤ M 107 (60 * t + v) ∧ M 107 (60 * t + v) ≤ 100; rw [e5' v hv]; exact h9 v (by omega) hv, fun v hv => by rw [p171 v hv]; omega⟩).trans ?_
                        rw [airS_congr (h' := N 100) (by omega) (fun i hi => by rw [p107]; show M 107 (60 * t + i) = _; rw [e5' i hi, n100 i hi]) m (N2 171) (N 101) (fun i hi => by rw [p171 i hi, n101 i hi]) d.toNat (by omega)]
                      · intro x hx
                        have x1 : x ≠ 100 := fun q => hx (by simp [q])
                        have x2 : x ≠ 101 := fun q => hx (by simp [q])
                        have x3 : x ≠ 171 := fun q => hx (by simp [q])
                        refine xu_congr _ _ _ ?_
                        rw [xrow_cell _ _ x3, hN2, xfil_cell _ _ _ _ x3, hN1]
                        refine xu_congr _ _ _ ?_
                        rw [xrow_cell _ _ x2, nO x x1 x2]
                    · have h10 : ∃ i, 0 ≤ i ∧ i < n ∧ ¬ (1 ≤ M 5 (60 * t + i) ∧ M 5 (60 * t + i) ≤ 100) := by
                        refine Classical.byContradiction fun q => h9 fun i i0 i1 => Classical.byContradiction fun q2 => q ⟨i, i0, i1, q2⟩
                      obtain ⟨g, hg⟩ := takeH_no hR ht (show n ≤ 8 by omega) n xfu 0 M (by omega) (by omega) h10
                      have hX : f_P_takeHindrances R 93 4 (t : Int) (n : Int) M = some (0, xrow M 100 g) := hg
                      rw [hX, xb2_some, if_pos rfl]
                      obtain ⟨N1, hN1⟩ : ∃ N1, N1 = xu (xrow M 100 g) 1 0 1 := ⟨_, rfl⟩
                      have q107 : N1 107 = M 107 := by
                        rw [hN1, xu1_c _ _ (by decide), xrow_cell _ _ (by decide)]
                      have q106 : N1 106 = M 106 := by
                        rw [hN1, xu1_c _ _ (by decide), xrow_cell _ _ (by decide)]
                      rw [← hN1]
                      refine ⟨-1, N1, xu N1 104 0 1, rfl, ?_, 1, ?_⟩
                      · rw [q106, if_neg (by omega), if_neg (by omega)]
                        refine air_F81_no hR ht (by omega) _ _ _ _ n xfu 0 (by omega) (by omega) ?_
                        obtain ⟨i, i0, i1, i2⟩ := h10
                        exact ⟨i, i0, i1, by rw [q107, e5' i i1]; exact i2⟩
                      · intro x hx
                        have x1 : x ≠ 100 := fun q => hx (by simp [q])
                        refine xu_congr _ _ _ ?_
                        rw [hN1]
                        refine xu_congr _ _ _ ?_
                        rw [xrow_cell _ _ x1]
                  · rw [if_neg h8, if_neg (by decide)]
                    refine ⟨-1, _, _, rfl, ?_, 3, Fr.rfl _ _⟩
                    rw [xu1_c _ _ (show (106 : Nat) ≠ 1 by decide), if_neg (by omega), if_pos (by omega)]
                    rfl
              · simp only [if_neg h7]
                exact ⟨-1, _, _, rfl, rfl, 1, Fr.rfl _ _⟩
  · simp only [if_pos h1]
    exact ⟨-1, _, _, rfl, rfl, 1, Fr.rfl _ _⟩
