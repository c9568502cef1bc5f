/-! ===== torn ===== -/
theorem TI_end {E V : Nat → Nat → Nat → Prop} {no no' : Prop} {cl ho mu cl' ho' mu' : Int} (q : TI E V no cl ho mu) (p : TI E V no' cl' ho' mu') : (no ∧ no') ∨ (¬ no ∧ ¬ no' ∧ cl = cl' ∧ ho = ho' ∧ mu = mu') := by
  rcases q with ⟨q1, q2⟩ | ⟨q1, c, h, g, q2, q3, q4, q5, q6, q7⟩
  · rcases p with ⟨p1, p2⟩ | ⟨p1, c', h', g', p2, p3, p4, p5, p6, p7⟩
    · exact Or.inl ⟨q1, p1⟩
    · exact absurd p3 (q2 _ _ _ p2)
  · rcases p with ⟨p1, p2⟩ | ⟨p1, c', h', g', p2, p3, p4, p5, p6, p7⟩
    · exact absurd q3 (p2 _ _ _ q2)
    · have a := q7 _ _ _ p2 p3
      have b := p7 _ _ _ q2 q3
      unfold LX at a b
      refine Or.inr ⟨q1, p1, ?_, ?_, ?_⟩ <;> omega
theorem op_torn {R : xR} {M : xM} {pn ps ln ls : Nat} (hR : RG R pn ps ln ls) (hT : TrOK (M 6) (M 7) (M 5) (M 105) (M 106) (M 107)) (hW : WB pn M) (hI : FlI pn M) (hS : SC M) (a b c d : Int) :
    ∃ (r : Int) (M1 M2 : xM), f_X_torn R 1 a b c d M = some (r, M1) ∧ f_M_torn R 104 a b c d M1 = some (r, M2) ∧ ((∃ w, M2 = den w M) ∨ (FrH M M2 ∧ FlI pn M2 ∧ SC M2 ∧ TnOK M2 ∧ M2 104 94 = M 104 94 ∧ M2 78 11 = M 78 11)) := by
  have hpn := hR.pnn
  have hp48 : pn + 11 < 48 := by omega
  have hp2 : 2 ≤ pn := by omega
  have r2 : R 104 2 = 106 := by rw [hR.at 104 2 (by decide) (by decide)]; exact xR0_104.2.1
  have r3 : R 1 3 = pn := hR.2.1.2.2.1
  have r7 : R 1 7 = 48 := hR.2.1.2.2.2.2.2.2.1
  have r8 : R 1 8 = 62 := hR.2.1.2.2.2.2.2.2.2.1
  have r10 : R 1 10 = 78 := hR.2.1.2.2.2.2.2.2.2.2.2.1
  have xf : xfu = 1000000 := rfl
  have hP := hW.1.1
  unfold f_X_torn f_M_torn
  simp only [isTray_eq, isTrayM_eq, isHour_eq, isHourM_eq, isSpan_eq, xb1_some, x01_0, refuse_eq, refuseM_eq, xb2_some, r2, r3, r7, r8, r10, hR.2.1.2.1]
  by_cases h1 : 0 ≤ a ∧ a < 4
  · simp only [if_neg (show ¬¬(0 ≤ a ∧ a < 4) from fun q => q h1), xch_pos h1]
    by_cases h2 : 0 ≤ b ∧ b < 48
    · simp only [if_neg (show ¬¬(0 ≤ b ∧ b < 48) from fun q => q h2)]
      by_cases h3 : c < 1
      · simp only [if_pos h3]
        exact ⟨-1, _, _, rfl, rfl, Or.inl ⟨1, rfl⟩⟩
      · simp only [if_neg h3]
        by_cases h4 : 24 < c
        · simp only [if_pos h4]
          exact ⟨-1, _, _, rfl, rfl, Or.inl ⟨1, rfl⟩⟩
        · simp only [if_neg h4, w32_of (x := b + c) (by omega) (by omega)]
          by_cases h5 : 48 < b + c
          · simp only [if_pos h5]
            exact ⟨-1, _, _, rfl, rfl, Or.inl ⟨1, rfl⟩⟩
          · simp only [if_neg h5]
            by_cases h6 : d < 0
            · simp only [if_pos h6, if_pos (show ¬ (0 ≤ d ∧ d ≤ 1000) by omega)]
              exact ⟨-1, _, _, rfl, rfl, Or.inl ⟨1, rfl⟩⟩
            · simp only [if_neg h6]
              by_cases h7 : 1000 < d
              · simp only [if_pos h7, if_pos (show ¬ (0 ≤ d ∧ d ≤ 1000) by omega)]
                exact ⟨-1, _, _, rfl, rfl, Or.inl ⟨1, rfl⟩⟩
              · simp only [if_neg h7, if_neg (show ¬¬ (0 ≤ d ∧ d ≤ 1000) by omega)]
                obtain ⟨t, rfl⟩ : ∃ t : Nat, a = t := ⟨a.toNat, by omega⟩
                obtain ⟨fs, rfl⟩ : ∃ t : Nat, b = t := ⟨b.toNat, by omega⟩
                obtain ⟨n, rfl⟩ : ∃ t : Nat, c = t := ⟨c.toNat, by omega⟩
                have ht : t < 4 := by omega
                have hn24 : n ≤ 24 := by omega
                have hn1 : 1 ≤ n := by omega
                obtain ⟨la, hla⟩ : ∃ la, fs + n = la + 1 := ⟨fs + n - 1, by omega⟩
                have hl48 : la < 48 := by omega
                have hsp : 0 ≤ d ∧ d ≤ 1000 := by omega
                rw [rowStX_eq hR ht (by omega), xb1_some]
                simp only [Int.toNat_natCast]
                have o6 : ∀ w, xu M 1 0 w 106 = M 106 := fun w => xu1_c _ _ (by decide)
                rcases hT t ht with ⟨e1, e2⟩ | ⟨e1, -, e3, e4, e5⟩
                · rw [if_pos e1, if_neg (by decide)]
                  refine ⟨-1, _, den 2 M, rfl, ?_, Or.inl ⟨2, rfl⟩⟩
                  rw [o6, if_pos e2]
                  rfl
                · rw [if_neg (show M 6 t ≠ -1 by omega)]
                  by_cases h8 : (n : Int) ≤ M 7 t
                  · rw [if_pos h8, if_pos rfl]
                    obtain ⟨row, hrow⟩ : ∃ row : Nat → Int, row = fun i => M 5 (60 * t + i) := ⟨_, rfl⟩
                    have g1 : ∀ i, i < n → M 107 (60 * t + i) = row i := fun i hi => by rw [hrow]; exact (e5 i (by omega)).symm
                    obtain ⟨m, hm⟩ : ∃ m : Nat, M pn 0 = (m : Int) := ⟨(M pn 0).toNat, by omega⟩
                    have hm8 : m ≤ 8 := by omega
                    obtain ⟨A, a1, a2, a3, a4, a5⟩ := freshen_eq hR hW hI
                    have aO : ∀ x, x < 48 ∨ (49 ≤ x ∧ x < 58) ∨ 74 ≤ x → A x = M x := a2.1
                    have wA := a2.wb hp48 hp2 hW
                    rw [a1, xb1_some]
                    obtain ⟨B, b1, b2, b3⟩ := takeUps_F3 hR ht hn24 (row := row) (fs : Int) d (fun (M_7 : xM) =>
                        xl (xu M_7 78 2 (fs : Int)) fun M_8 =>
                        xl (xu M_8 78 3 (w32 ((w32 ((fs : Int) + (n : Int))) - 1))) fun M_9 =>
                        xl (xu M_9 78 4 d) fun M_10 =>
                        some (M_10)) n xfu 0 A (by omega) (by omega) (fun i hi => by omega) (fun i hi => by rw [aO 5 (by decide), hrow])
                    obtain ⟨C, hC⟩ : ∃ C, C = xu (xu (xu B 78 2 (fs : Int)) 78 3 (la : Int)) 78 4 d := ⟨_, rfl⟩
                    have tk : f_H_takeUps R 78 4 (t : Int) (fs : Int) (n : Int) d A = some C := by
                      unfold f_H_takeUps
                      refine b1.trans ?_
                      rw [xl_eq, xl_eq, xl_eq, w32_of (x := (fs : Int) + (n : Int)) (by omega) (by omega), w32_of (x := (fs : Int) + (n : Int) - 1) (by omega) (by omega), show (fs : Int) + (n : Int) - 1 = (la : Int) by omega, hC]
                    rw [tk, xb1_some]
                    obtain ⟨D, hD⟩ : ∃ D, D = xu (xu C 78 5 0) 78 6 (-1) := ⟨_, rfl⟩
                    have dO : ∀ x, x ≠ 78 → x ≠ 91 → D x = A x := fun x h1 h2 => by rw [hD, xu_cell _ _ _ h1, xu_cell _ _ _ h1, hC, xu_cell _ _ _ h1, xu_cell _ _ _ h1, xu_cell _ _ _ h1, b2 x h2]
                    have d78 : ∀ k, D 78 k = if k = 6 then -1 else if k = 5 then 0 else if k = 4 then d else if k = 3 then (la : Int) else if k = 2 then (fs : Int) else M 78 k := fun k => by rw [hD, xu_at, xu_at, hC, xu_at, xu_at, xu_at, b2 78 (by decide), aO 78 (by decide)]
                    have d91 : ∀ i, i < n → D 91 i = row i := fun i hi => by rw [hD, xu_cell _ _ _ (by decide), xu_cell _ _ _ (by decide), hC, xu_cell _ _ _ (by decide), xu_cell _ _ _ (by decide), xu_cell _ _ _ (by decide), b3 i hi]
                    obtain ⟨F, f1, f2, f3, f4⟩ := restart_eq hR.fl62 D
                    have fO : ∀ x, x < 62 ∨ 74 ≤ x → x ≠ 78 → x ≠ 91 → F x = A x := fun x h1 h2 h3 => by rw [f2 x (by omega), dO x h2 h3]
                    have f78 : F 78 = D 78 := f2 78 (by decide)
                    have wF : WB pn F := wA.of hp48 (fun x h1 h2 _ => fO x (by omega) (by omega) (by omega)) (fun k _ => by rw [fO 48 (by decide) (by decide) (by decide)]) (fun x h1 _ => fO x (by omega) (by omega) (by omega)) (fun k _ _ => by rw [fO 104 (by decide) (by decide) (by decide)]) hp2
                    have gF : GaOK F := a4.1.of (fun x _ hx => fO x (by omega) (by omega) (by omega)) (fun k _ => by rw [fO 48 (by decide) (by decide) (by decide)])
                    have fpn : F pn = M pn := by rw [fO pn (by omega) (by omega) (by omega), aO pn (by omega)]
                    obtain ⟨E, hE⟩ : ∃ E, E = EP pn fs la row d F := ⟨_, rfl⟩
                    obtain ⟨G, g2, g3, g4, g5, g6⟩ := cnt_F20 hR hsp (show la < fs + 24 by omega) hl48 hm8 (row := row) (E := E) (la + 1) xfu 0 F (by omega) (by omega) hE.symm (by rw [fpn, hm]) ⟨wF, gF, ⟨by rw [f3, if_pos rfl]; rfl, by rw [f3, if_neg (by decide), dO 62 (by decide) (by decide), a2.2.2 9 (by decide)]; exact hI.1, by rw [fO 48 (by decide) (by decide) (by decide)]; exact a3⟩, ⟨⟨fun i hi => by omega, fun i hi => f4 i hi⟩, fun k hk => by omega⟩, ⟨by rw [f78, d78, if_neg (by decide), if_neg (by decide), if_neg (by decide), if_neg (by decide), if_pos rfl], by rw [f78, d78, if_neg (by decide), if_neg (by decide), if_neg (by decide), if_pos rfl], by rw [f78, d78, if_neg (by decide), if_neg (by decide), if_pos rfl]⟩, fun i hi => by rw [f2 91 (by decide)]; exact d91 i (by omega), fun H hH => by omega⟩ (by
                      refine Or.inl ⟨by rw [f78, d78, if_pos rfl], fun a b d v => ?_⟩
                      unfold VC at v
                      omega) (by rw [f78, d78, if_neg (by decide), if_pos rfl]; rfl)
                    obtain ⟨Tt, hTt⟩ : ∃ Tt, Tt = sumN (fun h => sumN (fun c => cG E c h) m) (la + 1) := ⟨_, rfl⟩
                    rw [← hTt] at g2
                    have ct : f_H_countHoles R 78 62 pn 48 C = some (Tt, G) := by
                      unfold f_H_countHoles
                      rw [xl_eq, xl_eq, ← hD, f1, xb1_some]
                      exact g2
                    rw [ct, xb2_some, answer_eq, xb2_some]
                    obtain ⟨K, hK⟩ : ∃ K, K = xu G 1 0 0 := ⟨_, rfl⟩
                    rw [← hK]
                    have kO : ∀ x, x ≠ 1 → x < 62 ∨ (74 ≤ x ∧ x < 78) ∨ 92 ≤ x → K x = A x := fun x h1 h2 => by rw [hK, xu1_c _ _ h1, g3 x (by omega), fO x (by omega) (by omega) (by omega)]
                    have k104 : K 104 = M 104 := by rw [kO 104 (by decide) (by decide), aO 104 (by decide)]
                    have wK : WB pn K := wA.of hp48 (fun x h1 h2 h3 => kO x h3 (by omega)) (fun k _ => by rw [kO 48 (by decide) (by decide)]) (fun x h1 _ => kO x (by omega) (by omega)) (fun k _ _ => by rw [kO 104 (by decide) (by decide)]) hp2
                    have eK : EP pn fs la row d K = E := by
                      rw [hE]
                      exact EP_cg (fun k hk => by rw [kO _ (by omega) (by omega), fO _ (by omega) (by omega) (by omega)]) (fun x _ hx => by rw [kO _ (by omega) (by omega), fO _ (by omega) (by omega) (by omega)]) (fun k _ => by rw [kO _ (by omega) (by omega), fO _ (by omega) (by omega) (by omega)])
                    obtain ⟨P, p1, p2, p3⟩ := torn_F90 hR ht hsp hla hn24 hn1 hl48 hm8 (row := row) (E := E) (fun (v5_70 : Int) (M_71 : xM) =>
                        xl (xu M_71 104 74 (-1)) fun M_72 =>
                        xl (xu M_72 104 90 v5_70) fun M_73 =>
                        xb2 (f_M_gives 104 v5_70 M_73) fun r_74 M_75 =>
                        some (r_74, M_75)) m xfu 0 0 K (by omega) (by omega) eK (by rw [kO pn (by omega) (by omega), aO pn (by omega), hm]) ⟨wK, by rw [k104]; exact hS.2.2, fun i hi => by rw [kO 107 (by decide) (by decide), aO 107 (by decide)]; exact g1 i hi⟩ rfl (Or.inl ⟨rfl, fun a b d v => by unfold VM at v; omega⟩)
                    have sw : sumN (fun c => sumN (fun h => cG E c h) (la + 1)) m = Tt := by rw [hTt]; exact sumN_swap (fun c h => cG E c h) (la + 1) m
                    rw [sw] at p1 p3
                    obtain ⟨Z, hZ⟩ : ∃ Z, Z = xu (xu (xu P 104 74 (-1)) 104 90 Tt) 104 0 0 := ⟨_, rfl⟩
                    have zO : ∀ x, x ≠ 104 → Z x = P x := fun x hx => by rw [hZ, xu_cell _ _ _ hx, xu_cell _ _ _ hx, xu_cell _ _ _ hx]
                    have z104 : ∀ k, Z 104 k = if k = 0 then 0 else if k = 90 then Tt else if k = 74 then -1 else P 104 k := fun k => by rw [hZ, xu_at, xu_at, xu_at]
                    have zK : ∀ x, x ≠ 104 → x < 156 ∨ 165 ≤ x → Z x = K x := fun x h1 h2 => by rw [zO x h1, p2.1 x h1 h2]
                    have zp : ∀ k, k ≠ 0 → k < 74 ∨ (76 < k ∧ k < 90) ∨ 94 ≤ k → Z 104 k = M 104 k := fun k h1 h2 => by rw [z104, if_neg h1, if_neg (by omega), if_neg (by omega), p2.2 k (by omega) (by omega) (by omega) (by omega) (by omega) (by omega), k104]
                    have z78 : Z 78 = G 78 := by rw [zK 78 (by decide) (by decide), hK, xu1_c _ _ (by decide)]
                    have zA : ∀ x, x ≠ 1 → x ≠ 104 → x < 62 ∨ (74 ≤ x ∧ x < 78) ∨ (92 ≤ x ∧ x < 156) ∨ 165 ≤ x → Z x = A x := fun x h1 h2 h3 => by rw [zK x h2 (by omega), kO x h1 (by omega)]
                    have Tn : 0 ≤ Tt := by
                      rw [hTt]
                      exact (sumN_le (f := fun h => sumN (fun c => cG E c h) m) (b := 80) (fun i => by
                        have := sumN_le (f := fun c => cG E c i) (fun j => cG_in E j i) m
                        omega) (la + 1)).1
                    refine ⟨Tt, K, Z, rfl, ?_, Or.inr ⟨⟨fun x hx => ?_, fun k hk => ?_, fun k hk => ?_, fun k hk hk2 => zp k hk (by omega), ?_⟩, ?_, ⟨?_, ?_, ?_⟩, ?_, zp 94 (by decide) (by decide), ?_⟩⟩
                    · rw [kO 106 (by decide) (by decide), aO 106 (by decide), if_neg (by omega), if_neg (by omega)]
                      refine p1.trans ?_
                      try dsimp only
                      rw [xl_eq, xl_eq, gives_eq, xb2_some, ← hZ]
                    · rw [zA x (by omega) (by omega) (by omega), aO x (by omega)]
                    · rw [zA 48 (by decide) (by decide) (by decide), a2.2.1 k hk]
                    · rw [zK 1 (by decide) (by decide), hK, xu_at, if_neg hk, g3 1 (by decide), fO 1 (by decide) (by decide) (by decide), aO 1 (by decide)]
                    · rw [z104, if_pos rfl, zK 1 (by decide) (by decide), hK, xu_at, if_pos rfl]
                    · exact g5.of hp48 hp2 (fun x h1 h2 _ _ => by rw [zK x (by omega) (by omega), hK, xu1_c _ _ (by omega)]) (by omega)
                    · rw [z104, if_neg (by decide), if_neg (by decide), if_pos rfl]
                    · rw [zp 77 (by decide) (by decide)]; exact hS.2.1
                    · rw [zp 78 (by decide) (by decide)]; exact hS.2.2
                    · have z90 : Z 104 90 = Tt := by rw [z104, if_neg (by decide), if_pos rfl]
                      have z9 : ∀ k, 91 ≤ k → k < 94 → Z 104 k = P 104 k := fun k h1 h2 => by rw [z104, if_neg (by omega), if_neg (by omega), if_neg (by omega)]
                      unfold TnOK
                      rw [z78, z90, z9 91 (by decide) (by decide), z9 92 (by decide) (by decide), z9 93 (by decide) (by decide)]
                      rcases TI_end g6 p3 with ⟨y1, y2⟩ | ⟨y1, y2, y3, y4, y5⟩
                      · exact Or.inl ⟨y1, by omega⟩
                      · exact Or.inr ⟨y1, by omega, y3.symm, y4.symm, y5.symm⟩
                    · rw [z78, g4 11 (by decide), f78, d78, if_neg (by decide), if_neg (by decide), if_neg (by decide), if_neg (by decide), if_neg (by decide)]
                  · rw [if_neg h8, if_neg (by decide)]
                    refine ⟨-1, _, den 3 M, rfl, ?_, Or.inl ⟨3, rfl⟩⟩
                    rw [o6, if_neg (by omega), if_pos (by omega)]
                    rfl
    · simp only [if_pos h2]
      exact ⟨-1, _, _, rfl, rfl, Or.inl ⟨1, rfl⟩⟩
  · simp only [if_pos h1]
    exact ⟨-1, _, _, rfl, rfl, Or.inl ⟨1, rfl⟩⟩
