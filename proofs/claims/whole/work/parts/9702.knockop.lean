/-! ===== knocks ===== -/
/-- what a hunt leaves as it was -/
def FrH (M N : xM) : Prop := (∀ x, (x < 48 ∧ x ≠ 1) ∨ (49 ≤ x ∧ x < 58) ∨ (93 ≤ x ∧ x < 155 ∧ x ≠ 104) ∨ 166 ≤ x → N x = M x) ∧ (∀ k, k ≠ 13 → N 48 k = M 48 k) ∧ (∀ k, k ≠ 0 → N 1 k = M 1 k) ∧ (∀ k, k ≠ 0 → k < 74 ∨ 95 ≤ k → N 104 k = M 104 k) ∧ N 104 0 = N 1 0
theorem op_knocks {R : xR} {M : xM} {pn ps ln ls : Nat} (hR : RG R pn ps ln ls) (hT : TrOK (M 6) (M 7) (M 5) (M 105) (M 106) (M 107)) (hW : WB pn M) (hI : FlI pn M) (hS : SC M) (a b c d e : Int) :
    ∃ (r : Int) (M1 M2 : xM), f_X_knocks R 1 a b c d e M = some (r, M1) ∧ f_M_knocks R 104 a b c d e M1 = some (r, M2) ∧ ((∃ w, M2 = den w M) ∨ (FrH M M2 ∧ FlI pn M2 ∧ SC M2 ∧ (∀ k, 90 ≤ k → k < 94 → M2 104 k = M 104 k) ∧ (∀ k, k < 10 → M2 78 k = M 78 k) ∧ M2 104 94 = M2 78 11)) := by
  have hpn := hR.pnn
  have r2 : R 104 2 = 106 := by rw [hR.at 104 2 (by decide) (by decide)]; exact xR0_104.2.1
  have r3 : R 1 3 = pn := hR.2.1.2.2.1
  have r7 : R 1 7 = 48 := hR.2.1.2.2.2.2.2.2.1
  have r10 : R 1 10 = 78 := hR.2.1.2.2.2.2.2.2.2.2.2.1
  have xf : xfu = 1000000 := rfl
  have hP := hW.1.1
  have hcl : ∀ X : xM, X 104 = M 104 → f_M_isCleaner 104 a X = some (if 0 ≤ a ∧ a < M pn 0 then 1 else 0) := fun X hX => by rw [isCleanerM_eq, hX, hP.2.2]
  unfold f_X_knocks f_M_knocks
  simp only [isCleaner_eq hR, isTray_eq, isTrayM_eq, isHour_eq, isHourM_eq, xb1_some, x01_0, refuse_eq, refuseM_eq, xb2_some, r2, r3, r7, r10, hR.2.1.2.1]
  by_cases h0 : 0 ≤ a ∧ a < M pn 0
  · simp only [if_neg (show ¬¬(0 ≤ a ∧ a < M pn 0) from fun q => q h0)]
    by_cases h1 : 0 ≤ b ∧ b < 4
    · simp only [if_neg (show ¬¬(0 ≤ b ∧ b < 4) from fun q => q h1), xch_pos h1]
      by_cases h2 : c < 1
      · simp only [if_pos h2]
        refine ⟨-1, _, den 1 M, rfl, ?_, Or.inl ⟨1, rfl⟩⟩
        rw [hcl _ (xu1_c _ _ (by decide)), xb1_some, if_pos h0, if_neg (by decide)]
        rfl
      · simp only [if_neg h2]
        by_cases h3 : 6 < c
        · simp only [if_pos h3]
          refine ⟨-1, _, den 1 M, rfl, ?_, Or.inl ⟨1, rfl⟩⟩
          rw [hcl _ (xu1_c _ _ (by decide)), xb1_some, if_pos h0, if_neg (by decide)]
          rfl
        · simp only [if_neg h3]
          by_cases h4 : d < 0
          · simp only [if_pos h4]
            refine ⟨-1, _, den 1 M, rfl, ?_, Or.inl ⟨1, rfl⟩⟩
            rw [hcl _ (xu1_c _ _ (by decide)), xb1_some, if_pos h0, if_neg (by decide)]
            rfl
          · simp only [if_neg h4]
            by_cases h5 : c < d
            · simp only [if_pos h5]
              refine ⟨-1, _, den 1 M, rfl, ?_, Or.inl ⟨1, rfl⟩⟩
              rw [hcl _ (xu1_c _ _ (by decide)), xb1_some, if_pos h0, if_neg (by decide)]
              rfl
            · simp only [if_neg h5]
              by_cases h6 : 0 ≤ e ∧ e < 48
              · simp only [if_neg (show ¬¬(0 ≤ e ∧ e < 48) from fun q => q h6)]
                obtain ⟨c0, rfl⟩ : ∃ t : Nat, a = t := ⟨a.toNat, by omega⟩
                obtain ⟨t, rfl⟩ : ∃ t : Nat, b = t := ⟨b.toNat, by omega⟩
                obtain ⟨m, rfl⟩ : ∃ t : Nat, c = t := ⟨c.toNat, by omega⟩
                obtain ⟨T, rfl⟩ : ∃ t : Nat, e = t := ⟨e.toNat, by omega⟩
                have ht : t < 4 := by omega
                have hm : m ≤ 6 := by omega
                have hT48 : T < 48 := by omega
                have hc8 : (0 : Int) ≤ (c0 : Int) ∧ (c0 : Int) < 8 := by omega
                rw [rowStX_eq hR ht (by omega), xb1_some]
                simp only [Int.toNat_natCast]
                have o6 : ∀ w, xu M 1 0 w 106 = M 106 := fun w => xu1_c _ _ (by decide)
                have o7 : ∀ w, xu M 1 0 w 107 = M 107 := fun w => xu1_c _ _ (by decide)
                rcases hT t ht with ⟨e1, e2⟩ | ⟨e1, -, e3, e4, e5⟩
                · rw [if_pos e1, if_neg (by decide)]
                  refine ⟨-1, _, den 2 M, rfl, ?_, Or.inl ⟨2, rfl⟩⟩
                  rw [hcl _ (xu1_c _ _ (by decide)), xb1_some, if_pos h0, if_neg (by decide), o6, if_pos e2]
                  rfl
                · rw [if_neg (show M 6 t ≠ -1 by omega)]
                  by_cases h7 : (m : Int) ≤ M 7 t
                  · rw [if_pos h7, if_pos rfl]
                    have g1 : ∀ i, i < m → M 107 (60 * t + i) = M 5 (60 * t + i) := fun i hi => (e5 i (by omega)).symm
                    have tw := two_F2 hR (M := M) ht (show m ≤ 60 by omega) m xfu 0 (by omega) (by omega)
                    have bad : ∀ w : Int, (∃ i, i < m ∧ ¬ ((0 ≤ M 107 (60 * t + i) ∧ M 107 (60 * t + i) ≤ 47) ∧ ∀ j, j < i → M 107 (60 * t + j) ≠ M 107 (60 * t + i))) → ∀ Q, M_knocks_F86 R 104 (c0 : Int) (t : Int) (m : Int) d (T : Int) Q xfu 0 (xu M 1 0 w) = some (-1, xu (xu M 1 0 w) 104 0 1) := by
                      intro w hb Q
                      refine (kn_F86 hR ht hm (c0 : Int) d (T : Int) Q m xfu 0 (by omega) (by omega)).2 ?_
                      obtain ⟨i, i1, i2⟩ := hb
                      exact ⟨i, by omega, i1, by rw [o7]; exact i2⟩
                    rcases within_eq hR (M := M) (L := 47) ht (show m ≤ 60 by omega) with ⟨w1, w2⟩ | ⟨w1, w2⟩
                    · rw [w2, xb1_some, if_neg (by decide)]
                      unfold f_Y_hasTwoAlike
                      by_cases h8 : ∃ i j, 0 ≤ i ∧ i < j ∧ j < m ∧ M 5 (60 * t + i) = M 5 (60 * t + j)
                      · have tw2 := tw.2 h8
                        rw [show ((0 : Nat) : Int) = 0 from rfl] at tw2
                        rw [tw2, xb1_some, if_neg (by decide)]
                        refine ⟨-1, _, den 1 M, rfl, ?_, Or.inl ⟨1, rfl⟩⟩
                        rw [hcl _ (xu1_c _ _ (by decide)), xb1_some, if_pos h0, if_neg (by decide), o6, if_neg (by omega), if_neg (by omega)]
                        obtain ⟨i, j, j1, j2, j3, j4⟩ := h8
                        exact bad 1 ⟨j, j3, fun q => q.2 i j2 (by rw [g1 i (by omega), g1 j j3]; exact j4)⟩ _
                      · have tw2 := tw.1 fun i j h1 h2 h3 h4 => h8 ⟨i, j, h1, h2, h3, h4⟩
                        rw [show ((0 : Nat) : Int) = 0 from rfl] at tw2
                        rw [tw2, xb1_some, if_pos rfl, keepsLayer_eq hR hc8, xb1_some]
                        have e121 : M 121 c0 = M (pn + 3) c0 := (hW.1.2.2.1 c0 (by omega)).1.2.2
                        rw [Int.toNat_natCast]
                        have good : ∀ X : xM, X 107 = M 107 → ∀ Q, M_knocks_F86 R 104 (c0 : Int) (t : Int) (m : Int) d (T : Int) Q xfu 0 X = Q X := by
                          intro X hX Q
                          refine (kn_F86 hR ht hm (c0 : Int) d (T : Int) Q m xfu 0 (by omega) (by omega)).1 fun i _ hi => ?_
                          rw [hX]
                          refine ⟨by rw [g1 i hi]; exact w1 i hi, fun j hj => ?_⟩
                          rw [g1 j (by omega), g1 i hi]
                          exact fun q => h8 ⟨j, i, by omega, hj, hi, q⟩
                        by_cases h9 : M (pn + 3) c0 = 1 ∨ M (pn + 3) c0 = 2
                        · rw [if_pos h9, if_neg (by decide)]
                          obtain ⟨A, a1, a2, a3, a4, a5⟩ := freshen_eq hR hW hI
                          rw [a1, xb1_some]
                          have aO : ∀ x, x < 48 ∨ (49 ≤ x ∧ x < 58) ∨ 74 ≤ x → A x = M x := a2.1
                          obtain ⟨B, b1, b2, b3⟩ := takeHours_F3 hR ht hm (hr := fun i => M 5 (60 * t + i)) w1 (fun (M_7 : xM) =>
                              xl (xu M_7 78 10 (m : Int)) fun M_8 =>
                              some (M_8)) m xfu 0 A (by omega) (by omega) (fun i hi => by omega) (fun i hi => by rw [aO 5 (by decide)])
                          obtain ⟨C, hC⟩ : ∃ C, C = xu B 78 10 (m : Int) := ⟨_, rfl⟩
                          have tk : f_H_takeHours R 78 4 (t : Int) (m : Int) A = some C := by
                            unfold f_H_takeHours
                            refine b1.trans ?_
                            rw [xl_eq, hC]
                          rw [tk, xb1_some]
                          have cO : ∀ x, x ≠ 78 → x ≠ 92 → C x = A x := fun x h1 h2 => by rw [hC, xu_cell _ _ _ h1, b2 x h2]
                          have c92 : ∀ i, i < m → C 92 i = M 5 (60 * t + i) := fun i hi => by rw [hC, xu_cell _ _ _ (by decide), b3 i hi]
                          have c78 : ∀ k, C 78 k = if k = 10 then (m : Int) else M 78 k := fun k => by rw [hC, xu_at, b2 78 (by decide), aO 78 (by decide)]
                          have wA := a2.wb (show pn + 11 < 48 by omega) (by omega) hW
                          have wC : WB pn C := wA.of (by omega) (fun x h1 h2 _ => cO x (by omega) (by omega)) (fun k _ => by rw [cO 48 (by decide) (by decide)]) (fun x h1 _ => cO x (by omega) (by omega)) (fun k _ _ => by rw [cO 104 (by decide) (by decide)]) (by omega)
                          have gC : GaOK C := a4.1.of (fun x _ hx => cO x (by omega) (by omega)) (fun k _ => by rw [cO 48 (by decide) (by decide)])
                          have hb : ∀ j, j < m → 0 ≤ C 92 j ∧ C 92 j < 48 := fun j hj => by
                            rw [c92 j hj]
                            have := w1 j hj
                            omega
                          have hpow : 2 ^ m ≤ 64 := Nat.le_trans (Nat.pow_le_pow_right (by decide) hm) (by decide)
                          have hpow1 : 1 ≤ 2 ^ m := Nat.one_le_two_pow
                          obtain ⟨D, d1, d2, d3, d4⟩ := least_F9 hR (c0 := c0) (m := m) (T := T) (n := d) hm hT48 (2 ^ m) xfu 0 (-1, 0, 0) C (by omega) (by omega) wC gC (by rw [c78, if_pos rfl]) hb (Or.inl rfl) (fun q => absurd rfl q)
                          obtain ⟨K, hK⟩ : ∃ K, K = kfd (upK pn c0 T m (C 92) C) d (2 ^ m) 0 (-1, 0, 0) := ⟨_, rfl⟩
                          rw [← hK] at d1 d4
                          have hK1 : K.1 ≠ -1 := by rw [hK]; exact kfd_ne0 _ (by omega) hpow1
                          rw [if_neg hK1, show (if ((-1 : Int), (0 : Int), (0 : Int)).1 = -1 then (-1 : Int) else ((-1 : Int), (0 : Int), (0 : Int)).2.1) = -1 from if_pos rfl] at d1
                          have lu : f_H_leastUp R 78 pn 48 (c0 : Int) d (T : Int) C = some (K.2.1, D) := by
                            unfold f_H_leastUp
                            exact d1
                          rw [lu, xb2_some, answer_eq, xb2_some]
                          obtain ⟨E, hE⟩ : ∃ E, E = xu D 1 0 0 := ⟨_, rfl⟩
                          rw [← hE]
                          have dO : ∀ x, x < 78 ∨ 91 ≤ x → x ≠ 92 → D x = A x := fun x h1 h2 => by rw [d2 x h1, cO x (by omega) h2]
                          have eO : ∀ x, x ≠ 1 → x < 78 ∨ 91 ≤ x → x ≠ 92 → E x = A x := fun x h1 h2 h3 => by rw [hE, xu1_c _ _ h1, dO x h2 h3]
                          have e104 : E 104 = M 104 := by rw [eO 104 (by decide) (by decide) (by decide), aO 104 (by decide)]
                          obtain ⟨F, hF⟩ : ∃ F, F = xu E 104 77 (c0 : Int) := ⟨_, rfl⟩
                          have fO : ∀ x, x ≠ 104 → F x = E x := fun x hx => by rw [hF, xu_cell _ _ _ hx]
                          have f104 : ∀ k, F 104 k = if k = 77 then (c0 : Int) else M 104 k := fun k => by rw [hF, xu_at, e104]
                          have wF : WB pn F := wA.of (by omega) (fun x h1 h2 h3 => by rw [fO x (by omega), eO x h3 (by omega) (by omega)]) (fun k _ => by rw [fO 48 (by decide), eO 48 (by decide) (by decide) (by decide)]) (fun x h1 _ => by rw [fO x (by omega), eO x (by omega) (by omega) (by omega)]) (fun k h1 h2 => by rw [f104, if_neg (by omega), aO 104 (by decide)]) (by omega)
                          have eU : upK pn c0 T m (C 92) F = upK pn c0 T m (C 92) C := by
                            funext y
                            unfold upK
                            rw [wld_cg (M := C) (N := F) (fun k hk => by rw [fO _ (by omega), eO _ (by omega) (by omega) (by omega), cO _ (by omega) (by omega)]) (fun x _ hx => by rw [fO _ (by omega), eO _ (by omega) (by omega) (by omega), cO _ (by omega) (by omega)]) (fun k _ => by rw [fO _ (by omega), eO _ (by omega) (by omega) (by omega), cO _ (by omega) (by omega)])]
                          obtain ⟨G, g2, g3⟩ := knocks_F203 hR (c0 := c0) (m := m) (T := T) (t := t) (n := d) ht hm hT48 hb (fun (v6_110 : Int) (v7_111 : Int) (M_112 : xM) =>
                              xl (xu M_112 104 77 (-1)) fun M_113 =>
                              xl (xu M_113 104 78 0) fun M_114 =>
                              xl (xu M_114 104 94 v6_110) fun M_115 =>
                              xb2 (f_M_gives 104 v7_111 M_115) fun r_116 M_117 =>
                              some (r_116, M_117)) (2 ^ m) xfu 0 (-1, 0, 0) F (by omega) (by omega) wF (by rw [f104, if_neg (by decide)]; exact hS.1) (by rw [f104, if_pos rfl]) (fun j hj => by rw [fO 107 (by decide), eO 107 (by decide) (by decide) (by decide), aO 107 (by decide), g1 j hj, c92 j hj]) (Or.inl rfl)
                          rw [eU, ← hK] at g2
                          obtain ⟨P, hPd⟩ : ∃ P, P = xu (xu (xu (xu G 104 77 (-1)) 104 78 0) 104 94 K.1) 104 0 0 := ⟨_, rfl⟩
                          have pO : ∀ x, x ≠ 104 → P x = G x := fun x hx => by rw [hPd, xu_cell _ _ _ hx, xu_cell _ _ _ hx, xu_cell _ _ _ hx, xu_cell _ _ _ hx]
                          have p104 : ∀ k, P 104 k = if k = 0 then 0 else if k = 94 then K.1 else if k = 78 then 0 else if k = 77 then -1 else G 104 k := fun k => by rw [hPd, xu_at, xu_at, xu_at, xu_at]
                          have p1 : ∀ x, x ≠ 1 → x ≠ 104 → x < 78 ∨ (93 ≤ x ∧ x < 155) ∨ 166 ≤ x → P x = A x := fun x h1 h2 h3 => by rw [pO x h2, g3.1 x (by omega), fO x h2, eO x h1 (by omega) (by omega)]
                          have pk : ∀ k, k ≠ 0 → k ≠ 94 → P 104 k = M 104 k := fun k h1 h2 => by
                            rw [p104, if_neg h1, if_neg h2]
                            by_cases y1 : k = 78
                            · rw [if_pos y1, y1]; exact hS.2.2.symm
                            · rw [if_neg y1]
                              by_cases y2 : k = 77
                              · rw [if_pos y2, y2]; exact hS.2.1.symm
                              · rw [if_neg y2, g3.2 k y1, f104, if_neg y2]
                          have p78 : P 78 = D 78 := by rw [pO 78 (by decide), g3.1 78 (by decide), fO 78 (by decide), hE, xu1_c _ _ (by decide)]
                          refine ⟨K.2.1, E, P, rfl, ?_, Or.inr ⟨⟨fun x hx => ?_, fun k hk => ?_, fun k hk => ?_, fun k hk hk2 => pk k hk (by omega), ?_⟩, ?_, ⟨by rw [pk 74 (by decide) (by decide)]; exact hS.1, by rw [pk 77 (by decide) (by decide)]; exact hS.2.1, by rw [pk 78 (by decide) (by decide)]; exact hS.2.2⟩, fun k h1 h2 => pk k (by omega) (by omega), fun k hk => ?_, ?_⟩⟩
                          · rw [hcl E e104, xb1_some, if_pos h0, if_neg (by decide), eO 106 (by decide) (by decide) (by decide), aO 106 (by decide), if_neg (by omega), if_neg (by omega)]
                            refine (good E (by rw [eO 107 (by decide) (by decide) (by decide), aO 107 (by decide)]) _).trans ?_
                            try dsimp only
                            rw [hasLayer_eq hR hc8, xb1_some, Int.toNat_natCast, eO 121 (by decide) (by decide) (by decide), aO 121 (by decide), e121, if_pos h9, if_neg (by decide), xl_eq, ← hF]
                            refine g2.trans ?_
                            try dsimp only
                            rw [xl_eq, xl_eq, xl_eq, gives_eq, xb2_some, ← hPd]
                          · rw [p1 x (by omega) (by omega) (by omega), aO x (by omega)]
                          · rw [p1 48 (by decide) (by decide) (by decide), a2.2.1 k hk]
                          · rw [pO 1 (by decide), g3.1 1 (by decide), fO 1 (by decide), hE, xu_at, if_neg hk, dO 1 (by decide) (by decide), aO 1 (by decide)]
                          · rw [p104, if_pos rfl, pO 1 (by decide), g3.1 1 (by decide), fO 1 (by decide), hE, xu_at, if_pos rfl]
                          · refine FlI.of (M := A) (by omega) (by omega) ⟨by rw [a2.2.2 9 (by decide)]; exact hI.1, ⟨a5.1, Int.le_trans a5.2 hI.2.1.2⟩, fun _ => a4⟩ (fun x h1 h2 _ _ => p1 x (by omega) (by omega) (by omega)) (by omega)
                          · rw [p78, d3 k (by omega), c78, if_neg (by omega)]
                          · rw [p104, if_neg (by decide), if_pos rfl, p78]
                            exact (d4 hK1).symm
                        · rw [if_neg h9, if_pos rfl]
                          refine ⟨-1, _, den 7 M, rfl, ?_, Or.inl ⟨7, rfl⟩⟩
                          rw [hcl _ (xu1_c _ _ (by decide)), xb1_some, if_pos h0, if_neg (by decide), o6, if_neg (by omega), if_neg (by omega)]
                          refine (good _ (o7 7) _).trans ?_
                          try dsimp only
                          rw [hasLayer_eq hR hc8, xb1_some, Int.toNat_natCast, xu1_c _ _ (by decide), e121, if_neg h9, if_pos rfl]
                          rfl
                    · rw [w2, xb1_some, if_pos rfl]
                      refine ⟨-1, _, den 1 M, rfl, ?_, Or.inl ⟨1, rfl⟩⟩
                      rw [hcl _ (xu1_c _ _ (by decide)), xb1_some, if_pos h0, if_neg (by decide), o6, if_neg (by omega), if_neg (by omega)]
                      obtain ⟨i, i1, i2⟩ := w1
                      exact bad 1 ⟨i, i1, fun q => i2 (by rw [← g1 i i1]; exact q.1)⟩ _
                  · rw [if_neg h7, if_neg (by decide)]
                    refine ⟨-1, _, den 3 M, rfl, ?_, Or.inl ⟨3, rfl⟩⟩
                    rw [hcl _ (xu1_c _ _ (by decide)), xb1_some, if_pos h0, if_neg (by decide), o6, if_neg (by omega), if_pos (by omega)]
                    rfl
              · simp only [if_pos h6]
                refine ⟨-1, _, den 1 M, rfl, ?_, Or.inl ⟨1, rfl⟩⟩
                rw [hcl _ (xu1_c _ _ (by decide)), xb1_some, if_pos h0, if_neg (by decide)]
                rfl
    · simp only [if_pos h1]
      refine ⟨-1, _, den 1 M, rfl, ?_, Or.inl ⟨1, rfl⟩⟩
      rw [hcl _ (xu1_c _ _ (by decide)), xb1_some, if_pos h0, if_neg (by decide)]
      rfl
  · simp only [if_pos h0]
    refine ⟨-1, _, den 1 M, rfl, ?_, Or.inl ⟨1, rfl⟩⟩
    rw [hcl _ (xu1_c _ _ (by decide)), xb1_some, if_neg h0, if_pos rfl]
    rfl
