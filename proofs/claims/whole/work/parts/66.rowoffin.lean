theorem op_rowOf {R : xR} {M : xM} {pn ps ln ls : Nat} (hR : RG R pn ps ln ls) (hT : TrOK (M 6) (M 7) (M 5) (M 105) (M 106) (M 107)) (hW : RwOK M) (a b c d : Int) :
    ∃ (r : Int) (M1 M2 : xM), f_X_rowOf R 1 a b c d M = some (r, M1) ∧ f_M_rowOf R 104 a b c d M1 = some (r, M2) ∧ RF M M2 ∧ RwOK M2 := by
  have r2 : R 104 2 = 106 := by rw [hR.at 104 2 (by decide) (by decide)]; exact xR0_104.2.1
  have r11 : R 1 11 = 93 := hR.2.1.2.2.2.2.2.2.2.2.2.2
  have xf : xfu = 1000000 := rfl
  have W : ∀ w, RwOK (den w M) := by
    intro w
    have h := RF_den (M := M) w
    have e6 : den w M 93 6 = M 93 6 := by unfold den; rw [xu_cell _ _ _ (by decide), xu_cell _ _ _ (by decide)]
    have e9 : den w M 104 99 = M 104 99 := by unfold den; rw [xu_at, if_neg (by decide), xu_cell _ _ _ (by decide)]
    have e7 : den w M 99 = M 99 := by unfold den; rw [xu_cell _ _ _ (by decide), xu_cell _ _ _ (by decide)]
    have e8 : den w M 169 = M 169 := by unfold den; rw [xu_cell _ _ _ (by decide), xu_cell _ _ _ (by decide)]
    unfold RwOK
    rw [e6, e9, e7, e8]
    exact hW
  have D : ∀ w, RF M (den w M) ∧ RwOK (den w M) := fun w => ⟨RF_den w, W w⟩
  unfold f_X_rowOf f_M_rowOf
  simp only [isTray_eq, isTrayM_eq, xb1_some, x01_0, refuse_eq, refuseM_eq, xb2_some, r2, r11, hR.2.1.2.1]
  by_cases h1 : 0 ≤ a ∧ a < 4
  · simp only [if_neg (show ¬¬(0 ≤ a ∧ a < 4) from fun q => q h1), xch_pos h1]
    by_cases h2 : 0 ≤ c ∧ c < 4
    · simp only [if_neg (show ¬¬(0 ≤ c ∧ c < 4) from fun q => q h2), xch_pos h2]
      by_cases h3 : b < 1
      · simp only [if_pos h3]
        exact ⟨-1, _, _, rfl, rfl, D 1⟩
      · simp only [if_neg h3]
        by_cases h4 : 7 < b
        · simp only [if_pos h4]
          exact ⟨-1, _, _, rfl, rfl, D 1⟩
        · simp only [if_neg h4]
          by_cases h5 : d < 0
          · simp only [if_pos h5]
            exact ⟨-1, _, _, rfl, rfl, D 1⟩
          · simp only [if_neg h5]
            by_cases h6 : 40000 < d
            · simp only [if_pos h6]
              exact ⟨-1, _, _, rfl, rfl, D 1⟩
            · simp only [if_neg h6]
              obtain ⟨t, rfl⟩ : ∃ t : Nat, a = t := ⟨a.toNat, by omega⟩
              obtain ⟨u, rfl⟩ : ∃ u : Nat, c = u := ⟨c.toNat, by omega⟩
              obtain ⟨n, rfl⟩ : ∃ n : Nat, b = n := ⟨b.toNat, by omega⟩
              have ht : t < 4 := by omega
              have hu : u < 4 := by omega
              have hn7 : n ≤ 7 := by omega
              have hbs : f_X_bothStatus R 1 (t : Int) ((5 * n : Nat) : Int) (u : Int) 4 M = _ := bothSt_eq hR (M := M) (n := 5 * n) (m := 4) ht hu (by omega) (by omega)
              rw [w32_of (x := (n : Int) * 5) (by omega) (by omega), show (n : Int) * 5 = ((5 * n : Nat) : Int) by omega, hbs, xb1_some]
              simp only [Int.toNat_natCast]
              rw [w32_of (x := 5 * (n : Int)) (by omega) (by omega)]
              have o6 : ∀ w, xu M 1 0 w 106 = M 106 := fun w => xu1_c _ _ (by decide)
              rcases hT t ht with ⟨e1, e2⟩ | ⟨e1, -, e3, e4, e5⟩
              · rw [if_pos e1, if_neg (by decide)]
                refine ⟨-1, _, den 2 M, rfl, ?_, D 2⟩
                rw [o6, if_pos e2]
                rfl
              · rw [if_neg (show M 6 t ≠ -1 by omega)]
                rcases hT u hu with ⟨f1, f2⟩ | ⟨f1, -, f3, f4, f5⟩
                · rw [if_pos f1, if_neg (by decide)]
                  refine ⟨-1, _, den 2 M, rfl, ?_, D 2⟩
                  rw [o6, if_neg (by omega), if_pos f2]
                  rfl
                · rw [if_neg (show M 6 u ≠ -1 by omega)]
                  by_cases h7 : M 7 t < ((5 * n : Nat) : Int)
                  · rw [if_pos h7, if_neg (by decide)]
                    refine ⟨-1, _, den 3 M, rfl, ?_, D 3⟩
                    rw [o6, if_neg (by omega), if_neg (by omega), if_pos (by omega)]
                    rfl
                  · rw [if_neg h7]
                    by_cases h8 : M 7 u < ((4 : Nat) : Int)
                    · rw [if_pos h8, if_neg (by decide)]
                      refine ⟨-1, _, den 3 M, rfl, ?_, D 3⟩
                      rw [o6, if_neg (by omega), if_neg (by omega), if_neg (by omega), if_pos (by omega)]
                      rfl
                    · rw [if_neg h8, if_pos rfl]
                      have g1 : ∀ i, i < 5 * n → M 107 (60 * t + i) = M 5 (60 * t + i) := fun i hi => (e5 i (by omega)).symm
                      have g2 : ∀ i, i < 4 → M 107 (60 * u + i) = M 5 (60 * u + i) := fun i hi => (f5 i (by omega)).symm
                      have tc := takeC_F3 hR ht hn7 (5 * n) xfu 0 M (by omega) (by omega)
                      rw [show ((0 : Nat) : Int) = 0 from rfl] at tc
                      have hb : ∀ i, bdC i ≤ 1000 := fun i => by unfold bdC; split <;> omega
                      have mok : ∀ X : xM, X 107 = M 107 → X 106 = M 106 → ∀ (Q : xM → Option (Int × xM)), (if X 106 t = -1 then some ((-1 : Int), xu X 104 0 2) else if X 106 u = -1 then some (-1, xu X 104 0 2) else if X 106 t < 5 * (n : Int) then some (-1, xu X 104 0 3) else if X 106 u < 4 then some (-1, xu X 104 0 3) else Q X) = Q X := by
                        intro X _ x6 Q
                        rw [x6, if_neg (by omega), if_neg (by omega), if_neg (by omega), if_neg (by omega)]
                      by_cases hC : ∀ i, i < 5 * n → 0 ≤ M 5 (60 * t + i) ∧ M 5 (60 * t + i) ≤ bdC i
                      · have tc1 : f_P_takeCleaners R 93 4 (t : Int) (n : Int) M = some (1, xrow M 94 (fun i => if 0 ≤ i ∧ i < 5 * n then M 5 (60 * t + i) else M 94 i)) := tc.1 fun i _ hi => hC i hi
                        rw [tc1, xb2_some, if_neg (by decide)]
                        obtain ⟨A, hA⟩ : ∃ A, A = xrow M 94 (fun i => if 0 ≤ i ∧ i < 5 * n then M 5 (60 * t + i) else M 94 i) := ⟨_, rfl⟩
                        rw [← hA]
                        have aO : ∀ x, x ≠ 94 → A x = M x := fun x hx => by rw [hA, xrow_cell _ _ hx]
                        have a4 : ∀ i, i < 5 * n → A 94 i = M 5 (60 * t + i) := fun i hi => by rw [hA, xrow_at, if_pos ⟨by omega, hi⟩]
                        unfold f_P_takePortions
                        rcases within_eq hR (M := A) (L := 9999) (n := 4) hu (by omega) with ⟨w1, w2⟩ | ⟨w1, w2⟩
                        · have w2' : f_Y_areWithin R 4 (u : Int) 4 9999 A = some 1 := w2
                          rw [w2', xb1_some, if_neg (by decide)]
                          have tp := takeP_F16 hR hu 4 xfu 0 A (by omega) (by omega) w1
                          rw [show ((0 : Nat) : Int) = 0 from rfl] at tp
                          rw [tp, xb2_some, if_neg (by decide)]
                          obtain ⟨B, hB⟩ : ∃ B, B = xrow A 95 (fun i => if 0 ≤ i ∧ i < 4 then A 5 (60 * u + i) else A 95 i) := ⟨_, rfl⟩
                          rw [← hB]
                          have bO : ∀ x, x ≠ 94 → x ≠ 95 → B x = M x := fun x hx hy => by rw [hB, xrow_cell _ _ hy, aO x hx]
                          have b4 : ∀ i, i < 5 * n → B 94 i = M 5 (60 * t + i) := fun i hi => by rw [hB, xrow_cell _ _ (by decide), a4 i hi]
                          have b5 : ∀ i, i < 4 → B 95 i = M 5 (60 * u + i) := fun i hi => by rw [hB, xrow_at, if_pos ⟨by omega, hi⟩, aO 5 (by decide)]
                          have w1' : ∀ i, i < 4 → 0 ≤ M 5 (60 * u + i) ∧ M 5 (60 * u + i) ≤ 9999 := fun i hi => by rw [← aO 5 (by decide)]; exact w1 i hi
                          have hCp : CpB (B 94) n := by
                            intro e he
                            refine ⟨fun j hj => ?_, ?_⟩
                            · have := hC (5 * e + j) (by omega)
                              rw [b4 _ (by omega)]
                              unfold bdC at this
                              rw [if_neg (by omega)] at this
                              exact this
                            · have := hC (5 * e + 4) (by omega)
                              rw [b4 _ (by omega)]
                              unfold bdC at this
                              rw [if_pos (by omega)] at this
                              exact this
                          have hPp : PpB (B 95) := fun j hj => by rw [b5 j hj]; exact w1' j hj
                          obtain ⟨S, hS⟩ : ∃ S, S = rall (B 94) (B 95) n d 5 0 (-1, 0, fun _ => 0) := ⟨_, rfl⟩
                          obtain ⟨s4, hch⟩ := cheap_eq hR (show 1 ≤ n by omega) hn7 hCp hPp hS
                          have hSm : ∀ X : xM, X 107 = M 107 → S = rall (fun i => X 107 (60 * t + i)) (fun i => X 107 (60 * u + i)) n d 5 0 (-1, 0, fun _ => 0) := by
                            intro X x7
                            rw [hS]
                            exact rall_cg (by omega) (fun e he j hj => by rw [b4 _ (by omega), x7, g1 _ (by omega)]) (fun j hj => by rw [b5 j hj, x7, g2 j hj]) 5 0 _
                          have mrun : ∀ X : xM, X 107 = M 107 → X 106 = M 106 → ∃ N, Fr [104, 166, 167, 168, 169, 170] X N ∧ f_M_rowOf R 104 (t : Int) (n : Int) (u : Int) d X = some (S.1, N) ∧ (∀ k, k ≠ 0 → k ≠ 99 → N 104 k = X 104 k) ∧ ((S.1 = -1 ∧ N 104 0 = 6 ∧ N 104 99 = X 104 99 ∧ N 169 = X 169) ∨ (S.1 ≠ -1 ∧ N 104 0 = 0 ∧ N 104 99 = (S.2.1 : Int) ∧ ∀ i, i < S.2.1 → N 169 i = S.2.2 i)) := by
                            intro X x7 x6
                            obtain ⟨N, n1, n2, n3, n4⟩ := rowOf_inM hR ht hu (show 1 ≤ n by omega) hn7 (most := d) (M := X) (fun i hi => by rw [x7, g1 i hi]; exact hC i hi) (fun i hi => by rw [x7, g2 i hi]; exact w1' i hi) (hSm X x7) _ rfl
                            refine ⟨N, n1, ?_, n3, n4⟩
                            unfold f_M_rowOf
                            simp only [isTrayM_eq, xb1_some, x01_0, refuseM_eq, xb2_some, r2]
                            rw [if_neg (fun q => q h1), if_neg (fun q => q h2), if_neg h3, if_neg h4, if_neg h5, if_neg h6, xch_pos h1, xch_pos h2, x6, Int.toNat_natCast, Int.toNat_natCast, if_neg (by omega), if_neg (by omega), w32_of (x := 5 * (n : Int)) (by omega) (by omega), if_neg (by omega), if_neg (by omega)]
                            refine ((rowOf_F101 hR ht hn7 (u : Int) d _ X (5 * n) xfu 0 (by omega) (by omega)).1 (fun i _ hi => by rw [x7, g1 i hi]; exact hC i hi)).trans ?_
                            refine ((rowOf_F160 hR hu (t : Int) (n : Int) d _ X 4 xfu 0 (by omega) (by omega)).1 (fun i _ hi => by rw [x7, g2 i hi]; exact w1' i hi)).trans ?_
                            exact n2
                          rcases hch with ⟨s1, B2, p1, p2⟩ | ⟨s1, B2, p1, p3, p4, p5, p2⟩
                          · rw [p2, xb2_some, if_pos rfl]
                            have y7 : ∀ x, x ≠ 1 → x ∉ [94, 95, 96, 97, 98] → xu B2 1 0 6 x = M x := by
                              intro x hx hx2
                              simp only [List.mem_cons, List.not_mem_nil, or_false, not_or] at hx2
                              rw [xu1_c _ _ hx, p1 x (by simp only [List.mem_cons, List.not_mem_nil, or_false, not_or]; exact ⟨hx2.2.2.1, hx2.2.2.2.1, hx2.2.2.2.2⟩), bO x hx2.1 hx2.2.1]
                            obtain ⟨N, n1, n2, n3, n4⟩ := mrun (xu B2 1 0 6) (y7 107 (by decide) (by decide)) (y7 106 (by decide) (by decide))
                            rw [s1] at n2
                            rcases n4 with ⟨-, n5, n6, n7⟩ | ⟨n5, -⟩
                            · have nO : ∀ x, x ≠ 1 → x ∉ [94, 95, 96, 97, 98] → x ∉ [104, 166, 167, 168, 169, 170] → N x = M x := fun x z1 z2 z3 => (n1 x z3).trans (y7 x z1 z2)
                              have x1 : ∀ k, N 1 k = if k = 0 then 6 else M 1 k := fun k => by rw [n1 1 (by decide), xu_at, p1 1 (by decide), bO 1 (by decide) (by decide)]
                              refine ⟨-1, _, N, rfl, ?_, ⟨?_, ?_, ?_, ?_, ?_⟩, ?_⟩
                              · have n2' := n2
                                unfold f_M_rowOf at n2'
                                simp only [isTrayM_eq, xb1_some, x01_0, refuseM_eq, xb2_some, r2] at n2'
                                rw [if_neg (fun q => q h1), if_neg (fun q => q h2), if_neg h3, if_neg h4, if_neg h5, if_neg h6, xch_pos h1, xch_pos h2, Int.toNat_natCast, Int.toNat_natCast, w32_of (x := 5 * (n : Int)) (by omega) (by omega)] at n2'
                                exact n2'
                              · intro x hx
                                simp only [List.mem_cons, List.not_mem_nil, or_false, not_or] at hx
                                refine nO x hx.1 ?_ ?_
                                · simp only [List.mem_cons, List.not_mem_nil, or_false, not_or]
                                  omega
                                · simp only [List.mem_cons, List.not_mem_nil, or_false, not_or]
                                  omega
                              · intro k _
                                rw [nO 93 (by decide) (by decide) (by decide)]
                              · intro k k0 k9
                                rw [n3 k k0 k9, y7 104 (by decide) (by decide)]
                              · intro k k0
                                rw [x1, if_neg k0]
                              · rw [n5, x1, if_pos rfl]
                              · unfold RwOK
                                rw [nO 93 (by decide) (by decide) (by decide), nO 99 (by decide) (by decide) (by decide), n6, n7, y7 104 (by decide) (by decide), y7 169 (by decide) (by decide)]
                                exact hW
                            · exact absurd s1 n5
                          · rw [p2, xb2_some, if_neg s1, answer_eq, xb2_some]
                            have y7 : ∀ x, x ≠ 1 → x ∉ [93, 94, 95, 96, 97, 98, 99] → xu B2 1 0 0 x = M x := by
                              intro x hx hx2
                              simp only [List.mem_cons, List.not_mem_nil, or_false, not_or] at hx2
                              rw [xu1_c _ _ hx, p1 x (by simp only [List.mem_cons, List.not_mem_nil, or_false, not_or]; omega), bO x (by omega) (by omega)]
                            obtain ⟨N, n1, n2, n3, n4⟩ := mrun (xu B2 1 0 0) (y7 107 (by decide) (by decide)) (y7 106 (by decide) (by decide))
                            rcases n4 with ⟨n5, -⟩ | ⟨-, n5, n6, n7⟩
                            · exact absurd n5 s1
                            · have nO : ∀ x, x ≠ 1 → x ∉ [93, 94, 95, 96, 97, 98, 99] → x ∉ [104, 166, 167, 168, 169, 170] → N x = M x := fun x z1 z2 z3 => (n1 x z3).trans (y7 x z1 z2)
                              have x1 : ∀ k, N 1 k = if k = 0 then 0 else M 1 k := fun k => by rw [n1 1 (by decide), xu_at, p1 1 (by decide), bO 1 (by decide) (by decide)]
                              have x93 : ∀ k, N 93 k = B2 93 k := fun k => by rw [n1 93 (by decide), xu1_c _ _ (by decide)]
                              have x99 : N 99 = B2 99 := by rw [n1 99 (by decide), xu1_c _ _ (by decide)]
                              refine ⟨S.1, _, N, rfl, ?_, ⟨?_, ?_, ?_, ?_, ?_⟩, ?_⟩
                              · have n2' := n2
                                unfold f_M_rowOf at n2'
                                simp only [isTrayM_eq, xb1_some, x01_0, refuseM_eq, xb2_some, r2] at n2'
                                rw [if_neg (fun q => q h1), if_neg (fun q => q h2), if_neg h3, if_neg h4, if_neg h5, if_neg h6, xch_pos h1, xch_pos h2, Int.toNat_natCast, Int.toNat_natCast, w32_of (x := 5 * (n : Int)) (by omega) (by omega)] at n2'
                                exact n2'
                              · intro x hx
                                simp only [List.mem_cons, List.not_mem_nil, or_false, not_or] at hx
                                refine nO x hx.1 ?_ ?_
                                · simp only [List.mem_cons, List.not_mem_nil, or_false, not_or]
                                  omega
                                · simp only [List.mem_cons, List.not_mem_nil, or_false, not_or]
                                  omega
                              · intro k k6
                                rw [x93, p3 k k6, bO 93 (by decide) (by decide)]
                              · intro k k0 k9
                                rw [n3 k k0 k9, y7 104 (by decide) (by decide)]
                              · intro k k0
                                rw [x1, if_neg k0]
                              · rw [n5, x1, if_pos rfl]
                              · unfold RwOK
                                rw [x93, p4, n6, x99]
                                refine ⟨by omega, by omega, Or.inl rfl, fun k hk => ?_⟩
                                rw [n7 k (by omega), p5 k (by omega)]
                        · have w2' : f_Y_areWithin R 4 (u : Int) 4 9999 A = some 0 := w2
                          rw [w2', xb1_some, if_pos rfl, xb2_some, if_pos rfl]
                          refine ⟨-1, _, xu (xu A 1 0 1) 104 0 1, rfl, ?_, ?_, ?_⟩
                          · have x7 : xu A 1 0 1 107 = M 107 := by rw [xu1_c _ _ (by decide), aO 107 (by decide)]
                            have x6 : xu A 1 0 1 106 = M 106 := by rw [xu1_c _ _ (by decide), aO 106 (by decide)]
                            rw [x6, if_neg (by omega), if_neg (by omega), if_neg (by omega), if_neg (by omega)]
                            refine ((rowOf_F101 hR ht hn7 (u : Int) d _ _ (5 * n) xfu 0 (by omega) (by omega)).1 (fun i _ hi => by rw [x7, g1 i hi]; exact hC i hi)).trans ?_
                            refine (rowOf_F160 hR hu (t : Int) (n : Int) d _ _ 4 xfu 0 (by omega) (by omega)).2 ?_
                            obtain ⟨i, i1, i2⟩ := w1
                            exact ⟨i, by omega, i1, by rw [x7, g2 i i1, ← aO 5 (by decide)]; exact i2⟩
                          · refine ⟨fun x hx => ?_, fun k _ => ?_, fun k k0 _ => ?_, fun k k0 => ?_, ?_⟩
                            · simp only [List.mem_cons, List.not_mem_nil, or_false, not_or] at hx
                              rw [xu_cell _ _ _ (by omega), xu_cell _ _ _ (by omega), aO x (by omega)]
                            · rw [xu_cell _ _ _ (by decide), xu_cell _ _ _ (by decide), aO 93 (by decide)]
                            · rw [xu_at, if_neg k0, xu_cell _ _ _ (by decide), aO 104 (by decide)]
                            · rw [xu_cell _ _ _ (by decide), xu_at, if_neg k0, aO 1 (by decide)]
                            · rw [xu_at, if_pos rfl, xu_cell _ _ _ (by decide), xu_at, if_pos rfl]
                          · unfold RwOK
                            rw [xu_cell _ _ _ (show (93 : Nat) ≠ 104 by decide), xu_cell _ _ _ (show (93 : Nat) ≠ 1 by decide), xu_cell _ _ _ (show (99 : Nat) ≠ 104 by decide), xu_cell _ _ _ (show (99 : Nat) ≠ 1 by decide), xu_cell _ _ _ (show (169 : Nat) ≠ 104 by decide), xu_cell _ _ _ (show (169 : Nat) ≠ 1 by decide), xu_at, if_neg (by decide), xu_cell _ _ _ (show (104 : Nat) ≠ 1 by decide), aO 93 (by decide), aO 99 (by decide), aO 104 (by decide), aO 169 (by decide)]
                            exact hW
                      · have q2 : ∃ i, i < 5 * n ∧ ¬ (0 ≤ M 5 (60 * t + i) ∧ M 5 (60 * t + i) ≤ bdC i) := Classical.byContradiction fun z => hC fun i hi => Classical.byContradiction fun y => z ⟨i, hi, y⟩
                        obtain ⟨i, i1, i2⟩ := q2
                        obtain ⟨g, hg⟩ := tc.2 ⟨i, by omega, i1, i2⟩
                        have hg' : f_P_takeCleaners R 93 4 (t : Int) (n : Int) M = some (0, xrow M 94 g) := hg
                        rw [hg', xb2_some, if_pos rfl]
                        have aO : ∀ x, x ≠ 94 → xrow M 94 g x = M x := fun x hx => xrow_cell _ _ hx
                        refine ⟨-1, _, xu (xu (xrow M 94 g) 1 0 1) 104 0 1, rfl, ?_, ?_, ?_⟩
                        · have x7 : xu (xrow M 94 g) 1 0 1 107 = M 107 := by rw [xu1_c _ _ (by decide), aO 107 (by decide)]
                          have x6 : xu (xrow M 94 g) 1 0 1 106 = M 106 := by rw [xu1_c _ _ (by decide), aO 106 (by decide)]
                          rw [x6, if_neg (by omega), if_neg (by omega), if_neg (by omega), if_neg (by omega)]
                          refine (rowOf_F101 hR ht hn7 (u : Int) d _ _ (5 * n) xfu 0 (by omega) (by omega)).2 ?_
                          exact ⟨i, by omega, i1, by rw [x7, g1 i i1]; exact i2⟩
                        · refine ⟨fun x hx => ?_, fun k _ => ?_, fun k k0 _ => ?_, fun k k0 => ?_, ?_⟩
                          · simp only [List.mem_cons, List.not_mem_nil, or_false, not_or] at hx
                            rw [xu_cell _ _ _ (by omega), xu_cell _ _ _ (by omega), aO x (by omega)]
                          · rw [xu_cell _ _ _ (by decide), xu_cell _ _ _ (by decide), aO 93 (by decide)]
                          · rw [xu_at, if_neg k0, xu_cell _ _ _ (by decide), aO 104 (by decide)]
                          · rw [xu_cell _ _ _ (by decide), xu_at, if_neg k0, aO 1 (by decide)]
                          · rw [xu_at, if_pos rfl, xu_cell _ _ _ (by decide), xu_at, if_pos rfl]
                        · unfold RwOK
                          rw [xu_cell _ _ _ (show (93 : Nat) ≠ 104 by decide), xu_cell _ _ _ (show (93 : Nat) ≠ 1 by decide), xu_cell _ _ _ (show (99 : Nat) ≠ 104 by decide), xu_cell _ _ _ (show (99 : Nat) ≠ 1 by decide), xu_cell _ _ _ (show (169 : Nat) ≠ 104 by decide), xu_cell _ _ _ (show (169 : Nat) ≠ 1 by decide), xu_at, if_neg (by decide), xu_cell _ _ _ (show (104 : Nat) ≠ 1 by decide), aO 93 (by decide), aO 99 (by decide), aO 104 (by decide), aO 169 (by decide)]
                          exact hW
    · simp only [if_pos h2]
      by_cases h3 : b < 1
      · simp only [if_pos h3]
        exact ⟨-1, _, _, rfl, rfl, D 1⟩
      · simp only [if_neg h3]
        by_cases h4 : 7 < b
        · simp only [if_pos h4]
          exact ⟨-1, _, _, rfl, rfl, D 1⟩
        · simp only [if_neg h4]
          exact ⟨-1, _, _, rfl, rfl, D 1⟩
  · simp only [if_pos h1]
    exact ⟨-1, _, _, rfl, rfl, D 1⟩
