theorem op_whose {R : xR} {M : xM} {pn ps ln ls : Nat} (hR : RG R pn ps ln ls) (hW : WB pn M) (hI : FlI pn M) (hS : SC M) (a b c : Int) :
    ∃ (r : Int) (M1 M2 : xM), f_X_whose R 1 a b c M = some (r, M1) ∧ f_M_whose R 104 a b c M1 = some (r, M2) ∧ FrU M M2 ∧ FlI pn M2 := by
  have hpn := hR.pnn
  have r8 : R 1 8 = 62 := hR.2.1.2.2.2.2.2.2.2.1
  have r3 : R 1 3 = pn := hR.2.1.2.2.1
  have r9 : R 1 9 = 74 := hR.2.1.2.2.2.2.2.2.2.2.1
  have r741 : R 74 1 = 76 := hR.pt74.2.1
  have r80 : R 104 80 = 156 := hR.m80 (k := 0) (by decide)
  have xf : xfu = 1000000 := rfl
  have hP := hW.1.2.1
  have D : ∀ w, FrU M (den w M) ∧ FlI pn (den w M) := fun w => ⟨FrU_den w, hI.of (by omega) (by omega) (fun x _ _ _ _ => den_oth (by omega) (by omega)) (by omega)⟩
  have hcl : ∀ X : xM, X 104 = M 104 → f_M_isWorks 104 a X = some (if 0 ≤ a ∧ a < M pn 1 then 1 else 0) := fun X hX => by rw [isWorksM_eq, hX, hP.2.2]
  unfold f_X_whose f_M_whose
  simp only [isWorks_eq hR, isHour_eq, isHourM_eq, isSize_eq, isSizeM_eq, xb1_some, x01_0, refuse_eq, refuseM_eq, xb2_some]
  by_cases h0 : 0 ≤ a ∧ a < M pn 1
  · simp only [if_neg (show ¬¬(0 ≤ a ∧ a < M pn 1) from fun q => q h0)]
    by_cases h1 : 0 ≤ b ∧ b < 48
    · simp only [if_neg (show ¬¬(0 ≤ b ∧ b < 48) from fun q => q h1)]
      by_cases h2 : 0 ≤ c ∧ c < 4
      · simp only [if_neg (show ¬¬(0 ≤ c ∧ c < 4) from fun q => q h2)]
        obtain ⟨w, rfl⟩ : ∃ w : Nat, a = w := ⟨a.toNat, by omega⟩
        obtain ⟨H, rfl⟩ : ∃ H : Nat, b = H := ⟨b.toNat, by omega⟩
        obtain ⟨s, rfl⟩ : ∃ s : Nat, c = s := ⟨c.toNat, by omega⟩
        obtain ⟨m, hm⟩ : ∃ m : Nat, M pn 1 = (m : Int) := ⟨(M pn 1).toNat, by omega⟩
        have hH : H < 48 := by omega
        have hs : s < 4 := by omega
        have hm4 : m ≤ 4 := by omega
        have hwm : w < m := by omega
        obtain ⟨A, n, a1, a2, a3, a4, a5, a6, a7, a8, a9, a10, a11, a12, a13, a14, a15⟩ := both_through hR hW hI hS hH
        rw [a1, xb1_some]
        obtain ⟨sh, hsh⟩ : ∃ sh : Nat → Int, sh = fun i => w0 pn M 10 ((i * 48 + H) * 4 + s) := ⟨_, rfl⟩
        have wh := WH_w0 hW hH
        have hb : ∀ i, i < m → 0 ≤ sh i ∧ sh i ≤ 9999 := fun i hi => by
          rw [hsh]
          exact (wh.2.2.1 i (by show i < (M pn 1).toNat; omega)).2 s hs
        have hsum : 0 ≤ sumN sh m ∧ sumN sh m ≤ 39996 := by
          have key : ∀ k, k ≤ m → 0 ≤ sumN sh k ∧ sumN sh k ≤ 9999 * k := by
            intro k
            induction k with
            | zero => intro _; exact ⟨Int.le_refl 0, Int.le_refl 0⟩
            | succ k ih =>
              intro hk
              have := ih (by omega)
              have := hb k (by omega)
              show 0 ≤ sumN sh k + sh k ∧ sumN sh k + sh k ≤ _
              omega
          have := key m (Nat.le_refl m)
          omega
        have a58 : ∀ i, i < m → A 58 ((i * 48 + H) * 4 + s) = sh i := fun i hi => by
          have e : A 58 ((i * 48 + H) * 4 + s) = w0 pn A 10 ((i * 48 + H) * 4 + s) := a6.1 ((i * 48 + H) * 4 + s) (by omega)
          rw [e, a7, hsh]
        have eX := whoseX_F39 hR hH hs hm4 hb (w : Int) (fun (v4_30 : Int) (M_31 : xM) =>
            if v4_30 = 0 then
              xb2 (f_X_answer 1 0 M_31) fun r_33 M_34 =>
              some (r_33, M_34)
            else
              xb1 (f_F_upOf R (R 1 8) (H : Int) (s : Int) M_31) fun r_36 =>
              xb1 (f_T_share R (R 1 9) r_36 (M_31 (R 1 3) 1) v4_30 M_31) fun M_38 =>
              xch (0 ≤ (w : Int) ∧ (w : Int) < 8) <|
              xb2 (f_X_answer 1 (M_38 (R (R 1 9) 1) (Int.toNat (w : Int))) M_38) fun r_41 M_42 =>
              some (r_41, M_42)) m xfu 0 0 A (by omega) (by omega) (by omega) (by omega) (by rw [a8]; exact hm) a58
        have z00 : sumN sh 0 = 0 := rfl
        rw [show ((0 : Nat) : Int) = 0 from rfl, z00, Int.zero_add, Int.sub_zero] at eX
        rw [eX]
        obtain ⟨B, hB⟩ : ∃ B, B = xrow A 75 (fun i => if 0 ≤ i ∧ i < m then sh i else A 75 i) := ⟨_, rfl⟩
        rw [← hB]
        have bO : ∀ x, x ≠ 75 → B x = A x := fun x hx => by rw [hB, xrow_cell _ _ hx]
        have b75 : ∀ i, i < m → B 75 i = sh i := fun i hi => by rw [hB, xrow_at, if_pos ⟨by omega, hi⟩]
        -- the model, from a memory that is the class's end
        have mod : ∀ X : xM, (∀ x, x ≠ 1 → x < 75 ∨ 78 ≤ x → X x = A x) → ∃ E, f_M_steps R 104 (H : Int) X = some E ∧ FrM X E ∧ PoM R H s m sh E ∧ ∀ i, i < 4 * H + 4 → E 156 i = sim (w0 pn M) (H + 1) 1 i := by
          intro X hX
          have wX : WB pn X := a4.of (by omega) (fun x h1 _ h3 => hX x h3 (by omega)) (fun k _ => by rw [hX 48 (by decide) (by decide)]) (fun x h _ => hX x (by omega) (by omega)) (fun k _ _ => by rw [hX 104 (by decide) (by decide)]) (by omega)
          have sX : SC X := by unfold SC; rw [hX 104 (by decide) (by decide)]; exact a5
          have ew : w0 pn X = w0 pn M := by rw [← a7]; exact w0_cg (fun k hk => hX _ (by omega) (by omega)) (fun x _ _ => hX x (by omega) (by omega)) (fun k _ => by rw [hX 48 (by decide) (by decide)])
          obtain ⟨E, c1, c2, c3⟩ := msteps hR wX sX hH
          rw [ew] at c3
          refine ⟨E, c1, c2, ?_, c3.1.1⟩
          have q := WMw_wld hR wX.1 wX.2.1 wX.2.2.1 (xk := z0) (xh := z0) hH
          have e31 : X 104 31 = (m : Int) := by rw [hX 104 (by decide) (by decide), a2.1 104 (by decide), hP.2.2, hm]
          have eX1 : X pn 1 = (m : Int) := by rw [hX pn (by omega) (by omega), a8, hm]
          refine ⟨by rw [c2 104 (by decide)]; exact e31, fun N hN v hv => ?_⟩
          have e := (q.2.2 v (by show v < (X pn 1).toNat; omega)).2 N (fun x hx => by rw [hN x hx, c2 x (by omega)]) s hs
          rw [e]
          show some (w0 pn X 10 ((v * 48 + H) * 4 + s)) = _
          rw [ew, hsh]
        by_cases zT : sumN sh m = 0
        · rw [if_pos zT, answer_eq, xb2_some]
          obtain ⟨E, c1, c2, c3, c4⟩ := mod (xu B 1 0 0) (fun x h1 h2 => by rw [xu1_c _ _ h1, bO x (by omega)])
          refine ⟨0, xu B 1 0 0, xu E 104 0 0, rfl, ?_, ⟨fun x hx => ?_, fun k hk => ?_, fun k hk => ?_, fun k hk => ?_, ?_⟩, ?_⟩
          · rw [hcl _ (by rw [xu1_c _ _ (by decide), bO 104 (by decide), a2.1 104 (by decide)]), xb1_some, if_pos h0, if_neg (by decide), c1, xb1_some]
            have eM := whoseM_F39 hm4 hb (w : Int) (fun (v4_26 : Int) (M_27 : xM) =>
            if v4_26 = 0 then
              xb2 (f_M_gives 104 0 M_27) fun r_29 M_30 =>
              some (r_29, M_30)
            else
              xch (0 ≤ w32 ((w32 (4 * (H : Int))) + (s : Int)) ∧ w32 ((w32 (4 * (H : Int))) + (s : Int)) < 192) <|
              xl (M_27 (R 104 80) (Int.toNat (w32 ((w32 (4 * (H : Int))) + (s : Int))))) fun v6_33 =>
              M_whose_F101 R 104 (w : Int) (H : Int) (s : Int)
                (fun (v8_45 : Int) (M_46 : xM) =>
                  M_whose_F175 R 104 (w : Int)
                    xfu v8_45 M_46)
                xfu v4_26 v6_33 v6_33 0 M_27) c3 m xfu 0 0 (by omega) (by omega) (by omega) (by omega)
            rw [show ((0 : Nat) : Int) = 0 from rfl, z00, Int.zero_add, Int.sub_zero] at eM
            rw [eM, if_pos zT, gives_eq, xb2_some]
          · rw [xu_cell _ _ _ (by omega), c2 x (by omega), xu1_c _ _ (by omega), bO x (by omega), a2.1 x (by omega)]
          · rw [xu_cell _ _ _ (by decide), c2 48 (by decide), xu1_c _ _ (by decide), bO 48 (by decide), a2.2.1 k hk]
          · rw [xu_cell _ _ _ (by decide), c2 1 (by decide), xu_at, if_neg hk, bO 1 (by decide), a2.1 1 (by decide)]
          · rw [xu_at, if_neg hk, c2 104 (by decide), xu1_c _ _ (by decide), bO 104 (by decide), a2.1 104 (by decide)]
          · rw [xu_at, if_pos rfl, xu_cell _ _ _ (by decide), c2 1 (by decide), xu_at, if_pos rfl]
          · exact a3.of (by omega) (by omega) (fun x h1 h2 _ _ => by rw [xu_cell _ _ _ (by omega), c2 x (by omega), xu1_c _ _ (by omega), bO x (by omega)]) (by omega)
        · rw [if_neg zT]
          obtain ⟨up, hup⟩ : ∃ up, up = sim (w0 pn M) (H + 1) 1 (4 * H + s) := ⟨_, rfl⟩
          have hupb : 0 ≤ up ∧ up ≤ 1919808 := by rw [hup]; exact a15 _ (by omega)
          have hshT : ∀ i, i < m → 0 ≤ sh i ∧ sh i ≤ sumN sh m := fun i hi => ⟨(hb i hi).1, sumN_ge m i hi fun j hj => (hb j hj).1⟩
          have eU : f_F_upOf R 62 (H : Int) (s : Int) B = some up := by
            rw [upOf_eq hR.fl62 hH (S := sim (w0 pn M) (H + 1)) (M := B) (fun i hi => by rw [bO (62 + 1) (by decide)]; exact a14 i hi) a15 (Or.inr ⟨by omega, by omega⟩)]
            unfold upV
            rw [if_neg (by omega), Int.toNat_natCast, hup]
          obtain ⟨f, g, e2, e3⟩ := share_eq hR.pt74 (M := B) (a := up) (w := sumN sh m) hupb.1 (by omega) (by omega) (by omega) (show 1 ≤ m by omega) (by omega) hshT rfl b75
          rw [r8, eU, xb1_some, r9, r3, bO pn (by omega), a8, hm, e2, xb1_some, xch_pos (by omega), answer_eq, xb2_some, r741, Int.toNat_natCast]
          obtain ⟨C, hC⟩ : ∃ C, C = x2r B (74 + 2) (74 + 3) f g := ⟨_, rfl⟩
          rw [← hC]
          have cO : ∀ x, x ≠ 76 → x ≠ 77 → C x = B x := fun x h1 h2 => by rw [hC, x2r_oth _ _ _ h1 h2]
          have c76 : C 76 w = prt up (sumN sh m) m sh w := by rw [hC, x2r_c _ _ _ (by decide), e3 w hwm]
          rw [c76]
          obtain ⟨E, c1, c2, c3, c4⟩ := mod (xu C 1 0 0) (fun x h1 h2 => by rw [xu1_c _ _ h1, cO x (by omega) (by omega), bO x (by omega)])
          have hl := prL_in hupb.1 (show 0 < sumN sh m by omega) (show 1 ≤ m by omega) hshT rfl
          have f1 := whoseM_F101 hR hupb.1 (show up ≤ 20000000 by omega) (show 0 < sumN sh m by omega) (by omega) hm4 hshT (H := H) (s := s) (w : Int) (fun (v8_45 : Int) (M_46 : xM) =>
                  M_whose_F175 R 104 (w : Int)
                    xfu v8_45 M_46) m xfu 0 up E (by omega) (by omega) (by omega) (by omega) c3
          have y0 : sumN (prB up (sumN sh m) sh) 0 = 0 := rfl
          rw [y0, Int.sub_zero, show ((0 : Nat) : Int) = 0 from rfl] at f1
          have y1 : up - sumN (prB up (sumN sh m) sh) m = ((prL up (sumN sh m) m sh).toNat : Int) := by unfold prL at hl ⊢; omega
          rw [y1] at f1
          obtain ⟨F, hF⟩ : ∃ F, F = x2r E 163 164 (fun i => if 0 ≤ i ∧ i < m then prB up (sumN sh m) sh i else E 163 i) (fun i => if 0 ≤ i ∧ i < m then prR up (sumN sh m) sh i else E 164 i) := ⟨_, rfl⟩
          rw [← hF] at f1
          have n2 : ∀ i, i < m → F 163 i = prB up (sumN sh m) sh i := fun i hi => by rw [hF, x2r_c _ _ _ (by decide), if_pos ⟨by omega, hi⟩]
          have n3 : ∀ i, i < m → F 164 i = prR up (sumN sh m) sh i := fun i hi => by rw [hF, x2r_d, if_pos ⟨by omega, hi⟩]
          have fO : ∀ x, x ≠ 163 → x ≠ 164 → F x = E x := fun x h1 h2 => by rw [hF, x2r_oth _ _ _ h1 h2]
          obtain ⟨g2, hg2⟩ := whoseM_F175 hR hm4 (show 1 ≤ m by omega) hwm (prL up (sumN sh m) m sh).toNat xfu 20000000 F (by omega) (by omega) (by rw [fO 104 (by decide) (by decide)]; exact c3.1) (fun i hi => by
            rw [n2 i hi]
            have := pr_in hupb.1 (show 0 < sumN sh m by omega) (hshT i hi).1 (hshT i hi).2
            omega)
          have ev : prU m (prL up (sumN sh m) m sh).toNat (F 163) (F 164) w = prt up (sumN sh m) m sh w := prU_cg (by omega) _ _ _ _ _ n2 n3 w hwm
          rw [ev] at hg2
          obtain ⟨G, hG⟩ : ∃ G, G = x2r F 163 164 (prU m (prL up (sumN sh m) m sh).toNat (F 163) (F 164)) g2 := ⟨_, rfl⟩
          rw [← hG] at hg2
          have gO : ∀ x, x ≠ 163 → x ≠ 164 → G x = E x := fun x h1 h2 => by rw [hG, x2r_oth _ _ _ h1 h2, fO x h1 h2]
          refine ⟨_, xu C 1 0 0, xu G 104 0 0, rfl, ?_, ⟨fun x hx => ?_, fun k hk => ?_, fun k hk => ?_, fun k hk => ?_, ?_⟩, ?_⟩
          · rw [hcl _ (by rw [xu1_c _ _ (by decide), cO 104 (by decide) (by decide), bO 104 (by decide), a2.1 104 (by decide)]), xb1_some, if_pos h0, if_neg (by decide), c1, xb1_some]
            have eM := whoseM_F39 hm4 hb (w : Int) (fun (v4_26 : Int) (M_27 : xM) =>
            if v4_26 = 0 then
              xb2 (f_M_gives 104 0 M_27) fun r_29 M_30 =>
              some (r_29, M_30)
            else
              xch (0 ≤ w32 ((w32 (4 * (H : Int))) + (s : Int)) ∧ w32 ((w32 (4 * (H : Int))) + (s : Int)) < 192) <|
              xl (M_27 (R 104 80) (Int.toNat (w32 ((w32 (4 * (H : Int))) + (s : Int))))) fun v6_33 =>
              M_whose_F101 R 104 (w : Int) (H : Int) (s : Int)
                (fun (v8_45 : Int) (M_46 : xM) =>
                  M_whose_F175 R 104 (w : Int)
                    xfu v8_45 M_46)
                xfu v4_26 v6_33 v6_33 0 M_27) c3 m xfu 0 0 (by omega) (by omega) (by omega) (by omega)
            rw [show ((0 : Nat) : Int) = 0 from rfl, z00, Int.zero_add, Int.sub_zero] at eM
            rw [eM, if_neg zT, w32_of (x := 4 * (H : Int)) (by omega) (by omega), w32_of (x := 4 * (H : Int) + (s : Int)) (by omega) (by omega), xch_pos (by omega), xl_eq, r80, show (4 * (H : Int) + (s : Int)).toNat = 4 * H + s by omega, c4 _ (by omega), ← hup]
            exact f1.trans hg2
          · rw [xu_cell _ _ _ (by omega), gO x (by omega) (by omega), c2 x (by omega), xu1_c _ _ (by omega), cO x (by omega) (by omega), bO x (by omega), a2.1 x (by omega)]
          · rw [xu_cell _ _ _ (by decide), gO 48 (by decide) (by decide), c2 48 (by decide), xu1_c _ _ (by decide), cO 48 (by decide) (by decide), bO 48 (by decide), a2.2.1 k hk]
          · rw [xu_cell _ _ _ (by decide), gO 1 (by decide) (by decide), c2 1 (by decide), xu_at, if_neg hk, cO 1 (by decide) (by decide), bO 1 (by decide), a2.1 1 (by decide)]
          · rw [xu_at, if_neg hk, gO 104 (by decide) (by decide), c2 104 (by decide), xu1_c _ _ (by decide), cO 104 (by decide) (by decide), bO 104 (by decide), a2.1 104 (by decide)]
          · rw [xu_at, if_pos rfl, xu_cell _ _ _ (by decide), gO 1 (by decide) (by decide), c2 1 (by decide), xu_at, if_pos rfl]
          · exact a3.of (by omega) (by omega) (fun x h1 h2 _ _ => by rw [xu_cell _ _ _ (by omega), gO x (by omega) (by omega), c2 x (by omega), xu1_c _ _ (by omega), cO x (by omega) (by omega), bO x (by omega)]) (by omega)
      · simp only [if_pos h2]
        refine ⟨-1, _, den 1 M, rfl, ?_, D 1⟩
        rw [hcl _ (xu1_c _ _ (by decide)), xb1_some, if_pos h0, if_neg (by decide)]
        rfl
    · simp only [if_pos h1]
      refine ⟨-1, _, den 1 M, rfl, ?_, D 1⟩
      rw [hcl _ (xu1_c _ _ (by decide)), xb1_some, if_pos h0, if_neg (by decide)]
      rfl
  · simp only [if_pos h0]
    refine ⟨-1, _, den 1 M, rfl, ?_, D 1⟩
    rw [hcl _ (xu1_c _ _ (by decide)), xb1_some, if_neg h0, if_pos rfl]
    rfl
