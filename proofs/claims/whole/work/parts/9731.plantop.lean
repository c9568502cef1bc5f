/-! ===== plant ===== -/
def plQ (S : xR) (M_35 : xM) : Option (Int × xM) :=
      xl (xu M_35 104 13 (M_35 104 15)) fun M_36 =>
      if 0 < M_36 104 15 then
        xb2 (f_M_refuse 104 9 M_36) fun r_38 M_39 =>
        some (r_38, M_39)
      else
        xl (xu M_36 104 30 (M_36 104 28)) fun M_41 =>
        xl (xu M_41 104 31 (M_41 104 29)) fun M_42 =>
        M_plant_F169 S 104
          (fun (M_47 : xM) =>
            M_plant_F195 S 104
              (fun (M_52 : xM) =>
                M_plant_F220 S 104
                  (fun (M_74 : xM) =>
                    xl (xu M_74 104 59 0) fun M_75 =>
                    xl (xu M_75 104 60 0) fun M_76 =>
                    xb2 (f_M_gives 104 (M_76 104 30) M_76) fun r_77 M_78 =>
                    some (r_77, M_78))
                  xfu 0 M_52)
              xfu 0 M_47)
          xfu 0 M_42
/-- the model's references for texts -/
def TR (S : xR) : Prop := MR S ∧ S 104 4 = 108 ∧ S 104 5 = 109
theorem RG.tr {R : xR} {pn ps ln ls : Nat} (h : RG R pn ps ln ls) : TR R := ⟨h.mr, by rw [h.at 104 4 (by decide) (by decide)]; exact xR0_104.2.2.2.1, by rw [h.at 104 5 (by decide) (by decide)]; exact xR0_104.2.2.2.2⟩
theorem RG.psn {R : xR} {pn ps ln ls : Nat} (h : RG R pn ps ln ls) : ps = 8 ∨ ps = 20 := by
  rcases h.2.2.2.1 with ⟨-, e⟩ | ⟨-, e⟩ <;> omega
theorem plant_run {R S : xR} {pn ps ln ls : Nat} (hR : RG R pn ps ln ls) (hS : TR S) {M Y0 : xM} (hT : TpOK M) {n : Nat} (hn : (n : Int) ≤ M 2 1) (hy : Y0 108 = M 108) :
    ∃ X0 r X' Y', f_A_open R 2 (n : Int) 2 3 M = some (Rop false R, X0) ∧ f_N_readFrom (Rop false R) ps 2 X0 = some (r, X') ∧ (xb1 (f_M_begin S 104 (n : Int) 0 Y0) fun M_9 => xl (xu M_9 104 28 0) fun M_11 => xl (xu M_11 104 29 0) fun M_12 => if M_12 104 8 = 0 then M_plant_J46 S 104 0 M_12 else M_plant_J46 S 104 1 M_12) = plQ S Y' ∧ (∀ x, x ≠ 2 → x < ps ∨ ps + 12 ≤ x → X' x = M x) ∧ X' 2 1 = 0 ∧ (∀ x, x ≠ 104 → x < 109 ∨ 121 ≤ x → Y' x = Y0 x) ∧ (∀ j, j < 6 ∨ j = 13 ∨ (17 ≤ j ∧ j ≠ 28 ∧ j ≠ 29) → Y' 104 j = Y0 104 j) ∧ Y' 104 6 = 0 ∧ ((r = 1 ∧ (X' 2 12 = 0 ∧ X' 2 13 = -1 ∧ Y' 104 15 = 0 ∧ Y' 104 14 = -1) ∧ ∃ m q, PR ps m q X' Y') ∨ (r = 0 ∧ FT X' Y')) := by
  have xf : xfu = 1000000 := rfl
  have n10 : ¬ (1 : Int) = 0 := by decide
  have hps := hR.psn
  obtain ⟨⟨t1, t2, t3⟩, t4, t5, t6, t7⟩ := hT
  have hB : TxB (M 3) n := ⟨by omega, t5⟩
  obtain ⟨X0, o1, o2, o3, o4⟩ := open_eq (R := R) false hR.2.2.1 hB (M := M) (fun i _ => rfl)
  obtain ⟨Y1, b1, b2, b3, b4, b5⟩ := begin_eq (S := S) false hS.2.1 hS.2.2 hB (Y := Y0) (fun i hi => by rw [hy]; exact t4 i (by omega))
  have b1' : f_M_begin S 104 (n : Int) 0 Y0 = some Y1 := b1
  have hL : LR (Rop false R) S false := ⟨Rop_LG false hR.2.2.1, hS.2.2⟩
  have hp : PnR (Rop false R) ps := (Rop_RG false hR).spR
  obtain ⟨A, hA⟩ : ∃ A, A = xu (xu X0 ps 0 0) ps 1 0 := ⟨_, rfl⟩
  obtain ⟨B, hBd⟩ : ∃ B, B = xu (xu Y1 104 28 0) 104 29 0 := ⟨_, rfl⟩
  have aO : ∀ x, x ≠ ps → A x = X0 x := fun x hx => by rw [hA, xu_cell _ _ _ hx, xu_cell _ _ _ hx]
  have bO : ∀ x, x ≠ 104 → B x = Y1 x := fun x hx => by rw [hBd, xu_cell _ _ _ hx, xu_cell _ _ _ hx]
  have b104 : ∀ j, B 104 j = if j = 29 then 0 else if j = 28 then 0 else Y1 104 j := fun j => by rw [hBd, xu_at, xu_at]
  have h0 : SR false (M 3) n 0 X0 Y1 := ⟨o2, b2, by omega⟩
  have hAB : SR false (M 3) n 0 A B := (h0.ofX (fun j _ => by rw [aO 2 (by omega)]) (aO 3 (by omega))).ofY (fun j h1 h2 h3 h4 => by rw [b104, if_neg (by omega), if_neg (by omega)]) (bO 109 (by decide))
  have hP : PR ps 0 0 A B := ⟨⟨by omega, by omega⟩, ⟨by rw [hA, xu_at, if_neg (by decide), xu_at, if_pos rfl]; rfl, by rw [b104, if_neg (by decide), if_pos rfl]; rfl⟩, ⟨by rw [hA, xu_at, if_pos rfl]; rfl, by rw [b104, if_pos rfl]; rfl⟩, fun c hc => by omega, fun w hw => by omega⟩
  have eX : f_N_readFrom (Rop false R) ps 2 X0 = N_readFrom_F14 (Rop false R) ps 2 xfu 1 0 A := by
    unfold f_N_readFrom
    rw [xl_eq, xl_eq, ← hA]
  have eY : (xb1 (f_M_begin S 104 (n : Int) 0 Y0) fun M_9 => xl (xu M_9 104 28 0) fun M_11 => xl (xu M_11 104 29 0) fun M_12 => if M_12 104 8 = 0 then M_plant_J46 S 104 0 M_12 else M_plant_J46 S 104 1 M_12) = if B 104 8 = 0 then M_plant_F47 S 104 (plQ S) xfu 0 B else M_plant_F47 S 104 (plQ S) xfu 1 B := by
    rw [b1', xb1_some, xl_eq, xl_eq, ← hBd]
    rfl
  have c0 : ∀ x, x ≠ 2 → x < ps ∨ ps + 12 ≤ x → A x = M x := fun x h1 h2 => by rw [aO x (by omega), o3 x h1]
  have c1 : A 2 1 = 0 := by rw [aO 2 (by omega)]; exact o4
  have d0 : ∀ x, x ≠ 104 → x < 109 ∨ 121 ≤ x → B x = Y0 x := fun x h1 h2 => by rw [bO x h1, b3 x h1 (by omega)]
  have d1 : ∀ j, j < 6 ∨ j = 13 ∨ (17 ≤ j ∧ j ≠ 28 ∧ j ≠ 29) → B 104 j = Y0 104 j := fun j hj => by rw [b104, if_neg (by omega), if_neg (by omega), b4 j (by omega)]
  have d6 : B 104 6 = 0 := by rw [b104, if_neg (by decide), if_neg (by decide)]; exact b5
  by_cases z : lxK false (M 3) n 0 = 0
  · refine ⟨X0, 1, A, B, o1, ?_, ?_, c0, c1, d0, d1, d6, Or.inl ⟨rfl, ⟨hAB.1.2.2.1, hAB.1.2.2.2, hAB.2.1.2.2.2.1, hAB.2.1.2.2.2.2⟩, 0, 0, hP⟩⟩
    · rw [eX, show xfu = 999999 + 1 from rfl, N_readFrom_F14, if_neg n10, hAB.1.2.1.2.2.1, if_pos z, xch_01.2]
    · rw [eY, hAB.2.1.2.1.2.2.1, if_pos ((kmp_z hAB.2.2).2 z), show xfu = 999999 + 1 from rfl, M_plant_F47, if_pos rfl]
  · obtain ⟨X', Y', l1, l2, l3⟩ := plant_loop hL hp (by omega) (by omega) hS.1 hB (plQ S) n xfu xfu 0 0 0 0 A B (by omega) (by omega) (by omega) (by omega) hAB hP z
    have cc : ∀ x, x ≠ 2 → x < ps ∨ ps + 12 ≤ x → X' x = M x := fun x h1 h2 => by rw [l1.1 x h1 h2, c0 x h1 h2]
    have c2 : X' 2 1 = 0 := by rw [l1.2 1 (by decide)]; exact c1
    have dd : ∀ x, x ≠ 104 → x < 109 ∨ 121 ≤ x → Y' x = Y0 x := fun x h1 h2 => by rw [l2.1 x h1 (by omega), d0 x h1 h2]
    have d2 : ∀ j, j < 6 ∨ j = 13 ∨ (17 ≤ j ∧ j ≠ 28 ∧ j ≠ 29) → Y' 104 j = Y0 104 j := fun j hj => by rw [l2.2 j (by omega), d1 j hj]
    have d7 : Y' 104 6 = 0 := by rw [l2.2 6 (by decide)]; exact d6
    have eY2 : (if B 104 8 = 0 then M_plant_F47 S 104 (plQ S) xfu 0 B else M_plant_F47 S 104 (plQ S) xfu 1 B) = M_plant_F47 S 104 (plQ S) xfu 1 B := by
      rw [hAB.2.1.2.1.2.2.1, if_neg (fun q => z ((kmp_z hAB.2.2).1 q))]
    rcases l3 with ⟨m, q, e', l3, l4, l5, l6⟩ | ⟨l3, l4, l5⟩
    · exact ⟨X0, 1, X', Y', o1, eX.trans l3, eY.trans (eY2.trans l4), cc, c2, dd, d2, d7, Or.inl ⟨rfl, ⟨l5.1.2.2.1, l5.1.2.2.2, l5.2.1.2.2.2.1, l5.2.1.2.2.2.2⟩, m, q, l6⟩⟩
    · exact ⟨X0, 0, X', Y', o1, eX.trans l3, eY.trans (eY2.trans l4), cc, c2, dd, d2, d7, Or.inr ⟨rfl, l5⟩⟩
/-- what a refused plant leaves -/
def FrPf (ps : Nat) (M N : xM) : Prop := (∀ x, x ≠ 1 → x ≠ 2 → x ≠ 104 → x < ps ∨ ps + 12 ≤ x → x < 109 ∨ 121 ≤ x → N x = M x) ∧ (∀ j, j ≠ 0 → N 1 j = M 1 j) ∧ (∀ j, 17 ≤ j → j ≠ 28 → j ≠ 29 → N 104 j = M 104 j) ∧ N 104 0 = N 1 0
/-- what a new plant leaves -/
def FrPg (ps : Nat) (M N : xM) : Prop := (∀ x, x ≠ 1 → x ≠ 2 → x ≠ 48 → x ≠ 104 → x < ps ∨ ps + 12 ≤ x → x < 109 ∨ 129 ≤ x → N x = M x) ∧ (∀ j, j ≠ 0 → N 1 j = M 1 j) ∧ (∀ j, j ≠ 0 → j ≠ 4 → j ≠ 13 → N 48 j = M 48 j) ∧ (N 48 0 = 0 ∧ N 48 4 = 0 ∧ N 48 13 = 1) ∧ (∀ j, 17 ≤ j → j ≠ 28 → j ≠ 29 → j ≠ 30 → j ≠ 31 → j ≠ 59 → j ≠ 60 → N 104 j = M 104 j) ∧ (N 104 59 = 0 ∧ N 104 60 = 0) ∧ N 104 0 = N 1 0
theorem op_plant {R : xR} {M : xM} {pn ps ln ls : Nat} (hR : RG R pn ps ln ls) (hT : TpOK M) (a : Int) :
    ∃ (r : Int) (R1 : xR) (M1 M2 : xM), f_X_plant R 1 a M = some (r, R1, M1) ∧ f_M_plant R1 104 a M1 = some (r, M2) ∧ ((RG R1 pn ps ln ls ∧ ∃ w, M2 = den w M) ∨ (RG R1 pn ps ln ls ∧ TpOK M2 ∧ FrPf ps M M2) ∨ (RG R1 ps pn ln ls ∧ TpOK M2 ∧ FrPg ps M M2 ∧ PlOK ps M2)) := by
  have xf : xfu = 1000000 := rfl
  have n10 : ¬ (1 : Int) = 0 := by decide
  have hps := hR.psn
  have hT' := hT
  obtain ⟨⟨t1, t2, t3⟩, t4, t5, t6, t7⟩ := hT'
  have r1 : R 1 1 = 2 := hR.2.1.1
  by_cases h1 : a < 0
  · refine ⟨-1, R, xu M 1 0 1, den 1 M, ?_, ?_, Or.inl ⟨hR, 1, rfl⟩⟩
    · unfold f_X_plant
      rw [if_pos h1, refuse_eq, xb2_some]
    · unfold f_M_plant
      rw [if_pos h1, refuseM_eq, xb2_some]
      rfl
  · by_cases h2 : M 2 1 < a
    · refine ⟨-1, R, xu M 1 0 1, den 1 M, ?_, ?_, Or.inl ⟨hR, 1, rfl⟩⟩
      · unfold f_X_plant
        rw [if_neg h1, r1, if_pos h2, refuse_eq, xb2_some]
      · unfold f_M_plant
        rw [if_neg h1, xu1_104, if_pos (by omega), refuseM_eq, xb2_some]
        rfl
    · obtain ⟨n, rfl⟩ : ∃ n : Nat, a = n := ⟨a.toNat, by omega⟩
      obtain ⟨X0, r, X', Yd, e1, e2, e3, e4, e5, e6, e7, e8, e9⟩ := plant_run hR hR.tr hT (n := n) (by omega) (Y0 := M) rfl
      have hR9 := Rop_RG false hR
      have q14 : Rop false R 1 4 = ps := hR9.2.1.2.2.2.1
      have q13 : Rop false R 1 3 = pn := hR9.2.1.2.2.1
      have q11 : Rop false R 1 1 = 2 := hR9.2.1.1
      -- a second run of the model, behind the class
      have again : ∀ (S : xR) (M1 : xM), TR S → M1 108 = M 108 → ∃ Y', (xb1 (f_M_begin S 104 (n : Int) 0 M1) fun M_9 => xl (xu M_9 104 28 0) fun M_11 => xl (xu M_11 104 29 0) fun M_12 => if M_12 104 8 = 0 then M_plant_J46 S 104 0 M_12 else M_plant_J46 S 104 1 M_12) = plQ S Y' ∧ (∀ x, x ≠ 104 → x < 109 ∨ 121 ≤ x → Y' x = M1 x) ∧ (∀ j, j < 6 ∨ j = 13 ∨ (17 ≤ j ∧ j ≠ 28 ∧ j ≠ 29) → Y' 104 j = M1 104 j) ∧ Y' 104 6 = 0 ∧ ((r = 1 ∧ (X' 2 12 = 0 ∧ X' 2 13 = -1 ∧ Y' 104 15 = 0 ∧ Y' 104 14 = -1) ∧ ∃ m q, PR ps m q X' Y') ∨ (r = 0 ∧ FT X' Y')) := by
        intro S M1 hS h8
        obtain ⟨X0', r', X'', Y', f1, f2, f3, f4, f5, f6, f7, f8, f9⟩ := plant_run hR hS hT (n := n) (by omega) (Y0 := M1) h8
        have g1 : X0' = X0 := by rw [e1] at f1; exact (Prod.mk.inj (Option.some.inj f1)).2.symm
        rw [g1, e2] at f2
        have g2 : r' = r := (Prod.mk.inj (Option.some.inj f2)).1.symm
        have g3 : X'' = X' := (Prod.mk.inj (Option.some.inj f2)).2.symm
        rw [g2, g3] at f9
        exact ⟨Y', f3, f6, f7, f8, f9⟩
      by_cases zr : r = 0
      · subst zr
        have cX : f_X_plant R 1 (n : Int) M = some (-1, Rop false R, xu X' 1 0 9) := by
          unfold f_X_plant
          rw [if_neg h1, r1, if_neg h2, e1, xb2_some, q14, q11, e2, xb2_some, if_pos rfl, refuse_eq, xb2_some]
        obtain ⟨Y', g1, g2, g3, g4, g5⟩ := again (Rop false R) (xu X' 1 0 9) hR9.tr (by rw [xu1_c _ _ (by decide), e4 108 (by decide) (by omega)])
        have ft : FT X' Y' := by
          rcases g5 with ⟨q, _⟩ | ⟨_, q⟩
          · exact absurd q (by decide)
          · exact q
        obtain ⟨Z, hZ⟩ : ∃ Z, Z = xu (xu Y' 104 13 (Y' 104 15)) 104 0 9 := ⟨_, rfl⟩
        have zO : ∀ x, x ≠ 104 → Z x = Y' x := fun x hx => by rw [hZ, xu_cell _ _ _ hx, xu_cell _ _ _ hx]
        have z4 : ∀ j, Z 104 j = if j = 0 then 9 else if j = 13 then Y' 104 15 else Y' 104 j := fun j => by rw [hZ, xu_at, xu_at]
        have zX : ∀ x, x ≠ 1 → x ≠ 104 → x < 109 ∨ 121 ≤ x → Z x = X' x := fun x h1 h2 h3 => by rw [zO x h2, g2 x h2 h3, xu1_c _ _ h1]
        refine ⟨-1, _, _, Z, cX, ?_, Or.inr (Or.inl ⟨hR9, ?_, ⟨fun x h1 h2 h3 h4 h5 => by rw [zX x h1 h3 h5, e4 x h2 h4], fun j hj => ?_, fun j h1 h2 h3 => ?_, ?_⟩⟩)⟩
        · have m6 : ¬ xu X' 1 0 9 104 6 < (n : Int) := by
            rw [xu1_104, e4 104 (by decide) (by omega)]
            omega
          unfold f_M_plant
          rw [if_neg h1, if_neg m6, g1]
          unfold plQ
          have : xu Y' 104 13 (Y' 104 15) 104 15 = Y' 104 15 := by rw [xu_at, if_neg (by decide)]
          rw [xl_eq, this, if_pos (by rw [ft.2.1]; exact ft.1), refuseM_eq, xb2_some, hZ]
        · refine ⟨⟨?_, ?_, ?_⟩, fun i hi => ?_, ?_, ?_, ?_⟩
          · rw [zX 2 (by decide) (by decide) (by decide), e5]; decide
          · rw [zX 2 (by decide) (by decide) (by decide), e5]; decide
          · rw [zX 2 (by decide) (by decide) (by decide), e5, z4, if_neg (by decide), if_neg (by decide), g4]
          · rw [zX 2 (by decide) (by decide) (by decide), e5] at hi
            omega
          · rw [zX 3 (by decide) (by decide) (by decide), e4 3 (by decide) (by omega)]
            exact t5
          · rw [zX 2 (by decide) (by decide) (by decide), z4, if_neg (by decide), if_pos rfl]
            exact ft.2.1
          · rw [zX 2 (by decide) (by decide) (by decide), z4, if_neg (by decide), if_neg (by decide)]
            exact ft.2.2
        · rw [zO 1 (by decide), g2 1 (by decide) (by decide), xu_at, if_neg hj, e4 1 (by decide) (by omega)]
        · rw [z4, if_neg (by omega), if_neg (by omega), g3 j (by omega), xu1_104, e4 104 (by decide) (by omega)]
        · rw [z4, if_pos rfl, zO 1 (by decide), g2 1 (by decide) (by decide), xu_at, if_pos rfl]
      · have zr1 : r = 1 := by
          rcases e9 with ⟨q, _⟩ | ⟨q, _⟩
          · exact q
          · exact absurd q zr
        subst zr1
        obtain ⟨R2, hR2⟩ : ∃ R2, R2 = xu (xu (Rop false R) 1 3 ps) 1 4 pn := ⟨_, rfl⟩
        have hRG : RG R2 ps pn ln ls := by
          obtain ⟨u1, u2, u3, u4, u5⟩ := hR9
          have w1 : ∀ k, R2 1 k = if k = 4 then pn else if k = 3 then ps else Rop false R 1 k := fun k => by rw [hR2, xu_at, xu_at]
          refine ⟨fun i k i1 i2 => by rw [hR2, xu_cell _ _ _ i1, xu_cell _ _ _ i1]; exact u1 i k i1 i2, ?_, by rw [hR2, xu_cell _ _ _ (by decide), xu_cell _ _ _ (by decide)]; exact u3, by omega, u5⟩
          obtain ⟨v1, v2, v3, v4, v5, v6, v7, v8, v9, v10, v11⟩ := u2
          exact ⟨by rw [w1, if_neg (by decide), if_neg (by decide)]; exact v1, by rw [w1, if_neg (by decide), if_neg (by decide)]; exact v2, by rw [w1, if_neg (by decide), if_pos rfl], by rw [w1, if_pos rfl], by rw [w1, if_neg (by decide), if_neg (by decide)]; exact v5, by rw [w1, if_neg (by decide), if_neg (by decide)]; exact v6, by rw [w1, if_neg (by decide), if_neg (by decide)]; exact v7, by rw [w1, if_neg (by decide), if_neg (by decide)]; exact v8, by rw [w1, if_neg (by decide), if_neg (by decide)]; exact v9, by rw [w1, if_neg (by decide), if_neg (by decide)]; exact v10, by rw [w1, if_neg (by decide), if_neg (by decide)]; exact v11⟩
        obtain ⟨F, hF⟩ : ∃ F, F = xu (xu (xu X' 48 0 0) 48 4 0) 48 13 1 := ⟨_, rfl⟩
        have fO : ∀ x, x ≠ 48 → F x = X' x := fun x hx => by rw [hF, xu_cell _ _ _ hx, xu_cell _ _ _ hx, xu_cell _ _ _ hx]
        have f48 : ∀ j, F 48 j = if j = 13 then 1 else if j = 4 then 0 else if j = 0 then 0 else X' 48 j := fun j => by rw [hF, xu_at, xu_at, xu_at]
        obtain ⟨K, hK⟩ : ∃ K, K = xu F 1 0 0 := ⟨_, rfl⟩
        have kO : ∀ x, x ≠ 1 → K x = F x := fun x hx => by rw [hK, xu1_c _ _ hx]
        have cX : f_X_plant R 1 (n : Int) M = some (X' ps 0, R2, K) := by
          unfold f_X_plant
          rw [if_neg h1, r1, if_neg h2, e1, xb2_some, q14, q11, e2, xb2_some, if_neg n10, q13, xl_eq, xl_eq, ← hR2, hRG.2.1.2.2.2.2.2.2.1, hRG.2.1.2.2.1]
          unfold f_B_forget
          rw [xl_eq, xl_eq, xl_eq, xb1_some, ← hF, answer_eq, xb2_some, fO ps (by omega), ← hK]
        obtain ⟨Y', g1, g2, g3, g4, g5⟩ := again R2 K hRG.tr (by rw [kO 108 (by decide), fO 108 (by decide), e4 108 (by decide) (by omega)])
        have gd : (X' 2 12 = 0 ∧ X' 2 13 = -1 ∧ Y' 104 15 = 0 ∧ Y' 104 14 = -1) ∧ ∃ m q, PR ps m q X' Y' := by
          rcases g5 with ⟨_, q1, q2⟩ | ⟨q, _⟩
          · exact ⟨q1, q2⟩
          · exact absurd q (by decide)
        obtain ⟨⟨x12, x13, y15, y14⟩, m, q, hPR⟩ := gd
        obtain ⟨⟨hm8, hq4⟩, ⟨x0, y28⟩, ⟨x1, y29⟩, hC, hWk⟩ := hPR
        have hm := hRG.mr
        -- the model takes it over
        obtain ⟨A, hA⟩ : ∃ A, A = xu (xu (xu Y' 104 13 0) 104 30 (m : Int)) 104 31 (q : Int) := ⟨_, rfl⟩
        have aO : ∀ x, x ≠ 104 → A x = Y' x := fun x hx => by rw [hA, xu_cell _ _ _ hx, xu_cell _ _ _ hx, xu_cell _ _ _ hx]
        have a4 : ∀ j, A 104 j = if j = 31 then (q : Int) else if j = 30 then (m : Int) else if j = 13 then 0 else Y' 104 j := fun j => by rw [hA, xu_at, xu_at, xu_at]
        obtain ⟨B, b1, b2, b3⟩ := pl_F169 hm (fun (M_47 : xM) =>
            M_plant_F195 R2 104
              (fun (M_52 : xM) =>
                M_plant_F220 R2 104
                  (fun (M_74 : xM) =>
                    xl (xu M_74 104 59 0) fun M_75 =>
                    xl (xu M_75 104 60 0) fun M_76 =>
                    xb2 (f_M_gives 104 (M_76 104 30) M_76) fun r_77 M_78 =>
                    some (r_77, M_78))
                  xfu 0 M_52)
              xfu 0 M_47) 32 xfu 0 A (by omega) (by omega)
        obtain ⟨C, c1, c2, c3⟩ := pl_F195 hm (fun (M_52 : xM) =>
                M_plant_F220 R2 104
                  (fun (M_74 : xM) =>
                    xl (xu M_74 104 59 0) fun M_75 =>
                    xl (xu M_75 104 60 0) fun M_76 =>
                    xb2 (f_M_gives 104 (M_76 104 30) M_76) fun r_77 M_78 =>
                    some (r_77, M_78))
                  xfu 0 M_52) 4 xfu 0 B (by omega) (by omega)
        have cA : ∀ x, x ≠ 122 → x ≠ 128 → C x = A x := fun x h1 h2 => by rw [c2 x h2, b2 x h1]
        have c30 : C 104 30 = (m : Int) := by rw [cA 104 (by decide) (by decide), a4, if_neg (by decide), if_pos rfl]
        obtain ⟨D, d1, d2, d3, d4⟩ := pl_F220 hm hm8 (fun (M_74 : xM) =>
                    xl (xu M_74 104 59 0) fun M_75 =>
                    xl (xu M_75 104 60 0) fun M_76 =>
                    xb2 (f_M_gives 104 (M_76 104 30) M_76) fun r_77 M_78 =>
                    some (r_77, M_78)) m xfu 0 C (by omega) (by omega) c30 (fun d hd => by
          rw [cA 116 (by decide) (by decide), aO 116 (by decide)]
          rcases (hC d hd).2.2.2.2.2 with ⟨_, u, _⟩ | ⟨_, u1, u2, _⟩
          · omega
          · omega)
        obtain ⟨Z, hZ⟩ : ∃ Z, Z = xu (xu (xu D 104 59 0) 104 60 0) 104 0 0 := ⟨_, rfl⟩
        have zO : ∀ x, x ≠ 104 → Z x = D x := fun x hx => by rw [hZ, xu_cell _ _ _ hx, xu_cell _ _ _ hx, xu_cell _ _ _ hx]
        have d104 : D 104 = A 104 := by rw [d2 104 (by decide), cA 104 (by decide) (by decide)]
        have z4 : ∀ j, Z 104 j = if j = 0 then 0 else if j = 60 then 0 else if j = 59 then 0 else A 104 j := fun j => by rw [hZ, xu_at, xu_at, xu_at, d104]
        have zK : ∀ x, x ≠ 104 → x < 109 ∨ 129 ≤ x → Z x = K x := fun x h1 h2 => by rw [zO x h1, d2 x (by omega), cA x (by omega) (by omega), aO x h1, g2 x h1 (by omega)]
        have zX : ∀ x, x ≠ 1 → x ≠ 48 → x ≠ 104 → x < 109 ∨ 129 ≤ x → Z x = X' x := fun x h1 h2 h3 h4 => by rw [zK x h3 h4, kO x h1, fO x h2]
        have zY : ∀ x, x ≠ 104 → x < 121 → Z x = Y' x := fun x h1 h2 => by rw [zO x h1, d2 x (by omega), cA x (by omega) (by omega), aO x h1]
        have cy : ∀ x, 110 ≤ x → x < 121 → C x = Y' x := fun x h1 h2 => by rw [cA x (by omega) (by omega), aO x (by omega)]
        refine ⟨X' ps 0, R2, K, Z, cX, ?_, Or.inr (Or.inr ⟨hRG, ?_, ⟨fun x h1 h2 h3 h4 h5 h6 => by rw [zX x h1 h3 h4 h6, e4 x h2 h5], fun j hj => ?_, fun j h1 h2 h3 => ?_, ⟨?_, ?_, ?_⟩, fun j h1 h2 h3 h4 h5 h6 h7 => ?_, ⟨?_, ?_⟩, ?_⟩, ?_⟩)⟩
        · have m6 : ¬ K 104 6 < (n : Int) := by
            rw [kO 104 (by decide), fO 104 (by decide), e4 104 (by decide) (by omega)]
            omega
          unfold f_M_plant
          rw [if_neg h1, if_neg m6, g1]
          unfold plQ
          have v1 : xu Y' 104 13 (Y' 104 15) 104 15 = 0 := by rw [xu_at, if_neg (by decide)]; exact y15
          have v2 : xu Y' 104 13 (Y' 104 15) 104 28 = (m : Int) := by rw [xu_at, if_neg (by decide)]; exact y28
          rw [xl_eq, v1, if_neg (by decide), xl_eq, v2, y15]
          have v3 : xu (xu Y' 104 13 0) 104 30 (m : Int) 104 29 = (q : Int) := by rw [xu_at, if_neg (by decide), xu_at, if_neg (by decide)]; exact y29
          rw [xl_eq, v3, ← hA]
          refine b1.trans (c1.trans (d1.trans ?_))
          have v4 : xu (xu D 104 59 0) 104 60 0 104 30 = (m : Int) := by rw [xu_at, if_neg (by decide), xu_at, if_neg (by decide), d104, a4, if_neg (by decide), if_pos rfl]
          rw [xl_eq, xl_eq, v4, gives_eq, xb2_some, ← hZ, x0]
        · refine ⟨⟨?_, ?_, ?_⟩, fun i hi => ?_, ?_, ?_, ?_⟩
          · rw [zX 2 (by decide) (by decide) (by decide) (by decide), e5]; decide
          · rw [zX 2 (by decide) (by decide) (by decide) (by decide), e5]; decide
          · rw [zX 2 (by decide) (by decide) (by decide) (by decide), e5, z4, if_neg (by decide), if_neg (by decide), if_neg (by decide), a4, if_neg (by decide), if_neg (by decide), if_neg (by decide), g4]
          · rw [zX 2 (by decide) (by decide) (by decide) (by decide), e5] at hi
            omega
          · rw [zX 3 (by decide) (by decide) (by decide) (by decide), e4 3 (by decide) (by omega)]
            exact t5
          · rw [zX 2 (by decide) (by decide) (by decide) (by decide), z4, if_neg (by decide), if_neg (by decide), if_neg (by decide), a4, if_neg (by decide), if_neg (by decide), if_pos rfl]
            exact x12.symm
          · rw [zX 2 (by decide) (by decide) (by decide) (by decide), z4, if_neg (by decide), if_neg (by decide), if_neg (by decide), a4, if_neg (by decide), if_neg (by decide), if_neg (by decide), y14]
            exact x13.symm
        · rw [zK 1 (by decide) (by decide), hK, xu_at, if_neg hj, fO 1 (by decide), e4 1 (by decide) (by omega)]
        · rw [zK 48 (by decide) (by decide), kO 48 (by decide), f48, if_neg h3, if_neg h2, if_neg h1, e4 48 (by decide) (by omega)]
        · rw [zK 48 (by decide) (by decide), kO 48 (by decide), f48, if_neg (by decide), if_neg (by decide), if_pos rfl]
        · rw [zK 48 (by decide) (by decide), kO 48 (by decide), f48, if_neg (by decide), if_pos rfl]
        · rw [zK 48 (by decide) (by decide), kO 48 (by decide), f48, if_pos rfl]
        · rw [z4, if_neg (by omega), if_neg h7, if_neg h6, a4, if_neg h5, if_neg h4, if_neg (by omega), g3 j (by omega), kO 104 (by decide), fO 104 (by decide), e4 104 (by decide) (by omega)]
        · rw [z4, if_neg (by decide), if_neg (by decide), if_pos rfl]
        · rw [z4, if_neg (by decide), if_pos rfl]
        · rw [z4, if_pos rfl, zK 1 (by decide) (by decide), hK, xu_at, if_pos rfl]
        · have zp : ∀ j, j < 12 → Z (ps + j) = X' (ps + j) := fun j hj => zX _ (by omega) (by omega) (by omega) (by omega)
          have zp0 : Z ps = X' ps := zp 0 (by decide)
          refine ⟨⟨?_, ?_, ?_⟩, ⟨?_, ?_, ?_⟩, fun c hc => ?_, fun w hw => ?_⟩
          · rw [zp0, x0]; omega
          · rw [zp0, x0]; omega
          · rw [zp0, x0, z4, if_neg (by decide), if_neg (by decide), if_neg (by decide), a4, if_neg (by decide), if_pos rfl]
          · rw [zp0, x1]; omega
          · rw [zp0, x1]; omega
          · rw [zp0, x1, z4, if_neg (by decide), if_neg (by decide), if_neg (by decide), a4, if_pos rfl]
          · rw [zp0, x0] at hc
            have cc := hC c (by omega)
            have tk := d4 c (by omega) (by omega)
            obtain ⟨k1, k2, k3, k4⟩ := tk
            rw [cy 112 (by decide) (by decide)] at k1
            rw [cy 114 (by decide) (by decide)] at k2
            rw [cy 115 (by decide) (by decide)] at k3
            rw [cy 116 (by decide) (by decide), cy 117 (by decide) (by decide), cy 118 (by decide) (by decide)] at k4
            obtain ⟨-, ⟨u2, u2'⟩, u3, ⟨u4, u4'⟩, ⟨u5, u5', u5''⟩, u6⟩ := cc
            have e122 : ∀ s, s < 4 → Z 122 (4 * c + s) = Y' 113 (4 * c + s) := fun s hs => by rw [zO 122 (by decide), d2 122 (by decide), c2 122 (by decide), b3 _ (by omega), if_pos (by omega), aO 113 (by decide)]
            unfold ClOK
            rw [zp 3 (by decide), zp 4 (by decide), zp 5 (by decide), zp 6 (by decide), zp 8 (by decide), zp 9 (by decide), zp 10 (by decide), zp0, zO 121 (by decide), zO 123 (by decide), zO 124 (by decide), zO 125 (by decide), zO 126 (by decide), zO 127 (by decide), k1, k2, k3, x0]
            refine ⟨⟨u2.1, u2.2, u2'⟩, fun s hs => ?_, ⟨u4.1, u4.2, u4'⟩, ⟨u5.1, u5.2, u5', u5''⟩, ?_⟩
            · rw [e122 s hs]
              have := u3 s hs
              exact ⟨this.1.1, this.1.2, this.2⟩
            · rcases u6 with ⟨v1, v2, v3, v4, v5⟩ | ⟨v1, v2, v3, v4, v5⟩
              · have kk : D 125 c = 1 ∧ D 126 (8 * c) = 8 ∧ D 127 (8 * c) = 100 := by
                  rcases k4 with ⟨_, q1, q2, q3⟩ | ⟨q1, _⟩
                  · exact ⟨q1, q2, q3⟩
                  · omega
                rw [v3, kk.1]
                refine ⟨⟨by decide, by decide, rfl⟩, fun w hw => ?_, ?_⟩
                · have w0 : w = 0 := by omega
                  subst w0
                  refine ⟨Or.inl ⟨v4, kk.2.1⟩, ?_, ?_, kk.2.2.trans v5.symm⟩
                  · show 0 ≤ X' (ps + 10) (8 * c)
                    rw [v5]; decide
                  · show X' (ps + 10) (8 * c) ≤ 100
                    rw [v5]; decide
                · show (List.map _ (List.range 1)).sum = 100
                  simp only [List.range_one, List.map_cons, List.map_nil, List.sum_cons, List.sum_nil, Nat.add_zero, v5]
                  rfl
              · have kk : D 125 c = Y' 116 c ∧ ∀ w : Nat, (w : Int) < Y' 116 c → D 126 (8 * c + w) = Y' 117 (8 * c + w) ∧ D 127 (8 * c + w) = Y' 118 (8 * c + w) := by
                  rcases k4 with ⟨q1, _⟩ | ⟨_, q1, q2⟩
                  · omega
                  · exact ⟨q1, q2⟩
                refine ⟨⟨v2.1, v2.2, by rw [kk.1, v3]⟩, fun w hw => ?_, ?_⟩
                · have q1 := v4 w hw
                  have q2 := kk.2 w (by omega)
                  rw [q2.1, q2.2]
                  have q3 := q1.1
                  unfold GlR at q3
                  exact ⟨q3.elim (fun y => Or.inl y) (fun y => Or.inr y), q1.2.1.1, q1.2.1.2, q1.2.2⟩
                · rw [← sumN_list (fun w => X' (ps + 10) (8 * c + w))]
                  exact v5
          · rw [zp0, x1] at hw
            have := hWk w (by omega)
            rw [zp 11 (by decide), zp0, x0, zO 128 (by decide), d2 128 (by decide), c3 w (by omega), if_pos (by omega), b2 119 (by decide), aO 119 (by decide)]
            exact ⟨this.2.1.1, this.2.1.2, this.2.2⟩
