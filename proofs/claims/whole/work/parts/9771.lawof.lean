def Op_status (Inv : xR → xM → Prop) : Prop := ∀ (R : xR) (M : xM), Inv R M → ∃ (r : Int), f_X_status 1 M = some r ∧ f_M_status 104 M = some r ∧ Inv R M
def Op_tray (Inv : xR → xM → Prop) : Prop := ∀ (R : xR) (M : xM) (a1 : Int) (a2 : Int) (a3 : Int), Inv R M → xi32 a1 → xi32 a2 → xi32 a3 → ∃ (r : Int) (M1 : xM) (M2 : xM), f_X_tray R 1 a1 a2 a3 M = some (r, M1) ∧ f_M_tray R 104 a1 a2 a3 M1 = some (r, M2) ∧ Inv R M2
def Op_write (Inv : xR → xM → Prop) : Prop := ∀ (R : xR) (M : xM) (a1 : Int) (a2 : Int) (v : Int), Inv R M → xi32 a1 → xi32 a2 → ∃ (r : Int) (M1 : xM) (M2 : xM), f_X_write R 1 a1 a2 v M = some (r, M1) ∧ f_M_write R 104 a1 a2 v M1 = some (r, M2) ∧ Inv R M2
def Op_read (Inv : xR → xM → Prop) : Prop := ∀ (R : xR) (M : xM) (a1 : Int) (a2 : Int), Inv R M → xi32 a1 → xi32 a2 → ∃ (r : Int) (M1 : xM) (M2 : xM), f_X_read R 1 a1 a2 M = some (r, M1) ∧ f_M_read R 104 a1 a2 M1 = some (r, M2) ∧ Inv R M2
def Op_pour (Inv : xR → xM → Prop) : Prop := ∀ (R : xR) (M : xM) (a1 : Int) (a2 : Int) (a3 : Int) (a4 : Int) (a5 : Int), Inv R M → xi32 a1 → xi32 a2 → xi32 a3 → xi32 a4 → xi32 a5 → ∃ (r : Int) (M1 : xM) (M2 : xM), f_X_pour R 1 a1 a2 a3 a4 a5 M = some (r, M1) ∧ f_M_pour R 104 a1 a2 a3 a4 a5 M1 = some (r, M2) ∧ Inv R M2
def Op_feed (Inv : xR → xM → Prop) : Prop := ∀ (R : xR) (M : xM) (a1 : Int) (a2 : Int) (a3 : Int) (a4 : Int) (a5 : Int), Inv R M → xi32 a1 → xi32 a2 → xi32 a3 → xi32 a4 → xi32 a5 → ∃ (r : Int) (M1 : xM) (M2 : xM), f_X_feed R 1 a1 a2 a3 a4 a5 M = some (r, M1) ∧ f_M_feed R 104 a1 a2 a3 a4 a5 M1 = some (r, M2) ∧ Inv R M2
def Op_plant (Inv : xR → xM → Prop) : Prop := ∀ (R : xR) (M : xM) (a1 : Int), Inv R M → xi32 a1 → ∃ (r : Int) (R1 : xR) (M1 : xM) (M2 : xM), f_X_plant R 1 a1 M = some (r, R1, M1) ∧ f_M_plant R1 104 a1 M1 = some (r, M2) ∧ Inv R1 M2
def Op_laws (Inv : xR → xM → Prop) : Prop := ∀ (R : xR) (M : xM) (a1 : Int), Inv R M → xi32 a1 → ∃ (r : Int) (R1 : xR) (M1 : xM) (M2 : xM), f_X_laws R 1 a1 M = some (r, R1, M1) ∧ f_M_laws R1 104 a1 M1 = some (r, M2) ∧ Inv R1 M2
def Op_fault (Inv : xR → xM → Prop) : Prop := ∀ (R : xR) (M : xM) (a1 : Int), Inv R M → xi32 a1 → ∃ (r : Int), f_X_fault R 1 a1 M = some r ∧ f_M_fault 104 a1 M = some r ∧ Inv R M
def Op_cleaner (Inv : xR → xM → Prop) : Prop := ∀ (R : xR) (M : xM) (a1 : Int) (a2 : Int), Inv R M → xi32 a1 → xi32 a2 → ∃ (r : Int) (M1 : xM) (M2 : xM), f_X_cleaner R 1 a1 a2 M = some (r, M1) ∧ f_M_cleaner R 104 a1 a2 M1 = some (r, M2) ∧ Inv R M2
def Op_works (Inv : xR → xM → Prop) : Prop := ∀ (R : xR) (M : xM) (a1 : Int), Inv R M → xi32 a1 → ∃ (r : Int) (M1 : xM) (M2 : xM), f_X_works R 1 a1 M = some (r, M1) ∧ f_M_works R 104 a1 M1 = some (r, M2) ∧ Inv R M2
def Op_row (Inv : xR → xM → Prop) : Prop := ∀ (R : xR) (M : xM) (a1 : Int) (a2 : Int) (a3 : Int) (a4 : Int) (a5 : Int), Inv R M → xi32 a1 → xi32 a2 → xi32 a3 → xi32 a4 → xi32 a5 → ∃ (r : Int) (M1 : xM) (M2 : xM), f_X_row R 1 a1 a2 a3 a4 a5 M = some (r, M1) ∧ f_M_row R 104 a1 a2 a3 a4 a5 M1 = some (r, M2) ∧ Inv R M2
def Op_warmth (Inv : xR → xM → Prop) : Prop := ∀ (R : xR) (M : xM) (a1 : Int) (a2 : Int), Inv R M → xi32 a1 → xi32 a2 → ∃ (r : Int) (M1 : xM) (M2 : xM), f_X_warmth R 1 a1 a2 M = some (r, M1) ∧ f_M_warmth R 104 a1 a2 M1 = some (r, M2) ∧ Inv R M2
def Op_knock (Inv : xR → xM → Prop) : Prop := ∀ (R : xR) (M : xM) (a1 : Int) (a2 : Int) (a3 : Int), Inv R M → xi32 a1 → xi32 a2 → xi32 a3 → ∃ (r : Int) (M1 : xM) (M2 : xM), f_X_knock R 1 a1 a2 a3 M = some (r, M1) ∧ f_M_knock R 104 a1 a2 a3 M1 = some (r, M2) ∧ Inv R M2
def Op_hole (Inv : xR → xM → Prop) : Prop := ∀ (R : xR) (M : xM) (a1 : Int) (a2 : Int) (a3 : Int) (a4 : Int), Inv R M → xi32 a1 → xi32 a2 → xi32 a3 → xi32 a4 → ∃ (r : Int) (M1 : xM) (M2 : xM), f_X_hole R 1 a1 a2 a3 a4 M = some (r, M1) ∧ f_M_hole R 104 a1 a2 a3 a4 M1 = some (r, M2) ∧ Inv R M2
def Op_off (Inv : xR → xM → Prop) : Prop := ∀ (R : xR) (M : xM) (a1 : Int) (a2 : Int) (a3 : Int) (a4 : Int), Inv R M → xi32 a1 → xi32 a2 → xi32 a3 → xi32 a4 → ∃ (r : Int) (M1 : xM) (M2 : xM), f_X_off R 1 a1 a2 a3 a4 M = some (r, M1) ∧ f_M_off R 104 a1 a2 a3 a4 M1 = some (r, M2) ∧ Inv R M2
def Op_asof (Inv : xR → xM → Prop) : Prop := ∀ (R : xR) (M : xM) (a1 : Int), Inv R M → xi32 a1 → ∃ (r : Int) (M1 : xM) (M2 : xM), f_X_asof R 1 a1 M = some (r, M1) ∧ f_M_asof 104 a1 M1 = some (r, M2) ∧ Inv R M2
def Op_up (Inv : xR → xM → Prop) : Prop := ∀ (R : xR) (M : xM) (a1 : Int) (a2 : Int), Inv R M → xi32 a1 → xi32 a2 → ∃ (r : Int) (M1 : xM) (M2 : xM), f_X_up R 1 a1 a2 M = some (r, M1) ∧ f_M_up R 104 a1 a2 M1 = some (r, M2) ∧ Inv R M2
def Op_at (Inv : xR → xM → Prop) : Prop := ∀ (R : xR) (M : xM) (a1 : Int) (a2 : Int) (a3 : Int) (a4 : Int), Inv R M → xi32 a1 → xi32 a2 → xi32 a3 → xi32 a4 → ∃ (r : Int) (M1 : xM) (M2 : xM), f_X_at R 1 a1 a2 a3 a4 M = some (r, M1) ∧ f_M_at R 104 a1 a2 a3 a4 M1 = some (r, M2) ∧ Inv R M2
def Op_whose (Inv : xR → xM → Prop) : Prop := ∀ (R : xR) (M : xM) (a1 : Int) (a2 : Int) (a3 : Int), Inv R M → xi32 a1 → xi32 a2 → xi32 a3 → ∃ (r : Int) (M1 : xM) (M2 : xM), f_X_whose R 1 a1 a2 a3 M = some (r, M1) ∧ f_M_whose R 104 a1 a2 a3 M1 = some (r, M2) ∧ Inv R M2
def Op_broken (Inv : xR → xM → Prop) : Prop := ∀ (R : xR) (M : xM) (a1 : Int) (a2 : Int), Inv R M → xi32 a1 → xi32 a2 → ∃ (r : Int) (M1 : xM) (M2 : xM), f_X_broken R 1 a1 a2 M = some (r, M1) ∧ f_M_broken R 104 a1 a2 M1 = some (r, M2) ∧ Inv R M2
def Op_breach (Inv : xR → xM → Prop) : Prop := ∀ (R : xR) (M : xM) (a1 : Int), Inv R M → xi32 a1 → ∃ (r : Int) (M1 : xM) (M2 : xM), f_X_breach R 1 a1 M = some (r, M1) ∧ f_M_breach R 104 a1 M1 = some (r, M2) ∧ Inv R M2
def Op_torn (Inv : xR → xM → Prop) : Prop := ∀ (R : xR) (M : xM) (a1 : Int) (a2 : Int) (a3 : Int) (a4 : Int), Inv R M → xi32 a1 → xi32 a2 → xi32 a3 → xi32 a4 → ∃ (r : Int) (M1 : xM) (M2 : xM), f_X_torn R 1 a1 a2 a3 a4 M = some (r, M1) ∧ f_M_torn R 104 a1 a2 a3 a4 M1 = some (r, M2) ∧ Inv R M2
def Op_tornTold (Inv : xR → xM → Prop) : Prop := ∀ (R : xR) (M : xM) (a1 : Int), Inv R M → xi32 a1 → ∃ (r : Int) (M1 : xM) (M2 : xM), f_X_tornTold R 1 a1 M = some (r, M1) ∧ f_M_tornTold 104 a1 M1 = some (r, M2) ∧ Inv R M2
def Op_knocks (Inv : xR → xM → Prop) : Prop := ∀ (R : xR) (M : xM) (a1 : Int) (a2 : Int) (a3 : Int) (a4 : Int) (a5 : Int), Inv R M → xi32 a1 → xi32 a2 → xi32 a3 → xi32 a4 → xi32 a5 → ∃ (r : Int) (M1 : xM) (M2 : xM), f_X_knocks R 1 a1 a2 a3 a4 a5 M = some (r, M1) ∧ f_M_knocks R 104 a1 a2 a3 a4 a5 M1 = some (r, M2) ∧ Inv R M2
def Op_knockSet (Inv : xR → xM → Prop) : Prop := ∀ (R : xR) (M : xM), Inv R M → ∃ (r : Int) (M1 : xM) (M2 : xM), f_X_knockSet R 1 M = some (r, M1) ∧ f_M_knockSet 104 M1 = some (r, M2) ∧ Inv R M2
def Op_rowOf (Inv : xR → xM → Prop) : Prop := ∀ (R : xR) (M : xM) (a1 : Int) (a2 : Int) (a3 : Int) (a4 : Int), Inv R M → xi32 a1 → xi32 a2 → xi32 a3 → xi32 a4 → ∃ (r : Int) (M1 : xM) (M2 : xM), f_X_rowOf R 1 a1 a2 a3 a4 M = some (r, M1) ∧ f_M_rowOf R 104 a1 a2 a3 a4 M1 = some (r, M2) ∧ Inv R M2
def Op_rowAt (Inv : xR → xM → Prop) : Prop := ∀ (R : xR) (M : xM) (a1 : Int), Inv R M → xi32 a1 → ∃ (r : Int) (M1 : xM) (M2 : xM), f_X_rowAt R 1 a1 M = some (r, M1) ∧ f_M_rowAt R 104 a1 M1 = some (r, M2) ∧ Inv R M2
def Op_air (Inv : xR → xM → Prop) : Prop := ∀ (R : xR) (M : xM) (a1 : Int) (a2 : Int) (a3 : Int) (a4 : Int), Inv R M → xi32 a1 → xi32 a2 → xi32 a3 → xi32 a4 → ∃ (r : Int) (M1 : xM) (M2 : xM), f_X_air R 1 a1 a2 a3 a4 M = some (r, M1) ∧ f_M_air R 104 a1 a2 a3 a4 M1 = some (r, M2) ∧ Inv R M2
def Op_gauge (Inv : xR → xM → Prop) : Prop := ∀ (R : xR) (M : xM) (a1 : Int) (a2 : Int) (a3 : Int) (a4 : Int), Inv R M → xi32 a1 → xi32 a2 → xi32 a3 → xi32 a4 → ∃ (r : Int) (M1 : xM) (M2 : xM), f_X_gauge R 1 a1 a2 a3 a4 M = some (r, M1) ∧ f_M_gauge R 104 a1 a2 a3 a4 M1 = some (r, M2) ∧ Inv R M2
def Op_gaugeTold (Inv : xR → xM → Prop) : Prop := ∀ (R : xR) (M : xM) (a1 : Int) (a2 : Int), Inv R M → xi32 a1 → xi32 a2 → ∃ (r : Int) (M1 : xM) (M2 : xM), f_X_gaugeTold R 1 a1 a2 M = some (r, M1) ∧ f_M_gaugeTold R 104 a1 a2 M1 = some (r, M2) ∧ Inv R M2
def Ops (Inv : xR → xM → Prop) : Prop := Op_status Inv ∧ Op_tray Inv ∧ Op_write Inv ∧ Op_read Inv ∧ Op_pour Inv ∧ Op_feed Inv ∧ Op_plant Inv ∧ Op_laws Inv ∧ Op_fault Inv ∧ Op_cleaner Inv ∧ Op_works Inv ∧ Op_row Inv ∧ Op_warmth Inv ∧ Op_knock Inv ∧ Op_hole Inv ∧ Op_off Inv ∧ Op_asof Inv ∧ Op_up Inv ∧ Op_at Inv ∧ Op_whose Inv ∧ Op_broken Inv ∧ Op_breach Inv ∧ Op_torn Inv ∧ Op_tornTold Inv ∧ Op_knocks Inv ∧ Op_knockSet Inv ∧ Op_rowOf Inv ∧ Op_rowAt Inv ∧ Op_air Inv ∧ Op_gauge Inv ∧ Op_gaugeTold Inv
theorem sc_in {sc : List Int} (h : ∀ x ∈ sc, xi32 x) (j : Nat) : xi32 (sc.getD j 0) := by
  rw [List.getD_eq_getElem?_getD]
  by_cases hj : j < sc.length
  · rw [List.getElem?_eq_getElem hj]
    exact h _ (List.getElem_mem hj)
  · rw [List.getElem?_eq_none (by omega)]
    exact x0i
set_option maxHeartbeats 8000000 in
set_option maxRecDepth 100000 in
theorem law_F {Inv : xR → xM → Prop} (H : Ops Inv) {sc : List Int} (hl : sc.length ≤ 3072) (hr : ∀ x ∈ sc, xi32 x) : ∀ (n : Nat) (v3 : Int) (R : xR) (M : xM), 0 ≤ v3 → v3 < 10000 → 10000 - v3 < n → Inv R M → ∃ (R2 : xR) (M2 : xM), W_law_F18 sc n v3 R M = some (1, R2, M2) := by
  obtain ⟨p0, p1, p2, p3, p4, p5, p6, p7, p8, p9, p10, p11, p12, p13, p14, p15, p16, p17, p18, p19, p20, p21, p22, p23, p24, p25, p26, p27, p28, p29, p30⟩ := H
  intro n
  induction n with
  | zero => intro v3 R M h0 h1 h2 hI; omega
  | succ n ih =>
    intro v3 R M h0 h1 h2 hI
    rw [W_law_F18]
    rw [w32_of (x := (sc.length : Int) - 6) (by omega) (by omega)]
    by_cases hb : (sc.length : Int) - 6 < v3
    · rw [if_pos hb]
      exact ⟨R, M, rfl⟩
    · rw [if_neg hb, xch_pos ⟨h0, by omega⟩]
      have hrc : ∀ (R2 : xR) (M2 : xM), Inv R2 M2 → ∃ (R3 : xR) (M3 : xM), W_law_J1406 sc (W_law_F18 sc n) v3 R2 M2 = some (1, R3, M3) := by
        intro R2 M2 hI2
        unfold W_law_J1406
        rw [xl_eq, w32_of (x := v3 + 6) (by omega) (by omega)]
        exact ih (v3 + 6) R2 M2 (by omega) (by omega) (by omega) hI2
      have c1 : 0 ≤ w32 (v3 + 1) ∧ w32 (v3 + 1) < (sc.length : Int) := by rw [w32_of (x := v3 + 1) (by omega) (by omega)]; omega
      have c2 : 0 ≤ w32 (v3 + 2) ∧ w32 (v3 + 2) < (sc.length : Int) := by rw [w32_of (x := v3 + 2) (by omega) (by omega)]; omega
      have c3 : 0 ≤ w32 (v3 + 3) ∧ w32 (v3 + 3) < (sc.length : Int) := by rw [w32_of (x := v3 + 3) (by omega) (by omega)]; omega
      have c4 : 0 ≤ w32 (v3 + 4) ∧ w32 (v3 + 4) < (sc.length : Int) := by rw [w32_of (x := v3 + 4) (by omega) (by omega)]; omega
      have c5 : 0 ≤ w32 (v3 + 5) ∧ w32 (v3 + 5) < (sc.length : Int) := by rw [w32_of (x := v3 + 5) (by omega) (by omega)]; omega
      generalize xand (sc.getD (Int.toNat v3) 0) 31 = op
      by_cases e0 : op = 0
      · rw [if_pos e0]
        obtain ⟨r, x1, x2, x3⟩ := p0 R M  hI
        rw [x1, xb1_some, x2, xb1_some, if_pos rfl]
        exact hrc _ _ x3
      rw [if_neg e0]
      by_cases e1 : op = 1
      · rw [if_pos e1, xch_pos c1, xch_pos c2, xch_pos c3]
        obtain ⟨r, M1, M2, x1, x2, x3⟩ := p1 R M (sc.getD (Int.toNat (w32 (v3 + 1))) 0) (sc.getD (Int.toNat (w32 (v3 + 2))) 0) (sc.getD (Int.toNat (w32 (v3 + 3))) 0) hI (sc_in hr _) (sc_in hr _) (sc_in hr _)
        rw [x1, xb2_some, x2, xb2_some, if_pos rfl]
        exact hrc _ _ x3
      rw [if_neg e1]
      by_cases e2 : op = 2
      · rw [if_pos e2, xch_pos c1, xch_pos c2, xch_pos c3, xch_pos c4]
        obtain ⟨r, M1, M2, x1, x2, x3⟩ := p2 R M (sc.getD (Int.toNat (w32 (v3 + 1))) 0) (sc.getD (Int.toNat (w32 (v3 + 2))) 0) (yor (yshl (sc.getD (Int.toNat (w32 (v3 + 3))) 0) 32) (yand (sc.getD (Int.toNat (w32 (v3 + 4))) 0) 4294967295)) hI (sc_in hr _) (sc_in hr _)
        rw [x1, xb2_some, x2, xb2_some, if_pos rfl]
        exact hrc _ _ x3
      rw [if_neg e2]
      by_cases e3 : op = 3
      · rw [if_pos e3, xch_pos c1, xch_pos c2]
        obtain ⟨r, M1, M2, x1, x2, x3⟩ := p3 R M (sc.getD (Int.toNat (w32 (v3 + 1))) 0) (sc.getD (Int.toNat (w32 (v3 + 2))) 0) hI (sc_in hr _) (sc_in hr _)
        rw [x1, xb2_some, x2, xb2_some, if_pos rfl]
        exact hrc _ _ x3
      rw [if_neg e3]
      by_cases e4 : op = 4
      · rw [if_pos e4, xch_pos c1, xch_pos c2, xch_pos c3, xch_pos c4, xch_pos c5]
        obtain ⟨r, M1, M2, x1, x2, x3⟩ := p4 R M (sc.getD (Int.toNat (w32 (v3 + 1))) 0) (sc.getD (Int.toNat (w32 (v3 + 2))) 0) (sc.getD (Int.toNat (w32 (v3 + 3))) 0) (sc.getD (Int.toNat (w32 (v3 + 4))) 0) (sc.getD (Int.toNat (w32 (v3 + 5))) 0) hI (sc_in hr _) (sc_in hr _) (sc_in hr _) (sc_in hr _) (sc_in hr _)
        rw [x1, xb2_some, x2, xb2_some, if_pos rfl]
        exact hrc _ _ x3
      rw [if_neg e4]
      by_cases e5 : op = 5
      · rw [if_pos e5, xch_pos c1, xch_pos c2, xch_pos c3, xch_pos c4, xch_pos c5]
        obtain ⟨r, M1, M2, x1, x2, x3⟩ := p5 R M (sc.getD (Int.toNat (w32 (v3 + 1))) 0) (sc.getD (Int.toNat (w32 (v3 + 2))) 0) (sc.getD (Int.toNat (w32 (v3 + 3))) 0) (sc.getD (Int.toNat (w32 (v3 + 4))) 0) (sc.getD (Int.toNat (w32 (v3 + 5))) 0) hI (sc_in hr _) (sc_in hr _) (sc_in hr _) (sc_in hr _) (sc_in hr _)
        rw [x1, xb2_some, x2, xb2_some, if_pos rfl]
        exact hrc _ _ x3
      rw [if_neg e5]
      by_cases e6 : op = 6
      · rw [if_pos e6, xch_pos c1]
        obtain ⟨r, R1, M1, M2, x1, x2, x3⟩ := p6 R M (sc.getD (Int.toNat (w32 (v3 + 1))) 0) hI (sc_in hr _)
        rw [x1, xb3_some, x2, xb2_some, if_pos rfl]
        exact hrc _ _ x3
      rw [if_neg e6]
      by_cases e7 : op = 7
      · rw [if_pos e7, xch_pos c1]
        obtain ⟨r, R1, M1, M2, x1, x2, x3⟩ := p7 R M (sc.getD (Int.toNat (w32 (v3 + 1))) 0) hI (sc_in hr _)
        rw [x1, xb3_some, x2, xb2_some, if_pos rfl]
        exact hrc _ _ x3
      rw [if_neg e7]
      by_cases e8 : op = 8
      · rw [if_pos e8, xch_pos c1]
        obtain ⟨r, x1, x2, x3⟩ := p8 R M (sc.getD (Int.toNat (w32 (v3 + 1))) 0) hI (sc_in hr _)
        rw [x1, xb1_some, x2, xb1_some, if_pos rfl]
        exact hrc _ _ x3
      rw [if_neg e8]
      by_cases e9 : op = 9
      · rw [if_pos e9, xch_pos c1, xch_pos c2]
        obtain ⟨r, M1, M2, x1, x2, x3⟩ := p9 R M (sc.getD (Int.toNat (w32 (v3 + 1))) 0) (sc.getD (Int.toNat (w32 (v3 + 2))) 0) hI (sc_in hr _) (sc_in hr _)
        rw [x1, xb2_some, x2, xb2_some, if_pos rfl]
        exact hrc _ _ x3
      rw [if_neg e9]
      by_cases e10 : op = 10
      · rw [if_pos e10, xch_pos c1]
        obtain ⟨r, M1, M2, x1, x2, x3⟩ := p10 R M (sc.getD (Int.toNat (w32 (v3 + 1))) 0) hI (sc_in hr _)
        rw [x1, xb2_some, x2, xb2_some, if_pos rfl]
        exact hrc _ _ x3
      rw [if_neg e10]
      by_cases e11 : op = 11
      · rw [if_pos e11, xch_pos c1, xch_pos c2, xch_pos c3, xch_pos c4, xch_pos c5]
        obtain ⟨r, M1, M2, x1, x2, x3⟩ := p11 R M (sc.getD (Int.toNat (w32 (v3 + 1))) 0) (sc.getD (Int.toNat (w32 (v3 + 2))) 0) (sc.getD (Int.toNat (w32 (v3 + 3))) 0) (sc.getD (Int.toNat (w32 (v3 + 4))) 0) (sc.getD (Int.toNat (w32 (v3 + 5))) 0) hI (sc_in hr _) (sc_in hr _) (sc_in hr _) (sc_in hr _) (sc_in hr _)
        rw [x1, xb2_some, x2, xb2_some, if_pos rfl]
        exact hrc _ _ x3
      rw [if_neg e11]
      by_cases e12 : op = 12
      · rw [if_pos e12, xch_pos c1, xch_pos c2]
        obtain ⟨r, M1, M2, x1, x2, x3⟩ := p12 R M (sc.getD (Int.toNat (w32 (v3 + 1))) 0) (sc.getD (Int.toNat (w32 (v3 + 2))) 0) hI (sc_in hr _) (sc_in hr _)
        rw [x1, xb2_some, x2, xb2_some, if_pos rfl]
        exact hrc _ _ x3
      rw [if_neg e12]
      by_cases e13 : op = 13
      · rw [if_pos e13, xch_pos c1, xch_pos c2, xch_pos c3]
        obtain ⟨r, M1, M2, x1, x2, x3⟩ := p13 R M (sc.getD (Int.toNat (w32 (v3 + 1))) 0) (sc.getD (Int.toNat (w32 (v3 + 2))) 0) (sc.getD (Int.toNat (w32 (v3 + 3))) 0) hI (sc_in hr _) (sc_in hr _) (sc_in hr _)
        rw [x1, xb2_some, x2, xb2_some, if_pos rfl]
        exact hrc _ _ x3
      rw [if_neg e13]
      by_cases e14 : op = 14
      · rw [if_pos e14, xch_pos c1, xch_pos c2, xch_pos c3, xch_pos c4]
        obtain ⟨r, M1, M2, x1, x2, x3⟩ := p14 R M (sc.getD (Int.toNat (w32 (v3 + 1))) 0) (sc.getD (Int.toNat (w32 (v3 + 2))) 0) (sc.getD (Int.toNat (w32 (v3 + 3))) 0) (sc.getD (Int.toNat (w32 (v3 + 4))) 0) hI (sc_in hr _) (sc_in hr _) (sc_in hr _) (sc_in hr _)
        rw [x1, xb2_some, x2, xb2_some, if_pos rfl]
        exact hrc _ _ x3
      rw [if_neg e14]
      by_cases e15 : op = 15
      · rw [if_pos e15, xch_pos c1, xch_pos c2, xch_pos c3, xch_pos c4]
        obtain ⟨r, M1, M2, x1, x2, x3⟩ := p15 R M (sc.getD (Int.toNat (w32 (v3 + 1))) 0) (sc.getD (Int.toNat (w32 (v3 + 2))) 0) (sc.getD (Int.toNat (w32 (v3 + 3))) 0) (sc.getD (Int.toNat (w32 (v3 + 4))) 0) hI (sc_in hr _) (sc_in hr _) (sc_in hr _) (sc_in hr _)
        rw [x1, xb2_some, x2, xb2_some, if_pos rfl]
        exact hrc _ _ x3
      rw [if_neg e15]
      by_cases e16 : op = 16
      · rw [if_pos e16, xch_pos c1]
        obtain ⟨r, M1, M2, x1, x2, x3⟩ := p16 R M (sc.getD (Int.toNat (w32 (v3 + 1))) 0) hI (sc_in hr _)
        rw [x1, xb2_some, x2, xb2_some, if_pos rfl]
        exact hrc _ _ x3
      rw [if_neg e16]
      by_cases e17 : op = 17
      · rw [if_pos e17, xch_pos c1, xch_pos c2]
        obtain ⟨r, M1, M2, x1, x2, x3⟩ := p17 R M (sc.getD (Int.toNat (w32 (v3 + 1))) 0) (sc.getD (Int.toNat (w32 (v3 + 2))) 0) hI (sc_in hr _) (sc_in hr _)
        rw [x1, xb2_some, x2, xb2_some, if_pos rfl]
        exact hrc _ _ x3
      rw [if_neg e17]
      by_cases e18 : op = 18
      · rw [if_pos e18, xch_pos c1, xch_pos c2, xch_pos c3, xch_pos c4]
        obtain ⟨r, M1, M2, x1, x2, x3⟩ := p18 R M (sc.getD (Int.toNat (w32 (v3 + 1))) 0) (sc.getD (Int.toNat (w32 (v3 + 2))) 0) (sc.getD (Int.toNat (w32 (v3 + 3))) 0) (sc.getD (Int.toNat (w32 (v3 + 4))) 0) hI (sc_in hr _) (sc_in hr _) (sc_in hr _) (sc_in hr _)
        rw [x1, xb2_some, x2, xb2_some, if_pos rfl]
        exact hrc _ _ x3
      rw [if_neg e18]
      by_cases e19 : op = 19
      · rw [if_pos e19, xch_pos c1, xch_pos c2, xch_pos c3]
        obtain ⟨r, M1, M2, x1, x2, x3⟩ := p19 R M (sc.getD (Int.toNat (w32 (v3 + 1))) 0) (sc.getD (Int.toNat (w32 (v3 + 2))) 0) (sc.getD (Int.toNat (w32 (v3 + 3))) 0) hI (sc_in hr _) (sc_in hr _) (sc_in hr _)
        rw [x1, xb2_some, x2, xb2_some, if_pos rfl]
        exact hrc _ _ x3
      rw [if_neg e19]
      by_cases e20 : op = 20
      · rw [if_pos e20, xch_pos c1, xch_pos c2]
        obtain ⟨r, M1, M2, x1, x2, x3⟩ := p20 R M (sc.getD (Int.toNat (w32 (v3 + 1))) 0) (sc.getD (Int.toNat (w32 (v3 + 2))) 0) hI (sc_in hr _) (sc_in hr _)
        rw [x1, xb2_some, x2, xb2_some, if_pos rfl]
        exact hrc _ _ x3
      rw [if_neg e20]
      by_cases e21 : op = 21
      · rw [if_pos e21, xch_pos c1]
        obtain ⟨r, M1, M2, x1, x2, x3⟩ := p21 R M (sc.getD (Int.toNat (w32 (v3 + 1))) 0) hI (sc_in hr _)
        rw [x1, xb2_some, x2, xb2_some, if_pos rfl]
        exact hrc _ _ x3
      rw [if_neg e21]
      by_cases e22 : op = 22
      · rw [if_pos e22, xch_pos c1, xch_pos c2, xch_pos c3, xch_pos c4]
        obtain ⟨r, M1, M2, x1, x2, x3⟩ := p22 R M (sc.getD (Int.toNat (w32 (v3 + 1))) 0) (sc.getD (Int.toNat (w32 (v3 + 2))) 0) (sc.getD (Int.toNat (w32 (v3 + 3))) 0) (sc.getD (Int.toNat (w32 (v3 + 4))) 0) hI (sc_in hr _) (sc_in hr _) (sc_in hr _) (sc_in hr _)
        rw [x1, xb2_some, x2, xb2_some, if_pos rfl]
        exact hrc _ _ x3
      rw [if_neg e22]
      by_cases e23 : op = 23
      · rw [if_pos e23, xch_pos c1]
        obtain ⟨r, M1, M2, x1, x2, x3⟩ := p23 R M (sc.getD (Int.toNat (w32 (v3 + 1))) 0) hI (sc_in hr _)
        rw [x1, xb2_some, x2, xb2_some, if_pos rfl]
        exact hrc _ _ x3
      rw [if_neg e23]
      by_cases e24 : op = 24
      · rw [if_pos e24, xch_pos c1, xch_pos c2, xch_pos c3, xch_pos c4, xch_pos c5]
        obtain ⟨r, M1, M2, x1, x2, x3⟩ := p24 R M (sc.getD (Int.toNat (w32 (v3 + 1))) 0) (sc.getD (Int.toNat (w32 (v3 + 2))) 0) (sc.getD (Int.toNat (w32 (v3 + 3))) 0) (sc.getD (Int.toNat (w32 (v3 + 4))) 0) (sc.getD (Int.toNat (w32 (v3 + 5))) 0) hI (sc_in hr _) (sc_in hr _) (sc_in hr _) (sc_in hr _) (sc_in hr _)
        rw [x1, xb2_some, x2, xb2_some, if_pos rfl]
        exact hrc _ _ x3
      rw [if_neg e24]
      by_cases e25 : op = 25
      · rw [if_pos e25]
        obtain ⟨r, M1, M2, x1, x2, x3⟩ := p25 R M  hI
        rw [x1, xb2_some, x2, xb2_some, if_pos rfl]
        exact hrc _ _ x3
      rw [if_neg e25]
      by_cases e26 : op = 26
      · rw [if_pos e26, xch_pos c1, xch_pos c2, xch_pos c3, xch_pos c4]
        obtain ⟨r, M1, M2, x1, x2, x3⟩ := p26 R M (sc.getD (Int.toNat (w32 (v3 + 1))) 0) (sc.getD (Int.toNat (w32 (v3 + 2))) 0) (sc.getD (Int.toNat (w32 (v3 + 3))) 0) (sc.getD (Int.toNat (w32 (v3 + 4))) 0) hI (sc_in hr _) (sc_in hr _) (sc_in hr _) (sc_in hr _)
        rw [x1, xb2_some, x2, xb2_some, if_pos rfl]
        exact hrc _ _ x3
      rw [if_neg e26]
      by_cases e27 : op = 27
      · rw [if_pos e27, xch_pos c1]
        obtain ⟨r, M1, M2, x1, x2, x3⟩ := p27 R M (sc.getD (Int.toNat (w32 (v3 + 1))) 0) hI (sc_in hr _)
        rw [x1, xb2_some, x2, xb2_some, if_pos rfl]
        exact hrc _ _ x3
      rw [if_neg e27]
      by_cases e28 : op = 28
      · rw [if_pos e28, xch_pos c1, xch_pos c2, xch_pos c3, xch_pos c4]
        obtain ⟨r, M1, M2, x1, x2, x3⟩ := p28 R M (sc.getD (Int.toNat (w32 (v3 + 1))) 0) (sc.getD (Int.toNat (w32 (v3 + 2))) 0) (sc.getD (Int.toNat (w32 (v3 + 3))) 0) (sc.getD (Int.toNat (w32 (v3 + 4))) 0) hI (sc_in hr _) (sc_in hr _) (sc_in hr _) (sc_in hr _)
        rw [x1, xb2_some, x2, xb2_some, if_pos rfl]
        exact hrc _ _ x3
      rw [if_neg e28]
      by_cases e29 : op = 29
      · rw [if_pos e29, xch_pos c1, xch_pos c2, xch_pos c3, xch_pos c4]
        obtain ⟨r, M1, M2, x1, x2, x3⟩ := p29 R M (sc.getD (Int.toNat (w32 (v3 + 1))) 0) (sc.getD (Int.toNat (w32 (v3 + 2))) 0) (sc.getD (Int.toNat (w32 (v3 + 3))) 0) (sc.getD (Int.toNat (w32 (v3 + 4))) 0) hI (sc_in hr _) (sc_in hr _) (sc_in hr _) (sc_in hr _)
        rw [x1, xb2_some, x2, xb2_some, if_pos rfl]
        exact hrc _ _ x3
      rw [if_neg e29]
      by_cases e30 : op = 30
      · rw [if_pos e30, xch_pos c1, xch_pos c2]
        obtain ⟨r, M1, M2, x1, x2, x3⟩ := p30 R M (sc.getD (Int.toNat (w32 (v3 + 1))) 0) (sc.getD (Int.toNat (w32 (v3 + 2))) 0) hI (sc_in hr _) (sc_in hr _)
        rw [x1, xb2_some, x2, xb2_some, if_pos rfl]
        exact hrc _ _ x3
      rw [if_neg e30]
      exact hrc _ _ hI
theorem law_of {Inv : xR → xM → Prop} (H : Ops Inv) (h0 : Inv xR0 xM0) : LawPure := by
  intro sc hl hr
  unfold f_law
  exact law_F H hl hr xfu 0 _ _ (by omega) (by omega) (by unfold xfu; omega) h0
