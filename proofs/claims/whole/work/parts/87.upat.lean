/-! ===== up, at ===== -/
def FrU (M N : xM) : Prop := (∀ x, (x < 48 ∧ x ≠ 1 ∧ x ≠ 39 ∧ x ≠ 47) ∨ (49 ≤ x ∧ x < 58) ∨ x = 78 ∨ (93 ≤ x ∧ x < 156 ∧ x ≠ 104) ∨ 166 ≤ x → N x = M x) ∧ (∀ k, k ≠ 13 → N 48 k = M 48 k) ∧ (∀ k, k ≠ 0 → N 1 k = M 1 k) ∧ (∀ k, k ≠ 0 → N 104 k = M 104 k) ∧ N 104 0 = N 1 0
theorem den_oth {w : Int} {M : xM} {x : Nat} (h1 : x ≠ 1) (h2 : x ≠ 104) : den w M x = M x := by
  unfold den
  rw [xu_cell _ _ _ h2, xu_cell _ _ _ h1]
theorem den_1 (w : Int) (M : xM) (k : Nat) : den w M 1 k = if k = 0 then w else M 1 k := by
  unfold den
  rw [xu_cell _ _ _ (by decide), xu_at]
theorem den_104 (w : Int) (M : xM) (k : Nat) : den w M 104 k = if k = 0 then w else M 104 k := by
  unfold den
  rw [xu_at, xu_cell _ _ _ (by decide)]
theorem FrU_den {M : xM} (w : Int) : FrU M (den w M) := by
  refine ⟨fun x hx => den_oth (by omega) (by omega), fun k _ => by rw [den_oth (by decide) (by decide)], fun k hk => by rw [den_1, if_neg hk], fun k hk => by rw [den_104, if_neg hk], by rw [den_1, den_104, if_pos rfl, if_pos rfl]⟩
theorem FlI.of {p : Nat} (hp : p + 11 < 48) (hp1 : 2 ≤ p) {M N : xM} (q : FlI p M) (h : ∀ x, 2 ≤ x → x < 74 → x ≠ 39 → x ≠ 47 → N x = M x) (hp2 : p + 11 < 32) : FlI p N := by
  obtain ⟨q1, q2, q3⟩ := q
  have e : ∀ k, k < 12 → N (62 + k) = M (62 + k) := fun k hk => h _ (by omega) (by omega) (by omega) (by omega)
  have e0 : N 62 = M 62 := e 0 (by decide)
  refine ⟨by rw [e0]; exact q1, by rw [e0]; exact q2, fun z => ?_⟩
  have ep : N p = M p := h p hp1 (by omega) (by omega) (by omega)
  obtain ⟨g1, g2⟩ := q3 (by rw [← h 48 (by decide) (by decide) (by decide) (by decide)]; exact z)
  have ew : w0 p N = w0 p M := w0_cg (fun k hk => h _ (by omega) (by omega) (by omega) (by omega)) (fun x _ _ => h x (by omega) (by omega) (by omega) (by omega)) (fun k _ => by rw [h 48 (by decide) (by decide) (by decide) (by decide)])
  refine ⟨g1.of (fun x _ _ => h x (by omega) (by omega) (by omega) (by omega)) (fun k _ => by rw [h 48 (by decide) (by decide) (by decide) (by decide)]), ?_⟩
  rw [ew, e0, ep]
  refine ⟨⟨fun i hi => by rw [e 1 (by decide)]; exact g2.1.1 i hi, fun i hi => by rw [e 5 (by decide), e 6 (by decide), e 7 (by decide)]; exact g2.1.2 i hi⟩, fun k hk => ?_⟩
  obtain ⟨⟨b1, b2⟩, b3, b4⟩ := g2.2 k hk
  exact ⟨⟨fun i hi => by rw [e 1 (by decide)]; exact b1 i hi, fun i hi => by rw [e 2 (by decide)]; exact b2 i hi⟩, fun i hi => by rw [e 5 (by decide), e 6 (by decide), e 7 (by decide)]; exact b3 i hi, fun i hi => by rw [e 3 (by decide), e 4 (by decide)]; exact b4 i hi⟩
/-- nothing is supposed in the model -/
def SC (M : xM) : Prop := M 104 74 = -1 ∧ M 104 77 = -1 ∧ M 104 78 = 0
theorem msteps {R : xR} {pn ps ln ls : Nat} (hR : RG R pn ps ln ls) {M : xM} (hW : WB pn M) (hS : SC M) {H : Nat} (hH : H < 48) : ∃ M', f_M_steps R 104 (H : Int) M = some M' ∧ FrM M M' ∧ AgC 155 H (M pn 0).toNat M' (sim (w0 pn M) (H + 1)) := by
  have hpn := hR.pnn
  have hP0 := hW.1.1
  have e0 : (w0 pn M 0 0).toNat = (M pn 0).toNat := rfl
  have r := steps_eq hR hH (W := w0 pn M) (M := M) (fun h hh => WH_w0 hW (by omega)) (fun h hh => ⟨WMw_wld hR hW.1 hW.2.1 hW.2.2.1 (by omega), fun c hc => WMc_wld hR (by omega) hW.1 hW.2.1 hW.2.2.2.1 (by omega) (by rw [e0] at hc; omega) (hW.2.2.2.2 h (by omega)) ⟨fun N hN => by
    rw [show xfu = 999999 + 1 from rfl, M_isKnocked_F62, hN 104 (by decide), hS.2.2, if_neg (by decide)]
    rfl, by rw [if_neg (by rw [hS.1]; omega)]; rfl⟩ ⟨Int.le_refl 0, by show (0 : Int) ≤ 100; decide⟩⟩)
  rw [e0] at r
  exact r
theorem isSizeOrAll_eq (b : Int) : f_X_isSizeOrAll b = some (if b = -1 ∨ (0 ≤ b ∧ b < 4) then 1 else 0) := by
  unfold f_X_isSizeOrAll
  rw [isSize_eq, xb1_some]
  by_cases z : b = -1
  · rw [if_pos z, if_pos (Or.inl z)]
  · rw [if_neg z]
    by_cases y : 0 ≤ b ∧ b < 4
    · rw [if_pos y, if_neg (by decide), if_pos (Or.inr y)]
    · rw [if_neg y, if_pos rfl, if_neg (fun q => q.elim z y)]
/-- what goes up in hour H, of size b or of all -/
def upV (S : xM) (H : Nat) (b : Int) : Int := if b = -1 then S 1 (4 * H) + S 1 (4 * H + 1) + S 1 (4 * H + 2) + S 1 (4 * H + 3) else S 1 (4 * H + b.toNat)
theorem upOf_eq {R : xR} {b : Nat} (hF : FlR R b) {H : Nat} (hH : H < 48) {M S : xM} (hA : ∀ i, i < 4 * H + 4 → M (b + 1) i = S 1 i) (hS : ∀ i, i < 4 * H + 4 → 0 ≤ S 1 i ∧ S 1 i ≤ 1919808) {v : Int} (hv : v = -1 ∨ (0 ≤ v ∧ v < 4)) : f_F_upOf R b (H : Int) v M = some (upV S H v) := by
  have r1 := hF.1
  have x26 : xan 26 = 192 := by decide +kernel
  have s0 := hS (4 * H) (by omega)
  have s1 := hS (4 * H + 1) (by omega)
  have s2 := hS (4 * H + 2) (by omega)
  have s3 := hS (4 * H + 3) (by omega)
  unfold f_F_upOf upV
  rw [r1]
  by_cases z : v = -1
  · rw [if_pos z, if_pos z, w32_of (x := (H : Int) * 4) (by omega) (by omega), show (H : Int) * 4 = ((4 * H : Nat) : Int) by omega, sumOf_eq (by omega) (by omega), xb1_some, hA _ (by omega), hA _ (by omega), hA _ (by omega), hA _ (by omega), w32_of (x := 0 + S 1 (4 * H)) (by omega) (by omega), w32_of (x := 0 + S 1 (4 * H) + S 1 (4 * H + 1)) (by omega) (by omega), w32_of (x := 0 + S 1 (4 * H) + S 1 (4 * H + 1) + S 1 (4 * H + 2)) (by omega) (by omega), w32_of (by omega) (by omega)]
    exact congrArg some (by omega)
  · rw [if_neg z, if_neg z, w32_of (x := (H : Int) * 4) (by omega) (by omega), w32_of (x := (H : Int) * 4 + v) (by omega) (by omega), xch_pos (by omega), show ((H : Int) * 4 + v).toNat = 4 * H + v.toNat by omega, hA _ (by omega)]
theorem upIn_eq {R : xR} {pn ps ln ls : Nat} (hR : RG R pn ps ln ls) {H : Nat} (hH : H < 48) {M S : xM} (hA : ∀ i, i < 4 * H + 4 → M 156 i = S 1 i) (hS : ∀ i, i < 4 * H + 4 → 0 ≤ S 1 i ∧ S 1 i ≤ 1919808) : f_M_upIn R 104 (H : Int) M = some (upV S H (-1)) := by
  have r80 : R 104 80 = 156 := hR.m80 (k := 0) (by decide)
  have s0 := hS (4 * H) (by omega)
  have s1 := hS (4 * H + 1) (by omega)
  have s2 := hS (4 * H + 2) (by omega)
  have s3 := hS (4 * H + 3) (by omega)
  unfold f_M_upIn upV
  rw [if_pos rfl, w32_of (x := 4 * (H : Int)) (by omega) (by omega), w32_of (x := 4 * (H : Int) + 1) (by omega) (by omega), w32_of (x := 4 * (H : Int) + 2) (by omega) (by omega), w32_of (x := 4 * (H : Int) + 3) (by omega) (by omega), xch_pos (by omega), xch_pos (by omega), xch_pos (by omega), xch_pos (by omega), r80, show (4 * (H : Int)).toNat = 4 * H by omega, show (4 * (H : Int) + 1).toNat = 4 * H + 1 by omega, show (4 * (H : Int) + 2).toNat = 4 * H + 2 by omega, show (4 * (H : Int) + 3).toNat = 4 * H + 3 by omega, hA _ (by omega), hA _ (by omega), hA _ (by omega), hA _ (by omega), w32_of (x := S 1 (4 * H) + S 1 (4 * H + 1)) (by omega) (by omega), w32_of (x := S 1 (4 * H) + S 1 (4 * H + 1) + S 1 (4 * H + 2)) (by omega) (by omega), w32_of (by omega) (by omega)]
/-- the class steps through hour H, then the model does, from the class's end -/
theorem both_through {R : xR} {pn ps ln ls : Nat} (hR : RG R pn ps ln ls) {M : xM} (hW : WB pn M) (hI : FlI pn M) (hS : SC M) {H : Nat} (hH : H < 48) :
    ∃ A n, f_X_stepThrough R 1 (H : Int) M = some A ∧ FrG M A ∧ FlI pn A ∧ WB pn A ∧ SC A ∧ GaOK A ∧ w0 pn A = w0 pn M ∧ A pn = M pn ∧ A 62 0 = ((n : Nat) : Int) ∧ H + 1 ≤ n ∧ n ≤ 48 ∧ (M 62 0 ≤ (H : Int) + 1 → n = H + 1) ∧ AgF 62 n (M pn 0).toNat A (w0 pn M) ∧ (∀ i, i < 4 * H + 4 → A 63 i = sim (w0 pn M) (H + 1) 1 i) ∧ (∀ i, i < 4 * H + 4 → 0 ≤ sim (w0 pn M) (H + 1) 1 i ∧ sim (w0 pn M) (H + 1) 1 i ≤ 1919808) := by
  have hpn := hR.pnn
  obtain ⟨A, n, a1, a2, a3, a4, a5, a6, a7, a8, a9⟩ := through_eq hR hW hI hH
  have wA := a2.wb (show pn + 11 < 48 by omega) (by omega) hW
  have hw : ∀ j, j < 48 → WH (w0 pn M) j := fun j hj => WH_w0 hW hj
  refine ⟨A, n, a1, a2, a3, wA, by unfold SC; rw [a2.1 104 (by decide)]; exact hS, (a3.2.2 a4).1, a2.w0 (by omega), a2.1 pn (by omega), a5, a6, a7, a8, a9, fun i hi => ?_, fun i hi => sim_up_in (by omega) (fun j hj => hw j (by omega)) (by omega)⟩
  have e := a9.1.1 i (by omega)
  have e2 := sim_up (W := w0 pn M) (h := H + 1) (i := i) (by omega) (n - (H + 1)) (fun j hj => hw j (by omega))
  rw [show H + 1 + (n - (H + 1)) = n by omega] at e2
  exact e.trans e2
theorem op_up {R : xR} {M : xM} {pn ps ln ls : Nat} (hR : RG R pn ps ln ls) (hW : WB pn M) (hI : FlI pn M) (hS : SC M) (a b : Int) :
    ∃ (r : Int) (M1 M2 : xM), f_X_up R 1 a b M = some (r, M1) ∧ f_M_up R 104 a b M1 = some (r, M2) ∧ FrU M M2 ∧ FlI pn M2 := by
  have hpn := hR.pnn
  have r8 : R 1 8 = 62 := hR.2.1.2.2.2.2.2.2.2.1
  have r80 : R 104 80 = 156 := hR.m80 (k := 0) (by decide)
  have D : ∀ w, FrU M (den w M) ∧ FlI pn (den w M) := fun w => ⟨FrU_den w, hI.of (by omega) (by omega) (fun x _ _ _ _ => den_oth (by omega) (by omega)) (by omega)⟩
  unfold f_X_up f_M_up
  simp only [isHour_eq, isHourM_eq, isSizeOrAll_eq, isSizeM_eq, xb1_some, x01_0, refuse_eq, refuseM_eq, xb2_some]
  by_cases h1 : 0 ≤ a ∧ a < 48
  · simp only [if_neg (show ¬¬(0 ≤ a ∧ a < 48) from fun q => q h1)]
    by_cases h2 : b = -1 ∨ (0 ≤ b ∧ b < 4)
    · simp only [if_neg (show ¬¬(b = -1 ∨ (0 ≤ b ∧ b < 4)) from fun q => q h2)]
      obtain ⟨H, rfl⟩ : ∃ H : Nat, a = H := ⟨a.toNat, by omega⟩
      have hH : H < 48 := by omega
      obtain ⟨A, n, a1, a2, a3, a4, a5, a6, a7, a8, a9, a10, a11, a12, a13, a14, a15⟩ := both_through hR hW hI hS hH
      rw [a1, xb1_some, r8, upOf_eq hR.fl62 hH (S := sim (w0 pn M) (H + 1)) a14 a15 h2, xb1_some, answer_eq, xb2_some]
      obtain ⟨B, hB⟩ : ∃ B, B = xu A 1 0 0 := ⟨_, rfl⟩
      rw [← hB]
      have bO : ∀ x, x ≠ 1 → B x = A x := fun x hx => by rw [hB, xu1_c _ _ hx]
      have wB : WB pn B := a4.of (by omega) (fun x _ _ h => bO x h) (fun k _ => by rw [bO 48 (by decide)]) (fun x h _ => bO x (by omega)) (fun k _ _ => by rw [bO 104 (by decide)]) (by omega)
      have sB : SC B := by unfold SC; rw [bO 104 (by decide)]; exact a5
      have ew : w0 pn B = w0 pn M := by rw [← a7]; exact w0_cg (fun k hk => bO _ (by omega)) (fun x _ _ => bO x (by omega)) (fun k _ => by rw [bO 48 (by decide)])
      obtain ⟨C, c1, c2, c3⟩ := msteps hR wB sB hH
      rw [ew] at c3
      have J : M_up_J25 R 104 (H : Int) b B = some (upV (sim (w0 pn M) (H + 1)) H b, xu C 104 0 0) := by
        unfold M_up_J25
        rw [c1, xb1_some]
        by_cases z : b = -1
        · rw [if_pos z, upIn_eq hR hH (S := sim (w0 pn M) (H + 1)) c3.1.1 a15, xb1_some, gives_eq, xb2_some, z]
        · rw [if_neg z, w32_of (x := 4 * (H : Int)) (by omega) (by omega), w32_of (x := 4 * (H : Int) + b) (by omega) (by omega), xch_pos (by omega), gives_eq, xb2_some, r80, show (4 * (H : Int) + b).toNat = 4 * H + b.toNat by omega]
          have e := c3.1.1 (4 * H + b.toNat) (by omega)
          rw [show 155 + 1 = 156 from rfl] at e
          rw [e]
          unfold upV
          rw [if_neg z]
      refine ⟨_, B, xu C 104 0 0, rfl, ?_, ⟨fun x hx => ?_, fun k hk => ?_, fun k hk => ?_, fun k hk => ?_, ?_⟩, ?_⟩
      · by_cases z : b = -1
        · rw [if_pos z, J]
        · rw [if_neg z, if_neg (by omega), J]
      · rw [xu_cell _ _ _ (by omega), c2 x (by omega), bO x (by omega), a2.1 x (by omega)]
      · rw [xu_cell _ _ _ (by decide), c2 48 (by decide), bO 48 (by decide), a2.2.1 k hk]
      · rw [xu_cell _ _ _ (by decide), c2 1 (by decide), hB, xu_at, if_neg hk, a2.1 1 (by decide)]
      · rw [xu_at, if_neg hk, c2 104 (by decide), bO 104 (by decide), a2.1 104 (by decide)]
      · rw [xu_at, if_pos rfl, xu_cell _ _ _ (by decide), c2 1 (by decide), hB, xu_at, if_pos rfl]
      · exact a3.of (by omega) (by omega) (fun x h1 h2 _ _ => by rw [xu_cell _ _ _ (by omega), c2 x (by omega), bO x (by omega)]) (by omega)
    · simp only [if_pos h2]
      refine ⟨-1, _, den 1 M, rfl, ?_, D 1⟩
      rw [if_neg (fun q => h2 (Or.inl q)), if_pos (fun q => h2 (Or.inr q))]
      rfl
  · simp only [if_pos h1]
    exact ⟨-1, _, den 1 M, rfl, rfl, D 1⟩
