/-! ===== the class and the model say what the world says ===== -/
theorem wld_at {p : Nat} {M : xM} {xk xh : Nat → Int} {c h : Nat} (hh : h < 48) : wld p M xk xh 11 (48 * c + h) = (if knF M (c : Int) (h : Int) (M 48 4).toNat = 1 then 1 else xk (48 * c + h)) ∧ wld p M xk xh 12 (48 * c + h) = ofF M (c : Int) (h : Int) (M 48 4).toNat ∧ wld p M xk xh 13 (48 * c + h) = hoF M (c : Int) (h : Int) (M 48 4).toNat + xh (48 * c + h) := by
  have e1 : (48 * c + h) / 48 = c := by omega
  have e2 : (48 * c + h) % 48 = h := by omega
  refine ⟨?_, ?_, ?_⟩
  · show (if knF M (((48 * c + h) / 48 : Nat) : Int) (((48 * c + h) % 48 : Nat) : Int) (M 48 4).toNat = 1 then 1 else xk (48 * c + h)) = _
    rw [e1, e2]
  · show ofF M (((48 * c + h) / 48 : Nat) : Int) (((48 * c + h) % 48 : Nat) : Int) (M 48 4).toNat = _
    rw [e1, e2]
  · show hoF M (((48 * c + h) / 48 : Nat) : Int) (((48 * c + h) % 48 : Nat) : Int) (M 48 4).toNat + xh (48 * c + h) = _
    rw [e1, e2]
theorem WXw_wld {p : Nat} {M : xM} (hP : PlOK p M) (hG : GaOK M) {xk xh : Nat → Int} {h : Nat} (hh : h < 48) : WXw p h (wld p M xk xh) M := by
  refine ⟨rfl, rfl, fun w hw => ⟨rfl, fun s hs => ?_⟩⟩
  have e : (wld p M xk xh 0 1) = M p 1 := rfl
  rw [e] at hw
  have := hP.2.1
  exact hG.1 ((w * 48 + h) * 4 + s) (by omega)
/-- what is supposed at flow b -/
def Sup (b : Nat) (M : xM) (xk xh : Nat → Int) (h c : Nat) : Prop := (if (c : Int) = M b 9 then (if yand (yushr (M b 10) (h : Int)) 1 = 0 then 0 else 1) else 0) = xk (48 * c + h) ∧ (if (c : Int) = M b 9 then M b 11 else 0) = xh (48 * c + h)
theorem WXc_wld {R : xR} {pn ps ln ls : Nat} (hR : RG R pn ps ln ls) {p b : Nat} {M : xM} (hP : PlOK p M) (hB : BcOK M) (he : EvOK p M) (hG : GaOK M) {xk xh : Nat → Int} {h c : Nat} (hh : h < 48) (hc : (c : Int) < M p 0) (hs : Sup b M xk xh h c) (hx : 0 ≤ xh (48 * c + h) ∧ xh (48 * c + h) ≤ 100) : WXc R p b h c (wld p M xk xh) M := by
  obtain ⟨-, r14, r15, r16, r17⟩ := hR.bk
  have hp8 := hP.1
  obtain ⟨w11, w12, w13⟩ := wld_at (p := p) (M := M) (xk := xk) (xh := xh) (c := c) hh
  obtain ⟨g1, g2, g3⟩ := hG.2
  obtain ⟨s1, s2⟩ := hs
  have k1 := (knF_iff (M := M) (c := (c : Int)) (h := (h : Int)) (M 48 4).toNat).1
  have o1 := (ofF_iff (M := M) (c := (c : Int)) (h := (h : Int)) (M 48 4).toNat).1
  refine ⟨rfl, fun _ _ => rfl, rfl, rfl, rfl, fun _ _ => ⟨rfl, rfl⟩, rfl, ?_, ?_, ?_⟩
  · obtain ⟨u, u1, u2, u3⟩ := g1 c (by omega)
    rw [w11]
    unfold f_F_isKnocked f_B_isKnocked
    rw [xch_pos (by omega), r15, Int.toNat_natCast, u2, ybit u1 hh]
    by_cases z : u.testBit h = true
    · rw [if_pos z, if_neg (by decide), xb1_some, if_neg (by decide), if_pos ((u3 h hh).1 z)]
    · rw [if_neg z, if_pos rfl, xb1_some, if_pos rfl, if_neg (fun q => z ((u3 h hh).2 q)), ← s1]
      by_cases y : (c : Int) = M b 9
      · rw [if_pos y, if_pos y]
        by_cases x : yand (yushr (M b 10) (h : Int)) 1 = 0
        · rw [if_pos x, if_pos x]
        · rw [if_neg x, if_neg x]
      · rw [if_neg y, if_neg y]
  · obtain ⟨u, u1, u2, u3⟩ := g2 c (by omega)
    rw [w12]
    unfold f_B_isOff
    rw [xch_pos (by omega), r16, Int.toNat_natCast, u2, ybit u1 hh]
    by_cases z : u.testBit h = true
    · rw [if_pos z, if_neg (by decide), (u3 h hh).1 z]
    · rw [if_neg z, if_pos rfl]
      have : ofF M (c : Int) (h : Int) (M 48 4).toNat ≠ 1 := fun q => z ((u3 h hh).2 q)
      exact congrArg some (by omega)
  · have g := g3 (48 * c + h) (by omega)
    rw [show (48 * c + h) / 48 = c by omega, show (48 * c + h) % 48 = h by omega] at g
    have ho := hoF_in he (c := (c : Int)) (h := (h : Int)) (M 48 4).toNat (by have := hB.2.1; omega)
    have b2 := hB.2.1
    rw [w13]
    unfold f_F_lessBy f_B_holesBy
    rw [w32_of (x := (c : Int) * 48) (by omega) (by omega), w32_of (x := (c : Int) * 48 + (h : Int)) (by omega) (by omega), xch_pos (by omega), xb1_some, r17, show ((c : Int) * 48 + (h : Int)).toNat = 48 * c + h by omega, g, ← s2]
    by_cases y : (c : Int) = M b 9
    · rw [if_pos y] at s2
      rw [if_pos y, if_pos y, w32_of (by omega) (by omega)]
    · rw [if_neg y, if_neg y, Int.add_zero]
theorem WMw_wld {R : xR} {pn ps ln ls : Nat} (hR : RG R pn ps ln ls) {p : Nat} {M : xM} (hP : PlOK p M) (hB : BcOK M) (hr : RowOK M) {xk xh : Nat → Int} {h : Nat} (hh : h < 48) : WMw R h (wld p M xk xh) M := by
  obtain ⟨p1, p2, p3, p4⟩ := hP
  refine ⟨p1.2.2, p2.2.2, fun w hw => ?_⟩
  have e : (wld p M xk xh 0 1) = M p 1 := rfl
  rw [e] at hw
  refine ⟨(p4 w (by omega)).2.2, fun N hN s hs => ?_⟩
  rw [portions_eq hR (N := N) (by unfold BcOK; rw [hN 48 (by decide), hN 104 (by decide)]; exact hB) (by unfold RowOK; rw [hN 48 (by decide), hN 144 (by decide), hN 145 (by decide), hN 146 (by decide), hN 49 (by decide), hN 147 (by decide), hN 50 (by decide), hN 148 (by decide), hN 51 (by decide)]; exact hr) (show w < 4 by omega) hh hs, hN 48 (by decide), hN 49 (by decide), hN 50 (by decide), hN 51 (by decide)]
  rfl
/-- what is supposed in the model -/
def SupM (R : xR) (M : xM) (xk xh : Nat → Int) (h c : Nat) : Prop := (∀ N : xM, (∀ x, x < 156 → N x = M x) → M_isKnocked_F62 R N 104 (c : Int) (h : Int) xfu 0 = some (xk (48 * c + h))) ∧ (if M 104 74 = (c : Int) then (if (h : Int) < M 104 75 then 0 else M 104 76) else 0) = xh (48 * c + h)
theorem WMc_wld {R : xR} {pn ps ln ls : Nat} (hR : RG R pn ps ln ls) {p : Nat} (hpp : p + 11 < 48) {M : xM} (hP : PlOK p M) (hB : BcOK M) (he : EvOK p M) {xk xh : Nat → Int} {h c : Nat} (hh : h < 48) (hc : (c : Int) < M p 0) (hw : M 154 h = M 57 h) (hs : SupM R M xk xh h c) (hx : 0 ≤ xh (48 * c + h) ∧ xh (48 * c + h) ≤ 100) : WMc R h c (wld p M xk xh) M := by
  obtain ⟨p1, p2, p3, p4⟩ := hP
  obtain ⟨c1, c2, c3, c4, c5, c6, c7⟩ := p3 c hc
  obtain ⟨w11, w12, w13⟩ := wld_at (p := p) (M := M) (xk := xk) (xh := xh) (c := c) hh
  have b2 := hB.2.1
  have e5 : wld p M xk xh 5 c = M (p + 8) c := rfl
  refine ⟨c1.2.2, fun s hs => (c2 s hs).2.2, c3.2.2, c4.2.2.1, c5.2.2, fun i hi => ?_, hw, fun N hN => ?_⟩
  · rw [e5] at hi
    have a := c6 i (by omega)
    have e6 : wld p M xk xh 6 (8 * c + i) = M (p + 9) (8 * c + i) := rfl
    have e7 : wld p M xk xh 7 (8 * c + i) = M (p + 10) (8 * c + i) := rfl
    rw [e6, e7]
    refine ⟨?_, a.2.2.2⟩
    rcases a.1 with ⟨z1, z2⟩ | ⟨z1, z2, z3⟩
    · rw [if_pos z1, z2]
    · rw [if_neg (by omega), z3]
  · have n48 := hN 48 (by decide)
    have bN : BcOK N := by unfold BcOK; rw [n48, hN 104 (by decide)]; exact hB
    have eN : EvOK p N := by unfold EvOK; rw [n48, hN 149 (by decide), hN 150 (by decide), hN 151 (by decide), hN 152 (by decide), hN 153 (by decide), hN 52 (by decide), hN 53 (by decide), hN 54 (by decide), hN 55 (by decide), hN 56 (by decide), hN p (by omega), hN (p + 3) (by omega)]; exact he
    have fc : ∀ k, knF N (c : Int) (h : Int) k = knF M (c : Int) (h : Int) k ∧ ofF N (c : Int) (h : Int) k = ofF M (c : Int) (h : Int) k ∧ hoF N (c : Int) (h : Int) k = hoF M (c : Int) (h : Int) k := fun k => fold_cg (hN 52 (by decide)) (hN 53 (by decide)) (hN 54 (by decide)) (hN 55 (by decide)) (hN 56 (by decide)) (by rw [n48]) _ _ k
    have kn := knF_iff (M := N) (c := (c : Int)) (h := (h : Int)) (N 48 4).toNat
    have of := ofF_iff (M := N) (c := (c : Int)) (h := (h : Int)) (N 48 4).toNat
    refine ⟨?_, ?_, fun _ => ?_⟩
    · have f := isKn_F2 hR bN eN (c := (c : Int)) (h := (h : Int)) (M_isKnocked_F62 R N 104 (c : Int) (h : Int) xfu 0) (N 48 4).toNat xfu 0 (by have : xfu = 1000000 := rfl; rw [n48]; omega) (by omega)
      rw [w11, ← (fc _).1, ← n48]
      by_cases z : knF N (c : Int) (h : Int) (N 48 4).toNat = 1
      · rw [if_pos z]
        obtain ⟨e, e1, e2⟩ := kn.2.1 z
        exact f.1 ⟨e, by omega, e1, e2⟩
      · rw [if_neg z]
        exact (f.2 fun ⟨e, _, e1, e2⟩ => z (kn.2.2 ⟨e, e1, e2⟩)).trans (hs.1 N hN)
    · have f := isOff_F2 hR bN eN (c := (c : Int)) (h := (h : Int)) (N 48 4).toNat xfu 0 (by have : xfu = 1000000 := rfl; rw [n48]; omega) (by omega)
      rw [w12, ← (fc _).2.1, ← n48]
      by_cases z : ofF N (c : Int) (h : Int) (N 48 4).toNat = 1
      · rw [z]
        obtain ⟨e, e1, e2⟩ := of.2.1 z
        exact f.1 ⟨e, by omega, e1, e2⟩
      · have z0 : ofF N (c : Int) (h : Int) (N 48 4).toNat = 0 := of.1.elim id fun q => absurd q z
        rw [z0]
        exact f.2 fun ⟨e, _, e1, e2⟩ => z (of.2.2 ⟨e, e1, e2⟩)
    · have J : ∀ x : Int, x = xh (48 * c + h) → M_holesOf_J24 R N 104 (c : Int) (h : Int) x = some (hoF M (c : Int) (h : Int) (M 48 4).toNat + xh (48 * c + h)) := by
        intro x hx2
        have f := holes_F28 hR bN eN (c := (c : Int)) (h := (h : Int)) (N 48 4).toNat xfu 0 x (by have : xfu = 1000000 := rfl; rw [n48]; omega) (by omega) (by omega) (by omega)
        unfold M_holesOf_J24
        refine f.trans ?_
        have z : hoF N (c : Int) (h : Int) 0 = 0 := rfl
        rw [z, Int.sub_zero, (fc _).2.2, n48, hx2, Int.add_comm]
      have s2 := hs.2
      rw [w13]
      unfold f_M_holesOf
      rw [hN 104 (by decide)]
      by_cases z : M 104 74 = (c : Int)
      · rw [if_pos z] at s2
        rw [if_pos z]
        by_cases y : (h : Int) < M 104 75
        · rw [if_pos y] at s2
          rw [if_pos y]
          exact J 0 s2
        · rw [if_neg y] at s2
          rw [if_neg y]
          exact J _ s2
      · rw [if_neg z] at s2
        rw [if_neg z]
        exact J 0 s2
