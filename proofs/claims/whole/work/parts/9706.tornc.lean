/-! ===== torn: the class's loops ===== -/
theorem tryH_F4 {R : xR} {pn ps ln ls : Nat} (hR : RG R pn ps ln ls) {fs la : Nat} {sp : Int} {row : Nat → Int} (hsp : 0 ≤ sp ∧ sp ≤ 1000) (hla : la < fs + 24) (hl48 : la < 48) {c h : Nat} (hh : h ≤ la) {E : Nat → Nat → Nat → Prop} {n0 : Int} (hn0 : 0 ≤ n0 ∧ n0 ≤ 100000) : ∀ (k f g : Nat) (M : xM), k < f → g + k = 10 → EP pn fs la row sp M = E → (c : Int) < M pn 0 → M (pn + 3) c = 2 → BsH pn fs la row sp h M → TI E (VC h c g) (M 78 6 = -1) (M 78 6) (M 78 7) (M 78 8) → M 78 5 = n0 + sumN (e1 E c h) g →
    ∃ M', H_tryHoles_F4 R 78 62 pn 48 (c : Int) (h : Int) f ((10 * g + 10 : Nat) : Int) M = some M' ∧ FrX M M' ∧ TI E (VC h c 10) (M' 78 6 = -1) (M' 78 6) (M' 78 7) (M' 78 8) ∧ M' 78 5 = n0 + cG E c h := by
  have hpn := hR.pnn
  have hp48 : pn + 11 < 48 := by omega
  have hp2 : 2 ≤ pn := by omega
  have r0 : R 78 0 = 79 := by rw [hR.at 78 0 (by decide) (by decide)]; exact xR0_fl.2.2.2.1
  intro k
  induction k with
  | zero =>
    intro f g M hf hg hE _ _ _ hT h5
    obtain ⟨f, rfl⟩ : ∃ g, f = g + 1 := ⟨f - 1, by omega⟩
    have e : g = 10 := by omega
    subst e
    refine ⟨M, ?_, ⟨fun _ _ => rfl, fun _ _ => rfl⟩, hT, h5⟩
    rw [H_tryHoles_F4, if_pos (by omega)]
  | succ k ih =>
    intro f g M hf hg hE hc hc2 hB hT h5
    obtain ⟨f, rfl⟩ : ∃ g, f = g + 1 := ⟨f - 1, by omega⟩
    have J : ∀ X, H_tryHoles_J86 R 78 62 pn 48 (c : Int) (h : Int) (H_tryHoles_F4 R 78 62 pn 48 (c : Int) (h : Int) f) ((10 * g + 10 : Nat) : Int) X = H_tryHoles_F4 R 78 62 pn 48 (c : Int) (h : Int) f ((10 * (g + 1) + 10 : Nat) : Int) X := by
      intro X
      unfold H_tryHoles_J86
      rw [xl_eq, w32_of (x := ((10 * g + 10 : Nat) : Int) + 10) (by omega) (by omega), show ((10 * g + 10 : Nat) : Int) + 10 = ((10 * (g + 1) + 10 : Nat) : Int) by omega]
    obtain ⟨X, Y, Z, r, x1, x2, x3, x4, x5⟩ := hole_eq hR hsp hla hl48 (show g < 10 by omega) hh hc hc2 hB
    have sb := sumN_le (e1_in E c h) g
    have s1 : sumN (e1 E c h) (g + 1) = sumN (e1 E c h) g + e1 E c h g := rfl
    have go : ∀ P : xM, FrX M P → TI E (VC h c (g + 1)) (P 78 6 = -1) (P 78 6) (P 78 7) (P 78 8) → P 78 5 = n0 + sumN (e1 E c h) (g + 1) → ∃ M', H_tryHoles_F4 R 78 62 pn 48 (c : Int) (h : Int) f ((10 * (g + 1) + 10 : Nat) : Int) P = some M' ∧ FrX M M' ∧ TI E (VC h c 10) (M' 78 6 = -1) (M' 78 6) (M' 78 7) (M' 78 8) ∧ M' 78 5 = n0 + cG E c h := by
      intro P fP tP p5
      obtain ⟨M', m1, m2, m3⟩ := ih f (g + 1) P (by omega) (by omega) (by rw [fP.ep hp48]; exact hE) (by rw [fP.1 pn (by omega)]; exact hc) (by rw [fP.1 (pn + 3) (by omega)]; exact hc2) (fP.bs hp48 hp2 hB) tP p5
      exact ⟨M', m1, fP.trans m2, m3⟩
    have z78 : Z 78 = M 78 := x4 78 (Or.inl (by decide))
    have fZ : FrX M Z := ⟨fun x hx => x4 x (by omega), fun k _ => by rw [z78]⟩
    rw [H_tryHoles_F4, if_neg (by omega), r0, x1, xb1_some, x2, xb1_some, x3, xb2_some]
    rcases x5 with ⟨rfl, x5⟩ | ⟨rfl, x5⟩
    · rw [hE] at x5
      rw [if_neg (by decide), xl_eq, z78, h5, w32_of (x := n0 + sumN (e1 E c h) g + 1) (by omega) (by omega)]
      obtain ⟨P, hP⟩ : ∃ P, P = xu Z 78 5 (n0 + sumN (e1 E c h) g + 1) := ⟨_, rfl⟩
      rw [← hP, J]
      have p78 : ∀ k, P 78 k = if k = 5 then n0 + sumN (e1 E c h) g + 1 else M 78 k := fun k => by rw [hP, xu_at, z78]
      have pO : ∀ x, x ≠ 78 → P x = Z x := fun x hx => by rw [hP, xu_cell _ _ _ hx]
      have fP : FrX M P := ⟨fun x hx => by rw [pO x (by omega)]; exact fZ.1 x hx, fun k hk => by rw [p78, if_neg (by omega)]⟩
      have p5 : P 78 5 = n0 + sumN (e1 E c h) (g + 1) := by rw [p78, if_pos rfl, s1, e1_pos x5]; omega
      have p6 : P 78 6 = M 78 6 := by rw [p78, if_neg (by decide)]
      have p7 : P 78 7 = M 78 7 := by rw [p78, if_neg (by decide)]
      have p8 : P 78 8 = M 78 8 := by rw [p78, if_neg (by decide)]
      rw [p6]
      have J2 : (M 78 6 = -1 ∨ (c : Int) < M 78 6) → ∃ M', H_tryHoles_J68 R 78 62 pn 48 (c : Int) (h : Int) (H_tryHoles_F4 R 78 62 pn 48 (c : Int) (h : Int) f) ((10 * g + 10 : Nat) : Int) P = some M' ∧ FrX M M' ∧ TI E (VC h c 10) (M' 78 6 = -1) (M' 78 6) (M' 78 7) (M' 78 8) ∧ M' 78 5 = n0 + cG E c h := by
        intro hq
        obtain ⟨Q, hQ⟩ : ∃ Q, Q = xu (xu (xu P 78 6 (c : Int)) 78 7 (h : Int)) 78 8 ((10 * g + 10 : Nat) : Int) := ⟨_, rfl⟩
        have q78 : ∀ k, Q 78 k = if k = 8 then ((10 * g + 10 : Nat) : Int) else if k = 7 then (h : Int) else if k = 6 then (c : Int) else P 78 k := fun k => by rw [hQ, xu_at, xu_at, xu_at]
        have qO : ∀ x, x ≠ 78 → Q x = P x := fun x hx => by rw [hQ, xu_cell _ _ _ hx, xu_cell _ _ _ hx, xu_cell _ _ _ hx]
        have q6 : Q 78 6 = (c : Int) := by rw [q78, if_neg (by decide), if_neg (by decide), if_pos rfl]
        have q7 : Q 78 7 = (h : Int) := by rw [q78, if_neg (by decide), if_pos rfl]
        have q8 : Q 78 8 = ((10 * g + 10 : Nat) : Int) := by rw [q78, if_pos rfl]
        unfold H_tryHoles_J68
        rw [xl_eq, xl_eq, xl_eq, ← hQ, J]
        refine go Q (fP.trans ⟨fun x hx => qO x (by omega), fun k hk => by rw [q78, if_neg (by omega), if_neg (by omega), if_neg (by omega)]⟩) ?_ (by rw [q78, if_neg (by decide), if_neg (by decide), if_neg (by decide)]; exact p5)
        rw [q6, q7, q8]
        exact hT.take (fun a b d => VC_st h c g a b d) x5 hq (by omega)
      by_cases y1 : M 78 6 = -1
      · rw [if_pos y1]
        exact J2 (Or.inl y1)
      · rw [if_neg y1]
        by_cases y2 : (c : Int) < M 78 6
        · rw [if_pos y2]
          exact J2 (Or.inr y2)
        · rw [if_neg y2]
          refine go P fP ?_ p5
          rw [p6, p7, p8]
          refine hT.keep (fun a b d => VC_st h c g a b d) y1 y1 fun c1 h1 g1 v q => ?_
          unfold VC at v
          unfold LX
          omega
    · rw [hE] at x5
      rw [if_pos rfl, J]
      refine go Z fZ ?_ (by rw [z78, s1, e1_neg x5, Int.add_zero]; exact h5)
      rw [z78]
      exact hT.skip (fun a b d => VC_st h c g a b d) x5
theorem cnt_F37 {R : xR} {pn ps ln ls : Nat} (hR : RG R pn ps ln ls) {fs la : Nat} {sp : Int} {row : Nat → Int} (hsp : 0 ≤ sp ∧ sp ≤ 1000) (hla : la < fs + 24) (hl48 : la < 48) {h m : Nat} (hm8 : m ≤ 8) (hh : h ≤ la) {E : Nat → Nat → Nat → Prop} {n0 : Int} (hn0 : 0 ≤ n0 ∧ n0 ≤ 10000) (Q : Int → xM → Option (Int × xM)) : ∀ (k f c : Nat) (M : xM), k < f → c + k = m → EP pn fs la row sp M = E → M pn 0 = (m : Int) → BsH pn fs la row sp h M → TI E (VC h c 0) (M 78 6 = -1) (M 78 6) (M 78 7) (M 78 8) → M 78 5 = n0 + sumN (fun c => cG E c h) c →
    ∃ M', H_countHoles_F37 R 78 62 pn 48 Q f (h : Int) (c : Int) M = Q (h : Int) M' ∧ FrX M M' ∧ TI E (VC (h + 1) 0 0) (M' 78 6 = -1) (M' 78 6) (M' 78 7) (M' 78 8) ∧ M' 78 5 = n0 + sumN (fun c => cG E c h) m := by
  have hpn := hR.pnn
  have hp48 : pn + 11 < 48 := by omega
  have hp2 : 2 ≤ pn := by omega
  have rp : R pn 4 = pn + 3 := hR.now (k := 4) (by decide) (by decide)
  have xf : xfu = 1000000 := rfl
  intro k
  induction k with
  | zero =>
    intro f c M hf hc hE h0 hB hT h5
    obtain ⟨f, rfl⟩ : ∃ g, f = g + 1 := ⟨f - 1, by omega⟩
    have e : c = m := by omega
    subst e
    refine ⟨M, ?_, ⟨fun _ _ => rfl, fun _ _ => rfl⟩, hT.cg fun a b d he => ?_, h5⟩
    · rw [H_countHoles_F37, h0, if_neg (by omega)]
    · rw [← hE] at he
      have := he.1
      unfold VC
      omega
  | succ k ih =>
    intro f c M hf hc hE h0 hB hT h5
    obtain ⟨f, rfl⟩ : ∃ g, f = g + 1 := ⟨f - 1, by omega⟩
    have J : ∀ X, H_countHoles_J68 R 78 62 pn 48 (H_countHoles_F37 R 78 62 pn 48 Q f) Q (h : Int) (c : Int) X = H_countHoles_F37 R 78 62 pn 48 Q f (h : Int) ((c + 1 : Nat) : Int) X := by
      intro X
      unfold H_countHoles_J68
      rw [xl_eq, w32_of (x := (c : Int) + 1) (by omega) (by omega)]
      rfl
    have s1 : sumN (fun c => cG E c h) (c + 1) = sumN (fun c => cG E c h) c + cG E c h := rfl
    have sb := sumN_le (f := fun c => cG E c h) (fun i => cG_in E i h) c
    have go : ∀ P : xM, FrX M P → TI E (VC h (c + 1) 0) (P 78 6 = -1) (P 78 6) (P 78 7) (P 78 8) → P 78 5 = n0 + sumN (fun c => cG E c h) (c + 1) → ∃ M', H_countHoles_F37 R 78 62 pn 48 Q f (h : Int) ((c + 1 : Nat) : Int) P = Q (h : Int) M' ∧ FrX M M' ∧ TI E (VC (h + 1) 0 0) (M' 78 6 = -1) (M' 78 6) (M' 78 7) (M' 78 8) ∧ M' 78 5 = n0 + sumN (fun c => cG E c h) m := by
      intro P fP tP p5
      obtain ⟨M', m1, m2, m3⟩ := ih f (c + 1) P (by omega) (by omega) (by rw [fP.ep hp48]; exact hE) (by rw [fP.1 pn (by omega)]; exact h0) (fP.bs hp48 hp2 hB) tP p5
      exact ⟨M', m1, fP.trans m2, m3⟩
    rw [H_countHoles_F37, h0, if_pos (by omega), xch_pos (by omega), rp, Int.toNat_natCast]
    by_cases z : M (pn + 3) c = 2
    · rw [if_pos z]
      obtain ⟨P, p1, p2, p3, p4⟩ := tryH_F4 hR hsp hla hl48 hh (E := E) (n0 := n0 + sumN (fun c => cG E c h) c) (by omega) 10 xfu 0 M (by omega) (by omega) hE (by omega) z hB hT (by rw [h5]; exact (Int.add_zero _).symm)
      have tr : f_H_tryHoles R 78 62 pn 48 (c : Int) (h : Int) M = some P := p1
      rw [tr, xb1_some, J]
      refine go P p2 (p3.cg fun a b d he => ?_) (by rw [s1, p4]; omega)
      rw [← hE] at he
      have := he.2.2.2.1
      unfold VC
      omega
    · rw [if_neg z, J]
      have ne : ∀ b d, ¬ E c b d := fun b d q => by rw [← hE] at q; exact z q.2.1
      refine go M ⟨fun _ _ => rfl, fun _ _ => rfl⟩ (hT.cg fun a b d he => ?_) ?_
      · have : a ≠ c := fun y => ne b d (y ▸ he)
        unfold VC
        omega
      · have : cG E c h = 0 := sumN_z 10 fun i _ => e1_neg (ne h i)
        rw [s1, this, Int.add_zero]
        exact h5
theorem cnt_F20 {R : xR} {pn ps ln ls : Nat} (hR : RG R pn ps ln ls) {fs la : Nat} {sp : Int} {row : Nat → Int} (hsp : 0 ≤ sp ∧ sp ≤ 1000) (hla : la < fs + 24) (hl48 : la < 48) {m : Nat} (hm8 : m ≤ 8) {E : Nat → Nat → Nat → Prop} : ∀ (k f h : Nat) (M : xM), k < f → h + k = la + 1 → EP pn fs la row sp M = E → M pn 0 = (m : Int) → BsH pn fs la row sp h M → TI E (VC h 0 0) (M 78 6 = -1) (M 78 6) (M 78 7) (M 78 8) → M 78 5 = sumN (fun h => sumN (fun c => cG E c h) m) h →
    ∃ M', H_countHoles_F20 R 78 62 pn 48 f 1 (h : Int) M = some (sumN (fun h => sumN (fun c => cG E c h) m) (la + 1), M') ∧ (∀ x, x < 62 ∨ (74 ≤ x ∧ x < 78) ∨ 91 ≤ x → M' x = M x) ∧ (∀ k, k < 5 ∨ 9 ≤ k → M' 78 k = M 78 k) ∧ FlI pn M' ∧ TI E (fun _ _ _ => True) (M' 78 6 = -1) (M' 78 6) (M' 78 7) (M' 78 8) := by
  have hpn := hR.pnn
  have hp48 : pn + 11 < 48 := by omega
  have hp2 : 2 ≤ pn := by omega
  have xf : xfu = 1000000 := rfl
  have fli : ∀ (h : Nat) (P : xM), h ≤ 48 → GaOK P → P 62 0 = (h : Int) → P 62 9 = -1 → AgF 62 h (P pn 0).toNat P (w0 pn P) → FlI pn P := fun h P h1 h2 h3 h4 h5 => ⟨h4, by omega, fun _ => ⟨h2, by rw [h3, Int.toNat_natCast]; exact h5⟩⟩
  intro k
  induction k with
  | zero =>
    intro f h M hf hh hE h0 hB hT h5
    obtain ⟨f, rfl⟩ : ∃ g, f = g + 1 := ⟨f - 1, by omega⟩
    have e : h = la + 1 := by omega
    obtain ⟨b1, b2, b3, b4, b5, b6, b7⟩ := hB
    refine ⟨M, ?_, fun _ _ => rfl, fun _ _ => rfl, fli h M (by omega) b2 b3.1 b3.2.1 b4, hT.cg fun a b d he => ?_⟩
    · rw [H_countHoles_F20, if_neg (by decide), b5.2.1, if_pos (by omega), h5, e]
    · rw [← hE] at he
      have := he.2.2.1
      unfold VC
      exact ⟨fun _ => trivial, fun _ => by omega⟩
  | succ k ih =>
    intro f h M hf hh hE h0 hB hT h5
    obtain ⟨f, rfl⟩ : ∃ g, f = g + 1 := ⟨f - 1, by omega⟩
    have sb := sumN_le (f := fun h => sumN (fun c => cG E c h) m) (b := 80) (fun i => by
      have := sumN_le (f := fun c => cG E c i) (fun j => cG_in E j i) m
      omega) h
    obtain ⟨P, p1, p2, p3, p4⟩ := cnt_F37 hR hsp hla hl48 hm8 (show h ≤ la by omega) (E := E) (n0 := sumN (fun h => sumN (fun c => cG E c h) m) h) (by omega) (fun (v5_13 : Int) (M_14 : xM) =>
            xb1 (f_F_step R 62 pn 48 M_14) fun M_15 =>
            xb1 (f_H_isNear R 78 62 v5_13 M_15) fun r_17 =>
            xl (w32 (v5_13 + 1)) fun v5_19 =>
            H_countHoles_F20 R 78 62 pn 48 f r_17 v5_19 M_15) m xfu 0 M (by omega) (by omega) hE h0 hB hT (by rw [h5]; exact (Int.add_zero _).symm)
    have bP := p2.bs hp48 hp2 hB
    have eP : EP pn fs la row sp P = E := by rw [p2.ep hp48]; exact hE
    have h0P : P pn 0 = (m : Int) := by rw [p2.1 pn (by omega)]; exact h0
    obtain ⟨b1, b2, b3, b4, b5, b6, b7⟩ := bP
    obtain ⟨N, n1, n2, n3, n4⟩ := fstep hR (Or.inl rfl) b1 b2 (xk := z0) (xh := z0) (show h < 48 by omega) (fun _ => Or.inl rfl) (fun c _ => ⟨Int.le_refl 0, by show (0 : Int) ≤ 100; decide, fun _ => rfl⟩) (fun c hc => ⟨by rw [if_neg (by omega)]; rfl, by rw [if_neg (by omega)]; rfl⟩) (sim_HB h fun j hj => WH_w0 b1 (by omega)) b3.1 b4.1
    have fr : FrF P N := fun x hx => n2 x (by omega)
    have ew : w0 pn N = w0 pn P := fr.w0 (by omega)
    have e0 : N pn = P pn := fr pn (by omega)
    have wN := fr.wb hp48 hp2 b1
    have gN := fr.ga b2
    have aN : AgF 62 (h + 1) (N pn 0).toNat N (w0 pn N) := by
      rw [ew, e0]
      refine ⟨n4.s, fun k hk => ?_⟩
      have : k = h := by omega
      rw [this]
      exact n4
    have n62 : N 62 0 = ((h + 1 : Nat) : Int) := by rw [n3, if_pos rfl]; rfl
    have n69 : N 62 9 = -1 := by rw [n3, if_neg (by decide)]; exact b3.2.1
    have n78 : N 78 = P 78 := fr 78 (by decide)
    have eN : EP pn fs la row sp N = E := by rw [EP_cg (fun k hk => fr _ (by omega)) (fun x _ hx => fr x (by omega)) (fun k _ => by rw [fr 48 (by decide)])]; exact eP
    have fN : (∀ x, x < 62 ∨ (74 ≤ x ∧ x < 78) ∨ 91 ≤ x → N x = M x) ∧ (∀ k, k < 5 ∨ 9 ≤ k → N 78 k = M 78 k) := ⟨fun x hx => by rw [fr x (by omega), p2.1 x (by omega)], fun k hk => by rw [n78, p2.2 k hk]⟩
    have nr := near_eq hR hR.fl62 (N := N) (W := w0 pn P) (H := h) (fs := fs) (la := la) (row := row) (sp := sp) (by rw [n78]; exact b5.1) (by rw [n78]; exact b5.2.2) hsp (by rw [fr 91 (by decide)]; exact b6) hla hl48 (by omega) (fun s hs => n4.1.1 (4 * h + s) (by omega)) (fun j hj => WH_w0 b1 hj)
    have s1 : sumN (fun h => sumN (fun c => cG E c h) m) (h + 1) = sumN (fun h => sumN (fun c => cG E c h) m) h + sumN (fun c => cG E c h) m := rfl
    have st : H_countHoles_F20 R 78 62 pn 48 (f + 1) 1 (h : Int) M = xb1 (f_H_isNear R 78 62 (h : Int) N) fun r => H_countHoles_F20 R 78 62 pn 48 f r ((h + 1 : Nat) : Int) N := by
      rw [H_countHoles_F20, if_neg (by decide), hB.2.2.2.2.1.2.1, if_neg (by omega)]
      refine p1.trans ?_
      try dsimp only
      rw [n1, xb1_some, w32_of (x := (h : Int) + 1) (by omega) (by omega)]
      rfl
    by_cases z : okh fs row sp (w0 pn P) h
    · rw [nr.1 z, xb1_some] at st
      obtain ⟨M', m1, m2, m3, m4, m5⟩ := ih f (h + 1) N (by omega) (by omega) eN (by rw [e0]; exact h0P) ⟨wN, gN, ⟨n62, n69, by rw [fr 48 (by decide)]; exact b3.2.2⟩, aN, by rw [n78]; exact b5, by rw [fr 91 (by decide)]; exact b6, fun H hH => by
        rw [ew]
        by_cases y : H = h
        · rw [y]; exact z
        · exact b7 H (by omega)⟩ (by rw [n78]; exact p3) (by rw [n78, s1]; exact p4)
      exact ⟨M', st.trans m1, fun x hx => (m2 x hx).trans (fN.1 x hx), fun k hk => (m3 k hk).trans (fN.2 k hk), m4, m5⟩
    · rw [nr.2 z, xb1_some] at st
      obtain ⟨f, rfl⟩ : ∃ g, f = g + 1 := ⟨f - 1, by omega⟩
      have ne : ∀ a b d, E a b d → b < h + 1 := fun a b d he => by
        rw [← eP] at he
        refine Classical.byContradiction fun y => z ?_
        have := he.2.2.1
        exact (okh_pre (c := a) (h := b) (g := ((10 * d + 10 : Nat) : Int)) (by omega) (by omega)).1 (he.2.2.2.2 h (by omega))
      refine ⟨N, st.trans ?_, fN.1, fN.2, fli (h + 1) N (by omega) gN n62 n69 aN, ?_⟩
      · rw [H_countHoles_F20, if_pos rfl, n78, p4, ← s1]
        have := sumN_more (f := fun h => sumN (fun c => cG E c h) m) (h := h + 1) (la + 1 - (h + 1)) fun i h1 h2 => sumN_z m fun c _ => sumN_z 10 fun g _ => e1_neg fun q => by
          have := ne c i g q
          omega
        rw [show h + 1 + (la + 1 - (h + 1)) = la + 1 by omega] at this
        rw [this]
      · rw [n78]
        refine p3.cg fun a b d he => ?_
        have := ne a b d he
        unfold VC
        exact ⟨fun _ => trivial, fun _ => by omega⟩
theorem takeUps_F3 {R : xR} {pn ps ln ls : Nat} (hR : RG R pn ps ln ls) {t m : Nat} (ht : t < 4) (hm : m ≤ 24) {row : Nat → Int} (l3 l5 : Int) (Q : xM → Option xM) : ∀ (k f v : Nat) (M : xM), k < f → v + k = m → (∀ i, i < v → M 91 i = row i) → (∀ i, i < m → M 5 (60 * t + i) = row i) →
    ∃ M', H_takeUps_F3 R 78 4 (t : Int) l3 (m : Int) l5 Q f (v : Int) M = Q M' ∧ (∀ x, x ≠ 91 → M' x = M x) ∧ ∀ i, i < m → M' 91 i = row i := by
  have r1 : R 78 1 = 91 := by rw [hR.at 78 1 (by decide) (by decide)]; exact xR0_fl.2.2.2.2.1
  intro k
  induction k with
  | zero =>
    intro f v M hf hv h1 h2
    obtain ⟨f, rfl⟩ : ∃ g, f = g + 1 := ⟨f - 1, by omega⟩
    refine ⟨M, ?_, fun _ _ => rfl, fun i hi => h1 i (by omega)⟩
    rw [H_takeUps_F3, if_neg (by omega)]
  | succ k ih =>
    intro f v M hf hv h1 h2
    obtain ⟨f, rfl⟩ : ∃ g, f = g + 1 := ⟨f - 1, by omega⟩
    obtain ⟨N, hN⟩ : ∃ N, N = xu M 91 v (row v) := ⟨_, rfl⟩
    have nO : ∀ x, x ≠ 91 → N x = M x := fun x hx => by rw [hN, xu_cell _ _ _ hx]
    obtain ⟨M', m1, m2, m3⟩ := ih f (v + 1) N (by omega) (by omega) (fun i hi => by
      rw [hN, xu_at]
      by_cases z : i = v
      · rw [if_pos z, z]
      · rw [if_neg z]; exact h1 i (by omega)) (by rw [nO 5 (by decide)]; exact h2)
    refine ⟨M', ?_, fun x hx => (m2 x hx).trans (nO x hx), m3⟩
    rw [H_takeUps_F3, if_pos (by omega), getY_eq hR ht (by omega), xb1_some, xch_pos (by omega), xl_eq, xl_eq, r1, Int.toNat_natCast, h2 v (by omega), w32_of (x := (v : Int) + 1) (by omega) (by omega), ← hN]
    exact m1
