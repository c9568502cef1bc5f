/-! ===== torn: the model ===== -/
theorem hsteps {R : xR} {pn ps ln ls : Nat} (hR : RG R pn ps ln ls) {M : xM} (hW : WB pn M) (h78 : M 104 78 = 0) {c0 h0 la : Nat} {g : Int} (h74 : M 104 74 = (c0 : Int)) (h75 : M 104 75 = (h0 : Int)) (h76 : M 104 76 = g) (hg : 0 ≤ g ∧ g ≤ 100) (hc2 : M (pn + 3) c0 = 2) (hla : la < 48) : ∃ M', f_M_steps R 104 (la : Int) M = some M' ∧ FrM M M' ∧ ∀ i, i < 4 * la + 4 → M' 156 i = sim (wld pn M z0 (xhH c0 h0 g)) (la + 1) 1 i := by
  have hpn := hR.pnn
  have hP0 := hW.1.1
  have e0 : (wld pn M z0 (xhH c0 h0 g) 0 0).toNat = (M pn 0).toNat := rfl
  obtain ⟨M', m1, m2, m3⟩ := steps_eq hR hla (W := wld pn M z0 (xhH c0 h0 g)) (M := M) (fun h hh => WH_ho hW hc2 h0 hg (by omega)) (fun h hh => ⟨WMw_wld hR hW.1 hW.2.1 hW.2.2.1 (by omega), fun c hc => WMc_wld hR (by omega) hW.1 hW.2.1 hW.2.2.2.1 (by omega) (by rw [e0] at hc; omega) (hW.2.2.2.2 h (by omega)) ⟨fun N hN => by
    rw [show xfu = 999999 + 1 from rfl, M_isKnocked_F62, hN 104 (by decide), h78, if_neg (by decide)]
    rfl, by
    rw [h74, h75, h76, xhH_at (by omega)]
    by_cases z : c = c0
    · rw [if_pos (by omega)]
      by_cases y : h0 ≤ h
      · rw [if_neg (by omega), if_pos ⟨z, y⟩]
      · rw [if_pos (by omega), if_neg (fun q => y q.2)]
    · rw [if_neg (by omega), if_neg (fun q => z q.1)]⟩ (by
    rw [xhH_at (by omega)]
    by_cases z : c = c0 ∧ h0 ≤ h
    · rw [if_pos z]; exact hg
    · rw [if_neg z]; decide)⟩)
  exact ⟨M', m1, m2, m3.1.1⟩
theorem explM_F3 {R : xR} {pn ps ln ls : Nat} (hR : RG R pn ps ln ls) {t fs la n : Nat} {sp : Int} {row : Nat → Int} (ht : t < 4) (hsp : 0 ≤ sp ∧ sp ≤ 1000) (hn : fs + n = la + 1) (hn24 : n ≤ 24) (hla : la < 48) {W M : xM} (hW : ∀ j, j < 48 → WH W j) (hA : ∀ i, i < 4 * la + 4 → M 156 i = sim W (la + 1) 1 i) (hr : ∀ i, i < n → M 107 (60 * t + i) = row i) : ∀ (k f v : Nat), k < f → v + k = n → ((∀ H, fs + v ≤ H → H ≤ la → okh fs row sp W H) → M_explains_F3 R M 104 (t : Int) (fs : Int) (n : Int) sp f (v : Int) = some 1) ∧ ((∃ H, fs + v ≤ H ∧ H ≤ la ∧ ¬ okh fs row sp W H) → M_explains_F3 R M 104 (t : Int) (fs : Int) (n : Int) sp f (v : Int) = some 0) := by
  have r3 : R 104 3 = 107 := by rw [hR.at 104 3 (by decide) (by decide)]; exact xR0_104.2.2.1
  intro k
  induction k with
  | zero =>
    intro f v hf hv
    obtain ⟨f, rfl⟩ : ∃ g, f = g + 1 := ⟨f - 1, by omega⟩
    refine ⟨fun _ => ?_, fun ⟨H, q1, q2, _⟩ => by omega⟩
    rw [M_explains_F3, if_neg (by omega)]
  | succ k ih =>
    intro f v hf hv
    obtain ⟨f, rfl⟩ : ∃ g, f = g + 1 := ⟨f - 1, by omega⟩
    have hi := ih f (v + 1) (by omega) (by omega)
    obtain ⟨H, hH⟩ : ∃ H, H = fs + v := ⟨_, rfl⟩
    have su : ∀ i, i < 4 * H + 4 → sim W (la + 1) 1 i = sim W (H + 1) 1 i := by
      intro i hi
      have := sim_up (W := W) (h := H + 1) (i := i) (by omega) (la - H) (fun j hj => hW j (by omega))
      rw [show H + 1 + (la - H) = la + 1 by omega] at this
      exact this
    have up := upIn_eq hR (show H < 48 by omega) (M := M) (S := sim W (H + 1)) (fun i hi => by rw [hA i (by omega), su i hi]) (fun i hi => sim_up_in (by omega) (fun j hj => hW j (by omega)) (by omega))
    have ub := upV_in (W := W) (show H < 48 by omega) hW
    have ok : okh fs row sp W H ↔ (¬ row v < upV (sim W (H + 1)) H (-1) - sp ∧ ¬ upV (sim W (H + 1)) H (-1) + sp < row v) := by
      unfold okh
      rw [show H - fs = v by omega]
      exact ⟨fun q => q.elim (fun y => by omega) id, Or.inr⟩
    rw [M_explains_F3, if_pos (by omega), w32_of (x := 60 * (t : Int)) (by omega) (by omega), w32_of (x := 60 * (t : Int) + (v : Int)) (by omega) (by omega), xch_pos (by omega), xl_eq, r3, show (60 * (t : Int) + (v : Int)).toNat = 60 * t + v by omega, hr v (by omega), w32_of (x := (fs : Int) + (v : Int)) (by omega) (by omega), show (fs : Int) + (v : Int) = (H : Int) by omega, up, xb1_some, w64_of (x := upV (sim W (H + 1)) H (-1) - sp) (by omega) (by omega), w64_of (x := upV (sim W (H + 1)) H (-1) + sp) (by omega) (by omega), xl_eq, w32_of (x := (v : Int) + 1) (by omega) (by omega), show (v : Int) + 1 = ((v + 1 : Nat) : Int) by omega]
    by_cases z : okh fs row sp W H
    · have z2 := ok.1 z
      rw [if_neg z2.1, if_neg z2.2]
      refine ⟨fun q => hi.1 fun G q1 q2 => q G (by omega) q2, fun ⟨G, q1, q2, q3⟩ => hi.2 ⟨G, ?_, q2, q3⟩⟩
      have : G ≠ H := fun y => q3 (y ▸ z)
      omega
    · refine ⟨fun q => absurd (q H (by omega) (by omega)) z, fun _ => ?_⟩
      by_cases y1 : row v < upV (sim W (H + 1)) H (-1) - sp
      · rw [if_pos y1]
      · rw [if_neg y1, if_pos (Classical.byContradiction fun y2 => z (ok.2 ⟨y1, y2⟩))]
/-- what the model's hunt leaves as it was -/
def FrN (M N : xM) : Prop := (∀ x, x ≠ 104 → x < 156 ∨ 165 ≤ x → N x = M x) ∧ ∀ k, k ≠ 74 → k ≠ 75 → k ≠ 76 → k ≠ 91 → k ≠ 92 → k ≠ 93 → N 104 k = M 104 k
theorem FrN.trans {M N P : xM} (h : FrN M N) (k : FrN N P) : FrN M P := ⟨fun x h1 hx => (k.1 x h1 hx).trans (h.1 x h1 hx), fun j h1 h2 h3 h4 h5 h6 => (k.2 j h1 h2 h3 h4 h5 h6).trans (h.2 j h1 h2 h3 h4 h5 h6)⟩
theorem FrN.ep {pn fs la : Nat} {row : Nat → Int} {sp : Int} (hp : pn + 11 < 48) {M N : xM} (h : FrN M N) : EP pn fs la row sp N = EP pn fs la row sp M := EP_cg (fun k hk => h.1 _ (by omega) (by omega)) (fun x _ hx => h.1 x (by omega) (by omega)) (fun k _ => by rw [h.1 48 (by decide) (by decide)])
/-- the model, ahead of a try -/
def BsM (pn t n : Nat) (row : Nat → Int) (M : xM) : Prop := WB pn M ∧ M 104 78 = 0 ∧ ∀ i, i < n → M 107 (60 * t + i) = row i
theorem FrN.bs {pn t n : Nat} {row : Nat → Int} (hp : pn + 11 < 48) (hp1 : 2 ≤ pn) {M N : xM} (q : FrN M N) (b : BsM pn t n row M) : BsM pn t n row N := by
  refine ⟨b.1.of hp (fun x hx _ _ => q.1 x (by omega) (by omega)) (fun k _ => by rw [q.1 48 (by decide) (by decide)]) (fun x h1 _ => q.1 x (by omega) (by omega)) (fun k _ _ => q.2 k (by omega) (by omega) (by omega) (by omega) (by omega) (by omega)) hp1, by rw [q.2 78 (by decide) (by decide) (by decide) (by decide) (by decide) (by decide)]; exact b.2.1, by rw [q.1 107 (by decide) (by decide)]; exact b.2.2⟩
theorem torn_F125 {R : xR} {pn ps ln ls : Nat} (hR : RG R pn ps ln ls) {t fs la n c h : Nat} {sp : Int} {row : Nat → Int} (ht : t < 4) (hsp : 0 ≤ sp ∧ sp ≤ 1000) (hn : fs + n = la + 1) (hn24 : n ≤ 24) (hn1 : 1 ≤ n) (hla : la < 48) (hh : h ≤ la) {E : Nat → Nat → Nat → Prop} {n0 : Int} (hn0 : 0 ≤ n0 ∧ n0 ≤ 100000) (Q : Int → Int → Int → xM → Option (Int × xM)) : ∀ (k f g : Nat) (v : Int) (M : xM), k < f → g + k = 10 → EP pn fs la row sp M = E → (c : Int) < M pn 0 → M (pn + 3) c = 2 → BsM pn t n row M → v = n0 + sumN (e1 E c h) g → TI E (VM c h g) (v = 0) (M 104 91) (M 104 92) (M 104 93) →
    ∃ M', M_torn_F125 R 104 (t : Int) (fs : Int) (n : Int) sp Q f v (c : Int) (h : Int) ((10 * g + 10 : Nat) : Int) M = Q (n0 + cG E c h) (c : Int) (h : Int) M' ∧ FrN M M' ∧ TI E (VM c h 10) (n0 + cG E c h = 0) (M' 104 91) (M' 104 92) (M' 104 93) := by
  have hpn := hR.pnn
  have hp48 : pn + 11 < 48 := by omega
  have hp2 : 2 ≤ pn := by omega
  have xf : xfu = 1000000 := rfl
  intro k
  induction k with
  | zero =>
    intro f g v M hf hg hE _ _ _ hv hT
    obtain ⟨f, rfl⟩ : ∃ g, f = g + 1 := ⟨f - 1, by omega⟩
    have e : g = 10 := by omega
    subst e
    have hv' : v = n0 + cG E c h := hv
    refine ⟨M, ?_, ⟨fun _ _ _ => rfl, fun _ _ _ _ _ _ _ => rfl⟩, by rw [← hv']; exact hT⟩
    rw [M_torn_F125, if_pos (by omega), hv']
  | succ k ih =>
    intro f g v M hf hg hE hc hc2 hB hv hT
    obtain ⟨f, rfl⟩ : ∃ g, f = g + 1 := ⟨f - 1, by omega⟩
    have J : ∀ w X, M_torn_J200 R 104 (t : Int) (fs : Int) (n : Int) sp (M_torn_F125 R 104 (t : Int) (fs : Int) (n : Int) sp Q f) Q w (c : Int) (h : Int) ((10 * g + 10 : Nat) : Int) X = M_torn_F125 R 104 (t : Int) (fs : Int) (n : Int) sp Q f w (c : Int) (h : Int) ((10 * (g + 1) + 10 : Nat) : Int) X := by
      intro w X
      unfold M_torn_J200
      rw [xl_eq, w32_of (x := ((10 * g + 10 : Nat) : Int) + 10) (by omega) (by omega), show ((10 * g + 10 : Nat) : Int) + 10 = ((10 * (g + 1) + 10 : Nat) : Int) by omega]
    have sb := sumN_le (e1_in E c h) g
    have s1 : sumN (e1 E c h) (g + 1) = sumN (e1 E c h) g + e1 E c h g := rfl
    have J2 : ∀ X, M_torn_J197 R 104 (t : Int) (fs : Int) (n : Int) sp (M_torn_F125 R 104 (t : Int) (fs : Int) (n : Int) sp Q f) Q v (c : Int) (h : Int) ((10 * g + 10 : Nat) : Int) X = M_torn_F125 R 104 (t : Int) (fs : Int) (n : Int) sp Q f (v + 1) (c : Int) (h : Int) ((10 * (g + 1) + 10 : Nat) : Int) X := by
      intro X
      unfold M_torn_J197
      rw [xl_eq, w32_of (x := v + 1) (by omega) (by omega), J]
    have go : ∀ (w : Int) (P : xM), FrN M P → w = n0 + sumN (e1 E c h) (g + 1) → TI E (VM c h (g + 1)) (w = 0) (P 104 91) (P 104 92) (P 104 93) → ∃ M', M_torn_F125 R 104 (t : Int) (fs : Int) (n : Int) sp Q f w (c : Int) (h : Int) ((10 * (g + 1) + 10 : Nat) : Int) P = Q (n0 + cG E c h) (c : Int) (h : Int) M' ∧ FrN M M' ∧ TI E (VM c h 10) (n0 + cG E c h = 0) (M' 104 91) (M' 104 92) (M' 104 93) := by
      intro w P fP p5 tP
      obtain ⟨M', m1, m2, m3⟩ := ih f (g + 1) w P (by omega) (by omega) (by rw [fP.ep hp48]; exact hE) (by rw [fP.1 pn (by omega) (by omega)]; exact hc) (by rw [fP.1 (pn + 3) (by omega) (by omega)]; exact hc2) (fP.bs hp48 hp2 hB) p5 tP
      exact ⟨M', m1, fP.trans m2, m3⟩
    obtain ⟨A, hA⟩ : ∃ A, A = xu (xu (xu M 104 74 (c : Int)) 104 75 (h : Int)) 104 76 ((10 * g + 10 : Nat) : Int) := ⟨_, rfl⟩
    have a104 : ∀ k, A 104 k = if k = 76 then ((10 * g + 10 : Nat) : Int) else if k = 75 then (h : Int) else if k = 74 then (c : Int) else M 104 k := fun k => by rw [hA, xu_at, xu_at, xu_at]
    have aO : ∀ x, x ≠ 104 → A x = M x := fun x hx => by rw [hA, xu_cell _ _ _ hx, xu_cell _ _ _ hx, xu_cell _ _ _ hx]
    have fA : FrN M A := ⟨fun x h1 _ => aO x h1, fun k h1 h2 h3 _ _ _ => by rw [a104, if_neg h3, if_neg h2, if_neg h1]⟩
    have bA := fA.bs hp48 hp2 hB
    obtain ⟨B, b1, b2, b3⟩ := hsteps hR bA.1 bA.2.1 (c0 := c) (h0 := h) (la := la) (g := ((10 * g + 10 : Nat) : Int)) (by rw [a104, if_neg (by decide), if_neg (by decide), if_pos rfl]) (by rw [a104, if_neg (by decide), if_pos rfl]) (by rw [a104, if_pos rfl]) ⟨by omega, by omega⟩ (by rw [aO (pn + 3) (by omega)]; exact hc2) hla
    have fB : FrN M B := fA.trans ⟨fun x _ hx => b2 x hx, fun k _ _ _ _ _ _ => by rw [b2 104 (by decide)]⟩
    obtain ⟨W, hWd⟩ : ∃ W, W = wld pn M z0 (xhH c h ((10 * g + 10 : Nat) : Int)) := ⟨_, rfl⟩
    have eW : wld pn A z0 (xhH c h ((10 * g + 10 : Nat) : Int)) = W := by rw [hWd]; exact wld_cg (fun k hk => aO _ (by omega)) (fun x _ hx => aO x (by omega)) (fun k _ => by rw [aO 48 (by decide)])
    rw [eW] at b3
    have b104 : ∀ k, 90 ≤ k → B 104 k = M 104 k := fun k hk => by rw [b2 104 (by decide), a104, if_neg (by omega), if_neg (by omega), if_neg (by omega)]
    have ex := explM_F3 hR (t := t) (fs := fs) (la := la) (n := n) (sp := sp) (row := row) ht hsp hn hn24 hla (W := W) (M := B) (fun j hj => by rw [hWd]; exact WH_ho hB.1 hc2 h ⟨by omega, by omega⟩ hj) b3 (by rw [b2 107 (by decide)]; exact bA.2.2) n xfu 0 (by omega) (by omega)
    rw [M_torn_F125, if_neg (by omega), xl_eq, xl_eq, xl_eq, ← hA, w32_of (x := (fs : Int) + (n : Int)) (by omega) (by omega), w32_of (x := (fs : Int) + (n : Int) - 1) (by omega) (by omega), show (fs : Int) + (n : Int) - 1 = (la : Int) by omega, b1, xb1_some]
    unfold f_M_explains
    by_cases z : ∀ H, fs + 0 ≤ H → H ≤ la → okh fs row sp W H
    · have e := ex.1 z
      rw [show ((0 : Nat) : Int) = 0 from rfl] at e
      rw [e, xb1_some, if_neg (by decide)]
      have hEp : E c h g := by
        rw [← hE]
        refine ⟨hc, hc2, hh, by omega, fun H hH => ?_⟩
        rw [← hWd]
        by_cases y : H < fs
        · exact Or.inl y
        · exact z H (by omega) hH
      rw [e1_pos hEp] at s1
      by_cases y : v = 0
      · rw [if_pos y, xl_eq, xl_eq, xl_eq, J2]
        obtain ⟨P, hP⟩ : ∃ P, P = xu (xu (xu B 104 91 (c : Int)) 104 92 (h : Int)) 104 93 ((10 * g + 10 : Nat) : Int) := ⟨_, rfl⟩
        rw [← hP]
        have p104 : ∀ k, P 104 k = if k = 93 then ((10 * g + 10 : Nat) : Int) else if k = 92 then (h : Int) else if k = 91 then (c : Int) else B 104 k := fun k => by rw [hP, xu_at, xu_at, xu_at]
        have p1 : P 104 91 = (c : Int) := by rw [p104, if_neg (by decide), if_neg (by decide), if_pos rfl]
        have p2 : P 104 92 = (h : Int) := by rw [p104, if_neg (by decide), if_pos rfl]
        have p3 : P 104 93 = ((10 * g + 10 : Nat) : Int) := by rw [p104, if_pos rfl]
        refine go (v + 1) P (fB.trans ⟨fun x h1 _ => by rw [hP, xu_cell _ _ _ h1, xu_cell _ _ _ h1, xu_cell _ _ _ h1], fun k _ _ _ h4 h5 h6 => by rw [p104, if_neg h6, if_neg h5, if_neg h4]⟩) (by omega) ?_
        rw [p1, p2, p3]
        exact hT.take (fun a b d => VM_st h c g a b d) hEp (Or.inl y) (by omega)
      · rw [if_neg y, J2]
        refine go (v + 1) B fB (by omega) ?_
        rw [b104 91 (by decide), b104 92 (by decide), b104 93 (by decide)]
        refine hT.keep (fun a b d => VM_st h c g a b d) y (by omega) fun c1 h1 g1 w q => ?_
        unfold VM at w
        unfold LX
        omega
    · have z2 : ∃ H, fs + 0 ≤ H ∧ H ≤ la ∧ ¬ okh fs row sp W H := Classical.byContradiction fun q => z fun H h1 h2 => Classical.byContradiction fun q2 => q ⟨H, h1, h2, q2⟩
      have e := ex.2 z2
      rw [show ((0 : Nat) : Int) = 0 from rfl] at e
      rw [e, xb1_some, if_pos rfl, J]
      have hEp : ¬ E c h g := by
        rw [← hE]
        intro q
        obtain ⟨H, _, h2, h3⟩ := z2
        rw [hWd] at h3
        exact h3 (q.2.2.2.2 H h2)
      rw [e1_neg hEp] at s1
      refine go v B fB (by omega) ?_
      rw [b104 91 (by decide), b104 92 (by decide), b104 93 (by decide)]
      exact hT.skip (fun a b d => VM_st h c g a b d) hEp
theorem torn_F102 {R : xR} {pn ps ln ls : Nat} (hR : RG R pn ps ln ls) {t fs la n c : Nat} {sp : Int} {row : Nat → Int} (ht : t < 4) (hsp : 0 ≤ sp ∧ sp ≤ 1000) (hn : fs + n = la + 1) (hn24 : n ≤ 24) (hn1 : 1 ≤ n) (hla : la < 48) (hc8 : c < 8) {E : Nat → Nat → Nat → Prop} {n0 : Int} (hn0 : 0 ≤ n0 ∧ n0 ≤ 10000) (Q : Int → Int → xM → Option (Int × xM)) : ∀ (k f h : Nat) (v : Int) (M : xM), k < f → h + k = la + 1 → EP pn fs la row sp M = E → (c : Int) < M pn 0 → M (pn + 3) c = 2 → M 121 c = 2 → BsM pn t n row M → v = n0 + sumN (fun h => cG E c h) h → TI E (VM c h 0) (v = 0) (M 104 91) (M 104 92) (M 104 93) →
    ∃ M', M_torn_F102 R 104 (t : Int) (fs : Int) (n : Int) sp Q f v (c : Int) (h : Int) M = Q (n0 + sumN (fun h => cG E c h) (la + 1)) (c : Int) M' ∧ FrN M M' ∧ TI E (VM (c + 1) 0 0) (n0 + sumN (fun h => cG E c h) (la + 1) = 0) (M' 104 91) (M' 104 92) (M' 104 93) := by
  have hpn := hR.pnn
  have hp48 : pn + 11 < 48 := by omega
  have hp2 : 2 ≤ pn := by omega
  have r32 : R 104 32 = 121 := by rw [hR.at 104 32 (by decide) (by decide)]; exact xR0_mp.1
  have xf : xfu = 1000000 := rfl
  intro k
  induction k with
  | zero =>
    intro f h v M hf hh hE _ _ _ _ hv hT
    obtain ⟨f, rfl⟩ : ∃ g, f = g + 1 := ⟨f - 1, by omega⟩
    have e : h = la + 1 := by omega
    subst e
    refine ⟨M, ?_, ⟨fun _ _ _ => rfl, fun _ _ _ _ _ _ _ => rfl⟩, ?_⟩
    · rw [M_torn_F102, w32_of (x := (fs : Int) + (n : Int)) (by omega) (by omega), if_neg (by omega), hv]
    · rw [← hv]
      refine hT.cg fun a b d he => ?_
      rw [← hE] at he
      have := he.2.2.1
      unfold VM
      omega
  | succ k ih =>
    intro f h v M hf hh hE hc hc2 h121 hB hv hT
    obtain ⟨f, rfl⟩ : ∃ g, f = g + 1 := ⟨f - 1, by omega⟩
    have sb := sumN_le (f := fun h => cG E c h) (fun i => cG_in E c i) h
    have s1 : sumN (fun h => cG E c h) (h + 1) = sumN (fun h => cG E c h) h + cG E c h := rfl
    obtain ⟨P, p1, p2, p3⟩ := torn_F125 hR ht hsp hn hn24 hn1 hla (show h ≤ la by omega) (E := E) (n0 := n0 + sumN (fun h => cG E c h) h) (by omega) (fun (v5_61 : Int) (v6_62 : Int) (v7_63 : Int) (M_64 : xM) =>
            xl (w32 (v7_63 + 1)) fun v7_65 =>
            M_torn_F102 R 104 (t : Int) (fs : Int) (n : Int) sp Q f v5_61 v6_62 v7_65 M_64) 10 xfu 0 v M (by omega) (by omega) hE hc hc2 hB (by rw [hv]; exact (Int.add_zero _).symm) hT
    rw [Int.add_assoc, ← s1] at p1 p3
    obtain ⟨M', m1, m2, m3⟩ := ih f (h + 1) _ P (by omega) (by omega) (by rw [p2.ep hp48]; exact hE) (by rw [p2.1 pn (by omega) (by omega)]; exact hc) (by rw [p2.1 (pn + 3) (by omega) (by omega)]; exact hc2) (by rw [p2.1 121 (by decide) (by decide)]; exact h121) (p2.bs hp48 hp2 hB) rfl (p3.cg fun a b d he => by
      rw [← hE] at he
      have := he.2.2.2.1
      unfold VM
      omega)
    refine ⟨M', ?_, p2.trans m2, m3⟩
    rw [M_torn_F102, w32_of (x := (fs : Int) + (n : Int)) (by omega) (by omega), if_pos (by omega), xch_pos (by omega), r32, Int.toNat_natCast, if_pos h121]
    refine p1.trans ?_
    try dsimp only
    rw [xl_eq, w32_of (x := (h : Int) + 1) (by omega) (by omega)]
    exact m1
theorem torn_F90 {R : xR} {pn ps ln ls : Nat} (hR : RG R pn ps ln ls) {t fs la n m : Nat} {sp : Int} {row : Nat → Int} (ht : t < 4) (hsp : 0 ≤ sp ∧ sp ≤ 1000) (hn : fs + n = la + 1) (hn24 : n ≤ 24) (hn1 : 1 ≤ n) (hla : la < 48) (hm8 : m ≤ 8) {E : Nat → Nat → Nat → Prop} (Q : Int → xM → Option (Int × xM)) : ∀ (k f c : Nat) (v : Int) (M : xM), k < f → c + k = m → EP pn fs la row sp M = E → M pn 0 = (m : Int) → BsM pn t n row M → v = sumN (fun c => sumN (fun h => cG E c h) (la + 1)) c → TI E (VM c 0 0) (v = 0) (M 104 91) (M 104 92) (M 104 93) →
    ∃ M', M_torn_F90 R 104 (t : Int) (fs : Int) (n : Int) sp Q f v (c : Int) M = Q (sumN (fun c => sumN (fun h => cG E c h) (la + 1)) m) M' ∧ FrN M M' ∧ TI E (fun _ _ _ => True) (sumN (fun c => sumN (fun h => cG E c h) (la + 1)) m = 0) (M' 104 91) (M' 104 92) (M' 104 93) := by
  have hpn := hR.pnn
  have hp48 : pn + 11 < 48 := by omega
  have hp2 : 2 ≤ pn := by omega
  have r32 : R 104 32 = 121 := by rw [hR.at 104 32 (by decide) (by decide)]; exact xR0_mp.1
  have xf : xfu = 1000000 := rfl
  intro k
  induction k with
  | zero =>
    intro f c v M hf hc hE h0 hB hv hT
    obtain ⟨f, rfl⟩ : ∃ g, f = g + 1 := ⟨f - 1, by omega⟩
    have e : c = m := by omega
    subst e
    refine ⟨M, ?_, ⟨fun _ _ _ => rfl, fun _ _ _ _ _ _ _ => rfl⟩, ?_⟩
    · rw [M_torn_F90, hB.1.1.1.2.2, h0, if_neg (by omega), hv]
    · rw [← hv]
      refine hT.cg fun a b d he => ?_
      rw [← hE] at he
      have := he.1
      unfold VM
      exact ⟨fun _ => trivial, fun _ => by omega⟩
  | succ k ih =>
    intro f c v M hf hc hE h0 hB hv hT
    obtain ⟨f, rfl⟩ : ∃ g, f = g + 1 := ⟨f - 1, by omega⟩
    have J : ∀ w X, M_torn_J212 R 104 (t : Int) (fs : Int) (n : Int) sp (M_torn_F90 R 104 (t : Int) (fs : Int) (n : Int) sp Q f) Q w (c : Int) X = M_torn_F90 R 104 (t : Int) (fs : Int) (n : Int) sp Q f w ((c + 1 : Nat) : Int) X := by
      intro w X
      unfold M_torn_J212
      rw [xl_eq, w32_of (x := (c : Int) + 1) (by omega) (by omega)]
      rfl
    have sb := sumN_le (f := fun c => sumN (fun h => cG E c h) (la + 1)) (b := 480) (fun i => by
      have := sumN_le (f := fun h => cG E i h) (fun j => cG_in E i j) (la + 1)
      omega) c
    have s1 : sumN (fun c => sumN (fun h => cG E c h) (la + 1)) (c + 1) = sumN (fun c => sumN (fun h => cG E c h) (la + 1)) c + sumN (fun h => cG E c h) (la + 1) := rfl
    have go : ∀ (w : Int) (P : xM), FrN M P → w = sumN (fun c => sumN (fun h => cG E c h) (la + 1)) (c + 1) → TI E (VM (c + 1) 0 0) (w = 0) (P 104 91) (P 104 92) (P 104 93) → ∃ M', M_torn_F90 R 104 (t : Int) (fs : Int) (n : Int) sp Q f w ((c + 1 : Nat) : Int) P = Q (sumN (fun c => sumN (fun h => cG E c h) (la + 1)) m) M' ∧ FrN M M' ∧ TI E (fun _ _ _ => True) (sumN (fun c => sumN (fun h => cG E c h) (la + 1)) m = 0) (M' 104 91) (M' 104 92) (M' 104 93) := by
      intro w P fP p5 tP
      obtain ⟨M', m1, m2, m3⟩ := ih f (c + 1) w P (by omega) (by omega) (by rw [fP.ep hp48]; exact hE) (by rw [fP.1 pn (by omega) (by omega)]; exact h0) (fP.bs hp48 hp2 hB) p5 tP
      exact ⟨M', m1, fP.trans m2, m3⟩
    have e121 : M 121 c = M (pn + 3) c := (hB.1.1.2.2.1 c (by omega)).1.2.2
    rw [M_torn_F90, hB.1.1.1.2.2, h0, if_pos (by omega)]
    by_cases z : M (pn + 3) c = 2
    · obtain ⟨P, p1, p2, p3⟩ := torn_F102 hR ht hsp hn hn24 hn1 hla (show c < 8 by omega) (E := E) (n0 := sumN (fun c => sumN (fun h => cG E c h) (la + 1)) c) (by omega) (fun (v5_66 : Int) (v6_67 : Int) (M_68 : xM) =>
          M_torn_J212 R 104 (t : Int) (fs : Int) (n : Int) sp (M_torn_F90 R 104 (t : Int) (fs : Int) (n : Int) sp Q f) Q v5_66 v6_67 M_68) (la + 1) xfu 0 v M (by omega) (by omega) hE (by omega) z (by rw [e121, z]) hB (by rw [hv]; exact (Int.add_zero _).symm) hT
      rw [← s1] at p1 p3
      obtain ⟨M', m1, m2⟩ := go _ P p2 rfl p3
      refine ⟨M', ?_, m2⟩
      refine p1.trans ?_
      try dsimp only
      rw [J]
      exact m1
    · have ne : ∀ b d, ¬ E c b d := fun b d q => by rw [← hE] at q; exact z q.2.1
      have z0' : sumN (fun h => cG E c h) (la + 1) = 0 := sumN_z _ fun i _ => sumN_z 10 fun j _ => e1_neg (ne i j)
      rw [z0', Int.add_zero] at s1
      obtain ⟨M', m1, m2⟩ := go v M ⟨fun _ _ _ => rfl, fun _ _ _ _ _ _ _ => rfl⟩ (by rw [s1]; exact hv) (hT.cg fun a b d he => by
        have : a ≠ c := fun y => ne b d (y ▸ he)
        unfold VM
        omega)
      refine ⟨M', ?_, m2⟩
      rw [show xfu = 999999 + 1 from rfl, M_torn_F102, w32_of (x := (fs : Int) + (n : Int)) (by omega) (by omega), if_pos (by omega), xch_pos (by omega), r32, Int.toNat_natCast, if_neg (by rw [e121]; exact z), J]
      exact m1
