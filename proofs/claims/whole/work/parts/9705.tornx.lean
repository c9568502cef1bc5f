/-! ===== torn: the class tries a hole ===== -/
theorem expl_F6 {R : xR} {pn ps ln ls : Nat} (hR : RG R pn ps ln ls) {c0 h0 fs la : Nat} {g sp : Int} {row : Nat → Int} (hg : 0 ≤ g ∧ g ≤ 100) (hsp : 0 ≤ sp ∧ sp ≤ 1000) (hla : la < fs + 24) (hl48 : la < 48) {W : xM} : ∀ (k f h : Nat) (M : xM), k < f → h + k = la + 1 → h0 ≤ h → WB pn M → GaOK M → M (pn + 3) c0 = 2 → wld pn M z0 (xhH c0 h0 g) = W → M 79 0 = (h : Int) → M 79 9 = (c0 : Int) → M 79 10 = 0 → M 79 11 = g → (∀ i, i < 32 → M 84 i = sim W h 5 i ∧ M 86 i = sim W h 7 i) → M 78 2 = (fs : Int) → M 78 3 = (la : Int) → M 78 4 = sp → (∀ i, fs + i ≤ la → M 91 i = row i) →
    ∃ M', FrT M M' ∧ ((∀ H, h ≤ H → H ≤ la → okh fs row sp W H) → H_explains_F6 R 78 pn 48 f 1 (h : Int) M = some (1, M')) ∧ ((∃ H, h ≤ H ∧ H ≤ la ∧ ¬ okh fs row sp W H) → H_explains_F6 R 78 pn 48 f 1 (h : Int) M = some (0, M')) := by
  have hpn := hR.pnn
  have r0 : R 78 0 = 79 := by rw [hR.at 78 0 (by decide) (by decide)]; exact xR0_fl.2.2.2.1
  intro k
  induction k with
  | zero =>
    intro f h M hf hh _ _ _ _ _ _ _ _ _ _ _ h3 _ _
    obtain ⟨f, rfl⟩ : ∃ g, f = g + 1 := ⟨f - 1, by omega⟩
    refine ⟨M, fun _ _ => rfl, fun _ => ?_, fun ⟨H, q1, q2, _⟩ => by omega⟩
    rw [H_explains_F6, if_neg (by decide), h3, if_pos (by omega), xch_01.2]
  | succ k ih =>
    intro f h M hf hh hh0 hW hG hc0 hWd h0' h9 h10 h11 hA h2 h3 h4 h91
    obtain ⟨f, rfl⟩ : ∃ g, f = g + 1 := ⟨f - 1, by omega⟩
    have hh48 : h < 48 := by omega
    have wh : ∀ j, j < 48 → WH W j := fun j hj => by rw [← hWd]; exact WH_ho hW hc0 h0 hg hj
    obtain ⟨S, hS⟩ : ∃ S : xM, S = fun j i => if j = 1 then M 80 i else if j = 6 then M 85 i else sim W h j i := ⟨_, rfl⟩
    have s5 : S 5 = sim W h 5 := by rw [hS]; rfl
    have s7 : S 7 = sim W h 7 := by rw [hS]; rfl
    have s1 : S 1 = M 80 := by rw [hS]; rfl
    have s6 : S 6 = M 85 := by rw [hS]; rfl
    have hb := sim_HB (W := W) h fun j hj => wh j (by omega)
    have hbS : HB h S := by
      unfold HB
      rw [s5, s7]
      exact hb
    have u0 : ((0 : Nat) : Int) = 0 := rfl
    obtain ⟨N, n1, n2, n3, n4⟩ := fstep hR (Or.inr rfl) hW hG (xk := z0) (xh := xhH c0 h0 g) hh48 (fun _ => Or.inl rfl) (fun c _ => by
      rw [xhH_at hh48]
      by_cases z : c = c0 ∧ h0 ≤ h
      · rw [if_pos z]
        exact ⟨hg.1, hg.2, fun y => absurd (z.1 ▸ hc0) y⟩
      · rw [if_neg z]
        exact ⟨Int.le_refl 0, by decide, fun _ => rfl⟩) (fun c hc => by
      refine ⟨?_, ?_⟩
      · have yb : yand (yushr (M 79 10) (h : Int)) 1 = 0 := by
          have := ybit (u := 0) (h := h) (by decide) hh48
          rw [Nat.zero_testBit, if_neg (show ¬ (false = true) by decide)] at this
          rw [h10]
          exact this
        rw [yb, if_pos rfl]
        split <;> rfl
      · rw [h9, h11, xhH_at hh48]
        by_cases y : c = c0
        · rw [if_pos (by omega), if_pos ⟨y, hh0⟩]
        · rw [if_neg (by omega), if_neg (fun q => y q.1)]) hbS h0' ⟨fun i _ => by rw [s1], fun i hi => ⟨by rw [s5]; exact (hA i hi).1, by rw [s6], by rw [s7]; exact (hA i hi).2⟩⟩
    have fr : FrT M N := fun y hy => n2 y (by omega)
    have ew : wld pn N z0 (xhH c0 h0 g) = W := (fr.wl (by omega)).trans hWd
    have sm : Sm h (hstp W h S) (sim W (h + 1)) := hstp_cg ⟨fun _ _ => rfl, fun _ => rfl⟩ s5 s7
    rw [hWd] at n4
    have nr := near_eq hR hR.fl79 (N := N) (W := W) (H := h) (fs := fs) (la := la) (row := row) (sp := sp) (by rw [fr 78 (by decide)]; exact h2) (by rw [fr 78 (by decide)]; exact h4) hsp (by rw [fr 91 (by decide)]; exact h91) hla hl48 (by omega) (fun s hs => by
      have := n4.1.1 (4 * h + s) (by omega)
      rw [this]
      exact sm.1.2 s hs) wh
    have st : H_explains_F6 R 78 pn 48 (f + 1) 1 (h : Int) M = xb1 (f_H_isNear R 78 79 (h : Int) N) fun r => H_explains_F6 R 78 pn 48 f r ((h + 1 : Nat) : Int) N := by
      rw [H_explains_F6, if_neg (by decide), h3, if_neg (by omega), r0, n1, xb1_some, w32_of (x := (h : Int) + 1) (by omega) (by omega)]
      rfl
    by_cases z : okh fs row sp W h
    · obtain ⟨M', m1, m2, m3⟩ := ih f (h + 1) N (by omega) (by omega) (by omega) (fr.wb (by omega) (by omega) hW) (fr.ga hG) (by rw [fr (pn + 3) (by omega)]; exact hc0) ew (by rw [n3, if_pos rfl]; rfl) (by rw [n3, if_neg (by decide)]; exact h9) (by rw [n3, if_neg (by decide)]; exact h10) (by rw [n3, if_neg (by decide)]; exact h11) (fun i hi => by
        have := n4.2.1 i hi
        rw [← sm.2.1, ← sm.2.2]
        exact ⟨this.1, this.2.2⟩) (by rw [fr 78 (by decide)]; exact h2) (by rw [fr 78 (by decide)]; exact h3) (by rw [fr 78 (by decide)]; exact h4) (by rw [fr 91 (by decide)]; exact h91)
      rw [nr.1 z, xb1_some] at st
      refine ⟨M', fun y hy => (m1 y hy).trans (fr y hy), fun q => st.trans (m2 fun H q1 q2 => q H (by omega) q2), fun ⟨H, q1, q2, q3⟩ => st.trans (m3 ⟨H, ?_, q2, q3⟩)⟩
      have : H ≠ h := fun y => q3 (y ▸ z)
      omega
    · rw [nr.2 z, xb1_some] at st
      refine ⟨N, fr, fun q => absurd (q h (by omega) (by omega)) z, fun _ => st.trans ?_⟩
      obtain ⟨f, rfl⟩ : ∃ g, f = g + 1 := ⟨f - 1, by omega⟩
      rw [H_explains_F6, if_pos rfl, xch_01.1]
/-- the hunt stands ahead of hour h: the base flow is behind h hours, and all of them are near -/
def BsH (pn fs la : Nat) (row : Nat → Int) (sp : Int) (h : Nat) (M : xM) : Prop := WB pn M ∧ GaOK M ∧ (M 62 0 = (h : Int) ∧ M 62 9 = -1 ∧ M 48 13 = 0) ∧ AgF 62 h (M pn 0).toNat M (w0 pn M) ∧ (M 78 2 = (fs : Int) ∧ M 78 3 = (la : Int) ∧ M 78 4 = sp) ∧ (∀ i, fs + i ≤ la → M 91 i = row i) ∧ ∀ H, H < h → okh fs row sp (w0 pn M) H
/-- nothing but the trial flow and what was found has changed -/
def FrX (M N : xM) : Prop := (∀ x, x < 78 ∨ 91 ≤ x → N x = M x) ∧ ∀ k, k < 5 ∨ 9 ≤ k → N 78 k = M 78 k
theorem FrX.trans {M N P : xM} (h : FrX M N) (k : FrX N P) : FrX M P := ⟨fun x hx => (k.1 x hx).trans (h.1 x hx), fun j hj => (k.2 j hj).trans (h.2 j hj)⟩
theorem FrX.ep {pn fs la : Nat} {row : Nat → Int} {sp : Int} (hp : pn + 11 < 48) {M N : xM} (h : FrX M N) : EP pn fs la row sp N = EP pn fs la row sp M := EP_cg (fun k hk => h.1 _ (by omega)) (fun x _ hx => h.1 x (by omega)) (fun k _ => by rw [h.1 48 (by decide)])
theorem FrX.bs {pn fs la h : Nat} {row : Nat → Int} {sp : Int} (hp : pn + 11 < 48) (hp1 : 2 ≤ pn) {M N : xM} (q : FrX M N) (b : BsH pn fs la row sp h M) : BsH pn fs la row sp h N := by
  obtain ⟨b1, b2, b3, b4, b5, b6, b7⟩ := b
  have ew : w0 pn N = w0 pn M := w0_cg (fun k hk => q.1 _ (by omega)) (fun x _ hx => q.1 x (by omega)) (fun k _ => by rw [q.1 48 (by decide)])
  refine ⟨b1.of hp (fun x hx _ _ => q.1 x (by omega)) (fun k _ => by rw [q.1 48 (by decide)]) (fun x h1 _ => q.1 x (by omega)) (fun k _ _ => by rw [q.1 104 (by decide)]) hp1, b2.of (fun x _ hx => q.1 x (by omega)) (fun k _ => by rw [q.1 48 (by decide)]), by rw [q.1 62 (by decide), q.1 48 (by decide)]; exact b3, ?_, by rw [q.2 2 (by decide), q.2 3 (by decide), q.2 4 (by decide)]; exact b5, by rw [q.1 91 (by decide)]; exact b6, by rw [ew]; exact b7⟩
  rw [ew, q.1 pn (by omega)]
  obtain ⟨a1, a2⟩ := b4
  have e : ∀ k, k < 12 → N (62 + k) = M (62 + k) := fun k hk => q.1 _ (by omega)
  refine ⟨⟨fun i hi => by rw [e 1 (by decide)]; exact a1.1 i hi, fun i hi => by rw [e 5 (by decide), e 6 (by decide), e 7 (by decide)]; exact a1.2 i hi⟩, fun k hk => ?_⟩
  obtain ⟨⟨c1, c2⟩, c3, c4⟩ := a2 k hk
  exact ⟨⟨fun i hi => by rw [e 1 (by decide)]; exact c1 i hi, fun i hi => by rw [e 2 (by decide)]; exact c2 i hi⟩, fun i hi => by rw [e 5 (by decide), e 6 (by decide), e 7 (by decide)]; exact c3 i hi, fun i hi => by rw [e 3 (by decide), e 4 (by decide)]; exact c4 i hi⟩
theorem okh_pre {pn fs : Nat} {row : Nat → Int} {sp : Int} {M : xM} {c h H : Nat} {g : Int} (hH : H < h) (h48 : h ≤ 48) : okh fs row sp (wld pn M z0 (xhH c h g)) H ↔ okh fs row sp (w0 pn M) H := by
  have e := (sim_cg (W := wld pn M z0 (xhH c h g)) (V := w0 pn M) (H + 1) fun j hj => WS_hole (by omega) (by omega)).2 H rfl
  have e0 : sim (wld pn M z0 (xhH c h g)) (H + 1) 1 (4 * H) = sim (w0 pn M) (H + 1) 1 (4 * H) := e 0 (by decide)
  have eu : upV (sim (wld pn M z0 (xhH c h g)) (H + 1)) H (-1) = upV (sim (w0 pn M) (H + 1)) H (-1) := by
    unfold upV
    rw [if_pos rfl, if_pos rfl, e0, e 1 (by decide), e 2 (by decide), e 3 (by decide)]
  unfold okh
  rw [eu]
/-- one hole is tried -/
theorem hole_eq {R : xR} {pn ps ln ls : Nat} (hR : RG R pn ps ln ls) {fs la : Nat} {sp : Int} {row : Nat → Int} (hsp : 0 ≤ sp ∧ sp ≤ 1000) (hla : la < fs + 24) (hl48 : la < 48) {c h g : Nat} (hg : g < 10) (hh : h ≤ la) {M : xM} (hc : (c : Int) < M pn 0) (hc2 : M (pn + 3) c = 2) (hB : BsH pn fs la row sp h M) :
    ∃ X Y Z r, f_F_goOnFrom R 79 62 M = some X ∧ f_F_supposeHole 79 (c : Int) ((10 * g + 10 : Nat) : Int) X = some Y ∧ f_H_explains R 78 pn 48 (h : Int) Y = some (r, Z) ∧ FrT M Z ∧ ((r = 1 ∧ EP pn fs la row sp M c h g) ∨ (r = 0 ∧ ¬ EP pn fs la row sp M c h g)) := by
  have hpn := hR.pnn
  have xf : xfu = 1000000 := rfl
  obtain ⟨b1, b2, ⟨b30, b39, -⟩, b4, ⟨b52, b53, b54⟩, b6, b7⟩ := hB
  have q62 := hR.fl62
  have q79 := hR.fl79
  have r5 : R 62 5 = 67 := q62.2.2.2.2.1
  have r7 : R 62 7 = 69 := q62.2.2.2.2.2.2.1
  have s5 : R 79 5 = 84 := q79.2.2.2.2.1
  have s7 : R 79 7 = 86 := q79.2.2.2.2.2.2.1
  obtain ⟨X, hX⟩ : ∃ X, X = xcpy (xcpy (xu M 79 0 (M 62 0)) 67 84 0 0 32) 69 86 0 0 32 := ⟨_, rfl⟩
  have g1 : f_F_goOnFrom R 79 62 M = some X := by
    unfold f_F_goOnFrom
    rw [xl_eq, xch_pos (by decide), r5, r7, s5, s7, xl_eq, xl_eq, hX]
    rfl
  have xO : ∀ x, x ≠ 79 → x ≠ 84 → x ≠ 86 → X x = M x := fun x h1 h2 h3 => by rw [hX, xcpy_cell _ _ _ _ h3, xcpy_cell _ _ _ _ h2, xu_cell _ _ _ h1]
  have x79 : ∀ k, X 79 k = if k = 0 then (h : Int) else M 79 k := fun k => by rw [hX, xcpy_cell _ _ _ _ (by decide), xcpy_cell _ _ _ _ (by decide), xu_at, b30]
  have x84 : ∀ i, i < 32 → X 84 i = M 67 i := fun i hi => by rw [hX, xcpy_cell _ _ _ _ (by decide), xcpy_at, if_pos ⟨by omega, by omega⟩, xu_cell _ _ _ (by decide), Nat.zero_add, Nat.sub_zero]
  have x86 : ∀ i, i < 32 → X 86 i = M 69 i := fun i hi => by rw [hX, xcpy_at, if_pos ⟨by omega, by omega⟩, xcpy_cell _ _ _ _ (by decide), xu_cell _ _ _ (by decide), Nat.zero_add, Nat.sub_zero]
  obtain ⟨Y, hY⟩ : ∃ Y, Y = xu (xu (xu X 79 9 (c : Int)) 79 10 0) 79 11 ((10 * g + 10 : Nat) : Int) := ⟨_, rfl⟩
  have g2 : f_F_supposeHole 79 (c : Int) ((10 * g + 10 : Nat) : Int) X = some Y := by
    unfold f_F_supposeHole
    rw [xl_eq, xl_eq, xl_eq, hY]
  have yO : ∀ x, x ≠ 79 → Y x = X x := fun x hx => by rw [hY, xu_cell _ _ _ hx, xu_cell _ _ _ hx, xu_cell _ _ _ hx]
  have y79 : ∀ k, Y 79 k = if k = 11 then ((10 * g + 10 : Nat) : Int) else if k = 10 then 0 else if k = 9 then (c : Int) else X 79 k := fun k => by rw [hY, xu_at, xu_at, xu_at]
  have fr : FrT M Y := fun x hx => by rw [yO x (by omega), xO x (by omega) (by omega) (by omega)]
  obtain ⟨W, hWd⟩ : ∃ W, W = wld pn M z0 (xhH c h ((10 * g + 10 : Nat) : Int)) := ⟨_, rfl⟩
  have sc := (sim_cg (W := W) (V := w0 pn M) h fun j hj => by rw [hWd]; exact WS_hole hj (by omega)).1
  obtain ⟨Z, z1, z2, z3⟩ := expl_F6 hR (c0 := c) (h0 := h) (fs := fs) (la := la) (g := ((10 * g + 10 : Nat) : Int)) (sp := sp) (row := row) (W := W) ⟨by omega, by omega⟩ hsp hla hl48 (la + 1 - h) xfu h Y (by omega) (by omega) (Nat.le_refl h) (fr.wb (by omega) (by omega) b1) (fr.ga b2) (by rw [fr (pn + 3) (by omega)]; exact hc2) (by rw [fr.wl (by omega), hWd]) (by rw [y79, if_neg (by decide), if_neg (by decide), if_neg (by decide), x79, if_pos rfl]) (by rw [y79, if_neg (by decide), if_neg (by decide), if_pos rfl]) (by rw [y79, if_neg (by decide), if_pos rfl]) (by rw [y79, if_pos rfl]) (fun i hi => by
    rw [yO 84 (by decide), yO 86 (by decide), x84 i hi, x86 i hi, sc.1, sc.2]
    have := b4.1.2 i hi
    exact ⟨this.1, this.2.2⟩) (by rw [fr 78 (by decide)]; exact b52) (by rw [fr 78 (by decide)]; exact b53) (by rw [fr 78 (by decide)]; exact b54) (by rw [fr 91 (by decide)]; exact b6)
  have fZ : FrT M Z := fun x hx => (z1 x hx).trans (fr x hx)
  by_cases y : ∀ H, h ≤ H → H ≤ la → okh fs row sp W H
  · refine ⟨X, Y, Z, 1, g1, g2, z2 y, fZ, Or.inl ⟨rfl, hc, hc2, hh, hg, fun H hH => ?_⟩⟩
    by_cases yH : H < h
    · exact (okh_pre yH (by omega)).2 (b7 H yH)
    · rw [← hWd]
      exact y H (by omega) hH
  · have y2 : ∃ H, h ≤ H ∧ H ≤ la ∧ ¬ okh fs row sp W H := Classical.byContradiction fun q => y fun H h1 h2 => Classical.byContradiction fun q2 => q ⟨H, h1, h2, q2⟩
    refine ⟨X, Y, Z, 0, g1, g2, z3 y2, fZ, Or.inr ⟨rfl, fun q => y fun H h1 h2 => ?_⟩⟩
    rw [hWd]
    exact q.2.2.2.2 H h2
