/-! ===== the world of a memory ===== -/
def GaOK (M : xM) : Prop := (∀ i : Nat, i < 768 → M 58 i = dstF (M 49) (M 50) (M 51) (M 48 11) (M 48 0).toNat (i : Int)) ∧ GaE M (M 48 4).toNat
theorem gather_eq {R : xR} {pn ps ln ls : Nat} (hR : RG R pn ps ln ls) {p : Nat} (hp : p + 11 < 48) {M : xM} (hB : BcOK M) (hr : RowOK M) (he : EvOK p M) (h8 : M p 0 ≤ 8) :
    ∃ M', f_B_gather R 48 M = some M' ∧ Fr [48, 58, 59, 60, 61] M M' ∧ (∀ k, k ≠ 13 → M' 48 k = M 48 k) ∧ M' 48 13 = 0 ∧ GaOK M' := by
  have x23 : xan 23 = 768 := by decide +kernel
  have x24 : xan 24 = 8 := by decide +kernel
  have x25 : xan 25 = 384 := by decide +kernel
  obtain ⟨-, r14, r15, r16, r17⟩ := hR.bk
  unfold f_B_gather
  rw [r14, r15, r16, r17, fill_aIIV, xb1_some, fill_aJJV, xb1_some, fill_aJJV, xb1_some, fill_aIIV, xb1_some, x23, x24, x25]
  obtain ⟨A, hA⟩ : ∃ A, A = xfil (xfil (xfil (xfil M 58 0 768 0) 59 0 8 0) 60 0 8 0) 61 0 384 0 := ⟨_, rfl⟩
  rw [← hA]
  have aO : ∀ x, x ≠ 58 → x ≠ 59 → x ≠ 60 → x ≠ 61 → A x = M x := fun x h1 h2 h3 h4 => by rw [hA, xfil_cell _ _ _ _ h4, xfil_cell _ _ _ _ h3, xfil_cell _ _ _ _ h2, xfil_cell _ _ _ _ h1]
  have a58 : ∀ i, i < 768 → A 58 i = 0 := fun i hi => by rw [hA, xfil_cell _ _ _ _ (by decide), xfil_cell _ _ _ _ (by decide), xfil_cell _ _ _ _ (by decide), xfil_at, if_pos ⟨by omega, hi⟩]
  have a59 : ∀ i, i < 8 → A 59 i = 0 := fun i hi => by rw [hA, xfil_cell _ _ _ _ (by decide), xfil_cell _ _ _ _ (by decide), xfil_at, if_pos ⟨by omega, hi⟩]
  have a60 : ∀ i, i < 8 → A 60 i = 0 := fun i hi => by rw [hA, xfil_cell _ _ _ _ (by decide), xfil_at, if_pos ⟨by omega, hi⟩]
  have a61 : ∀ i, i < 384 → A 61 i = 0 := fun i hi => by rw [hA, xfil_at, if_pos ⟨by omega, hi⟩]
  have a48 := aO 48 (by decide) (by decide) (by decide) (by decide)
  have bA : BcOK A := by unfold BcOK; rw [a48, aO 104 (by decide) (by decide) (by decide) (by decide)]; exact hB
  obtain ⟨B, b1, b2, b3⟩ := gather_F34 hR (fun (M_15 : xM) =>
      B_gather_F80 R 48
        (fun (M_22 : xM) =>
          xl (xu M_22 48 13 0) fun M_23 =>
          some (M_23))
        xfu 0 M_15) (M 48 0).toNat xfu 0 A (by have : xfu = 1000000 := rfl; have := hB.1; omega) (by rw [a48]; omega) bA (by unfold RowOK; rw [a48, aO 144 (by decide) (by decide) (by decide) (by decide), aO 145 (by decide) (by decide) (by decide) (by decide), aO 146 (by decide) (by decide) (by decide) (by decide), aO 49 (by decide) (by decide) (by decide) (by decide), aO 147 (by decide) (by decide) (by decide) (by decide), aO 50 (by decide) (by decide) (by decide) (by decide), aO 148 (by decide) (by decide) (by decide) (by decide), aO 51 (by decide) (by decide) (by decide) (by decide)]; exact hr) (fun i hi => by rw [a58 i hi]; rfl)
  have bO : ∀ x, x ≠ 58 → B x = A x := fun x hx => b2 x (by simpa using hx)
  have bM : ∀ x, x ≠ 58 → x ≠ 59 → x ≠ 60 → x ≠ 61 → B x = M x := fun x h1 h2 h3 h4 => by rw [bO x h1, aO x h1 h2 h3 h4]
  have b48 := bM 48 (by decide) (by decide) (by decide) (by decide)
  obtain ⟨C, c1, c2, c3⟩ := gather_F80 hR hp (fun (M_22 : xM) =>
          xl (xu M_22 48 13 0) fun M_23 =>
          some (M_23)) (M 48 4).toNat xfu 0 B (by have : xfu = 1000000 := rfl; have := hB.2.1; omega) (by rw [b48]; omega) (by unfold BcOK; rw [b48, bM 104 (by decide) (by decide) (by decide) (by decide)]; exact hB) (by unfold EvOK; rw [b48, bM 149 (by decide) (by decide) (by decide) (by decide), bM 150 (by decide) (by decide) (by decide) (by decide), bM 151 (by decide) (by decide) (by decide) (by decide), bM 152 (by decide) (by decide) (by decide) (by decide), bM 153 (by decide) (by decide) (by decide) (by decide), bM 52 (by decide) (by decide) (by decide) (by decide), bM 53 (by decide) (by decide) (by decide) (by decide), bM 54 (by decide) (by decide) (by decide) (by decide), bM 55 (by decide) (by decide) (by decide) (by decide), bM 56 (by decide) (by decide) (by decide) (by decide), bM p (by omega) (by omega) (by omega) (by omega), bM (p + 3) (by omega) (by omega) (by omega) (by omega)]; exact he) (by rw [bM p (by omega) (by omega) (by omega) (by omega)]; exact h8) (by
    refine ⟨fun c hc => ⟨0, by decide, by rw [bO 59 (by decide), a59 c hc]; rfl, fun h hh => ?_⟩, fun c hc => ⟨0, by decide, by rw [bO 60 (by decide), a60 c hc]; rfl, fun h hh => ?_⟩, fun i hi => by rw [bO 61 (by decide), a61 i hi]; rfl⟩
    · rw [Nat.zero_testBit]
      exact ⟨fun q => absurd q (by decide), fun q => absurd (show (0 : Int) = 1 from q) (by decide)⟩
    · rw [Nat.zero_testBit]
      exact ⟨fun q => absurd q (by decide), fun q => absurd (show (0 : Int) = 1 from q) (by decide)⟩)
  have cO : ∀ x, x ≠ 59 → x ≠ 60 → x ≠ 61 → C x = B x := fun x h1 h2 h3 => c2 x (by simp only [List.mem_cons, List.not_mem_nil, or_false, not_or]; exact ⟨h1, h2, h3⟩)
  obtain ⟨D, hD⟩ : ∃ D, D = xu C 48 13 0 := ⟨_, rfl⟩
  have dO : ∀ x, x ≠ 48 → D x = C x := fun x hx => by rw [hD, xu_cell _ _ _ hx]
  have d48 : ∀ k, k ≠ 13 → D 48 k = M 48 k := fun k hk => by rw [hD, xu_at, if_neg hk, cO 48 (by decide) (by decide) (by decide), b48]
  have dM : ∀ x, x ≠ 48 → x ≠ 58 → x ≠ 59 → x ≠ 60 → x ≠ 61 → D x = M x := fun x h0 h1 h2 h3 h4 => by rw [dO x h0, cO x h2 h3 h4, bM x h1 h2 h3 h4]
  refine ⟨D, ?_, fun x hx => ?_, d48, by rw [hD, xu_at, if_pos rfl], ?_, ?_⟩
  · rw [hD]
    exact b1.trans c1
  · simp only [List.mem_cons, List.not_mem_nil, or_false, not_or] at hx
    exact dM x hx.1 hx.2.1 hx.2.2.1 hx.2.2.2.1 hx.2.2.2.2
  · intro i hi
    rw [dO 58 (by decide), cO 58 (by decide) (by decide) (by decide), b3 i hi, aO 49 (by decide) (by decide) (by decide) (by decide), aO 50 (by decide) (by decide) (by decide) (by decide), aO 51 (by decide) (by decide) (by decide) (by decide), a48, d48 11 (by decide), d48 0 (by decide), dM 49 (by decide) (by decide) (by decide) (by decide) (by decide), dM 50 (by decide) (by decide) (by decide) (by decide) (by decide), dM 51 (by decide) (by decide) (by decide) (by decide) (by decide)]
  · rw [b48] at c3
    rw [d48 4 (by decide)]
    obtain ⟨g1, g2, g3⟩ := c3
    have fc : ∀ c h k, knF D c h k = knF C c h k ∧ ofF D c h k = ofF C c h k ∧ hoF D c h k = hoF C c h k := fun c h k => fold_cg (dO 52 (by decide)) (dO 53 (by decide)) (dO 54 (by decide)) (dO 55 (by decide)) (dO 56 (by decide)) (by rw [hD, xu_at, if_neg (by decide)]) c h k
    refine ⟨fun c hc => ?_, fun c hc => ?_, fun i hi => ?_⟩
    · obtain ⟨t, t1, t2, t3⟩ := g1 c hc
      exact ⟨t, t1, by rw [dO 59 (by decide), t2], fun h hh => by rw [t3 h hh]; dsimp only; rw [(fc _ _ _).1]⟩
    · obtain ⟨t, t1, t2, t3⟩ := g2 c hc
      exact ⟨t, t1, by rw [dO 60 (by decide), t2], fun h hh => by rw [t3 h hh]; dsimp only; rw [(fc _ _ _).2.1]⟩
    · rw [dO 61 (by decide), g3 i hi, (fc _ _ _).2.2]
def wld (p : Nat) (M : xM) (xk xh : Nat → Int) : xM := fun j i =>
  if j = 0 then (if i = 0 then M p 0 else M p 1) else if j = 1 then M (p + 3) i else if j = 2 then M (p + 4) i else if j = 3 then M (p + 5) i else if j = 4 then M (p + 6) i else if j = 5 then M (p + 8) i else if j = 6 then M (p + 9) i else if j = 7 then M (p + 10) i else if j = 8 then M (p + 11) i else if j = 9 then M 57 i
  else if j = 10 then dstF (M 49) (M 50) (M 51) (M 48 11) (M 48 0).toNat (i : Int)
  else if j = 11 then (if knF M ((i / 48 : Nat) : Int) ((i % 48 : Nat) : Int) (M 48 4).toNat = 1 then 1 else xk i)
  else if j = 12 then ofF M ((i / 48 : Nat) : Int) ((i % 48 : Nat) : Int) (M 48 4).toNat
  else hoF M ((i / 48 : Nat) : Int) ((i % 48 : Nat) : Int) (M 48 4).toNat + xh i
theorem wld_cg {p : Nat} {M N : xM} {xk xh : Nat → Int} (h1 : ∀ k, k < 12 → N (p + k) = M (p + k)) (h2 : ∀ x, 49 ≤ x → x < 58 → N x = M x) (h3 : ∀ k, k ≠ 13 → N 48 k = M 48 k) : wld p N xk xh = wld p M xk xh := by
  have f : ∀ c h k, knF N c h k = knF M c h k ∧ ofF N c h k = ofF M c h k ∧ hoF N c h k = hoF M c h k := fun c h k => fold_cg (h2 52 (by decide) (by decide)) (h2 53 (by decide) (by decide)) (h2 54 (by decide) (by decide)) (h2 55 (by decide) (by decide)) (h2 56 (by decide) (by decide)) (h3 11 (by decide)) c h k
  have p0 : N p = M p := h1 0 (by decide)
  funext j i
  unfold wld
  rw [p0, h1 3 (by decide), h1 4 (by decide), h1 5 (by decide), h1 6 (by decide), h1 8 (by decide), h1 9 (by decide), h1 10 (by decide), h1 11 (by decide), h2 57 (by decide) (by decide), h2 49 (by decide) (by decide), h2 50 (by decide) (by decide), h2 51 (by decide) (by decide), h3 11 (by decide), h3 0 (by decide), h3 4 (by decide), (f _ _ _).1, (f _ _ _).2.1, (f _ _ _).2.2]
theorem sumN_list (f : Nat → Int) : ∀ m, sumN f m = ((List.range m).map f).sum := by
  intro m
  induction m with
  | zero => rfl
  | succ m ih =>
    rw [List.range_succ, List.map_append, List.sum_append]
    show sumN f m + f m = _
    rw [ih]
    simp
theorem dst_in {M : xM} (hr : RowOK M) (i : Int) : ∀ k : Nat, (k : Int) ≤ M 48 0 → 0 ≤ dstF (M 49) (M 50) (M 51) (M 48 11) k i ∧ dstF (M 49) (M 50) (M 51) (M 48 11) k i ≤ 9999 := by
  intro k
  induction k with
  | zero => intro _; exact ⟨Int.le_refl 0, by show (0 : Int) ≤ 9999; decide⟩
  | succ k ih =>
    intro hk
    have a := ih (by omega)
    have b := (hr k (by omega)).2.2.2.2.2.1
    rw [dst_st]
    split
    · exact b
    · exact a
theorem hoF_zero {p : Nat} {M : xM} (he : EvOK p M) {c : Nat} {h : Int} (hs : M (p + 3) c ≠ 2) : ∀ k : Nat, (k : Int) ≤ M 48 4 → hoF M (c : Int) h k = 0 := by
  intro k
  induction k with
  | zero => intro _; rfl
  | succ k ih =>
    intro hk
    obtain ⟨-, -, -, a⟩ := he k (by omega)
    show hoF M (c : Int) h k + _ = 0
    rw [ih (by omega), if_neg]
    · rfl
    · rintro ⟨z1, z2, z3, z4⟩
      rcases a with a | ⟨-, -, -, a⟩ | ⟨a, -⟩
      · omega
      · rw [z2, Int.toNat_natCast] at a
        exact hs a
      · omega
theorem WH_wld {p : Nat} {M : xM} (hP : PlOK p M) (hB : BcOK M) (hr : RowOK M) (he : EvOK p M) {xk xh : Nat → Int} {h : Nat} (hh : h < 48) (hk : ∀ i, xk i = 0 ∨ xk i = 1) (hx : ∀ c : Nat, (c : Int) < M p 0 → 0 ≤ xh (48 * c + h) ∧ xh (48 * c + h) ≤ 100 ∧ (M (p + 3) c ≠ 2 → xh (48 * c + h) = 0)) : WH (wld p M xk xh) h := by
  obtain ⟨p1, p2, p3, p4⟩ := hP
  have b1 := hB.1
  have b2 := hB.2.1
  have w0 : wld p M xk xh 0 0 = M p 0 := rfl
  have w1 : wld p M xk xh 0 1 = M p 1 := rfl
  refine ⟨by rw [w0]; omega, by rw [w1]; omega, fun w hw => ?_, fun c hc => ?_⟩
  · rw [w1] at hw
    have a := p4 w (by omega)
    have e8 : wld p M xk xh 8 w = M (p + 11) w := rfl
    rw [e8]
    exact ⟨by omega, fun s hs => dst_in hr _ _ (by omega)⟩
  · rw [w0] at hc
    obtain ⟨c1, c2, c3, c4, c5, c6, c7⟩ := p3 c (by omega)
    have e1 : wld p M xk xh 1 c = M (p + 3) c := rfl
    have e3 : wld p M xk xh 3 c = M (p + 5) c := rfl
    have e4 : wld p M xk xh 4 c = M (p + 6) c := rfl
    have e5 : wld p M xk xh 5 c = M (p + 8) c := rfl
    have e11 : wld p M xk xh 11 (48 * c + h) = if knF M ((c : Nat) : Int) ((h : Nat) : Int) (M 48 4).toNat = 1 then 1 else xk (48 * c + h) := by
      show (if knF M (((48 * c + h) / 48 : Nat) : Int) (((48 * c + h) % 48 : Nat) : Int) (M 48 4).toNat = 1 then 1 else xk (48 * c + h)) = _
      rw [show (48 * c + h) / 48 = c by omega, show (48 * c + h) % 48 = h by omega]
    have e12 : wld p M xk xh 12 (48 * c + h) = ofF M ((c : Nat) : Int) ((h : Nat) : Int) (M 48 4).toNat := by
      show ofF M (((48 * c + h) / 48 : Nat) : Int) (((48 * c + h) % 48 : Nat) : Int) (M 48 4).toNat = _
      rw [show (48 * c + h) / 48 = c by omega, show (48 * c + h) % 48 = h by omega]
    have e13 : wld p M xk xh 13 (48 * c + h) = hoF M ((c : Nat) : Int) ((h : Nat) : Int) (M 48 4).toNat + xh (48 * c + h) := by
      show hoF M (((48 * c + h) / 48 : Nat) : Int) (((48 * c + h) % 48 : Nat) : Int) (M 48 4).toNat + xh (48 * c + h) = _
      rw [show (48 * c + h) / 48 = c by omega, show (48 * c + h) % 48 = h by omega]
    have k1 := (knF_iff (M := M) (c := (c : Int)) (h := (h : Int)) (M 48 4).toNat).1
    have o1 := (ofF_iff (M := M) (c := (c : Int)) (h := (h : Int)) (M 48 4).toNat).1
    have ho := hoF_in he (c := (c : Int)) (h := (h : Int)) (M 48 4).toNat (by omega)
    have hxc := hx c (by omega)
    refine ⟨by rw [e1]; exact ⟨c1.1, c1.2.1⟩, fun s hs => ⟨(c2 s hs).1, (c2 s hs).2.1⟩, by rw [e3]; exact ⟨c3.1, c3.2.1⟩, by rw [e4, e1]; exact ⟨c4.1, c4.2.1, c4.2.2.2⟩, ⟨by rw [e5]; omega, ?_⟩, ?_, by rw [e12]; exact o1, ?_⟩
    · rw [e5]
      refine ⟨by omega, by omega, fun i hi => ?_, fun i hi => ⟨(c6 i (by omega)).2.1, (c6 i (by omega)).2.2.1⟩, ?_⟩
      · show M (p + 9) (8 * c + i) = -1 ∨ _
        have := (c6 i (by omega)).1
        show M (p + 9) (8 * c + i) = -1 ∨ ((c : Int) + 1 ≤ M (p + 9) (8 * c + i) ∧ M (p + 9) (8 * c + i) < 8)
        omega
      · rw [sumN_list]
        exact c7
    · rw [e11]
      split
      · exact Or.inr rfl
      · exact hk _
    · rw [e13, e1]
      refine ⟨by omega, by omega, fun z => ?_⟩
      rw [hoF_zero he z _ (by omega), hxc.2.2 z]
      rfl
