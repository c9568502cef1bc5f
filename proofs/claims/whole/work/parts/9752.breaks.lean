/-! ===== broken, breach: hours together ===== -/
def wkL (q l : Nat) (M : xM) (u wv : Nat → Int) (h : Nat) : Int := sk (M (q + 6)) (M (q + 2) l).toNat (vlS u wv h) ((M (q + 3) l).toNat - (M (q + 2) l).toNat) 0
def BX (q H : Nat) (u wv : Nat → Int) (M : xM) : Prop := LwOK q M ∧ ∀ h, h ≤ H → (∀ j, j < 4 → M 63 (4 * h + j) = u (4 * h + j)) ∧ M 57 h = wv h
def BM (q H : Nat) (u wv : Nat → Int) (M : xM) : Prop := LwOK q M ∧ ∀ h, h ≤ H → (∀ j, j < 4 → M 156 (4 * h + j) = u (4 * h + j)) ∧ M 154 h = wv h
theorem LwOK.of {q : Nat} {M N : xM} (h : LwOK q M) (h0 : ∀ j, j < 7 → N (q + j) = M (q + j)) (h1 : N 104 40 = M 104 40) (h2 : ∀ x, 130 ≤ x → x < 140 → N x = M x) : LwOK q N := by
  have e0 : N q = M q := h0 0 (by decide)
  unfold LwOK
  rw [e0, h0 2 (by decide), h0 3 (by decide), h0 4 (by decide), h0 5 (by decide), h0 6 (by decide), h1, h2 130 (by decide) (by decide), h2 131 (by decide) (by decide), h2 132 (by decide) (by decide), h2 133 (by decide) (by decide), h2 138 (by decide) (by decide), h2 139 (by decide) (by decide)]
  exact h
theorem wkL_cg {q l : Nat} {M N : xM} {u wv : Nat → Int} (h2 : N (q + 2) = M (q + 2)) (h3 : N (q + 3) = M (q + 3)) (h6 : N (q + 6) = M (q + 6)) : wkL q l N u wv = wkL q l M u wv := by
  funext h
  unfold wkL
  rw [h2, h3, h6]
theorem sumOf_law {R : xR} {q : Nat} (hq : LwR R q) (q8 : R q 8 = q + 7) (hq48 : q + 8 ≤ 48) {M : xM} {l h H : Nat} {u wv : Nat → Int} (hB : BX q H u wv M) (hl : (l : Int) < M q 0) (hh : h < 48) (hH : h ≤ H) : ∃ M', f_L_sumOf R q (l : Int) (h : Int) 63 57 M = some (wkL q l M u wv h, M') ∧ ∀ x, x ≠ q + 7 → M' x = M x := by
  have xf : xfu = 1000000 := rfl
  obtain ⟨⟨m, c, a1, a2, a3, a4, a5, a6⟩, hh2⟩ := hB
  obtain ⟨⟨s, t, b1, b2, b3, b4, b5, b6, b7, b8⟩, -, -⟩ := a6 l (by omega)
  obtain ⟨u1, u2⟩ := hh2 h hH
  have r2 : R q 2 = q + 2 := hq 2 (by decide) (by decide)
  obtain ⟨M', m1, m2, m3⟩ := sumX_F11 hq q8 hq48 (l := l) (h := h) (s := s) (t := t) (by omega) hh (st := M (q + 6)) (u := u) (wv := wv) (by omega) (fun i h1 h2 => by
    have := a5 i (by omega)
    unfold stR at this
    omega) b7 b5 (fun (v5_23 : Int) (M_24 : xM) =>
      if 0 < v5_23 then
        some (M_24 (R q 8) (Int.toNat 0), M_24)
      else
        some (0, M_24)) (t - s) xfu 0 M (by omega) (by omega) b3 (fun _ _ _ => rfl) u1 u2 (fun j hj => by
    have : (j : Int) < 0 := hj
    omega)
  refine ⟨M', ?_, m2⟩
  unfold f_L_sumOf
  rw [xch_pos (by omega), xl_eq, r2, Int.toNat_natCast, b1]
  have m1' : L_sumOf_F11 R q (l : Int) (h : Int) 63 57 (fun (v5_23 : Int) (M_24 : xM) =>
      if 0 < v5_23 then
        some (M_24 (R q 8) (Int.toNat 0), M_24)
      else
        some (0, M_24)) xfu 0 (s : Int) M = _ := m1
  rw [m1', b8, if_pos (by decide), q8]
  have e0 : M' (q + 7) (Int.toNat 0) = wkL q l M u wv h := by
    have := m3 0 (by rw [b8]; decide)
    unfold wkL
    rw [b1, b3, Int.toNat_natCast, Int.toNat_natCast]
    exact this
  rw [e0]
theorem work_law {S : xR} (hS : MS S) (s89 : S 104 89 = 165) (s80 : S 104 80 = 156) (s73 : S 104 73 = 154) {q : Nat} {M : xM} {l h H : Nat} {u wv : Nat → Int} (hB : BM q H u wv M) (hl : (l : Int) < M q 0) (hh : h < 48) (hH : h ≤ H) : ∃ M', f_M_work S 104 (l : Int) (h : Int) M = some (wkL q l M u wv h, M') ∧ ∀ x, x ≠ 165 → M' x = M x := by
  have xf : xfu = 1000000 := rfl
  obtain ⟨⟨m, c, a1, a2, a3, a4, a5, a6⟩, hh2⟩ := hB
  obtain ⟨⟨s, t, b1, b2, b3, b4, b5, b6, b7, b8⟩, -, -⟩ := a6 l (by omega)
  obtain ⟨u1, u2⟩ := hh2 h hH
  have s45 : S 104 45 = 130 := hS 45 (by decide) (by decide)
  obtain ⟨M', m1, m2⟩ := workM_F10 hS s89 s80 s73 (l := l) (h := h) (s := s) (t := t) (by omega) hh (st := M (q + 6)) (u := u) (wv := wv) (by omega) b7 b5 (t - s) xfu 0 M (by omega) (by omega) b4 (fun i h1 h2 => a5 i (by omega)) u1 u2 (fun j hj => by
    have : (j : Int) < 0 := hj
    omega) b8
  refine ⟨M', ?_, m2⟩
  unfold f_M_work
  rw [xch_pos (by omega), xl_eq, s45, Int.toNat_natCast, b2]
  unfold wkL
  rw [b1, b3, Int.toNat_natCast, Int.toNat_natCast]
  exact m1
def ac (w : Nat → Int) : Nat → Nat → Int → Int
  | 0, _, a => a
  | k + 1, h, a => ac w k (h + 1) (w64 (a + w h))
theorem w64_add (a b : Int) : w64 (w64 a + b) = w64 (a + b) := Int.bmod_add_bmod
theorem w64_sub (a b : Int) : w64 (w64 a - b) = w64 (a - b) := Int.bmod_sub_bmod
theorem ac_eq (w : Nat → Int) : ∀ (k h : Nat) (A : Int), ac w k h (w64 A) = w64 (A + (sumN w (h + k) - sumN w h)) := by
  intro k
  induction k with
  | zero =>
    intro h A
    show w64 A = _
    rw [Nat.add_zero, Int.sub_self, Int.add_zero]
  | succ k ih =>
    intro h A
    show ac w k (h + 1) (w64 (w64 A + w h)) = _
    rw [w64_add, ih]
    have e : sumN w (h + 1) = sumN w h + w h := rfl
    rw [e, show h + 1 + k = h + (k + 1) by omega]
    exact congrArg w64 (by omega)
/-- law l is broken in hour H -/
def bkV (q l : Nat) (M : xM) (u wv : Nat → Int) (H : Nat) : Int := if M (q + 4) l ≤ (H : Int) + 1 then (if ac (wkL q l M u wv) (M (q + 4) l).toNat (H + 1 - (M (q + 4) l).toNat) 0 < w64 (M (q + 5) l * M (q + 4) l) then 0 else 1) else 0
theorem bkV_cg {q l : Nat} {M N : xM} {u wv : Nat → Int} (h : ∀ j, j < 7 → N (q + j) = M (q + j)) : bkV q l N u wv = bkV q l M u wv := by
  funext H
  unfold bkV
  rw [wkL_cg (h 2 (by decide)) (h 3 (by decide)) (h 6 (by decide)), h 4 (by decide), h 5 (by decide)]
theorem bkV_01 (q l : Nat) (M : xM) (u wv : Nat → Int) (H : Nat) : bkV q l M u wv H = 0 ∨ bkV q l M u wv H = 1 := by
  unfold bkV
  split
  · split
    · exact Or.inl rfl
    · exact Or.inr rfl
  · exact Or.inl rfl
theorem BX.of {q H : Nat} {u wv : Nat → Int} (hq48 : q + 8 ≤ 48) {M N : xM} (h : BX q H u wv M) (hn : ∀ x, x ≠ q + 7 → N x = M x) : BX q H u wv N := by
  refine ⟨h.1.of (fun j hj => hn _ (by omega)) (by rw [hn 104 (by omega)]) (fun x h1 h2 => hn x (by omega)), fun k hk => ?_⟩
  rw [hn 63 (by omega), hn 57 (by omega)]
  exact h.2 k hk
theorem BM.of {q H : Nat} {u wv : Nat → Int} (hq48 : q + 8 ≤ 48) {M N : xM} (h : BM q H u wv M) (hn : ∀ x, x ≠ 165 → N x = M x) : BM q H u wv N := by
  refine ⟨h.1.of (fun j hj => hn _ (by omega)) (by rw [hn 104 (by omega)]) (fun x h1 h2 => hn x (by omega)), fun k hk => ?_⟩
  rw [hn 156 (by omega), hn 154 (by omega)]
  exact h.2 k hk
theorem tooMuch_eq {R : xR} {q : Nat} (hq : LwR R q) {l : Nat} (hl : l < 8) (v : Int) (M : xM) : f_L_isTooMuch R q (l : Int) v M = some (if v < w64 (M (q + 5) l * M (q + 4) l) then 0 else 1) := by
  have r4 : R q 4 = q + 4 := hq 4 (by decide) (by decide)
  have r5 : R q 5 = q + 5 := hq 5 (by decide) (by decide)
  unfold f_L_isTooMuch
  rw [xch_pos (by omega), r4, r5, Int.toNat_natCast]
  split <;> rfl
theorem isB_F26 {R : xR} {q : Nat} (hq : LwR R q) (q8 : R q 8 = q + 7) (hq48 : q + 8 ≤ 48) {l H : Nat} (hl8 : l < 8) (hH : H < 48) {u wv : Nat → Int} : ∀ (k f h : Nat) (a : Int) (M : xM), k < f → h + k = H + 1 → BX q H u wv M → (l : Int) < M q 0 → ∃ M', L_isBroken_F26 R q (l : Int) (H : Int) 63 57 f a (h : Int) M = some (if ac (wkL q l M u wv) k h a < w64 (M (q + 5) l * M (q + 4) l) then 0 else 1, M') ∧ ∀ x, x ≠ q + 7 → M' x = M x := by
  intro k
  induction k with
  | zero =>
    intro f h a M hf hh hB hl
    obtain ⟨f, rfl⟩ : ∃ g, f = g + 1 := ⟨f - 1, by omega⟩
    refine ⟨M, ?_, fun _ _ => rfl⟩
    rw [L_isBroken_F26, if_pos (by omega), tooMuch_eq hq hl8, xb1_some]
    show xch _ (some (if a < _ then 0 else 1, M)) = some (if a < _ then 0 else 1, M)
    rw [xch_pos]
    split
    · exact Or.inl rfl
    · exact Or.inr rfl
  | succ k ih =>
    intro f h a M hf hh hB hl
    obtain ⟨f, rfl⟩ : ∃ g, f = g + 1 := ⟨f - 1, by omega⟩
    obtain ⟨N, n1, n2⟩ := sumOf_law hq q8 hq48 hB hl (show h < 48 by omega) (show h ≤ H by omega)
    obtain ⟨M', m1, m2⟩ := ih f (h + 1) (w64 (a + wkL q l M u wv h)) N (by omega) (by omega) (hB.of hq48 n2) (by rw [n2 q (by omega)]; exact hl)
    have e : wkL q l N u wv = wkL q l M u wv := wkL_cg (n2 _ (by omega)) (n2 _ (by omega)) (n2 _ (by omega))
    rw [e, n2 (q + 5) (by omega), n2 (q + 4) (by omega)] at m1
    refine ⟨M', ?_, fun x hx => (m2 x hx).trans (n2 x hx)⟩
    rw [L_isBroken_F26, if_neg (by omega), n1, xb2_some, xl_eq, xl_eq, w32_of (x := (h : Int) + 1) (by omega) (by omega)]
    exact m1
theorem isBroken_eq {R : xR} {q : Nat} (hq : LwR R q) (q8 : R q 8 = q + 7) (hq48 : q + 8 ≤ 48) {l H : Nat} (hH : H < 48) {u wv : Nat → Int} {M : xM} (hB : BX q H u wv M) (hl : (l : Int) < M q 0) : ∃ M', f_L_isBroken R q (l : Int) (H : Int) 63 57 M = some (bkV q l M u wv H, M') ∧ ∀ x, x ≠ q + 7 → M' x = M x := by
  have xf : xfu = 1000000 := rfl
  have hB' := hB
  obtain ⟨⟨m, c, a1, a2, a3, a4, a5, a6⟩, -⟩ := hB'
  have o := (a6 l (by omega)).2.1.1
  have r4 : R q 4 = q + 4 := hq 4 (by decide) (by decide)
  unfold f_L_isBroken bkV
  rw [xch_pos (by omega), xl_eq, r4, Int.toNat_natCast, w32_of (x := (H : Int) - M (q + 4) l) (by omega) (by omega), w32_of (x := (H : Int) - M (q + 4) l + 1) (by omega) (by omega)]
  by_cases z : M (q + 4) l ≤ (H : Int) + 1
  · rw [if_neg (by omega), if_pos z]
    obtain ⟨M', m1, m2⟩ := isB_F26 hq q8 hq48 (show l < 8 by omega) hH (M (q + 4) l).toNat xfu (H + 1 - (M (q + 4) l).toNat) 0 M (by omega) (by omega) hB hl
    rw [show ((H + 1 - (M (q + 4) l).toNat : Nat) : Int) = (H : Int) - M (q + 4) l + 1 by omega] at m1
    exact ⟨M', m1, m2⟩
  · rw [if_pos (by omega), if_neg z]
    exact ⟨M, rfl, fun _ _ => rfl⟩
theorem brk_F28 {S : xR} (hS : MS S) (s89 : S 104 89 = 165) (s80 : S 104 80 = 156) (s73 : S 104 73 = 154) {q : Nat} (hq48 : q + 8 ≤ 48) {l H : Nat} (hH : H < 48) {u wv : Nat → Int} (Q : Int → xM → Option (Int × xM)) : ∀ (k f h : Nat) (a : Int) (M : xM), k < f → h + k = H + 1 → BM q H u wv M → (l : Int) < M q 0 → ∃ M', M_breaks_F28 S 104 (l : Int) (H : Int) Q f a (h : Int) M = Q (ac (wkL q l M u wv) k h a) M' ∧ ∀ x, x ≠ 165 → M' x = M x := by
  intro k
  induction k with
  | zero =>
    intro f h a M hf hh hB hl
    obtain ⟨f, rfl⟩ : ∃ g, f = g + 1 := ⟨f - 1, by omega⟩
    refine ⟨M, ?_, fun _ _ => rfl⟩
    rw [M_breaks_F28, if_pos (by omega)]
    rfl
  | succ k ih =>
    intro f h a M hf hh hB hl
    obtain ⟨f, rfl⟩ : ∃ g, f = g + 1 := ⟨f - 1, by omega⟩
    obtain ⟨N, n1, n2⟩ := work_law hS s89 s80 s73 hB hl (show h < 48 by omega) (show h ≤ H by omega)
    obtain ⟨M', m1, m2⟩ := ih f (h + 1) (w64 (a + wkL q l M u wv h)) N (by omega) (by omega) (hB.of hq48 n2) (by rw [n2 q (by omega)]; exact hl)
    have e : wkL q l N u wv = wkL q l M u wv := wkL_cg (n2 _ (by omega)) (n2 _ (by omega)) (n2 _ (by omega))
    rw [e] at m1
    refine ⟨M', ?_, fun x hx => (m2 x hx).trans (n2 x hx)⟩
    rw [M_breaks_F28, if_neg (by omega), n1, xb2_some, xl_eq, xl_eq, w32_of (x := (h : Int) + 1) (by omega) (by omega)]
    exact m1
theorem breaks_eq {S : xR} (hS : MS S) (s89 : S 104 89 = 165) (s80 : S 104 80 = 156) (s73 : S 104 73 = 154) {q : Nat} (hq48 : q + 8 ≤ 48) {l H H' : Nat} (hH : H < 48) (hHH : H ≤ H') {u wv : Nat → Int} {M : xM} (hB : BM q H' u wv M) (hl : (l : Int) < M q 0) : ∃ M', f_M_breaks S 104 (l : Int) (H : Int) M = some (bkV q l M u wv H, M') ∧ ∀ x, x ≠ 165 → M' x = M x := by
  have xf : xfu = 1000000 := rfl
  have hB' : BM q H u wv M := ⟨hB.1, fun h hh => hB.2 h (by omega)⟩
  obtain ⟨⟨m, c, a1, a2, a3, a4, a5, a6⟩, -⟩ := hB
  obtain ⟨-, o, o2⟩ := a6 l (by omega)
  have s47 : S 104 47 = 132 := hS 47 (by decide) (by decide)
  have s48 : S 104 48 = 133 := hS 48 (by decide) (by decide)
  unfold f_M_breaks bkV
  rw [xch_pos (by omega), s47, s48, Int.toNat_natCast, o.2, w32_of (x := (H : Int) + 1) (by omega) (by omega)]
  by_cases z : M (q + 4) l ≤ (H : Int) + 1
  · rw [if_neg (by omega), if_pos z, xl_eq, w32_of (x := (H : Int) - M (q + 4) l) (by omega) (by omega), w32_of (x := (H : Int) - M (q + 4) l + 1) (by omega) (by omega)]
    obtain ⟨M', m1, m2⟩ := brk_F28 hS s89 s80 s73 hq48 hH (fun (v3_10 : Int) (M_11 : xM) =>
        if v3_10 < w64 ((M_11 133 l) * (M_11 132 l)) then
          some (0, M_11)
        else
          some (1, M_11)) (M (q + 4) l).toNat xfu (H + 1 - (M (q + 4) l).toNat) 0 M (by omega) (by omega) hB' hl
    rw [show ((H + 1 - (M (q + 4) l).toNat : Nat) : Int) = (H : Int) - M (q + 4) l + 1 by omega] at m1
    refine ⟨M', m1.trans ?_, m2⟩
    rw [m2 133 (by decide), m2 132 (by decide), o.2, o2.2]
    split <;> rfl
  · rw [if_pos (by omega), if_neg z]
    exact ⟨M, rfl, fun _ _ => rfl⟩
theorem first_F6 {R : xR} {q : Nat} (hq : LwR R q) (q8 : R q 8 = q + 7) (hq48 : q + 8 ≤ 48) {l : Nat} {u wv : Nat → Int} : ∀ (k f h : Nat) (a : Int) (M : xM), k < f → h + k = 48 → BX q 47 u wv M → (l : Int) < M q 0 → a = w64 (sumN (wkL q l M u wv) h - sumN (wkL q l M u wv) (h - (M (q + 4) l).toNat)) →
    ∃ r M', L_firstBroken_F6 R q (l : Int) 63 57 f a (h : Int) M = some (r, M') ∧ (∀ x, x ≠ q + 7 → M' x = M x) ∧ ((r = -1 ∧ ∀ g, h ≤ g → g < 48 → bkV q l M u wv g = 0) ∨ (∃ g : Nat, r = (g : Int) ∧ h ≤ g ∧ g < 48 ∧ bkV q l M u wv g = 1 ∧ ∀ i, h ≤ i → i < g → bkV q l M u wv i = 0)) := by
  intro k
  induction k with
  | zero =>
    intro f h a M hf hh _ _ _
    obtain ⟨f, rfl⟩ : ∃ g, f = g + 1 := ⟨f - 1, by omega⟩
    refine ⟨-1, M, ?_, fun _ _ => rfl, Or.inl ⟨rfl, fun g h1 h2 => by omega⟩⟩
    rw [L_firstBroken_F6, if_neg (by omega)]
  | succ k ih =>
    intro f h a M hf hh hB hl ha
    obtain ⟨f, rfl⟩ : ∃ g, f = g + 1 := ⟨f - 1, by omega⟩
    have hB' := hB
    obtain ⟨⟨m, c, a1, a2, a3, a4, a5, a6⟩, -⟩ := hB'
    have o := (a6 l (by omega)).2.1.1
    have r4 : R q 4 = q + 4 := hq 4 (by decide) (by decide)
    obtain ⟨ov, hov⟩ : ∃ ov : Nat, M (q + 4) l = (ov : Int) := ⟨(M (q + 4) l).toNat, by omega⟩
    obtain ⟨w, hw⟩ : ∃ w, w = wkL q l M u wv := ⟨_, rfl⟩
    rw [hov, Int.toNat_natCast, ← hw] at ha
    obtain ⟨N, n1, n2⟩ := sumOf_law hq q8 hq48 hB hl (show h < 48 by omega) (show h ≤ 47 by omega)
    rw [← hw] at n1
    have sP : sumN w (h + 1) = sumN w h + w h := rfl
    have J79 : ∀ v X, L_firstBroken_J79 R q (l : Int) 63 57 (L_firstBroken_F6 R q (l : Int) 63 57 f) v (h : Int) X = L_firstBroken_F6 R q (l : Int) 63 57 f v ((h + 1 : Nat) : Int) X := by
      intro v X
      unfold L_firstBroken_J79
      rw [xl_eq, w32_of (x := (h : Int) + 1) (by omega) (by omega)]
      rfl
    -- behind the sums of this hour
    have fin : ∀ X : xM, (∀ x, x ≠ q + 7 → X x = M x) → ∃ r M', L_firstBroken_J61 R q (l : Int) 63 57 (L_firstBroken_F6 R q (l : Int) 63 57 f) (w64 (sumN w (h + 1) - sumN w (h + 1 - ov))) (h : Int) ((h : Int) - (ov : Int) + 1) X = some (r, M') ∧ (∀ x, x ≠ q + 7 → M' x = M x) ∧ ((r = -1 ∧ ∀ g, h ≤ g → g < 48 → bkV q l M u wv g = 0) ∨ (∃ g : Nat, r = (g : Int) ∧ h ≤ g ∧ g < 48 ∧ bkV q l M u wv g = 1 ∧ ∀ i, h ≤ i → i < g → bkV q l M u wv i = 0)) := by
      intro X hX
      have next : bkV q l M u wv h = 0 → ∃ r M', L_firstBroken_F6 R q (l : Int) 63 57 f (w64 (sumN w (h + 1) - sumN w (h + 1 - ov))) ((h + 1 : Nat) : Int) X = some (r, M') ∧ (∀ x, x ≠ q + 7 → M' x = M x) ∧ ((r = -1 ∧ ∀ g, h ≤ g → g < 48 → bkV q l M u wv g = 0) ∨ (∃ g : Nat, r = (g : Int) ∧ h ≤ g ∧ g < 48 ∧ bkV q l M u wv g = 1 ∧ ∀ i, h ≤ i → i < g → bkV q l M u wv i = 0)) := by
        intro z0
        have e : wkL q l X u wv = w := by rw [hw]; exact wkL_cg (hX _ (by omega)) (hX _ (by omega)) (hX _ (by omega))
        have eb : bkV q l X u wv = bkV q l M u wv := bkV_cg fun j hj => hX _ (by omega)
        obtain ⟨r, M', m1, m2, m3⟩ := ih f (h + 1) (w64 (sumN w (h + 1) - sumN w (h + 1 - ov))) X (by omega) (by omega) (hB.of hq48 hX) (by rw [hX q (by omega)]; exact hl) (by rw [e, hX (q + 4) (by omega), hov, Int.toNat_natCast])
        rw [eb] at m3
        refine ⟨r, M', m1, fun x hx => (m2 x hx).trans (hX x hx), ?_⟩
        rcases m3 with ⟨p1, p2⟩ | ⟨g, p1, p2, p3, p4, p5⟩
        · refine Or.inl ⟨p1, fun g h1 h2 => ?_⟩
          by_cases y : g = h
          · rw [y]; exact z0
          · exact p2 g (by omega) h2
        · refine Or.inr ⟨g, p1, by omega, p3, p4, fun i h1 h2 => ?_⟩
          by_cases y : i = h
          · rw [y]; exact z0
          · exact p5 i (by omega) h2
      unfold L_firstBroken_J61
      rw [J79]
      by_cases z : (h : Int) - (ov : Int) + 1 < 0
      · rw [if_pos z]
        exact next (by unfold bkV; rw [hov, if_neg (by omega)])
      · rw [if_neg z, tooMuch_eq hq (by omega), xb1_some, hX (q + 5) (by omega), hX (q + 4) (by omega)]
        have ev : bkV q l M u wv h = if w64 (sumN w (h + 1) - sumN w (h + 1 - ov)) < w64 (M (q + 5) l * M (q + 4) l) then 0 else 1 := by
          unfold bkV
          rw [if_pos (by omega)]
          have e0 : (0 : Int) = w64 0 := by decide
          rw [e0, ac_eq, hov, Int.toNat_natCast, ← hw, show h + 1 - ov + ov = h + 1 by omega, Int.zero_add]
        rw [← ev]
        by_cases y : bkV q l M u wv h = 0
        · rw [if_pos y]
          exact next y
        · rw [if_neg y]
          have y1 : bkV q l M u wv h = 1 := (bkV_01 q l M u wv h).elim (fun p => absurd p y) id
          exact ⟨(h : Int), X, rfl, hX, Or.inr ⟨h, rfl, Nat.le_refl h, by omega, y1, fun i h1 h2 => by omega⟩⟩
    rw [L_firstBroken_F6, if_pos (by omega), n1, xb2_some, xl_eq, xch_pos (by omega), xl_eq, r4, Int.toNat_natCast, n2 (q + 4) (by omega), hov, w32_of (x := (h : Int) - (ov : Int)) (by omega) (by omega), w32_of (x := (h : Int) - (ov : Int) + 1) (by omega) (by omega), ha, w64_add]
    by_cases z : 0 < (h : Int) - (ov : Int) + 1
    · obtain ⟨N2, p1, p2⟩ := sumOf_law hq q8 hq48 (hB.of hq48 n2) (l := l) (h := h - ov) (by rw [n2 q (by omega)]; exact hl) (by omega) (show h - ov ≤ 47 by omega)
      have e : wkL q l N u wv = w := by rw [hw]; exact wkL_cg (n2 _ (by omega)) (n2 _ (by omega)) (n2 _ (by omega))
      rw [e] at p1
      rw [if_pos z, w32_of (x := (h : Int) - (ov : Int) + 1 - 1) (by omega) (by omega), show (h : Int) - (ov : Int) + 1 - 1 = ((h - ov : Nat) : Int) by omega, p1, xb2_some, xl_eq, w64_sub]
      have sQ : sumN w (h + 1 - ov) = sumN w (h - ov) + w (h - ov) := by rw [show h + 1 - ov = (h - ov) + 1 by omega]; rfl
      have ee : sumN w h - sumN w (h - ov) + w h - w (h - ov) = sumN w (h + 1) - sumN w (h + 1 - ov) := by omega
      rw [ee]
      exact fin N2 fun x hx => (p2 x hx).trans (n2 x hx)
    · rw [if_neg z]
      have ee : sumN w h - sumN w (h - ov) + w h = sumN w (h + 1) - sumN w (h + 1 - ov) := by
        rw [show h - ov = 0 by omega, show h + 1 - ov = 0 by omega]
        omega
      rw [ee]
      exact fin N n2
