theorem IvM.trays {pn ln : Nat} {M N : xM} (h : IvM pn ln M) (hp : pn = 8 ∨ pn = 20) (hl : ln = 32 ∨ ln = 40) (F1 : ∀ x, x < 5 ∨ (8 ≤ x ∧ x < 105) ∨ 108 ≤ x → N x = M x) (g : TrOK (N 6) (N 7) (N 5) (N 105) (N 106) (N 107)) : IvM pn ln N := by
  have e4 := F1 104 (by decide)
  refine h.low (by omega) (by rw [e4, F1 1 (by decide)]; exact h.1) g (TpOK_of h.2.2.1 (F1 2 (by decide)) (F1 3 (by decide)) (F1 108 (by decide)) (fun k hk => by rw [e4])) (WB_of h.2.2.2.1 (fun k hk => F1 _ (by omega)) (fun x _ _ => F1 x (by omega)) (fun k _ => by rw [F1 48 (by decide)]) (fun x _ => F1 x (by omega)) (fun k hk => by rw [e4])) (FlI_of h.2.2.2.2.1 (fun k hk => F1 _ (by omega)) (fun x _ _ => F1 x (by omega))) (fun x hx => F1 x (by omega)) hl (fun k hk => by rw [e4])
theorem IvM.tray {pn ln : Nat} {M : xM} (h : IvM pn ln M) (hp : pn = 8 ∨ pn = 20) (hl : ln = 32 ∨ ln = 40) {a b c : Int} (ha : 0 ≤ a ∧ a < 4) (hb : 0 ≤ b ∧ b < 4) (hc : 0 ≤ c ∧ c ≤ 60) : IvM pn ln (trayM a b c M) := by
  have hT := h.2.1
  refine h.trays hp hl ?_ ?_
  · intro x hx
    unfold trayM
    rw [xfil_cell _ _ _ _ (by omega), xu_cell _ _ _ (by omega), xu_cell _ _ _ (by omega), xfil_cell _ _ _ _ (by omega), xu_cell _ _ _ (by omega), xu_cell _ _ _ (by omega)]
  · have c6 : ∀ t, trayM a b c M 6 t = if t = a.toNat then b else M 6 t := by intro t; simp [trayM, xu, xfil]
    have c7 : ∀ t, trayM a b c M 7 t = if t = a.toNat then c else M 7 t := by intro t; simp [trayM, xu, xfil]
    have c5 : ∀ t, trayM a b c M 5 t = if 60 * a.toNat ≤ t ∧ t < 60 * a.toNat + 60 then 0 else M 5 t := by intro t; simp [trayM, xu, xfil]
    have c105 : ∀ t, trayM a b c M 105 t = if t = a.toNat then b else M 105 t := by intro t; simp [trayM, xu, xfil]
    have c106 : ∀ t, trayM a b c M 106 t = if t = a.toNat then c else M 106 t := by intro t; simp [trayM, xu, xfil]
    have c107 : ∀ t, trayM a b c M 107 t = if 60 * a.toNat ≤ t ∧ t < 60 * a.toNat + c.toNat then 0 else M 107 t := by intro t; simp [trayM, xu, xfil]
    intro t ht
    rw [c6, c7, c105, c106]
    by_cases q : t = a.toNat
    · rw [if_pos q, if_pos q, if_pos q, if_pos q]
      refine Or.inr ⟨hb, rfl, hc, rfl, fun p hpp => ?_⟩
      rw [c5, c107, if_pos (by omega), if_pos (by omega)]
    · rw [if_neg q, if_neg q, if_neg q, if_neg q]
      refine (hT t ht).imp id ?_
      rintro ⟨h1, h2, h3, h4, h5⟩
      refine ⟨h1, h2, h3, h4, fun p hpp => ?_⟩
      rw [c5, c107, if_neg (by omega), if_neg (by omega)]
      exact h5 p hpp
theorem IvM.write {pn ln : Nat} {M : xM} (h : IvM pn ln M) (hp : pn = 8 ∨ pn = 20) (hl : ln = 32 ∨ ln = 40) (i : Nat) (v : Int) : IvM pn ln (xu (xu M 5 i v) 107 i v) := by
  have hT := h.2.1
  refine h.trays hp hl ?_ ?_
  · intro x hx
    rw [xu_cell _ _ _ (by omega), xu_cell _ _ _ (by omega)]
  · have o : ∀ x, x ≠ 5 → x ≠ 107 → xu (xu M 5 i v) 107 i v x = M x := fun x h1 h2 => by rw [xu_cell _ _ _ h2, xu_cell _ _ _ h1]
    rw [o 6 (by decide) (by decide), o 7 (by decide) (by decide), o 105 (by decide) (by decide), o 106 (by decide) (by decide)]
    intro t ht
    refine (hT t ht).imp id ?_
    rintro ⟨h1, h2, h3, h4, h5⟩
    refine ⟨h1, h2, h3, h4, fun p hpp => ?_⟩
    rw [xu_cell _ _ _ (show 5 ≠ 107 by decide), xu_at, xu_at, xu_cell _ _ _ (show 107 ≠ 5 by decide), h5 p hpp]
theorem IvM.pour {pn ln : Nat} {M : xM} (h : IvM pn ln M) (hp : pn = 8 ∨ pn = 20) (hl : ln = 32 ∨ ln = 40) {a p b q n : Int} (ha : 0 ≤ a ∧ a < 4) (hb : 0 ≤ b ∧ b < 4) (h1 : 0 ≤ p ∧ 0 ≤ q ∧ 0 ≤ n) (h2 : M 6 a.toNat ≠ -1) (h4 : p + n ≤ M 7 a.toNat) (h5 : q + n ≤ M 7 b.toNat) : IvM pn ln (xcpy (xcpy M 5 5 (60 * a.toNat + p.toNat) (60 * b.toNat + q.toNat) n.toNat) 107 107 (60 * a.toNat + p.toNat) (60 * b.toNat + q.toNat) n.toNat) := by
  have hT := h.2.1
  refine h.trays hp hl ?_ ?_
  · intro x hx
    rw [xcpy_cell _ _ _ _ (by omega), xcpy_cell _ _ _ _ (by omega)]
  · rw [xcpy_cell _ _ _ _ (show 6 ≠ 107 by decide), xcpy_cell _ _ _ _ (show 6 ≠ 5 by decide), xcpy_cell _ _ _ _ (show 7 ≠ 107 by decide), xcpy_cell _ _ _ _ (show 7 ≠ 5 by decide), xcpy_cell _ _ _ _ (show 105 ≠ 107 by decide), xcpy_cell _ _ _ _ (show 105 ≠ 5 by decide), xcpy_cell _ _ _ _ (show 106 ≠ 107 by decide), xcpy_cell _ _ _ _ (show 106 ≠ 5 by decide)]
    rw [xcpy_cell _ _ _ _ (show 5 ≠ 107 by decide)]
    intro t ht
    refine (hT t ht).imp id ?_
    rintro ⟨g1, g2, g3, g4, g5⟩
    refine ⟨g1, g2, g3, g4, fun r hr => ?_⟩
    rw [xcpy_at, xcpy_at]
    by_cases z : 60 * b.toNat + q.toNat ≤ 60 * t + r ∧ 60 * t + r < 60 * b.toNat + q.toNat + n.toNat
    · rw [if_pos z, if_pos z, xcpy_cell _ _ _ _ (show 107 ≠ 5 by decide)]
      rcases hT a.toNat (by omega) with k | ⟨-, -, k3, -, k5⟩
      · exact absurd k.1 h2
      · rw [show 60 * a.toNat + p.toNat + (60 * t + r - (60 * b.toNat + q.toNat)) = 60 * a.toNat + (p.toNat + (60 * t + r - (60 * b.toNat + q.toNat))) by omega]
        exact k5 _ (by omega)
    · rw [if_neg z, if_neg z, xcpy_cell _ _ _ _ (show 107 ≠ 5 by decide)]
      exact g5 r hr
theorem four_pair {M N : xM} {c d n : Nat} {v : Int} (h : ∀ i, i < n → M c i = N d i) : ∀ i, i < n + 4 → four M c n v c i = four N d n v d i := by
  intro i hi
  rw [four_at, four_at]
  by_cases q : n ≤ i ∧ i < n + 4
  · rw [if_pos q, if_pos q]
  · rw [if_neg q, if_neg q]
    exact h i (by omega)
theorem twenty_pair {M N : xM} {c d n : Nat} {a b e f g : Int} (h : ∀ i, i < n → M c i = N d i) : ∀ i, i < n + 20 → twenty M c n a b e f g c i = twenty N d n a b e f g d i := by
  unfold twenty
  exact four_pair (n := n + 16) (four_pair (n := n + 12) (four_pair (n := n + 8) (four_pair (n := n + 4) (four_pair h))))
theorem four_byte {M : xM} {c n : Nat} {v : Int} (h : ∀ i, -128 ≤ M c i ∧ M c i < 128) : ∀ i, -128 ≤ four M c n v c i ∧ four M c n v c i < 128 := by
  intro i
  rw [four_at]
  by_cases q : n ≤ i ∧ i < n + 4
  · rw [if_pos q]
    exact w8_in _
  · rw [if_neg q]
    exact h i
theorem twenty_byte {M : xM} {c n : Nat} {a b e f g : Int} (h : ∀ i, -128 ≤ M c i ∧ M c i < 128) : ∀ i, -128 ≤ twenty M c n a b e f g c i ∧ twenty M c n a b e f g c i < 128 := by
  unfold twenty
  exact four_byte (four_byte (four_byte (four_byte (four_byte h))))
theorem twenty_oth {M : xM} {c n x : Nat} {a b e f g : Int} (h : x ≠ c) : twenty M c n a b e f g x = M x := by
  unfold twenty
  rw [four_cell _ _ _ h, four_cell _ _ _ h, four_cell _ _ _ h, four_cell _ _ _ h, four_cell _ _ _ h]
theorem IvM.feed {pn ln : Nat} {M : xM} (h : IvM pn ln M) (hp : pn = 8 ∨ pn = 20) (hl : ln = 32 ∨ ln = 40) {a b c d e : Int} (hn : M 2 1 + 20 ≤ 600) : IvM pn ln (xu (twenty (xu (twenty M 3 (M 2 1).toNat a b c d e) 2 1 (M 2 1 + 20)) 108 (M 2 1).toNat a b c d e) 104 6 (M 2 1 + 20)) := by
  obtain ⟨⟨t1, t2, t3⟩, t4, t5, t6, t7⟩ := h.2.2.1
  obtain ⟨N, hN⟩ : ∃ N, N = xu (twenty (xu (twenty M 3 (M 2 1).toNat a b c d e) 2 1 (M 2 1 + 20)) 108 (M 2 1).toNat a b c d e) 104 6 (M 2 1 + 20) := ⟨_, rfl⟩
  have F1 : ∀ x, x ≠ 2 → x ≠ 3 → x ≠ 104 → x ≠ 108 → N x = M x := by
    intro x x1 x2 x3 x4
    rw [hN, xu_cell _ _ _ x3, twenty_oth x4, xu_cell _ _ _ x1, twenty_oth x2]
  have F4 : ∀ k, k ≠ 6 → N 104 k = M 104 k := by
    intro k hk
    rw [hN, xu_at, if_neg hk, twenty_oth (by decide), xu_cell _ _ _ (by decide), twenty_oth (by decide)]
  have c2 : ∀ k, N 2 k = if k = 1 then M 2 1 + 20 else M 2 k := by
    intro k
    rw [hN, xu_cell _ _ _ (by decide), twenty_oth (by decide), xu_at, twenty_oth (by decide)]
  have c3 : N 3 = twenty M 3 (M 2 1).toNat a b c d e 3 := by rw [hN, xu_cell _ _ _ (by decide), twenty_oth (by decide), xu_cell _ _ _ (by decide)]
  have c108 : N 108 = twenty (xu (twenty M 3 (M 2 1).toNat a b c d e) 2 1 (M 2 1 + 20)) 108 (M 2 1).toNat a b c d e 108 := by rw [hN, xu_cell _ _ _ (by decide)]
  have c6 : N 104 6 = M 2 1 + 20 := by rw [hN, xu_at, if_pos rfl]
  rw [← hN]
  refine h.low (by omega) (by rw [F4 0 (by decide), F1 1 (by decide) (by decide) (by decide) (by decide)]; exact h.1) (TrOK_of h.2.1 fun x hx => F1 x (by omega) (by omega) (by omega) (by omega)) ⟨?_, ?_, ?_, ?_, ?_⟩ (WB_of h.2.2.2.1 (fun k hk => F1 _ (by omega) (by omega) (by omega) (by omega)) (fun x _ _ => F1 x (by omega) (by omega) (by omega) (by omega)) (fun k _ => by rw [F1 48 (by decide) (by decide) (by decide) (by decide)]) (fun x _ => F1 x (by omega) (by omega) (by omega) (by omega)) (fun k hk => F4 k (by omega))) (FlI_of h.2.2.2.2.1 (fun k hk => F1 _ (by omega) (by omega) (by omega) (by omega)) (fun x _ _ => F1 x (by omega) (by omega) (by omega) (by omega))) (fun x hx => F1 x (by omega) (by omega) (by omega) (by omega)) hl (fun k hk => F4 k (by omega))
  · rw [c2, if_pos rfl, c6]
    exact ⟨by omega, hn, rfl⟩
  · intro i hi
    rw [c2, if_pos rfl] at hi
    rw [c108, c3]
    refine twenty_pair (fun j hj => ?_) i (by omega)
    rw [xu_cell _ _ _ (by decide), twenty_oth (by decide)]
    exact t4 j (by omega)
  · rw [c3]
    exact twenty_byte t5
  · rw [F4 13 (by decide), c2, if_neg (by decide)]
    exact t6
  · rw [F4 14 (by decide), c2, if_neg (by decide)]
    exact t7
