theorem IvM.book {pn ln : Nat} {M N : xM} (h : IvM pn ln M) (hp : pn = 8 ∨ pn = 20) (hl : ln = 32 ∨ ln = 40) (F1 : ∀ x, x < 48 ∨ (58 ≤ x ∧ x < 104) ∨ (105 ≤ x ∧ x < 144) ∨ 155 ≤ x → N x = M x) (F4 : ∀ k, k < 59 ∨ 63 ≤ k → N 104 k = M 104 k) (g1 : BcOK N) (g2 : RowOK N) (g3 : EvOK pn N) (g4 : ∀ i : Nat, i < 48 → N 154 i = N 57 i) (g5 : N 48 13 = 1) : IvM pn ln N :=
  h.low (by omega) (by rw [F4 0 (by decide), F1 1 (by decide)]; exact h.1) (TrOK_of h.2.1 fun x hx => F1 x (by omega)) (TpOK_of h.2.2.1 (F1 2 (by decide)) (F1 3 (by decide)) (F1 108 (by decide)) (fun k hk => F4 k (by omega))) ⟨PlOK_of h.2.2.2.1.1 (fun k hk => F1 _ (by omega)) (fun x _ _ => F1 x (by omega)) (fun k hk => F4 k (by omega)), g1, g2, g3, g4⟩ (FlI_set h.2.2.2.2.1 (F1 62 (by decide)) g5) (fun x hx => F1 x (by omega)) hl (fun k hk => F4 k (by omega))
theorem IvM.row {pn ln : Nat} {M : xM} (h : IvM pn ln M) (hp : pn = 8 ∨ pn = 20) (hl : ln = 32 ∨ ln = 40) {a b c d e : Int} (ha : 0 ≤ a ∧ a < M pn 1) (hb : 0 ≤ b ∧ b < 48) (hc : 0 ≤ c ∧ c < 4) (hd : 0 ≤ d ∧ d ≤ 9999) (he : 0 ≤ e ∧ e < 100) (hn : M 48 0 < 200) : IvM pn ln (rowM (M 48 0).toNat a b c d e (rowX (M 48 0).toNat ((a * 48 + b) * 4 + c) d e M)) := by
  obtain ⟨q1, q2, q3, q4, q5⟩ := h.2.2.2.1
  obtain ⟨b1, b2, b3, b4⟩ := q2
  have hw := q1.2.1
  obtain ⟨n, hn0⟩ : ∃ n : Nat, M 48 0 = (n : Int) := ⟨(M 48 0).toNat, by omega⟩
  rw [show (M 48 0).toNat = n by omega]
  obtain ⟨N, hN⟩ : ∃ N, N = rowM n a b c d e (rowX n ((a * 48 + b) * 4 + c) d e M) := ⟨_, rfl⟩
  have F1 : ∀ x, x < 48 ∨ (52 ≤ x ∧ x < 104) ∨ (105 ≤ x ∧ x < 144) ∨ 149 ≤ x → N x = M x := by
    intro x hx
    rw [hN]
    unfold rowM rowX
    rw [xu_cell _ _ _ (by omega), xu_cell _ _ _ (by omega), xu_cell _ _ _ (by omega), xu_cell _ _ _ (by omega), xu_cell _ _ _ (by omega), xu_cell _ _ _ (by omega), xu_cell _ _ _ (by omega), xu_cell _ _ _ (by omega), xu_cell _ _ _ (by omega), xu_cell _ _ _ (by omega), xu_cell _ _ _ (by omega), xu_cell _ _ _ (by omega), xu_cell _ _ _ (by omega)]
  have F4 : ∀ k, N 104 k = if k = 59 then (n : Int) + 1 else if k = 61 then e else M 104 k := by intro k; rw [hN]; simp [rowM, rowX, xu]
  have F8 : ∀ k, N 48 k = if k = 13 then 1 else if k = 10 then e else if k = 0 then (n : Int) + 1 else M 48 k := by intro k; rw [hN]; simp [rowM, rowX, xu]
  have c144 : ∀ r, N 144 r = if r = n then a else M 144 r := by intro k; rw [hN]; simp [rowM, rowX, xu]
  have c145 : ∀ r, N 145 r = if r = n then b else M 145 r := by intro k; rw [hN]; simp [rowM, rowX, xu]
  have c146 : ∀ r, N 146 r = if r = n then c else M 146 r := by intro k; rw [hN]; simp [rowM, rowX, xu]
  have c147 : ∀ r, N 147 r = if r = n then d else M 147 r := by intro k; rw [hN]; simp [rowM, rowX, xu]
  have c148 : ∀ r, N 148 r = if r = n then e else M 148 r := by intro k; rw [hN]; simp [rowM, rowX, xu]
  have c49 : ∀ r, N 49 r = if r = n then (a * 48 + b) * 4 + c else M 49 r := by intro k; rw [hN]; simp [rowM, rowX, xu]
  have c50 : ∀ r, N 50 r = if r = n then d else M 50 r := by intro k; rw [hN]; simp [rowM, rowX, xu]
  have c51 : ∀ r, N 51 r = if r = n then e else M 51 r := by intro k; rw [hN]; simp [rowM, rowX, xu]
  have w0' : N 48 0 = (n : Int) + 1 := by rw [F8]; simp
  have w4 : N 48 4 = M 48 4 := by rw [F8]; simp
  have w10 : N 48 10 = e := by rw [F8]; simp
  have w11 : N 48 11 = M 48 11 := by rw [F8]; simp
  have w13 : N 48 13 = 1 := by rw [F8]; simp
  have v59 : N 104 59 = (n : Int) + 1 := by rw [F4]; simp
  have v60 : N 104 60 = M 104 60 := by rw [F4]; simp
  have v61 : N 104 61 = e := by rw [F4]; simp
  have v62 : N 104 62 = M 104 62 := by rw [F4]; simp
  rw [← hN]
  refine h.book hp hl (fun x hx => F1 x (by omega)) (fun k hk => by rw [F4, if_neg (by omega), if_neg (by omega)]) ?_ ?_ (EvOK_of q4 (fun k hk => F1 _ (by omega)) w4 (fun x _ _ => F1 x (by omega)) (fun x _ _ => F1 x (by omega))) (by rw [F1 154 (by decide), F1 57 (by decide)]; exact q5) w13
  · unfold BcOK
    rw [w0', w4, w10, w11, v59, v60, v61, v62]
    exact ⟨⟨by omega, by omega, rfl⟩, b2, ⟨by omega, by omega, rfl⟩, b4⟩
  · intro r hr
    rw [w0'] at hr
    rw [c144, c145, c146, c147, c148, c49, c50, c51]
    by_cases z : r = n
    · simp only [if_pos z]
      exact ⟨⟨ha.1, by omega⟩, hb, hc, trivial, trivial, hd, trivial⟩
    · simp only [if_neg z]
      exact q3 r (by omega)
theorem IvM.ev {pn ln : Nat} {M : xM} (h : IvM pn ln M) (hp : pn = 8 ∨ pn = 20) (hl : ln = 32 ∨ ln = 40) {s a b t m k : Int} (ha : 0 ≤ a ∧ a < M pn 0) (hb : 0 ≤ b ∧ b < 48) (hk : 0 ≤ k ∧ k < 100) (hn : M 48 4 < 40) (hs : s = 0 ∨ (s = 1 ∧ t = m ∧ (1 ≤ m ∧ m ≤ 100) ∧ M (pn + 3) a.toNat = 2) ∨ (s = 2 ∧ t = m ∧ b ≤ m ∧ m < 48)) : IvM pn ln (evM (M 48 4).toNat s a b t k (evX (M 48 4).toNat s a b m k M)) := by
  obtain ⟨q1, q2, q3, q4, q5⟩ := h.2.2.2.1
  obtain ⟨b1, b2, b3, b4⟩ := q2
  obtain ⟨n, hn0⟩ : ∃ n : Nat, M 48 4 = (n : Int) := ⟨(M 48 4).toNat, by omega⟩
  rw [show (M 48 4).toNat = n by omega]
  obtain ⟨N, hN⟩ : ∃ N, N = evM n s a b t k (evX n s a b m k M) := ⟨_, rfl⟩
  have F1 : ∀ x, x < 48 ∨ (49 ≤ x ∧ x < 52) ∨ (57 ≤ x ∧ x < 104) ∨ (105 ≤ x ∧ x < 149) ∨ 154 ≤ x → N x = M x := by
    intro x hx
    rw [hN]
    unfold evM evX
    rw [xu_cell _ _ _ (by omega), xu_cell _ _ _ (by omega), xu_cell _ _ _ (by omega), xu_cell _ _ _ (by omega), xu_cell _ _ _ (by omega), xu_cell _ _ _ (by omega), xu_cell _ _ _ (by omega), xu_cell _ _ _ (by omega), xu_cell _ _ _ (by omega), xu_cell _ _ _ (by omega), xu_cell _ _ _ (by omega), xu_cell _ _ _ (by omega), xu_cell _ _ _ (by omega), xu_cell _ _ _ (by omega), xu_cell _ _ _ (by omega)]
  have F4 : ∀ j, N 104 j = if j = 60 then (n : Int) + 1 else if j = 61 then k else M 104 j := by intro j; rw [hN]; simp [evM, evX, xu]
  have F8 : ∀ j, N 48 j = if j = 13 then 1 else if j = 10 then k else if j = 4 then (n : Int) + 1 else M 48 j := by intro j; rw [hN]; simp [evM, evX, xu]
  have c149 : ∀ r, N 149 r = if r = n then s else M 149 r := by intro j; rw [hN]; simp [evM, evX, xu]
  have c150 : ∀ r, N 150 r = if r = n then a else M 150 r := by intro j; rw [hN]; simp [evM, evX, xu]
  have c151 : ∀ r, N 151 r = if r = n then b else M 151 r := by intro j; rw [hN]; simp [evM, evX, xu]
  have c152 : ∀ r, N 152 r = if r = n then t else M 152 r := by intro j; rw [hN]; simp [evM, evX, xu]
  have c153 : ∀ r, N 153 r = if r = n then k else M 153 r := by intro j; rw [hN]; simp [evM, evX, xu]
  have c52 : ∀ r, N 52 r = if r = n then s else M 52 r := by intro j; rw [hN]; simp [evM, evX, xu]
  have c53 : ∀ r, N 53 r = if r = n then a else M 53 r := by intro j; rw [hN]; simp [evM, evX, xu]
  have c54 : ∀ r, N 54 r = if r = n then b else M 54 r := by intro j; rw [hN]; simp [evM, evX, xu]
  have c55 : ∀ r, N 55 r = if r = n then m else M 55 r := by intro j; rw [hN]; simp [evM, evX, xu]
  have c56 : ∀ r, N 56 r = if r = n then k else M 56 r := by intro j; rw [hN]; simp [evM, evX, xu]
  have w0' : N 48 0 = M 48 0 := by rw [F8]; simp
  have w4 : N 48 4 = (n : Int) + 1 := by rw [F8]; simp
  have w10 : N 48 10 = k := by rw [F8]; simp
  have w11 : N 48 11 = M 48 11 := by rw [F8]; simp
  have w13 : N 48 13 = 1 := by rw [F8]; simp
  have v59 : N 104 59 = M 104 59 := by rw [F4]; simp
  have v60 : N 104 60 = (n : Int) + 1 := by rw [F4]; simp
  have v61 : N 104 61 = k := by rw [F4]; simp
  have v62 : N 104 62 = M 104 62 := by rw [F4]; simp
  have ep : N pn = M pn := F1 pn (by omega)
  have ep3 : N (pn + 3) = M (pn + 3) := F1 (pn + 3) (by omega)
  rw [← hN]
  refine h.book hp hl (fun x hx => F1 x (by omega)) (fun j hj => by rw [F4, if_neg (by omega), if_neg (by omega)]) ?_ (RowOK_of q3 w0' (fun x _ _ => F1 x (by omega)) (fun x _ _ => F1 x (by omega))) ?_ (by rw [F1 154 (by decide), F1 57 (by decide)]; exact q5) w13
  · unfold BcOK
    rw [w0', w4, w10, w11, v59, v60, v61, v62]
    exact ⟨b1, ⟨by omega, by omega, rfl⟩, ⟨by omega, by omega, rfl⟩, b4⟩
  · intro r hr
    rw [w4] at hr
    rw [c149, c150, c151, c152, c153, c52, c53, c54, c55, c56, ep, ep3]
    by_cases z : r = n
    · simp only [if_pos z]
      exact ⟨⟨trivial, trivial, trivial, trivial⟩, ha, hb, hs⟩
    · simp only [if_neg z]
      exact q4 r (by omega)
theorem IvM.warmth {pn ln : Nat} {M : xM} (h : IvM pn ln M) (hp : pn = 8 ∨ pn = 20) (hl : ln = 32 ∨ ln = 40) (i : Nat) (v : Int) : IvM pn ln (xu (xu (xu M 57 i v) 48 13 1) 154 i v) := by
  obtain ⟨q1, q2, q3, q4, q5⟩ := h.2.2.2.1
  obtain ⟨N, hN⟩ : ∃ N, N = xu (xu (xu M 57 i v) 48 13 1) 154 i v := ⟨_, rfl⟩
  have F1 : ∀ x, x ≠ 48 → x ≠ 57 → x ≠ 154 → N x = M x := by
    intro x h1 h2 h3
    rw [hN, xu_cell _ _ _ h3, xu_cell _ _ _ h1, xu_cell _ _ _ h2]
  have F8 : ∀ k, N 48 k = if k = 13 then 1 else M 48 k := by intro k; rw [hN]; simp [xu]
  have c57 : ∀ r, N 57 r = if r = i then v else M 57 r := by intro k; rw [hN]; simp [xu]
  have c154 : ∀ r, N 154 r = if r = i then v else M 154 r := by intro k; rw [hN]; simp [xu]
  have e4 : N 104 = M 104 := F1 104 (by decide) (by decide) (by decide)
  rw [← hN]
  refine h.book hp hl (fun x hx => F1 x (by omega) (by omega) (by omega)) (fun k hk => by rw [e4]) (BcOK_of q2 (fun k hk => by rw [F8, if_neg (by omega)]) (fun k _ _ => by rw [e4])) (RowOK_of q3 (by rw [F8, if_neg (by decide)]) (fun x _ _ => F1 x (by omega) (by omega) (by omega)) (fun x _ _ => F1 x (by omega) (by omega) (by omega))) (EvOK_of q4 (fun k hk => F1 _ (by omega) (by omega) (by omega)) (by rw [F8, if_neg (by decide)]) (fun x _ _ => F1 x (by omega) (by omega) (by omega)) (fun x _ _ => F1 x (by omega) (by omega) (by omega))) ?_ (by rw [F8, if_pos rfl])
  intro j hj
  rw [c57, c154, q5 j hj]
theorem IvM.asof {pn ln : Nat} {M : xM} (h : IvM pn ln M) (hp : pn = 8 ∨ pn = 20) (hl : ln = 32 ∨ ln = 40) {a : Int} (ha : 0 ≤ a ∧ a < 100) : IvM pn ln (xu (xu (xu M 48 11 a) 48 13 1) 104 62 a) := by
  obtain ⟨q1, q2, q3, q4, q5⟩ := h.2.2.2.1
  obtain ⟨b1, b2, b3, b4⟩ := q2
  obtain ⟨N, hN⟩ : ∃ N, N = xu (xu (xu M 48 11 a) 48 13 1) 104 62 a := ⟨_, rfl⟩
  have F1 : ∀ x, x ≠ 48 → x ≠ 104 → N x = M x := by
    intro x h1 h2
    rw [hN, xu_cell _ _ _ h2, xu_cell _ _ _ h1, xu_cell _ _ _ h1]
  have F8 : ∀ k, N 48 k = if k = 13 then 1 else if k = 11 then a else M 48 k := by intro k; rw [hN]; simp [xu]
  have F4 : ∀ k, N 104 k = if k = 62 then a else M 104 k := by intro k; rw [hN]; simp [xu]
  have w0' : N 48 0 = M 48 0 := by rw [F8]; simp
  have w4 : N 48 4 = M 48 4 := by rw [F8]; simp
  have w10 : N 48 10 = M 48 10 := by rw [F8]; simp
  have w11 : N 48 11 = a := by rw [F8]; simp
  have v62 : N 104 62 = a := by rw [F4]; simp
  rw [← hN]
  refine h.book hp hl (fun x hx => F1 x (by omega) (by omega)) (fun k hk => by rw [F4, if_neg (by omega)]) ?_ (RowOK_of q3 w0' (fun x _ _ => F1 x (by omega) (by omega)) (fun x _ _ => F1 x (by omega) (by omega))) (EvOK_of q4 (fun k hk => F1 _ (by omega) (by omega)) w4 (fun x _ _ => F1 x (by omega) (by omega)) (fun x _ _ => F1 x (by omega) (by omega))) (by rw [F1 154 (by decide) (by decide), F1 57 (by decide) (by decide)]; exact q5) (by rw [F8, if_pos rfl])
  unfold BcOK
  rw [w0', w4, w10, w11, v62, F4 59, F4 60, F4 61, if_neg (by decide), if_neg (by decide), if_neg (by decide)]
  exact ⟨b1, b2, b3, by omega, by omega, rfl⟩
