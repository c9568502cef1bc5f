theorem lin_of {P : xM} {x y : Nat → Int} {s : Int} {n : Nat} (hs : 0 ≤ s ∧ s ≤ 1000) (hn : P 104 104 = n) (h5 : P 104 105 = s) (hx : ∀ v, v < n → P 172 v = x v ∧ 0 ≤ x v ∧ x v ≤ 999) (hy : ∀ v, v < n → P 173 v = y v ∧ 0 ≤ y v ∧ y v ≤ 99999) {g h : Nat → Int} (hg : ∀ i, i < 100 → g i = 0) (hh : ∀ i, i < 100 → h i = 999) (e2 : P 102 = loS x y s n 0 g) (e3 : P 103 = hiS x y s n 0 h) : Lin P := by
  intro m hm
  have g0 := hg m hm
  have g9 := hh m hm
  have L := fun c : Int => loS_le (x := x) (y := y) (s := s) (c := c) hm n 0 g
  have H := fun c : Int => le_hiS (x := x) (y := y) (s := s) (c := c) hm n 0 h
  rw [e2, e3]
  have hm' : ∀ u, u < n → 0 ≤ (m : Int) * x u ∧ (m : Int) * x u ≤ 98901 := fun u hu => mx_le (by omega) (by omega) (hx u hu).2.1 (hx u hu).2.2
  refine ⟨⟨?_, ?_⟩, ⟨?_, ?_⟩, fun c hc => ?_⟩
  · refine Classical.byContradiction fun q => ?_
    have := ((L (-1)).1 (by omega)).1
    omega
  · refine (L 200000).2 ⟨by omega, fun u _ hu => ?_⟩
    have := hm' u (by omega)
    have := hy u (by omega)
    omega
  · refine (H (-200000)).2 ⟨by omega, fun u _ hu => ?_⟩
    have := hm' u (by omega)
    have := hy u (by omega)
    omega
  · refine Classical.byContradiction fun q => ?_
    have := ((H 1000).1 (by omega)).1
    omega
  · rw [L c, H c]
    unfold Fit Fit1
    rw [hn, h5]
    constructor
    · intro q
      refine ⟨⟨by omega, fun u _ hu => ?_⟩, by omega, fun u _ hu => ?_⟩
      · have a := q u (by omega)
        rw [(hx u (by omega)).1, (hy u (by omega)).1] at a
        omega
      · have a := q u (by omega)
        rw [(hx u (by omega)).1, (hy u (by omega)).1] at a
        omega
    · intro q v hv
      have a := q.1.2 v (by omega) (by omega)
      have b := q.2.2 v (by omega) (by omega)
      rw [(hx v (by omega)).1, (hy v (by omega)).1]
      omega
theorem isSpan_eq (d : Int) : f_X_isSpan d = some (if 0 ≤ d ∧ d ≤ 1000 then 1 else 0) := by
  unfold f_X_isSpan
  by_cases h : d < 0
  · rw [if_pos h, if_neg (by omega)]
  · by_cases h2 : 1000 < d
    · rw [if_neg h, if_pos h2, if_neg (by omega)]
    · rw [if_neg h, if_neg h2, if_pos (by omega)]
/-- what a gauge changes -/
def GF (M N : xM) : Prop := (∀ x, x ∉ [1, 93, 102, 103, 104, 172, 173] → N x = M x) ∧ (∀ k, k ≠ 11 → N 93 k = M 93 k) ∧ (∀ k, k ≠ 0 → k ≠ 104 → k ≠ 105 → k ≠ 106 → N 104 k = M 104 k) ∧ (∀ k, k ≠ 0 → N 1 k = M 1 k) ∧ N 1 0 = 0 ∧ N 104 0 = 0
/-- the part of gauge where all is in range -/
theorem gauge_in {R : xR} {M : xM} {pn ps ln ls : Nat} (hR : RG R pn ps ln ls) {t u n : Nat} {d : Int} (ht : t < 4) (hu : u < 4) (hn : n ≤ 10) (hd : 0 ≤ d ∧ d ≤ 1000)
    (hB : ∀ i, i < n → (0 ≤ M 5 (60 * t + i) ∧ M 5 (60 * t + i) ≤ 999) ∧ 0 ≤ M 5 (60 * u + i) ∧ M 5 (60 * u + i) ≤ 99999)
    (e1 : ∀ i, i < n → M 107 (60 * t + i) = M 5 (60 * t + i)) (e2 : ∀ i, i < n → M 107 (60 * u + i) = M 5 (60 * u + i)) :
    ∃ (r : Int) (M1 M2 : xM), (xb1 (f_P_clearLines R 93 M) fun M_42 =>
                  X_gauge_F107 R 1 (t : Int) (u : Int) (n : Int) d
                    (fun (M_52 : xM) =>
                      xb1 (f_P_countLines R 93 M_52) fun r_53 =>
                      xb2 (f_X_answer 1 r_53 M_52) fun r_55 M_56 =>
                      some (r_55, M_56))
                    xfu 0 M_42) = some (r, M1) ∧ (∀ x, x ∉ [1, 93, 102, 103] → M1 x = M x) ∧ M_gauge_F99 R 104 (t : Int) (u : Int) (n : Int) d
                        (fun (M_56 : xM) =>
                          M_gauge_F142 R 104 (t : Int) (u : Int) (n : Int) d
                            (fun (M_66 : xM) =>
                              xl (xu M_66 104 104 (n : Int)) fun M_67 =>
                              xl (xu M_67 104 105 d) fun M_68 =>
                              M_gauge_F196 R 104 (t : Int) (u : Int) (n : Int)
                                (fun (M_76 : xM) =>
                                  xl (xu M_76 104 106 0) fun M_77 =>
                                  M_gauge_F256 R 104
                                    xfu 0 M_77)
                                xfu 0 M_68)
                            xfu 0 M_56)
                        xfu 0 M1 = some (r, M2) ∧ GgOK M2 ∧ GF M M2 := by
  have xf : xfu = 1000000 := rfl
  rw [clear_eq hR, xb1_some]
  obtain ⟨C, hC⟩ : ∃ C, C = xfil (xfil (xu M 93 11 1) 102 0 100 0) 103 0 100 999 := ⟨_, rfl⟩
  rw [← hC]
  have cO : ∀ x, x ≠ 93 → x ≠ 102 → x ≠ 103 → C x = M x := fun x h1 h2 h3 => by rw [hC, xfil_cell _ _ _ _ h3, xfil_cell _ _ _ _ h2, xu_cell _ _ _ h1]
  have c93 : ∀ k, C 93 k = if k = 11 then 1 else M 93 k := fun k => by rw [hC, xfil_cell _ _ _ _ (by decide), xfil_cell _ _ _ _ (by decide), xu_at]
  have c2 : ∀ i, i < 100 → C 102 i = 0 := fun i hi => by rw [hC, xfil_cell _ _ _ _ (by decide), xfil_at, if_pos (by omega)]
  have c3 : ∀ i, i < 100 → C 103 i = 999 := fun i hi => by rw [hC, xfil_at, if_pos (by omega)]
  have c5 : C 5 = M 5 := cO 5 (by decide) (by decide) (by decide)
  obtain ⟨D, hD⟩ : ∃ D, D = x2row C (loS (fun i => C 5 (60 * t + i)) (fun i => C 5 (60 * u + i)) d n 0 (C 102)) (hiS (fun i => C 5 (60 * t + i)) (fun i => C 5 (60 * u + i)) d n 0 (C 103)) := ⟨_, rfl⟩
  have dO : ∀ x, x ≠ 102 → x ≠ 103 → D x = C x := fun x h1 h2 => by rw [hD, x2row_cell _ _ _ h1 h2]
  have d2 : D 102 = loS (fun i => M 5 (60 * t + i)) (fun i => M 5 (60 * u + i)) d n 0 (C 102) := by rw [hD, x2row_lo, c5]
  have d3 : D 103 = hiS (fun i => M 5 (60 * t + i)) (fun i => M 5 (60 * u + i)) d n 0 (C 103) := by rw [hD, x2row_hi, c5]
  obtain ⟨E, hE⟩ : ∃ E, E = xu D 1 0 0 := ⟨_, rfl⟩
  have eO : ∀ x, x ≠ 1 → E x = D x := fun x h => by rw [hE, xu1_c _ _ h]
  have eM : ∀ x, x ∉ [1, 93, 102, 103] → E x = M x := fun x h => by
    have h1 : x ≠ 1 := fun q => h (by simp [q])
    have h2 : x ≠ 93 := fun q => h (by simp [q])
    have h3 : x ≠ 102 := fun q => h (by simp [q])
    have h4 : x ≠ 103 := fun q => h (by simp [q])
    rw [eO x h1, dO x h3 h4, cO x h2 h3 h4]
  have e7 : E 107 = M 107 := eM 107 (by decide)
  obtain ⟨K, hK⟩ : ∃ K, K = xu (xu E 104 104 (n : Int)) 104 105 d := ⟨_, rfl⟩
  have kO : ∀ x, x ≠ 104 → K x = E x := fun x h => by rw [hK, xu_cell _ _ _ h, xu_cell _ _ _ h]
  have k4 : ∀ k, K 104 k = if k = 105 then d else if k = 104 then (n : Int) else E 104 k := fun k => by rw [hK, xu_at, xu_at]
  have k7 : K 107 = M 107 := by rw [kO 107 (by decide), e7]
  obtain ⟨N, n1, n2, n3, n4⟩ := gauge_F196 hR ht hu hn (fun (M_76 : xM) =>
                                  xl (xu M_76 104 106 0) fun M_77 =>
                                  M_gauge_F256 R 104
                                    xfu 0 M_77) n xfu 0 K (by omega) (by omega) (fun i hi => by rw [k7, e1 i hi, e2 i hi]; exact hB i hi)
  obtain ⟨P, hP⟩ : ∃ P, P = xu N 104 106 0 := ⟨_, rfl⟩
  have pO : ∀ x, x ≠ 104 → P x = N x := fun x h => by rw [hP, xu_cell _ _ _ h]
  have p4 : ∀ k, P 104 k = if k = 106 then 0 else K 104 k := fun k => by rw [hP, xu_at, n2 104 (by decide) (by decide)]
  have p44 : P 104 104 = n := by rw [p4, if_neg (by decide), k4, if_neg (by decide), if_pos rfl]
  have p45 : P 104 105 = d := by rw [p4, if_neg (by decide), k4, if_pos rfl]
  have p46 : P 104 106 = 0 := by rw [p4, if_pos rfl]
  have p2 : P 102 = D 102 := by rw [pO 102 (by decide), n2 102 (by decide) (by decide), kO 102 (by decide), eO 102 (by decide)]
  have p3 : P 103 = D 103 := by rw [pO 103 (by decide), n2 103 (by decide) (by decide), kO 103 (by decide), eO 103 (by decide)]
  have px : ∀ v, v < n → P 172 v = M 5 (60 * t + v) := fun v hv => by rw [pO 172 (by decide), n3, if_pos (by omega), k7, e1 v hv]
  have py : ∀ v, v < n → P 173 v = M 5 (60 * u + v) := fun v hv => by rw [pO 173 (by decide), n4, if_pos (by omega), k7, e2 v hv]
  have hL : Lin P := lin_of hd p44 p45 (fun v hv => ⟨px v hv, (hB v hv).1⟩) (fun v hv => ⟨py v hv, (hB v hv).2⟩) c2 c3 (by rw [p2, d2]) (by rw [p3, d3])
  have hG : GP P := ⟨by rw [p44]; omega, by rw [p45]; exact hd, fun v hv => by
    rw [p44] at hv
    rw [px v (by omega), py v (by omega)]
    exact hB v (by omega)⟩
  have hLB : LinB D := fun m hm => by
    have := hL m hm
    rw [p2, p3] at this
    exact ⟨this.1, this.2.1⟩
  have hD1 : D 93 11 = 1 := by rw [dO 93 (by decide) (by decide), c93, if_pos rfl]
  have hcnt : f_P_countLines R 93 D = some (cntS (D 102) (D 103) 100 0 0) := count_F4 hR hLB hD1 100 xfu 0 0 (by omega) (by omega) (by omega) (by omega)
  obtain ⟨r, hr⟩ : ∃ r, r = cntS (D 102) (D 103) 100 0 0 := ⟨_, rfl⟩
  obtain ⟨Q, hQ⟩ : ∃ Q, Q = xu (xu P 104 106 r) 104 0 0 := ⟨_, rfl⟩
  have qO : ∀ x, x ≠ 104 → Q x = P x := fun x h => by rw [hQ, xu_cell _ _ _ h, xu_cell _ _ _ h]
  have q4 : ∀ k, Q 104 k = if k = 0 then 0 else if k = 106 then r else P 104 k := fun k => by rw [hQ, xu_at, xu_at]
  have q44 : Q 104 104 = P 104 104 := by rw [q4, if_neg (by decide), if_neg (by decide)]
  have q45 : Q 104 105 = P 104 105 := by rw [q4, if_neg (by decide), if_neg (by decide)]
  have q46 : Q 104 106 = r := by rw [q4, if_neg (by decide), if_pos rfl]
  have qE : ∀ x, x ≠ 104 → x ≠ 172 → x ≠ 173 → Q x = E x := fun x h1 h2 h3 => by rw [qO x h1, pO x h1, n2 x h2 h3, kO x h1]
  refine ⟨r, E, Q, ?_, eM, ?_, ?_, ?_⟩
  · refine (gauge_F107 hR hd ht hu hn _ n xfu 0 C (by omega) (by omega) (by rw [c5]; exact hB)).trans ?_
    rw [← hD, hcnt, xb1_some, answer_eq, xb2_some, ← hr, ← hE]
  · refine ((gauge_F99 hR ht hn (u : Int) d _ E n xfu 0 (by omega) (by omega)).1 (fun i _ hi => by rw [e7, e1 i hi]; exact (hB i hi).1)).trans ?_
    refine ((gauge_F142 hR hu hn (t : Int) d _ E n xfu 0 (by omega) (by omega)).1 (fun i _ hi => by rw [e7, e2 i hi]; exact (hB i hi).2)).trans ?_
    rw [xl_eq, xl_eq, ← hK]
    refine n1.trans ?_
    rw [xl_eq, ← hP]
    have g := gcnt_F256 hR 100 xfu 0 P (by omega) (by omega) hG hL (by rw [p46]; omega) (by rw [p46]; omega)
    rw [p46, p2, p3, ← hr, ← hQ] at g
    exact g
  · refine Or.inr ⟨?_, GP.of q44 q45 (qO _ (by decide)) (qO _ (by decide)) hG, Lin.of q44 q45 (qO _ (by decide)) (qO _ (by decide)) (qO _ (by decide)) (qO _ (by decide)) hL, ?_⟩
    · rw [qE 93 (by decide) (by decide) (by decide), eO 93 (by decide), hD1]
    · rw [q46, hr, qO 102 (by decide), qO 103 (by decide), p2, p3]
  · refine ⟨fun x h => ?_, fun k h => ?_, fun k h0 h1 h2 h3 => ?_, fun k h => ?_, ?_, ?_⟩
    · have h1 : x ≠ 104 := fun q => h (by simp [q])
      have h2 : x ≠ 172 := fun q => h (by simp [q])
      have h3 : x ≠ 173 := fun q => h (by simp [q])
      rw [qE x h1 h2 h3]
      refine eM x fun q => h ?_
      simp at q ⊢
      omega
    · rw [qE 93 (by decide) (by decide) (by decide), eO 93 (by decide), dO 93 (by decide) (by decide), c93, if_neg h]
    · rw [q4, if_neg h0, if_neg h3, p4, if_neg h3, k4, if_neg h2, if_neg h1, eM 104 (by decide)]
    · rw [qE 1 (by decide) (by decide) (by decide), hE, xu_at, if_neg h, dO 1 (by decide) (by decide), cO 1 (by decide) (by decide) (by decide)]
    · rw [qE 1 (by decide) (by decide) (by decide), hE, xu_at, if_pos rfl]
    · rw [q4, if_pos rfl]
