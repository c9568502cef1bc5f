/-! ===== rowOf: all words, in the model ===== -/
theorem rowOf_F456 {R : xR} {pn ps ln ls : Nat} (hR : RG R pn ps ln ls) {L : Nat} (hL : L ≤ 4) (l2 l4 : Int) (q : Int → Int → Int → Int → Int → xM → Option (Int × xM)) (v5 v6 v7 v9 : Int) : ∀ (k f v : Nat) (M : xM), k < f → v + k = L → M_rowOf_F456 R 104 l2 l4 q f v5 v6 v7 (L : Int) v9 (v : Int) M = q v5 v6 v7 (L : Int) v9 (xrow M 170 (fun i => if v ≤ i ∧ i < L then M 168 i else M 170 i)) := by
  have r7 : R 104 97 = 168 := by rw [hR.at 104 97 (by decide) (by decide)]; exact xR0_ro.2.2.2.1
  have r0 : R 104 100 = 170 := by rw [hR.at 104 100 (by decide) (by decide)]; exact xR0_ro.2.2.2.2
  intro k
  induction k with
  | zero =>
    intro f v M hf hv
    obtain ⟨f, rfl⟩ : ∃ g, f = g + 1 := ⟨f - 1, by omega⟩
    rw [M_rowOf_F456, if_neg (by omega)]
    have e : (fun i => if v ≤ i ∧ i < L then M 168 i else M 170 i) = M 170 := by
      funext i
      rw [if_neg (by omega)]
    rw [e, xrow_self]
  | succ k ih =>
    intro f v M hf hv
    obtain ⟨f, rfl⟩ : ∃ g, f = g + 1 := ⟨f - 1, by omega⟩
    rw [M_rowOf_F456, if_pos (by omega), xch_pos (by omega), xl_eq, xl_eq, r7, r0, Int.toNat_natCast, w32_of (x := (v : Int) + 1) (by omega) (by omega), show (v : Int) + 1 = ((v + 1 : Nat) : Int) by omega, ih f (v + 1) _ (by omega) (by omega), xrow_xu, xu_cell _ _ _ (show (168 : Nat) ≠ 170 by decide)]
    refine congrArg (fun g => q v5 v6 v7 (L : Int) v9 (xrow M 170 g)) ?_
    funext i
    rw [xu_row]
    show (if _ then _ else (if i = v then _ else _)) = _
    by_cases h1 : i = v
    · rw [if_neg (by omega), if_pos h1, if_pos (by omega), h1]
    · rw [if_neg h1]
      by_cases h2 : v ≤ i ∧ i < L
      · rw [if_pos (by omega), if_pos h2]
      · rw [if_neg (by omega), if_neg h2]
theorem rowOf_F517 {R : xR} {pn ps ln ls : Nat} (hR : RG R pn ps ln ls) {L : Nat} (hL : L ≤ 4) (r98 : R 104 98 = 169) (q : Int → Int → xM → Option (Int × xM)) (v5 : Int) : ∀ (k f v : Nat) (M : xM), k < f → v + k = L → M_rowOf_F517 R 104 q f v5 (L : Int) (v : Int) M = q v5 (L : Int) (xrow M 169 (fun i => if v ≤ i ∧ i < L then M 170 i else M 169 i)) := by
  have r0 : R 104 100 = 170 := by rw [hR.at 104 100 (by decide) (by decide)]; exact xR0_ro.2.2.2.2
  intro k
  induction k with
  | zero =>
    intro f v M hf hv
    obtain ⟨f, rfl⟩ : ∃ g, f = g + 1 := ⟨f - 1, by omega⟩
    rw [M_rowOf_F517, if_neg (by omega)]
    have e : (fun i => if v ≤ i ∧ i < L then M 170 i else M 169 i) = M 169 := by
      funext i
      rw [if_neg (by omega)]
    rw [e, xrow_self]
  | succ k ih =>
    intro f v M hf hv
    obtain ⟨f, rfl⟩ : ∃ g, f = g + 1 := ⟨f - 1, by omega⟩
    rw [M_rowOf_F517, if_pos (by omega), xch_pos (by omega), xl_eq, xl_eq, r0, r98, Int.toNat_natCast, w32_of (x := (v : Int) + 1) (by omega) (by omega), show (v : Int) + 1 = ((v + 1 : Nat) : Int) by omega, ih f (v + 1) _ (by omega) (by omega), xrow_xu, xu_cell _ _ _ (show (170 : Nat) ≠ 169 by decide)]
    refine congrArg (fun g => q v5 (L : Int) (xrow M 169 g)) ?_
    funext i
    rw [xu_row]
    show (if _ then _ else (if i = v then _ else _)) = _
    by_cases h1 : i = v
    · rw [if_neg (by omega), if_pos h1, if_pos (by omega), h1]
    · rw [if_neg h1]
      by_cases h2 : v ≤ i ∧ i < L
      · rw [if_pos (by omega), if_pos h2]
      · rw [if_neg (by omega), if_neg h2]
theorem rowOf_F293 {R : xR} {pn ps ln ls : Nat} (hR : RG R pn ps ln ls) {n L N : Nat} (hn : 1 ≤ n) (hn7 : n ≤ 7) (hL : L ≤ 4) (hN : N ≤ 2401) (most : Int) (q : Int → Int → Int → Int → xM → Option (Int × xM)) : ∀ (k fu r : Nat) (s : Int × Nat × (Nat → Int)) (M : xM), k < fu → r + k = N → CpB (M 166) n → PpB (M 167) → s.2.1 ≤ 4 → (∀ i, i < s.2.1 → M 170 i = s.2.2 i) →
    ∃ M', Fr [168, 170] M M' ∧ (∀ i, i < (rfld (M 166) (M 167) n L most k r s).2.1 → M' 170 i = (rfld (M 166) (M 167) n L most k r s).2.2 i) ∧ (rfld (M 166) (M 167) n L most k r s).2.1 ≤ 4 ∧ M_rowOf_F293 R 104 (n : Int) most q fu s.1 (s.2.1 : Int) (N : Int) (L : Int) (r : Int) M = q (rfld (M 166) (M 167) n L most k r s).1 ((rfld (M 166) (M 167) n L most k r s).2.1 : Int) (N : Int) (L : Int) M' := by
  intro k
  induction k with
  | zero =>
    intro fu r s M hf hk hC hP hs hb
    obtain ⟨fu, rfl⟩ : ∃ g, fu = g + 1 := ⟨fu - 1, by omega⟩
    refine ⟨M, fun _ _ => rfl, hb, hs, ?_⟩
    rw [M_rowOf_F293, if_neg (by omega)]
    rfl
  | succ k ih =>
    intro fu r s M hf hk hC hP hs hb
    obtain ⟨fu, rfl⟩ : ∃ g, fu = g + 1 := ⟨fu - 1, by omega⟩
    have J : ∀ (a b : Int) (X : xM), M_rowOf_J483 R 104 (n : Int) most (M_rowOf_F293 R 104 (n : Int) most q fu) q a b (N : Int) (L : Int) (r : Int) X = M_rowOf_F293 R 104 (n : Int) most q fu a b (N : Int) (L : Int) ((r + 1 : Nat) : Int) X := by
      intro a b X
      unfold M_rowOf_J483
      rw [xl_eq, w32_of (x := (r : Int) + 1) (by omega) (by omega)]
      rfl
    have go : ∀ (s' : Int × Nat × (Nat → Int)) (X : xM), rstp (M 166) (M 167) n L most s r = s' → Fr [168, 170] M X → s'.2.1 ≤ 4 → (∀ i, i < s'.2.1 → X 170 i = s'.2.2 i) → ∃ M', Fr [168, 170] M M' ∧ (∀ i, i < (rfld (M 166) (M 167) n L most (k + 1) r s).2.1 → M' 170 i = (rfld (M 166) (M 167) n L most (k + 1) r s).2.2 i) ∧ (rfld (M 166) (M 167) n L most (k + 1) r s).2.1 ≤ 4 ∧ M_rowOf_F293 R 104 (n : Int) most q fu s'.1 (s'.2.1 : Int) (N : Int) (L : Int) ((r + 1 : Nat) : Int) X = q (rfld (M 166) (M 167) n L most (k + 1) r s).1 ((rfld (M 166) (M 167) n L most (k + 1) r s).2.1 : Int) (N : Int) (L : Int) M' := by
      intro s' X e hX h4 h8
      have x4 : X 166 = M 166 := hX 166 (by decide)
      have x5 : X 167 = M 167 := hX 167 (by decide)
      obtain ⟨M', m1, m2, m3, m4⟩ := ih fu (r + 1) s' X (by omega) (by omega) (by rw [x4]; exact hC) (by rw [x5]; exact hP) h4 h8
      have er : rfld (M 166) (M 167) n L most (k + 1) r s = rfld (M 166) (M 167) n L most k (r + 1) s' := by
        show rfld _ _ _ _ _ k (r + 1) (rstp _ _ _ _ _ s r) = _
        rw [e]
      rw [x4, x5] at m2 m3 m4
      rw [er]
      exact ⟨M', fun c hc => (m1 c hc).trans (hX c hc), m2, m3, m4⟩
    have hL4 : (L : Int) ≤ 4 := by omega
    rw [M_rowOf_F293, if_pos (by omega), xl_eq, w32_of (x := (L : Int) - 1) (by omega) (by omega)]
    obtain ⟨b, e1, e2, e3⟩ := rowOf_F316 hR hn hn7 hL most (fun (v5_108 : Int) (v6_109 : Int) (v7_110 : Int) (v8_111 : Int) (v9_112 : Int) (v11_113 : Int) (v12_114 : Int) (M_115 : xM) =>
          if v12_114 = 0 then
            M_rowOf_J483 R 104 (n : Int) most (M_rowOf_F293 R 104 (n : Int) most q fu) q v5_108 v6_109 v7_110 v8_111 v9_112 M_115
          else
            if v5_108 = -1 then
              M_rowOf_J431 R 104 (n : Int) most (M_rowOf_F293 R 104 (n : Int) most q fu) q v5_108 v6_109 v7_110 v8_111 v9_112 v11_113 M_115
            else
              if v11_113 < v5_108 then
                M_rowOf_J431 R 104 (n : Int) most (M_rowOf_F293 R 104 (n : Int) most q fu) q v5_108 v6_109 v7_110 v8_111 v9_112 v11_113 M_115
              else
                M_rowOf_J483 R 104 (n : Int) most (M_rowOf_F293 R 104 (n : Int) most q fu) q v5_108 v6_109 v7_110 v8_111 v9_112 M_115) s.1 (s.2.1 : Int) (N : Int) (r : Int) L xfu r 0 1 M (by have : xfu = 1000000 := rfl; omega) (by omega) (by omega) (Or.inr rfl) (by omega) (by omega) (fun d _ => by
            by_cases h : d < n
            · exact Or.inl (hC d h).2
            · exact Or.inr (by omega))
    rw [e3]
    obtain ⟨w, hw⟩ : ∃ w, w = wrd n L r (M 168) := ⟨_, rfl⟩
    have hwi : ∀ i, i < L → w i = wrdW n L r i := fun i hi => by rw [hw]; exact wrd_W n L r i _ hi
    rw [Dst_W] at e2
    rw [cbk_W, ← hw]
    simp only [J]
    have y4 : xrow M 168 w 166 = M 166 := xrow_cell _ _ (by decide)
    have y5 : xrow M 168 w 167 = M 167 := xrow_cell _ _ (by decide)
    have y7 : xrow M 168 w 168 = w := xrow_at _ _ _
    have y8 : xrow M 168 w 170 = M 170 := xrow_cell _ _ (by decide)
    have fr0 : Fr [168, 170] M (xrow M 168 w) := by
      intro c hc
      simp only [List.mem_cons, List.not_mem_nil, or_false, not_or] at hc
      rw [xrow_cell _ _ hc.1]
    by_cases hb0 : b = 0
    · rw [if_pos hb0]
      refine go s _ (rstp_neg fun z => ?_) fr0 hs (by rw [y8]; exact hb)
      have := e2.2 ⟨rfl, z.1⟩
      omega
    · rw [if_neg hb0]
      have d1 := (e2.1 (by omega)).2
      have hwb : ∀ v, v < L → 0 ≤ w v ∧ w v < 7 ∧ (∀ j, j < 4 → 0 ≤ M 166 (5 * (w v).toNat + j) ∧ M 166 (5 * (w v).toNat + j) ≤ 100) := by
        intro v hv
        have a := wrdW_in (n := n) (L := L) (r := r) hn hv
        rw [← hwi v hv] at a
        have b := hC (w v).toNat (by omega)
        exact ⟨by omega, by omega, b.1⟩
      rw [Int.zero_add]
      have K : (s.1 = -1 ∨ cbk (M 166) (wrdW n L r) L < s.1) → ∃ M', Fr [168, 170] M M' ∧ (∀ i, i < (rfld (M 166) (M 167) n L most (k + 1) r s).2.1 → M' 170 i = (rfld (M 166) (M 167) n L most (k + 1) r s).2.2 i) ∧ (rfld (M 166) (M 167) n L most (k + 1) r s).2.1 ≤ 4 ∧ M_rowOf_J431 R 104 (n : Int) most (M_rowOf_F293 R 104 (n : Int) most q fu) q s.1 (s.2.1 : Int) (N : Int) (L : Int) (r : Int) (cbk (M 166) (wrdW n L r) L) (xrow M 168 w) = q (rfld (M 166) (M 167) n L most (k + 1) r s).1 ((rfld (M 166) (M 167) n L most (k + 1) r s).2.1 : Int) (N : Int) (L : Int) M' := by
        intro hlt
        have hg := passes_F4 hR (M := xrow M 168 w) (L := L) (by rw [y4, y7]; exact ⟨hL, hwb⟩) (by rw [y5]; exact hP) 4 xfu 0 0 (by have : xfu = 1000000 := rfl; omega) (by omega) (by omega) (by omega)
        rw [y4, y5, y7] at hg
        have hg' : f_M_passes R 104 (L : Int) (xrow M 168 w) = some (pss (M 166) (wrdW n L r) (M 167) L 4 0 0) := by
          refine hg.trans ?_
          rw [hw, pss_W]
        unfold M_rowOf_J431
        rw [hg', xb1_some]
        simp only [J]
        by_cases hm : most < pss (M 166) (wrdW n L r) (M 167) L 4 0 0
        · rw [if_pos hm]
          refine go s _ (rstp_neg fun z => ?_) fr0 hs (by rw [y8]; exact hb)
          have := z.2.2
          omega
        · rw [if_neg hm]
          have hc := rowOf_F456 hR hL (n : Int) most (fun (v5_126 : Int) (v6_127 : Int) (v7_128 : Int) (v8_129 : Int) (v9_130 : Int) (M_131 : xM) =>
        M_rowOf_J483 R 104 (n : Int) most (M_rowOf_F293 R 104 (n : Int) most q fu) q v5_126 v6_127 v7_128 v8_129 v9_130 M_131) (cbk (M 166) (wrdW n L r) L) (L : Int) (N : Int) (r : Int) L xfu 0 (xrow M 168 w) (by have : xfu = 1000000 := rfl; omega) (by omega)
          rw [show ((0 : Nat) : Int) = 0 from rfl] at hc
          rw [hc]
          simp only [J]
          refine go (cbk (M 166) (wrdW n L r) L, L, wrdW n L r) _ (rstp_pos ⟨d1, hlt, by omega⟩) ?_ hL ?_
          · intro c hc
            have hc' := hc
            simp only [List.mem_cons, List.not_mem_nil, or_false, not_or] at hc'
            rw [xrow_cell _ _ hc'.2]
            exact fr0 c hc
          · intro i hi
            have hi' : i < L := hi
            show xrow _ 170 _ 170 i = wrdW n L r i
            rw [xrow_at, if_pos ⟨by omega, hi'⟩, y7, hwi i hi']
      by_cases h1 : s.1 = -1
      · rw [if_pos h1]
        exact K (Or.inl h1)
      · rw [if_neg h1]
        by_cases h2 : cbk (M 166) (wrdW n L r) L < s.1
        · rw [if_pos h2]
          exact K (Or.inr h2)
        · rw [if_neg h2]
          refine go s _ (rstp_neg fun z => ?_) fr0 hs (by rw [y8]; exact hb)
          rcases z.2.1 with z | z
          · exact h1 z
          · exact h2 z
