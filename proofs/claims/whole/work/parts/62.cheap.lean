/-! ===== rowOf: all words in their order ===== -/
def wrdW (n L r : Nat) : Nat → Int := wrd n L r (fun _ => 0)
theorem psl_cg {f f' w w' : Nat → Int} {j : Nat} : ∀ k v x, (∀ i, v ≤ i → i < v + k → w i = w' i ∧ f (5 * (w' i).toNat + j) = f' (5 * (w' i).toNat + j)) → psl f w j k v x = psl f' w' j k v x := by
  intro k
  induction k with
  | zero => intro v x _; rfl
  | succ k ih =>
    intro v x h
    have a := h v (by omega) (by omega)
    show psl f w j k (v + 1) _ = psl f' w' j k (v + 1) _
    rw [a.1, a.2]
    exact ih _ _ fun i h1 h2 => h i (by omega) (by omega)
theorem pss_cg {f f' w w' p p' : Nat → Int} {L : Nat} (h : ∀ i, i < L → w i = w' i) (hf : ∀ i j, i < L → j < 4 → f (5 * (w' i).toNat + j) = f' (5 * (w' i).toNat + j)) (hp : ∀ j, j < 4 → p j = p' j) : ∀ k j x, j + k = 4 → pss f w p L k j x = pss f' w' p' L k j x := by
  intro k
  induction k with
  | zero => intro j x _; rfl
  | succ k ih =>
    intro j x hj
    show pss f w p L k (j + 1) _ = pss f' w' p' L k (j + 1) _
    rw [psl_cg (f := f) (f' := f') (w := w) (w' := w') L 0 (p j) (fun i _ h2 => ⟨h i (by omega), hf i j (by omega) (by omega)⟩), hp j (by omega)]
    exact ih _ _ (by omega)
/-- the row r of length L is kept -/
def Gd (f p : Nat → Int) (n L : Nat) (most b : Int) (r : Nat) : Prop := Dst (wrdW n L r) L L ∧ (b = -1 ∨ cbk f (wrdW n L r) L < b) ∧ pss f (wrdW n L r) p L 4 0 0 ≤ most
noncomputable def rstp (f p : Nat → Int) (n L : Nat) (most : Int) (s : Int × Nat × (Nat → Int)) (r : Nat) : Int × Nat × (Nat → Int) := @ite _ (Gd f p n L most s.1 r) (Classical.propDecidable _) (cbk f (wrdW n L r) L, L, wrdW n L r) s
theorem rstp_pos {f p : Nat → Int} {n L : Nat} {most : Int} {s : Int × Nat × (Nat → Int)} {r : Nat} (h : Gd f p n L most s.1 r) : rstp f p n L most s r = (cbk f (wrdW n L r) L, L, wrdW n L r) := if_pos h
theorem rstp_neg {f p : Nat → Int} {n L : Nat} {most : Int} {s : Int × Nat × (Nat → Int)} {r : Nat} (h : ¬ Gd f p n L most s.1 r) : rstp f p n L most s r = s := if_neg h
noncomputable def rfld (f p : Nat → Int) (n L : Nat) (most : Int) : Nat → Nat → Int × Nat × (Nat → Int) → Int × Nat × (Nat → Int)
  | 0, _, s => s
  | k + 1, r, s => rfld f p n L most k (r + 1) (rstp f p n L most s r)
noncomputable def rall (f p : Nat → Int) (n : Nat) (most : Int) : Nat → Nat → Int × Nat × (Nat → Int) → Int × Nat × (Nat → Int)
  | 0, _, s => s
  | k + 1, L, s => rall f p n most k (L + 1) (rfld f p n L most (n ^ L) 0 s)
/-- cleaners on paper, portions on paper -/
def CpB (f : Nat → Int) (n : Nat) : Prop := ∀ d, d < n → (∀ j, j < 4 → 0 ≤ f (5 * d + j) ∧ f (5 * d + j) ≤ 100) ∧ 0 ≤ f (5 * d + 4) ∧ f (5 * d + 4) ≤ 1000
def PpB (p : Nat → Int) : Prop := ∀ j, j < 4 → 0 ≤ p j ∧ p j ≤ 9999
theorem wrdW_in {n L r i : Nat} (hn : 1 ≤ n) (hi : i < L) : 0 ≤ wrdW n L r i ∧ wrdW n L r i < n := wrd_in hn L r _ i hi
theorem wrd_W (n L r i : Nat) (g : Nat → Int) (hi : i < L) : wrd n L r g i = wrdW n L r i := wrd_cg n L r g _ i hi
theorem Dst_W (n L r : Nat) (g : Nat → Int) : Dst (wrd n L r g) L L ↔ Dst (wrdW n L r) L L := by
  constructor
  · intro h i j h1 h2 h3
    rw [← wrd_W n L r i g (by omega), ← wrd_W n L r j g h3]
    exact h i j h1 h2 h3
  · intro h i j h1 h2 h3
    rw [wrd_W n L r i g (by omega), wrd_W n L r j g h3]
    exact h i j h1 h2 h3
theorem cbk_W {f : Nat → Int} {n L r : Nat} {g : Nat → Int} : cbk f (wrd n L r g) L = cbk f (wrdW n L r) L := cbk_cg L (fun i hi => wrd_W n L r i g hi) fun _ _ => rfl
theorem pss_W {f p : Nat → Int} {n L r : Nat} {g : Nat → Int} : pss f (wrd n L r g) p L 4 0 0 = pss f (wrdW n L r) p L 4 0 0 := pss_cg (fun i hi => wrd_W n L r i g hi) (fun _ _ _ _ => rfl) (fun _ _ => rfl) 4 0 0 rfl
theorem cbk_in {f : Nat → Int} {n L r : Nat} (hn : 1 ≤ n) (hf : CpB f n) : 0 ≤ cbk f (wrdW n L r) L ∧ cbk f (wrdW n L r) L ≤ 1000 * L := cbk_le L fun i hi => by
  have a := wrdW_in (n := n) (L := L) (r := r) hn hi
  exact (hf (wrdW n L r i).toNat (by omega)).2
theorem spell_eq {R : xR} {pn ps ln ls : Nat} (hR : RG R pn ps ln ls) {n L r : Nat} (hn : 1 ≤ n) (hn7 : n ≤ 7) (hL : L ≤ 4) (hr : r < 10000) (M : xM) : (Dst (wrdW n L r) L L ∧ f_P_spellRow R 93 (r : Int) (L : Int) (n : Int) M = some (1, xrow M 97 (wrd n L r (M 97)))) ∨ (¬ Dst (wrdW n L r) L L ∧ ∃ g, f_P_spellRow R 93 (r : Int) (L : Int) (n : Int) M = some (0, xrow M 97 g)) := by
  have h := spell_F17 hR hn hn7 hL L xfu r 0 M (by have : xfu = 1000000 := rfl; omega) (by omega) hr (by omega) (fun d _ => ⟨fun z => by rw [Nat.zero_testBit] at z; exact absurd z (by decide), fun ⟨j, h1, h2, _⟩ => by omega⟩)
  rw [Dst_W] at h
  unfold f_P_spellRow
  rw [if_pos (by omega), xl_eq, w32_of (x := (L : Int) - 1) (by omega) (by omega)]
  by_cases q : Dst (wrdW n L r) L L
  · exact Or.inl ⟨q, h.1 q⟩
  · exact Or.inr ⟨q, h.2 q⟩
theorem cheap_F26 {R : xR} {pn ps ln ls : Nat} (hR : RG R pn ps ln ls) {n L N : Nat} (hn : 1 ≤ n) (hn7 : n ≤ 7) (hL : L ≤ 4) (hN : N ≤ 2401) (most : Int) (q : Int → Int → Int → Int → xM → Option (Int × xM)) : ∀ (k fu r : Nat) (s : Int × Nat × (Nat → Int)) (M : xM), k < fu → r + k = N → CpB (M 94) n → PpB (M 95) → s.2.1 ≤ 4 → (∀ i, i < s.2.1 → M 98 i = s.2.2 i) →
    ∃ M', Fr [96, 97, 98] M M' ∧ (∀ i, i < (rfld (M 94) (M 95) n L most k r s).2.1 → M' 98 i = (rfld (M 94) (M 95) n L most k r s).2.2 i) ∧ (rfld (M 94) (M 95) n L most k r s).2.1 ≤ 4 ∧ P_cheapest_F26 R 93 (n : Int) most q fu s.1 (s.2.1 : Int) (N : Int) (L : Int) (r : Int) M = q (rfld (M 94) (M 95) n L most k r s).1 ((rfld (M 94) (M 95) n L most k r s).2.1 : Int) (N : Int) (L : Int) M' := by
  have r3 : R 93 3 = 97 := by rw [hR.at 93 3 (by decide) (by decide)]; exact xR0_ro.1.2.2.2.1
  have r4 : R 93 4 = 98 := by rw [hR.at 93 4 (by decide) (by decide)]; exact xR0_ro.1.2.2.2.2
  intro k
  induction k with
  | zero =>
    intro fu r s M hf hk hC hP hs hb
    obtain ⟨fu, rfl⟩ : ∃ g, fu = g + 1 := ⟨fu - 1, by omega⟩
    refine ⟨M, fun _ _ => rfl, hb, hs, ?_⟩
    rw [P_cheapest_F26, if_neg (by omega)]
    rfl
  | succ k ih =>
    intro fu r s M hf hk hC hP hs hb
    obtain ⟨fu, rfl⟩ : ∃ g, fu = g + 1 := ⟨fu - 1, by omega⟩
    have J : ∀ (a b : Int) (X : xM), P_cheapest_J96 R 93 (n : Int) most (P_cheapest_F26 R 93 (n : Int) most q fu) q a b (N : Int) (L : Int) (r : Int) X = P_cheapest_F26 R 93 (n : Int) most q fu a b (N : Int) (L : Int) ((r + 1 : Nat) : Int) X := by
      intro a b X
      unfold P_cheapest_J96
      rw [xl_eq, w32_of (x := (r : Int) + 1) (by omega) (by omega)]
      rfl
    have go : ∀ (s' : Int × Nat × (Nat → Int)) (X : xM), rstp (M 94) (M 95) n L most s r = s' → Fr [96, 97, 98] M X → s'.2.1 ≤ 4 → (∀ i, i < s'.2.1 → X 98 i = s'.2.2 i) → ∃ M', Fr [96, 97, 98] M M' ∧ (∀ i, i < (rfld (M 94) (M 95) n L most (k + 1) r s).2.1 → M' 98 i = (rfld (M 94) (M 95) n L most (k + 1) r s).2.2 i) ∧ (rfld (M 94) (M 95) n L most (k + 1) r s).2.1 ≤ 4 ∧ P_cheapest_F26 R 93 (n : Int) most q fu s'.1 (s'.2.1 : Int) (N : Int) (L : Int) ((r + 1 : Nat) : Int) X = q (rfld (M 94) (M 95) n L most (k + 1) r s).1 ((rfld (M 94) (M 95) n L most (k + 1) r s).2.1 : Int) (N : Int) (L : Int) M' := by
      intro s' X e hX h4 h8
      have x4 : X 94 = M 94 := hX 94 (by decide)
      have x5 : X 95 = M 95 := hX 95 (by decide)
      obtain ⟨M', m1, m2, m3, m4⟩ := ih fu (r + 1) s' X (by omega) (by omega) (by rw [x4]; exact hC) (by rw [x5]; exact hP) h4 h8
      have er : rfld (M 94) (M 95) n L most (k + 1) r s = rfld (M 94) (M 95) n L most k (r + 1) s' := by
        show rfld _ _ _ _ _ k (r + 1) (rstp _ _ _ _ _ s r) = _
        rw [e]
      rw [x4, x5] at m2 m3 m4
      rw [er]
      exact ⟨M', fun c hc => (m1 c hc).trans (hX c hc), m2, m3, m4⟩
    rw [P_cheapest_F26, if_pos (by omega)]
    simp only [J]
    rcases spell_eq hR hn hn7 hL (show r < 10000 by omega) M with ⟨d1, d2⟩ | ⟨d1, g, d2⟩
    · rw [d2, xb2_some, if_neg (by decide)]
      obtain ⟨w, hw⟩ : ∃ w, w = wrd n L r (M 97) := ⟨_, rfl⟩
      have hwi : ∀ i, i < L → w i = wrdW n L r i := fun i hi => by rw [hw]; exact wrd_W n L r i _ hi
      rw [← hw]
      have y4 : xrow M 97 w 94 = M 94 := xrow_cell _ _ (by decide)
      have y5 : xrow M 97 w 95 = M 95 := xrow_cell _ _ (by decide)
      have y7 : xrow M 97 w 97 = w := xrow_at _ _ _
      have hwb : ∀ v, v < L → 0 ≤ w v ∧ w v < 7 ∧ (∀ j, j < 4 → 0 ≤ M 94 (5 * (w v).toNat + j) ∧ M 94 (5 * (w v).toNat + j) ≤ 100) ∧ 0 ≤ M 94 (5 * (w v).toNat + 4) ∧ M 94 (5 * (w v).toNat + 4) ≤ 1000 := by
        intro v hv
        have a := wrdW_in (n := n) (L := L) (r := r) hn hv
        rw [← hwi v hv] at a
        have b := hC (w v).toNat (by omega)
        exact ⟨by omega, by omega, b.1, b.2⟩
      have hcost : f_P_costOf R 93 (L : Int) (xrow M 97 w) = some (cbk (M 94) (wrdW n L r) L) := by
        have := costOf_F4 hR (M := xrow M 97 w) hL (fun v hv => by rw [y7, y4]; have := hwb v hv; exact ⟨this.1, this.2.1, this.2.2.2⟩) L xfu 0 0 (by have : xfu = 1000000 := rfl; omega) (by omega) (by omega) (by omega)
        unfold f_P_costOf
        refine this.trans ?_
        have c := cst_cbk (M 94) w L 0 0
        have c2 : cbk (M 94) w L = cbk (M 94) (wrdW n L r) L := by rw [hw]; exact cbk_W
        have c0 : cbk (M 94) w 0 = 0 := rfl
        rw [y4, y7]
        rw [Nat.zero_add] at c
        exact congrArg some (by omega)
      rw [hcost, xb1_some]
      have hbd := cbk_in (f := M 94) (L := L) (r := r) hn hC
      have K : (s.1 = -1 ∨ cbk (M 94) (wrdW n L r) L < s.1) → ∃ M', Fr [96, 97, 98] M M' ∧ (∀ i, i < (rfld (M 94) (M 95) n L most (k + 1) r s).2.1 → M' 98 i = (rfld (M 94) (M 95) n L most (k + 1) r s).2.2 i) ∧ (rfld (M 94) (M 95) n L most (k + 1) r s).2.1 ≤ 4 ∧ P_cheapest_J64 R 93 (n : Int) most (P_cheapest_F26 R 93 (n : Int) most q fu) q s.1 (s.2.1 : Int) (N : Int) (L : Int) (r : Int) (cbk (M 94) (wrdW n L r) L) (xrow M 97 w) = q (rfld (M 94) (M 95) n L most (k + 1) r s).1 ((rfld (M 94) (M 95) n L most (k + 1) r s).2.1 : Int) (N : Int) (L : Int) M' := by
        intro hlt
        obtain ⟨g, hg⟩ := passesOf_F4 hR (L := L) 4 xfu 0 0 (xrow M 97 w) (by have : xfu = 1000000 := rfl; omega) (by omega) (by rw [y4, y7]; exact ⟨hL, fun v hv => ⟨(hwb v hv).1, (hwb v hv).2.1, (hwb v hv).2.2.1⟩⟩) (by rw [y5]; exact hP) (by omega) (by omega)
        rw [y4, y5, y7] at hg
        have hg' : f_P_passesOf R 93 (L : Int) (xrow M 97 w) = some (pss (M 94) (wrdW n L r) (M 95) L 4 0 0, xrow (xrow M 97 w) 96 g) := by
          refine hg.trans ?_
          rw [hw, pss_W]
        unfold P_cheapest_J64
        rw [hg', xb2_some]
        simp only [J]
        have fr0 : Fr [96, 97, 98] M (xrow (xrow M 97 w) 96 g) := by
          intro c hc
          simp only [List.mem_cons, List.not_mem_nil, or_false, not_or] at hc
          rw [xrow_cell _ _ hc.1, xrow_cell _ _ hc.2.1]
        by_cases hm : most < pss (M 94) (wrdW n L r) (M 95) L 4 0 0
        · rw [if_pos hm]
          refine go s _ (rstp_neg fun z => ?_) fr0 hs ?_
          · have := z.2.2
            omega
          · rw [xrow_cell _ _ (by decide), xrow_cell _ _ (by decide)]
            exact hb
        · rw [if_neg hm, xch_pos (by omega), xl_eq, r3, r4]
          refine go (cbk (M 94) (wrdW n L r) L, L, wrdW n L r) _ (rstp_pos ⟨d1, hlt, by omega⟩) ?_ hL ?_
          · intro c hc
            have hc' := hc
            simp only [List.mem_cons, List.not_mem_nil, or_false, not_or] at hc'
            rw [xcpy_cell _ _ _ _ hc'.2.2]
            exact fr0 c hc
          · intro i hi
            have hi' : i < L := hi
            show xcpy _ 97 98 _ _ _ 98 i = wrdW n L r i
            rw [xcpy_at, if_pos (by simp only [Int.toNat_natCast]; exact ⟨by omega, by have : Int.toNat 0 = 0 := rfl; omega⟩), xrow_cell _ _ (by decide), xrow_at, ← hwi i hi']
            exact congrArg w (by have : Int.toNat 0 = 0 := rfl; omega)
      by_cases h1 : s.1 = -1
      · rw [if_pos h1]
        exact K (Or.inl h1)
      · rw [if_neg h1]
        by_cases h2 : cbk (M 94) (wrdW n L r) L < s.1
        · rw [if_pos h2]
          exact K (Or.inr h2)
        · rw [if_neg h2]
          refine go s _ (rstp_neg fun z => ?_) ?_ hs ?_
          · rcases z.2.1 with z | z
            · exact h1 z
            · exact h2 z
          · intro c hc
            simp only [List.mem_cons, List.not_mem_nil, or_false, not_or] at hc
            rw [xrow_cell _ _ hc.2.1]
          · rw [xrow_cell _ _ (by decide)]
            exact hb
    · rw [d2, xb2_some, if_pos rfl]
      refine go s _ (rstp_neg fun z => d1 z.1) ?_ hs ?_
      · intro c hc
        simp only [List.mem_cons, List.not_mem_nil, or_false, not_or] at hc
        rw [xrow_cell _ _ hc.2.1]
      · rw [xrow_cell _ _ (by decide)]
        exact hb
