theorem hour_F143 {R : xR} {pn ps ln ls : Nat} (hR : RG R pn ps ln ls) {h c : Nat} (hh : h < 48) (hc : c < 8) {W S : xM} (hW : WC W h c) {B : Int} (hB2 : B ≤ 2000000) (hCB : CB B h c S) (Q : Int → xM → Option xM) : ∀ (k f s : Nat) (M U : xM), k < f → s + k = 4 → Ag12 155 h M U → WMc R h c W M → (∀ t, t < 4 → nn12 h t U) → (∀ t, s ≤ t → t < 4 → tot (c + 1) h t U = tot (c + 1) h t S) → (∀ t, t < 4 → U 2 (4 * c + t) = S 2 (4 * c + t)) →
    (∀ t, t < 4 → M 159 (4 * c + t) = cFl W h c S (4 * c + t)) → (∀ t, s ≤ t → t < 4 → M 160 (4 * c + t) = cL1 W h c S (4 * c + t) ∧ M 161 (4 * c + t) = cA1 W h c S (4 * c + t) ∧ M 162 (4 * c + t) = S 7 (4 * c + t)) → (∀ t, t < s → M 158 (4 * c + t) = cHd W h c S (4 * c + t) ∧ M 160 (4 * c + t) = cL2 W h c S (4 * c + t) ∧ M 161 (4 * c + t) = cA2 W h c S (4 * c + t) ∧ M 162 (4 * c + t) = cLf W h c S (4 * c + t)) →
    ∃ M', M_hour_F143 R 104 (h : Int) Q f (c : Int) (cIt W h c S) (s : Int) M = Q (c : Int) M' ∧ FrM M M' ∧ Ag12 155 h M' (csnd W h c S k s U) ∧ (∀ t, t < 4 → M' 159 (4 * c + t) = cFl W h c S (4 * c + t) ∧ M' 158 (4 * c + t) = cHd W h c S (4 * c + t) ∧ M' 160 (4 * c + t) = cL2 W h c S (4 * c + t) ∧ M' 161 (4 * c + t) = cA2 W h c S (4 * c + t) ∧ M' 162 (4 * c + t) = cLf W h c S (4 * c + t)) ∧ ∀ i, ¬ (4 * c ≤ i ∧ i < 4 * c + 4) → M' 158 i = M 158 i ∧ M' 159 i = M 159 i ∧ M' 160 i = M 160 i ∧ M' 161 i = M 161 i ∧ M' 162 i = M 162 i := by
  have r81 : R 104 81 = 157 := hR.m80 (k := 1) (by decide)
  have r82 : R 104 82 = 158 := hR.m80 (k := 2) (by decide)
  have r83 : R 104 83 = 159 := hR.m80 (k := 3) (by decide)
  have r84 : R 104 84 = 160 := hR.m80 (k := 4) (by decide)
  have r85 : R 104 85 = 161 := hR.m80 (k := 5) (by decide)
  have r86 : R 104 86 = 162 := hR.m80 (k := 6) (by decide)
  have r32 : R 104 32 = 121 := by rw [hR.at 104 32 (by decide) (by decide)]; exact xR0_mp.1
  intro k
  induction k with
  | zero =>
    intro f s M U hf hs hA _ _ _ _ h9 _ hd
    obtain ⟨f, rfl⟩ : ∃ g, f = g + 1 := ⟨f - 1, by omega⟩
    refine ⟨M, ?_, fun _ _ => rfl, hA, fun t ht => ⟨h9 t ht, hd t (by omega)⟩, fun i _ => ⟨rfl, rfl, rfl, rfl, rfl⟩⟩
    rw [M_hour_F143, if_neg (by omega)]
  | succ k ih =>
    intro f s M U hf hs hA hM hn ht h2 h9 hr hd
    obtain ⟨f, rfl⟩ : ∃ g, f = g + 1 := ⟨f - 1, by omega⟩
    have hs4 : s < 4 := by omega
    obtain ⟨v, hv⟩ : ∃ v, v = 4 * c + s := ⟨_, rfl⟩
    have ou := ou_in hW hc hCB hs4
    have at_ := hCB.at hs4 hc
    obtain ⟨a1, a2, a3, a4⟩ := hCB.1 (4 * c + s) (by omega)
    have fl := fl_in hW a2
    have hdd := hd_in hW hs4 a1 a3 a4
    have hu := hu_in (S := S) hW hs4
    have e2 : M 157 v = S 2 v := by
      have := hA.2 v (by omega)
      rw [hv] at this ⊢
      rw [show (157 : Nat) = 155 + 2 from rfl, this, h2 s hs4]
    have hrs := hr s (by omega) hs4
    have h9s := h9 s hs4
    rw [← hv] at ou at_ a1 a2 a3 a4 fl hdd hu hrs h9s
    have q7 : M 162 v = S 7 v := hrs.2.2
    have eQ : S 2 v * cHu W h c S v + S 7 v = cQ W h c S v := rfl
    have eH : Int.tdiv (cQ W h c S v) 100 = cHd W h c S v := rfl
    have eL : Int.tmod (cQ W h c S v) 100 = cLf W h c S v := rfl
    have hk : ∀ X : xM, X 121 = M 121 → f_M_hasLayer R 104 (c : Int) X = some (if W 1 c = 1 ∨ W 1 c = 2 then 1 else 0) := by
      intro X hX
      unfold f_M_hasLayer
      rw [xch_pos (by omega), r32, Int.toNat_natCast, hX, hM.1]
      by_cases z : W 1 c = 1
      · rw [if_pos z, if_pos (Or.inl z)]
      · rw [if_neg z]
        by_cases z2 : W 1 c = 2
        · rw [if_pos z2, if_pos (Or.inr z2)]
        · rw [if_neg z2, if_neg (fun y => y.elim z z2)]
    -- behind holding
    obtain ⟨N, n1, nO, n8, n0, n61, n2⟩ : ∃ N, M_hour_F143 R 104 (h : Int) Q (f + 1) (c : Int) (cIt W h c S) (s : Int) M = M_hour_J253 R 104 (h : Int) (M_hour_F143 R 104 (h : Int) Q f) Q (c : Int) (cIt W h c S) (s : Int) (v : Int) N ∧ (∀ x, x ≠ 158 → x ≠ 160 → x ≠ 161 → x ≠ 162 → N x = M x) ∧ (∀ i, N 158 i = if i = v then cHd W h c S v else M 158 i) ∧ (∀ i, N 160 i = if i = v then cL2 W h c S v else M 160 i) ∧ (∀ i, N 161 i = if i = v then cA2 W h c S v else M 161 i) ∧ ∀ i, N 162 i = if i = v then cLf W h c S v else M 162 i := by
      have g6 : ∀ z w, xu (xu M 158 v z) 162 v w 161 v = M 161 v := fun z w => by rw [xu_cell _ _ _ (by decide), xu_cell _ _ _ (by decide)]
      have g5 : ∀ z w, xu (xu M 158 v z) 162 v w 160 v = M 160 v := fun z w => by rw [xu_cell _ _ _ (by decide), xu_cell _ _ _ (by decide)]
      have g3 : ∀ z w, xu (xu M 158 v z) 162 v w 158 v = z := fun z w => by rw [xu_cell _ _ _ (by decide), xu_at, if_pos rfl]
      have g1 : ∀ z w, xu (xu M 158 v z) 162 v w 121 = M 121 := fun z w => by rw [xu_cell _ _ _ (by decide), xu_cell _ _ _ (by decide)]
      have hhn := holdsNow_eq hR hh hc hs4 (S := S) hW hM
      rw [← hv] at hhn
      rw [M_hour_F143, if_pos (by omega), xl_eq, w32_of (x := 4 * (c : Int)) (by omega) (by omega), w32_of (x := 4 * (c : Int) + (s : Int)) (by omega) (by omega), show 4 * (c : Int) + (s : Int) = (v : Int) by omega, xch_pos (by omega), hhn, xb1_some, xl_eq, xl_eq, xl_eq, r81, r82, r84, r85, r86, Int.toNat_natCast, e2, q7, w32_of (x := S 2 v * cHu W h c S v) (by omega) (by omega), w32_of (x := S 2 v * cHu W h c S v + S 7 v) (by omega) (by omega), eQ, eH, eL, w32_of (x := cHd W h c S v) (by omega) (by omega), hk _ (g1 _ _), xb1_some, xl_eq, xl_eq, g6, g5, g3, hrs.1, hrs.2.1]
      by_cases z : W 1 c = 1 ∨ W 1 c = 2
      · rw [if_pos z, if_neg (by decide), w32_of (x := cL1 W h c S v + cHd W h c S v) (by omega) (by omega)]
        refine ⟨_, rfl, fun x x1 x2 x3 x4 => ?_, fun i => ?_, fun i => ?_, fun i => ?_, fun i => ?_⟩
        · rw [xu_cell _ _ _ x2, xu_cell _ _ _ x4, xu_cell _ _ _ x1]
        · rw [xu_cell _ _ _ (by decide), xu_cell _ _ _ (by decide), xu_at]
        · rw [xu_at, xu_cell _ _ _ (show (160 : Nat) ≠ 162 by decide), xu_cell _ _ _ (show (160 : Nat) ≠ 158 by decide)]
          unfold cL2
          rw [if_pos z]
        · rw [xu_cell _ _ _ (by decide), xu_cell _ _ _ (by decide), xu_cell _ _ _ (by decide)]
          unfold cA2
          rw [if_pos z]
          by_cases y : i = v
          · rw [if_pos y, y, hrs.2.1]
          · rw [if_neg y]
        · rw [xu_cell _ _ _ (by decide), xu_at, xu_cell _ _ _ (show (162 : Nat) ≠ 158 by decide)]
      · rw [if_neg z, if_pos rfl]
        refine ⟨_, rfl, fun x x1 x2 x3 x4 => ?_, fun i => ?_, fun i => ?_, fun i => ?_, fun i => ?_⟩
        · rw [xu_cell _ _ _ x3, xu_cell _ _ _ x4, xu_cell _ _ _ x1]
        · rw [xu_cell _ _ _ (by decide), xu_cell _ _ _ (by decide), xu_at]
        · rw [xu_cell _ _ _ (by decide), xu_cell _ _ _ (by decide), xu_cell _ _ _ (by decide)]
          unfold cL2
          rw [if_neg z]
          by_cases y : i = v
          · rw [if_pos y, y, hrs.1]
          · rw [if_neg y]
        · rw [xu_at, xu_cell _ _ _ (show (161 : Nat) ≠ 162 by decide), xu_cell _ _ _ (show (161 : Nat) ≠ 158 by decide)]
          unfold cA2
          rw [if_neg z]
        · rw [xu_cell _ _ _ (by decide), xu_at, xu_cell _ _ _ (show (162 : Nat) ≠ 158 by decide)]
    have frN : FrM M N := fun x hx => nO x (by omega) (by omega) (by omega) (by omega)
    have hMN := hM.of frN
    have hAN : Ag12 155 h N U := ⟨fun i hi => by rw [nO (155 + 1) (by decide) (by decide) (by decide) (by decide)]; exact hA.1 i hi, fun i hi => by rw [nO (155 + 2) (by decide) (by decide) (by decide) (by decide)]; exact hA.2 i hi⟩
    obtain ⟨k1, k2, k3, k4, k5, k6, k7, k8⟩ := hMN
    have hwy := hW.2.2.2.2.1
    obtain ⟨P, p1, p2, p3⟩ := sends_eq hR hs4 hh hc hwy.2 (M := N) (S := U) (a := cOu W h c S v) ou.1 (by omega) hAN (hn s hs4) (by rw [ht s (by omega) hs4]; omega) (by rw [k5]; omega) (fun i hi => (k6 i hi).1) (fun i hi => (k6 i hi).2)
    have pO : ∀ x, x ≠ 156 → x ≠ 157 → x ≠ 163 → x ≠ 164 → P x = N x := fun x h1 h2 h3 h4 => p2 x (by simp only [List.mem_cons, List.not_mem_nil, or_false, not_or]; exact ⟨h1, h2, h3, h4⟩)
    have frP : FrM M P := fun x hx => by rw [pO x (by omega) (by omega) (by omega) (by omega)]; exact frN x hx
    have z8 : ∀ i, P 158 i = if i = v then cHd W h c S v else M 158 i := fun i => by rw [pO 158 (by decide) (by decide) (by decide) (by decide), n8]
    have z9 : P 159 = M 159 := by rw [pO 159 (by decide) (by decide) (by decide) (by decide), nO 159 (by decide) (by decide) (by decide) (by decide)]
    have z0 : ∀ i, P 160 i = if i = v then cL2 W h c S v else M 160 i := fun i => by rw [pO 160 (by decide) (by decide) (by decide) (by decide), n0]
    have z1 : ∀ i, P 161 i = if i = v then cA2 W h c S v else M 161 i := fun i => by rw [pO 161 (by decide) (by decide) (by decide) (by decide), n61]
    have z2 : ∀ i, P 162 i = if i = v then cLf W h c S v else M 162 i := fun i => by rw [pO 162 (by decide) (by decide) (by decide) (by decide), n2]
    have p3' : Ag12 155 h P (cSn W h c S s U) := by
      rw [hv] at p3
      exact p3
    obtain ⟨M', m1, m2, m3, m4, m5⟩ := ih f (s + 1) P (cSn W h c S s U) (by omega) (by omega) p3' (hM.of frP) (fun t ht => (cSn_tot hW hs4 ht (by rw [← hv]; exact ou.1) hn).1) (fun t t1 t2 => by rw [(cSn_tot hW hs4 t2 (by rw [← hv]; exact ou.1) hn).2, if_neg (by omega), Int.add_zero]; exact ht t (by omega) t2) (fun t t1 => by rw [cSn_oth hW hs4 (Or.inr (Or.inr ⟨rfl, Or.inr (by omega)⟩))]; exact h2 t t1)
      (fun t t1 => by rw [z9]; exact h9 t t1) (fun t t1 t2 => by rw [z0, z1, z2, if_neg (by omega), if_neg (by omega), if_neg (by omega)]; exact hr t (by omega) t2) (fun t t1 => by
        rw [z8, z0, z1, z2]
        by_cases y : 4 * c + t = v
        · rw [if_pos y, if_pos y, if_pos y, if_pos y, y]
          exact ⟨rfl, rfl, rfl, rfl⟩
        · rw [if_neg y, if_neg y, if_neg y, if_neg y]
          exact hd t (by omega))
    refine ⟨M', ?_, frP.trans m2, m3, m4, fun i hi => ?_⟩
    · rw [n1]
      unfold M_hour_J253
      have x8 : N 158 v = cHd W h c S v := by rw [n8, if_pos rfl]
      have x9 : N 159 v = cFl W h c S v := by rw [nO 159 (by decide) (by decide) (by decide) (by decide)]; exact h9s
      have x7 : N 157 v = S 2 v := by rw [nO 157 (by decide) (by decide) (by decide) (by decide)]; exact e2
      have eO : S 2 v - cHd W h c S v + cFl W h c S v = cOu W h c S v := rfl
      rw [xch_pos (by omega), r81, r82, r83, Int.toNat_natCast, x7, x8, x9, w32_of (x := S 2 v - cHd W h c S v) (by omega) (by omega), eO, w32_of (x := cOu W h c S v) (by omega) (by omega), p1, xb1_some, xl_eq, w32_of (x := (s : Int) + 1) (by omega) (by omega)]
      exact m1
    · have d := m5 i hi
      rw [z8, z9, z0, z1, z2, if_neg (by omega), if_neg (by omega), if_neg (by omega), if_neg (by omega)] at d
      exact d
theorem cln_M {R : xR} {pn ps ln ls : Nat} (hR : RG R pn ps ln ls) {h c : Nat} (hh : h < 48) (hc : c < 8) {W M S : xM} (hW : WC W h c) (hM : WMc R h c W M) {B : Int} (hB2 : B ≤ 2000000) (hCB : CB B h c S) (hA : AgC 155 h c M S) (hcn : (c : Int) < M 104 30) (f : Nat) :
    ∃ M', M_hour_F88 R 104 (h : Int) (f + 1) (c : Int) M = M_hour_F88 R 104 (h : Int) f ((c + 1 : Nat) : Int) M' ∧ FrM M M' ∧ AgC 155 h (c + 1) M' (cstp W h c S) := by
  have r84 : R 104 84 = 160 := hR.m80 (k := 4) (by decide)
  obtain ⟨a12, a567, a34⟩ := hA
  have bnd : ∀ s, s < 4 → (0 ≤ S 2 (4 * c + s) ∧ S 2 (4 * c + s) ≤ 2000000) ∧ (0 ≤ S 5 (4 * c + s) ∧ S 5 (4 * c + s) ≤ 2000000) ∧ (0 ≤ S 7 (4 * c + s) ∧ S 7 (4 * c + s) < 100) := by
    intro s hs
    obtain ⟨a1, a2, a3, a4⟩ := hCB.1 (4 * c + s) (by omega)
    have := hCB.at hs hc
    omega
  obtain ⟨N, n1, n2, n3, n4⟩ : ∃ N, M_hour_F88 R 104 (h : Int) (f + 1) (c : Int) M = M_hour_J134 R 104 (h : Int) (M_hour_F88 R 104 (h : Int) f) (c : Int) N ∧ Fr [159, 160, 161] M N ∧ (∀ i, ¬ (4 * c ≤ i ∧ i < 4 * c + 4) → N 159 i = M 159 i ∧ N 160 i = M 160 i ∧ N 161 i = M 161 i) ∧ (∀ i, 4 * c ≤ i → i < 4 * c + 4 → N 159 i = cFl W h c S i ∧ N 160 i = cL1 W h c S i ∧ N 161 i = cA1 W h c S i) := by
    rw [M_hour_F88, if_pos hcn]
    have e := hour_F98 hR hc (h : Int) (fun (v2_25 : Int) (M_26 : xM) =>
          xb1 (f_M_isKnocked R 104 v2_25 (h : Int) M_26) fun r_27 =>
          if r_27 = 0 then
            M_hour_J134 R 104 (h : Int) (M_hour_F88 R 104 (h : Int)  f) v2_25 M_26
          else
            xb1 (f_M_knocked R 104 v2_25 M_26) fun M_52 =>
            M_hour_J134 R 104 (h : Int) (M_hour_F88 R 104 (h : Int)  f) v2_25 M_52) 4 xfu 0 M (by have : xfu = 1000000 := rfl; omega) (by omega)
    rw [show ((0 : Nat) : Int) = 0 from rfl] at e
    rw [e]
    obtain ⟨A, hA⟩ : ∃ A, A = xrow M 159 (fun i => if 4 * c + 0 ≤ i ∧ i < 4 * c + 4 then 0 else M 159 i) := ⟨_, rfl⟩
    rw [← hA]
    have aO : ∀ x, x ≠ 159 → A x = M x := fun x hx => by rw [hA, xrow_cell _ _ hx]
    have a9 : ∀ i, A 159 i = if 4 * c ≤ i ∧ i < 4 * c + 4 then 0 else M 159 i := fun i => by rw [hA, xrow_at]; rfl
    have frA : FrM M A := fun x hx => aO x (by omega)
    rw [(hM.2.2.2.2.2.2.2 A fun x hx => aO x (by omega)).1, xb1_some]
    by_cases z : W 11 (48 * c + h) = 0
    · rw [if_pos z]
      refine ⟨A, rfl, fun x hx => aO x (fun q => hx (by simp [q])), fun i hi => ?_, fun i i1 i2 => ?_⟩
      · rw [a9, if_neg hi, aO 160 (by decide), aO 161 (by decide)]
        exact ⟨rfl, rfl, rfl⟩
      · unfold cFl cL1 cA1
        have q := a567 i (by omega)
        rw [if_pos z, if_pos z, if_pos z, a9, if_pos ⟨i1, i2⟩, aO 160 (by decide), aO 161 (by decide)]
        exact ⟨rfl, q.1, q.2.1⟩
    · rw [if_neg z]
      obtain ⟨N, s1, s2, s3, s4⟩ := knocked_F2 hR hc (fly := W 4 c) ⟨hW.2.2.2.1.1, hW.2.2.2.1.2.1⟩ 4 xfu 0 A (by have : xfu = 1000000 := rfl; omega) (by omega) (fun t _ t2 => by
        have q := (a567 (4 * c + t) (by omega)).1
        rw [show 155 + 5 = 160 from rfl] at q
        rw [aO 160 (by decide), q]
        exact (bnd t t2).2.1) (by rw [aO 124 (by decide)]; exact hM.2.2.2.1) (by rw [aO 121 (by decide), hM.1]; exact hW.2.2.2.1.2.2)
      rw [show ((0 : Nat) : Int) = 0 from rfl] at s1
      refine ⟨N, ?_, fun x hx => ?_, fun i hi => ?_, fun i i1 i2 => ?_⟩
      · unfold f_M_knocked
        rw [s1, xb1_some]
      · rw [s2 x hx]
        exact aO x (fun q => hx (by simp [q]))
      · have := s3 i (by omega)
        rw [a9, if_neg hi, aO 160 (by decide), aO 161 (by decide)] at this
        exact this
      · have := s4 i (by omega) i2
        have q := a567 i (by omega)
        rw [show 155 + 5 = 160 from rfl, show 155 + 6 = 161 from rfl] at q
        rw [aO 160 (by decide), aO 161 (by decide), q.1, q.2.1] at this
        unfold cFl cL1 cA1 cFl
        rw [if_neg z, if_neg z, if_neg z]
        exact this
  have nO : ∀ x, x ≠ 159 → x ≠ 160 → x ≠ 161 → N x = M x := fun x h1 h2 h3 => n2 x (by simp only [List.mem_cons, List.not_mem_nil, or_false, not_or]; exact ⟨h1, h2, h3⟩)
  have frN : FrM M N := fun x hx => nO x (by omega) (by omega) (by omega)
  have fl : ∀ s, s < 4 → 0 ≤ cL1 W h c S (4 * c + s) ∧ cL1 W h c S (4 * c + s) ≤ 2000000 := fun s hs => by
    have := fl_in hW (bnd s hs).2.1.1
    have := (bnd s hs).2.1
    omega
  have hlay : f_M_layerOf R 104 (c : Int) N = some (cIt W h c S) := by
    have l0 : 0 ≤ cL1 W h c S (4 * c) ∧ cL1 W h c S (4 * c) ≤ 2000000 := fl 0 (by decide)
    have l1 := fl 1 (by decide)
    have l2 := fl 2 (by decide)
    have l3 := fl 3 (by decide)
    unfold f_M_layerOf cIt
    rw [w32_of (x := 4 * (c : Int)) (by omega) (by omega), w32_of (x := 4 * (c : Int) + 1) (by omega) (by omega), w32_of (x := 4 * (c : Int) + 2) (by omega) (by omega), w32_of (x := 4 * (c : Int) + 3) (by omega) (by omega), xch_pos (by omega), xch_pos (by omega), xch_pos (by omega), xch_pos (by omega), r84, show (4 * (c : Int)).toNat = 4 * c by omega, show (4 * (c : Int) + 1).toNat = 4 * c + 1 by omega, show (4 * (c : Int) + 2).toNat = 4 * c + 2 by omega, show (4 * (c : Int) + 3).toNat = 4 * c + 3 by omega, (n4 (4 * c) (by omega) (by omega)).2.1, (n4 (4 * c + 1) (by omega) (by omega)).2.1, (n4 (4 * c + 2) (by omega) (by omega)).2.1, (n4 (4 * c + 3) (by omega) (by omega)).2.1, w32_of (x := cL1 W h c S (4 * c) + cL1 W h c S (4 * c + 1)) (by omega) (by omega), w32_of (x := cL1 W h c S (4 * c) + cL1 W h c S (4 * c + 1) + cL1 W h c S (4 * c + 2)) (by omega) (by omega), w32_of (by omega) (by omega)]
  obtain ⟨M', m1, m2, m3, m4, m5⟩ := hour_F143 hR hh hc hW hB2 hCB (fun (v2_49 : Int) (M_50 : xM) =>
      xl (w32 (v2_49 + 1)) fun v2_51 =>
      M_hour_F88 R 104 (h : Int) f v2_51 M_50) 4 xfu 0 N S (by have : xfu = 1000000 := rfl; omega) (by omega) ⟨fun i hi => by rw [nO (155 + 1) (by decide) (by decide) (by decide)]; exact a12.1 i hi, fun i hi => by rw [nO (155 + 2) (by decide) (by decide) (by decide)]; exact a12.2 i hi⟩ (hM.of frN) (fun t ht => hCB.nn ht) (fun _ _ _ => rfl) (fun _ _ => rfl) (fun t ht => (n4 (4 * c + t) (by omega) (by omega)).1) (fun t _ ht => ⟨(n4 (4 * c + t) (by omega) (by omega)).2.1, (n4 (4 * c + t) (by omega) (by omega)).2.2, by
        rw [nO 162 (by decide) (by decide) (by decide)]
        exact (a567 (4 * c + t) (by omega)).2.2⟩) (fun t ht => by omega)
  refine ⟨M', ?_, frN.trans m2, ⟨?_, ?_, ?_⟩⟩
  · rw [n1]
    unfold M_hour_J134
    rw [hlay, xb1_some]
    refine m1.trans ?_
    show xl _ _ = _
    rw [xl_eq, w32_of (x := (c : Int) + 1) (by omega) (by omega)]
    rfl
  · exact ⟨fun i hi => by rw [m3.1 i hi, cstp_12 (Or.inl rfl)], fun i hi => by rw [m3.2 i hi, cstp_12 (Or.inr rfl)]⟩
  · intro i hi
    show M' 160 i = _ ∧ M' 161 i = _ ∧ M' 162 i = _
    by_cases z : 4 * c ≤ i ∧ i < 4 * c + 4
    · have e := cstp_in (W := W) (S := S) (h := h) z
      have d := m4 (i - 4 * c) (by omega)
      rw [show 4 * c + (i - 4 * c) = i by omega] at d
      rw [e.2.2.1, e.2.2.2.1, e.2.2.2.2]
      exact d.2.2
    · rw [cstp_out z (by decide) (by decide), cstp_out z (by decide) (by decide), cstp_out z (by decide) (by decide), (m5 i z).2.2.1, (m5 i z).2.2.2.1, (m5 i z).2.2.2.2, (n3 i z).2.1, (n3 i z).2.2, nO 162 (by decide) (by decide) (by decide)]
      exact a567 i hi
  · intro i hi
    show M' 158 i = _ ∧ M' 159 i = _
    by_cases z : 4 * c ≤ i ∧ i < 4 * c + 4
    · have e := cstp_in (W := W) (S := S) (h := h) z
      have d := m4 (i - 4 * c) (by omega)
      rw [show 4 * c + (i - 4 * c) = i by omega] at d
      rw [e.1, e.2.1]
      exact ⟨d.2.1, d.1⟩
    · rw [cstp_out z (by decide) (by decide), cstp_out z (by decide) (by decide), (m5 i z).1, (m5 i z).2.1, (n3 i z).1, nO 158 (by decide) (by decide) (by decide)]
      exact a34 i (by omega)
