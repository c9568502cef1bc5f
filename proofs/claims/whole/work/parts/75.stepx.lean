/-- the memory from base b on is the state ahead of cleaner c, in hour h -/
def AgC (b h c : Nat) (M S : xM) : Prop := Ag12 b h M S ∧ (∀ i, i < 32 → M (b + 5) i = S 5 i ∧ M (b + 6) i = S 6 i ∧ M (b + 7) i = S 7 i) ∧ ∀ i, i < 4 * c → M (b + 3) i = S 3 i ∧ M (b + 4) i = S 4 i
theorem cstp_in {W S : xM} {h c i : Nat} (hi : 4 * c ≤ i ∧ i < 4 * c + 4) : cstp W h c S 3 i = cHd W h c S i ∧ cstp W h c S 4 i = cFl W h c S i ∧ cstp W h c S 5 i = cL2 W h c S i ∧ cstp W h c S 6 i = cA2 W h c S i ∧ cstp W h c S 7 i = cLf W h c S i := by
  refine ⟨?_, ?_, ?_, ?_, ?_⟩ <;> (unfold cstp; rw [if_neg (by decide), if_pos hi]; rfl)
theorem cstp_out {W S : xM} {h c i j : Nat} (hi : ¬ (4 * c ≤ i ∧ i < 4 * c + 4)) (h1 : j ≠ 1) (h2 : j ≠ 2) : cstp W h c S j i = S j i := by
  unfold cstp
  rw [if_neg (by omega), if_neg hi]
theorem cstp_12 {W S : xM} {h c i j : Nat} (hj : j = 1 ∨ j = 2) : cstp W h c S j i = csnd W h c S 4 0 S j i := if_pos hj
theorem step_F106 {R : xR} {p b h c : Nat} (hF : FlR R b) (hP : PnR R p) (hB : BkR R) (hp : p + 11 < b) (hb : 61 < b) (hh : h < 48) (hc : c < 8) {W S : xM} (hW : WC W h c) {B : Int} (hB2 : B ≤ 2000000) (hCB : CB B h c S) (Q : Int → Int → xM → Option xM) : ∀ (k f s : Nat) (M U : xM), k < f → s + k = 4 → Ag12 b h M U → WXc R p b h c W M → (∀ t, t < 4 → nn12 h t U) → (∀ t, s ≤ t → t < 4 → tot (c + 1) h t U = tot (c + 1) h t S) → (∀ t, t < 4 → U 2 (4 * c + t) = S 2 (4 * c + t)) → (∀ t, t < 4 → M (b + 3) (4 * c + t) = cHd W h c S (4 * c + t) ∧ M (b + 4) (4 * c + t) = cFl W h c S (4 * c + t)) →
    ∃ M', F_step_F106 R b p 48 Q f (h : Int) (c : Int) (s : Int) M = Q (h : Int) (c : Int) M' ∧ Fr [b + 1, b + 2, b + 9, b + 10, b + 11] M M' ∧ Ag12 b h M' (csnd W h c S k s U) := by
  intro k
  induction k with
  | zero =>
    intro f s M U hf hs hA _ _ _ _ _
    obtain ⟨f, rfl⟩ : ∃ g, f = g + 1 := ⟨f - 1, by omega⟩
    refine ⟨M, ?_, fun _ _ => rfl, hA⟩
    rw [F_step_F106, if_neg (by omega)]
  | succ k ih =>
    intro f s M U hf hs hA hX hn ht h2 h34
    obtain ⟨f, rfl⟩ : ∃ g, f = g + 1 := ⟨f - 1, by omega⟩
    have hs4 : s < 4 := by omega
    have ou := ou_in hW hc hCB hs4
    have at_ := hCB.at hs4 hc
    obtain ⟨a1, a2, a3, a4⟩ := hCB.1 (4 * c + s) (by omega)
    have fl := fl_in hW a2
    have hd := hd_in hW hs4 a1 a3 a4
    have e2 : M (b + 2) (4 * c + s) = S 2 (4 * c + s) := by rw [hA.2 _ (by omega), h2 s hs4]
    obtain ⟨q1, q2, q3, q4, q5, q6, q7, q8, q9, q10⟩ := hX
    have hwy := hW.2.2.2.2.1
    obtain ⟨N, n1, n2, n3⟩ := pass_eq hF hP hp hs4 hh hc hwy.2 (M := M) (S := U) (a := cOu W h c S (4 * c + s)) ou.1 (by omega) hA (hn s hs4) (by rw [ht s (by omega) hs4]; omega) (by rw [e2, (h34 s hs4).1, (h34 s hs4).2]; omega) (by rw [e2, (h34 s hs4).1, (h34 s hs4).2]; rfl) (by rw [q5]; omega) (fun i hi => (q6 i hi).1) (fun i hi => (q6 i hi).2)
    have fr : FrB b M N := fun x hx => n2 x (by simp only [List.mem_cons, List.not_mem_nil, or_false, not_or]; omega)
    have n3' : Ag12 b h N (cSn W h c S s U) := n3
    have x3 : N (b + 3) = M (b + 3) := n2 _ (by simp only [List.mem_cons, List.not_mem_nil, or_false, not_or]; omega)
    have x4 : N (b + 4) = M (b + 4) := n2 _ (by simp only [List.mem_cons, List.not_mem_nil, or_false, not_or]; omega)
    obtain ⟨M', m1, m2, m3⟩ := ih f (s + 1) N (cSn W h c S s U) (by omega) (by omega) n3' (WXc.of hB hp hb ⟨q1, q2, q3, q4, q5, q6, q7, q8, q9, q10⟩ fr) (fun t ht => (cSn_tot hW hs4 ht ou.1 hn).1) (fun t t1 t2 => by rw [(cSn_tot hW hs4 t2 ou.1 hn).2, if_neg (by omega), Int.add_zero]; exact ht t (by omega) t2) (fun t t1 => by rw [cSn_oth hW hs4 (Or.inr (Or.inr ⟨rfl, Or.inr (by omega)⟩))]; exact h2 t t1) (fun t t1 => by rw [x3, x4]; exact h34 t t1)
    refine ⟨M', ?_, fun x hx => (m2 x hx).trans (n2 x hx), m3⟩
    rw [F_step_F106, if_pos (by omega), n1, xb1_some, xl_eq, w32_of (x := (s : Int) + 1) (by omega) (by omega)]
    exact m1
theorem cln_X {R : xR} {p b h c : Nat} (hF : FlR R b) (hP : PnR R p) (hB : BkR R) (hp : p + 11 < b) (hb : 61 < b) (hh : h < 48) (hc : c < 8) {W M S : xM} (hW : WC W h c) (hX : WXc R p b h c W M) {B : Int} (hB2 : B ≤ 2000000) (hCB : CB B h c S) (hA : AgC b h c M S) (hz : ∀ i, 4 * c ≤ i → i < 32 → M (b + 4) i = 0) (hcn : (c : Int) < M p 0) (f : Nat) :
    ∃ M', F_step_F67 R b p 48 (f + 1) (h : Int) (c : Int) M = F_step_F67 R b p 48 f (h : Int) ((c + 1 : Nat) : Int) M' ∧ FrB b M M' ∧ AgC b h (c + 1) M' (cstp W h c S) ∧ ∀ i, 4 * (c + 1) ≤ i → i < 32 → M' (b + 4) i = 0 := by
  obtain ⟨a12, a567, a34⟩ := hA
  have bnd : ∀ s, s < 4 → (0 ≤ S 2 (4 * c + s) ∧ S 2 (4 * c + s) ≤ 2000000) ∧ (0 ≤ S 5 (4 * c + s) ∧ S 5 (4 * c + s) ≤ 2000000) ∧ (0 ≤ S 7 (4 * c + s) ∧ S 7 (4 * c + s) < 100) := by
    intro s hs
    obtain ⟨a1, a2, a3, a4⟩ := hCB.1 (4 * c + s) (by omega)
    have := hCB.at hs hc
    omega
  -- ahead of holding
  obtain ⟨N, n1, n2, n3, n4, n5⟩ : ∃ N, F_step_F67 R b p 48 (f + 1) (h : Int) (c : Int) M = F_step_J94 R b p 48 (F_step_F67 R b p 48 f) (h : Int) (c : Int) N ∧ Fr [b + 4, b + 5, b + 6] M N ∧ (∀ i, ¬ (4 * c ≤ i ∧ i < 4 * c + 4) → N (b + 4) i = M (b + 4) i ∧ N (b + 5) i = M (b + 5) i ∧ N (b + 6) i = M (b + 6) i) ∧ (∀ i, 4 * c ≤ i → i < 4 * c + 4 → N (b + 4) i = cFl W h c S i ∧ N (b + 5) i = cL1 W h c S i ∧ N (b + 6) i = cA1 W h c S i) ∧ True := by
    rw [F_step_F67, if_pos hcn, hX.2.2.2.2.2.2.2.1, xb1_some]
    by_cases z : W 11 (48 * c + h) = 0
    · rw [if_pos z]
      refine ⟨M, rfl, fun _ _ => rfl, fun _ _ => ⟨rfl, rfl, rfl⟩, fun i i1 i2 => ?_, trivial⟩
      unfold cFl cL1 cA1
      rw [if_pos z, if_pos z, if_pos z, hz i i1 (by omega), (a567 i (by omega)).1, (a567 i (by omega)).2.1]
      exact ⟨rfl, rfl, rfl⟩
    · rw [if_neg z]
      obtain ⟨N, s1, s2, s3, s4⟩ := shake_F4 hF hP hp hc 4 xfu (4 * c) M (by have : xfu = 1000000 := rfl; omega) (by omega) (by omega) (fun i i1 i2 => by
        rw [(a567 i (by omega)).1]
        have := (bnd (i - 4 * c) (by omega)).2.1
        rw [show 4 * c + (i - 4 * c) = i by omega] at this
        exact this) (by rw [hX.2.2.2.1]; exact ⟨hW.2.2.2.1.1, hW.2.2.2.1.2.1⟩)
      refine ⟨N, ?_, s2, s3, fun i i1 i2 => ?_, trivial⟩
      · unfold f_F_shake
        rw [xl_eq, w32_of (x := (c : Int) * 4) (by omega) (by omega), show (c : Int) * 4 = ((4 * c : Nat) : Int) by omega, s1, xb1_some]
      · have := s4 i i1 i2
        rw [(a567 i (by omega)).1, (a567 i (by omega)).2.1, hX.2.2.2.1] at this
        unfold cFl cL1 cA1 cFl
        rw [if_neg z, if_neg z, if_neg z]
        exact this
  have nO : ∀ x, x ≠ b + 4 → x ≠ b + 5 → x ≠ b + 6 → N x = M x := fun x h1 h2 h3 => n2 x (by simp only [List.mem_cons, List.not_mem_nil, or_false, not_or]; exact ⟨h1, h2, h3⟩)
  have frN : FrB b M N := fun x hx => nO x (by omega) (by omega) (by omega)
  have hXN := WXc.of hB hp hb hX frN
  have fl : ∀ s, s < 4 → 0 ≤ cL1 W h c S (4 * c + s) ∧ cL1 W h c S (4 * c + s) ≤ 2000000 := fun s hs => by
    have := fl_in hW (bnd s hs).2.1.1
    have := (bnd s hs).2.1
    omega
  obtain ⟨v8, v9, c1, c2⟩ := clean_flags hF hP hB hh hc (S := S) hW hXN (by
      rw [(n4 (4 * c) (by omega) (by omega)).2.1, (n4 (4 * c + 1) (by omega) (by omega)).2.1, (n4 (4 * c + 2) (by omega) (by omega)).2.1, (n4 (4 * c + 3) (by omega) (by omega)).2.1]
      rfl) (fun s hs => by rw [(n4 (4 * c + s) (by omega) (by omega)).2.1]; exact fl s hs)
  have h13 := hW.2.2.2.2.2.2.2
  obtain ⟨P, p1, p2, p3, p4⟩ := clean_F128 hF hP hp hc (v8 := v8) (v9 := v9) (v11 := if W 1 c = 1 ∨ W 1 c = 2 then 1 else 0) ⟨h13.1, h13.2.1⟩ (u := cHu W h c S) (fun s hs => hu_in hW hs) 4 xfu (4 * c) N (by have : xfu = 1000000 := rfl; omega) (by omega) (by omega) (fun i i1 i2 => by
      obtain ⟨s, rfl⟩ : ∃ s, i = 4 * c + s := ⟨i - 4 * c, by omega⟩
      rw [nO (b + 2) (by omega) (by omega) (by omega), nO (b + 7) (by omega) (by omega) (by omega), (n4 _ i1 i2).2.1, a12.2 _ (by omega), (a567 _ (by omega)).2.2, hXN.2.1 s (by omega)]
      exact ⟨(bnd s (by omega)).1, fl s (by omega), (bnd s (by omega)).2.2, hW.2.1 s (by omega)⟩) (fun i i1 i2 => by
      obtain ⟨s, rfl⟩ : ∃ s, i = 4 * c + s := ⟨i - 4 * c, by omega⟩
      rw [hXN.2.1 s (by omega)]
      exact c2 s (by omega))
  have pO : ∀ x, x ≠ b + 3 → x ≠ b + 5 → x ≠ b + 6 → x ≠ b + 7 → P x = N x := fun x h1 h2 h3 h4 => p2 x (by simp only [List.mem_cons, List.not_mem_nil, or_false, not_or]; exact ⟨h1, h2, h3, h4⟩)
  have frP : FrB b M P := fun x hx => by rw [pO x (by omega) (by omega) (by omega) (by omega)]; exact frN x hx
  have hXP := WXc.of hB hp hb hX frP
  have pin : ∀ i, 4 * c ≤ i → i < 4 * c + 4 → P (b + 3) i = cHd W h c S i ∧ P (b + 4) i = cFl W h c S i ∧ P (b + 5) i = cL2 W h c S i ∧ P (b + 6) i = cA2 W h c S i ∧ P (b + 7) i = cLf W h c S i := by
    intro i i1 i2
    obtain ⟨d1, d2, d3, d4⟩ := p4 i i1 i2
    rw [nO (b + 2) (by omega) (by omega) (by omega), nO (b + 7) (by omega) (by omega) (by omega), a12.2 i (by omega), (a567 i (by omega)).2.2] at d1 d2 d3 d4
    rw [(n4 i i1 i2).2.1] at d3
    rw [(n4 i i1 i2).2.2] at d4
    refine ⟨d1, by rw [pO (b + 4) (by omega) (by omega) (by omega) (by omega)]; exact (n4 i i1 i2).1, ?_, ?_, d2⟩
    · rw [d3]
      unfold cL2
      by_cases z : W 1 c = 1 ∨ W 1 c = 2
      · rw [if_pos z, if_pos z, if_neg (by decide)]
        rfl
      · rw [if_neg z, if_neg z, if_pos rfl]
    · rw [d4]
      unfold cA2
      by_cases z : W 1 c = 1 ∨ W 1 c = 2
      · rw [if_pos z, if_pos z, if_neg (by decide)]
      · rw [if_neg z, if_neg z, if_pos rfl]
        rfl
  have p12 : Ag12 b h P S := ⟨fun i hi => by rw [pO (b + 1) (by omega) (by omega) (by omega) (by omega), nO (b + 1) (by omega) (by omega) (by omega)]; exact a12.1 i hi, fun i hi => by rw [pO (b + 2) (by omega) (by omega) (by omega) (by omega), nO (b + 2) (by omega) (by omega) (by omega)]; exact a12.2 i hi⟩
  obtain ⟨M', m1, m2, m3⟩ := step_F106 hF hP hB hp hb hh hc hW hB2 hCB (fun (v3_22 : Int) (v4_23 : Int) (M_24 : xM) =>
      xl (w32 (v4_23 + 1)) fun v4_25 =>
      F_step_F67 R b p 48 f v3_22 v4_25 M_24) 4 xfu 0 P S (by have : xfu = 1000000 := rfl; omega) (by omega) p12 hXP (fun t ht => hCB.nn ht) (fun _ _ _ => rfl) (fun _ _ => rfl) (fun t ht => ⟨(pin (4 * c + t) (by omega) (by omega)).1, (pin (4 * c + t) (by omega) (by omega)).2.1⟩)
  have mO : ∀ x, x ≠ b + 1 → x ≠ b + 2 → x ≠ b + 9 → x ≠ b + 10 → x ≠ b + 11 → M' x = P x := fun x h1 h2 h3 h4 h5 => m2 x (by simp only [List.mem_cons, List.not_mem_nil, or_false, not_or]; exact ⟨h1, h2, h3, h4, h5⟩)
  have m3' : M' (b + 3) = P (b + 3) := mO _ (by omega) (by omega) (by omega) (by omega) (by omega)
  have m4' : M' (b + 4) = P (b + 4) := mO _ (by omega) (by omega) (by omega) (by omega) (by omega)
  have m5' : M' (b + 5) = P (b + 5) := mO _ (by omega) (by omega) (by omega) (by omega) (by omega)
  have m6' : M' (b + 6) = P (b + 6) := mO _ (by omega) (by omega) (by omega) (by omega) (by omega)
  have m7' : M' (b + 7) = P (b + 7) := mO _ (by omega) (by omega) (by omega) (by omega) (by omega)
  refine ⟨M', ?_, fun x hx => by rw [mO x (by omega) (by omega) (by omega) (by omega) (by omega)]; exact frP x hx, ⟨?_, ?_, ?_⟩, ?_⟩
  · rw [n1]
    unfold F_step_J94
    rw [c1, p1, xb1_some]
    refine m1.trans ?_
    show xl _ _ = _
    rw [xl_eq, w32_of (x := (c : Int) + 1) (by omega) (by omega)]
    rfl
  · exact ⟨fun i hi => by rw [m3.1 i hi, cstp_12 (Or.inl rfl)], fun i hi => by rw [m3.2 i hi, cstp_12 (Or.inr rfl)]⟩
  · intro i hi
    rw [m5', m6', m7']
    by_cases z : 4 * c ≤ i ∧ i < 4 * c + 4
    · have e := cstp_in (W := W) (S := S) (h := h) z
      have d := pin i z.1 z.2
      rw [e.2.2.1, e.2.2.2.1, e.2.2.2.2]
      exact d.2.2
    · rw [cstp_out z (by decide) (by decide), cstp_out z (by decide) (by decide), cstp_out z (by decide) (by decide), (p3 i z).2.1, (p3 i z).2.2.1, (p3 i z).2.2.2, (n3 i z).2.1, (n3 i z).2.2, nO (b + 7) (by omega) (by omega) (by omega)]
      exact a567 i hi
  · intro i hi
    rw [m3', m4']
    by_cases z : 4 * c ≤ i ∧ i < 4 * c + 4
    · have e := cstp_in (W := W) (S := S) (h := h) z
      have d := pin i z.1 z.2
      rw [e.1, e.2.1]
      exact ⟨d.1, d.2.1⟩
    · rw [cstp_out z (by decide) (by decide), cstp_out z (by decide) (by decide), (p3 i z).1, pO (b + 4) (by omega) (by omega) (by omega) (by omega), (n3 i z).1, nO (b + 3) (by omega) (by omega) (by omega)]
      exact a34 i (by omega)
  · intro i h1 h2
    rw [m4', pO (b + 4) (by omega) (by omega) (by omega) (by omega), (n3 i (by omega)).1]
    exact hz i (by omega) h2
