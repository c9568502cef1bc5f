theorem hasRun_eq {R : xR} {pn ps ln ls : Nat} (hR : RG R pn ps ln ls) {a p n : Int} {M : xM} (ha : 0 ≤ a ∧ a < 4) (hp : 0 ≤ p ∧ p < 2147483648) (hn : 0 ≤ n ∧ n < 2147483648) : f_Y_hasRun R 4 a p n M = some (if p + n ≤ M 7 a.toNat then 1 else 0) := by
  unfold f_Y_hasRun
  rw [hR.at 4 2 (by decide) (by decide), xR0_4.2.2, xch_pos ha, w64_of (by omega) (by omega)]
  by_cases h : M 7 a.toNat < p + n
  · rw [if_pos h, if_neg (by omega)]
  · rw [if_neg h, if_pos (by omega)]
theorem areAlike_eq {R : xR} {pn ps ln ls : Nat} (hR : RG R pn ps ln ls) {a b : Int} {M : xM} (ha : 0 ≤ a ∧ a < 4) (hb : 0 ≤ b ∧ b < 4) : f_Y_areAlike R 4 a b M = some (if M 6 a.toNat = M 6 b.toNat then 1 else 0) := by
  unfold f_Y_areAlike
  rw [hR.at 4 1 (by decide) (by decide), xR0_4.2.1, xch_pos ha, xch_pos hb]
  split <;> rfl
theorem move_eq {R : xR} {pn ps ln ls : Nat} (hR : RG R pn ps ln ls) {a p b q n : Int} {M : xM} (ha : 0 ≤ a ∧ a < 4) (hb : 0 ≤ b ∧ b < 4) (hp : 0 ≤ p) (hq : 0 ≤ q) (hn : 0 ≤ n) (h1 : p + n ≤ 60) (h2 : q + n ≤ 60) : f_Y_move R 4 a p b q n M = some (xcpy M 5 5 (60 * a.toNat + p.toNat) (60 * b.toNat + q.toNat) n.toNat) := by
  unfold f_Y_move
  rw [hR.at 4 0 (by decide) (by decide), xR0_4.1, w32_of (x := a * 60) (by omega) (by omega), w32_of (x := b * 60) (by omega) (by omega), w32_of (x := a * 60 + p) (by omega) (by omega), w32_of (x := b * 60 + q) (by omega) (by omega), xch_pos (by omega), xl_eq, show (a * 60 + p).toNat = 60 * a.toNat + p.toNat by omega, show (b * 60 + q).toNat = 60 * b.toNat + q.toNat by omega]
/-- one number more from the front -/
theorem xcpy_more (M : xM) (c sp dp i : Nat) (h : dp ≤ sp ∨ sp + i < dp ∨ dp + i ≤ sp) : xu (xcpy M c c sp dp i) c (dp + i) (xcpy M c c sp dp i c (sp + i)) = xcpy M c c sp dp (i + 1) := by
  have e : xcpy M c c sp dp i c (sp + i) = M c (sp + i) := by rw [xcpy_at, if_neg (by omega)]
  rw [e]
  funext x y
  unfold xu xcpy
  by_cases h1 : x = c
  · subst h1
    by_cases h2 : y = dp + i
    · subst h2
      rw [if_pos ⟨rfl, rfl⟩, if_pos ⟨rfl, by omega, by omega⟩, show sp + (dp + i - dp) = sp + i by omega]
    · rw [if_neg (fun q => h2 q.2)]
      by_cases h3 : dp ≤ y ∧ y < dp + i
      · rw [if_pos ⟨rfl, h3⟩, if_pos ⟨rfl, by omega, by omega⟩]
      · rw [if_neg (fun q => h3 q.2), if_neg (fun q => h3 ⟨q.2.1, by omega⟩)]
  · simp [h1]
/-- one number more from the back -/
theorem xcpy_less (M : xM) (c sp dp i : Nat) (h : sp ≤ dp ∨ dp + 1 + i ≤ sp) : xu (xcpy M c c (sp + 1) (dp + 1) i) c dp (xcpy M c c (sp + 1) (dp + 1) i c sp) = xcpy M c c sp dp (i + 1) := by
  have e : xcpy M c c (sp + 1) (dp + 1) i c sp = M c sp := by rw [xcpy_at, if_neg (by omega)]
  rw [e]
  funext x y
  unfold xu xcpy
  by_cases h1 : x = c
  · subst h1
    by_cases h2 : y = dp
    · subst h2
      rw [if_pos ⟨rfl, rfl⟩, if_pos ⟨rfl, by omega, by omega⟩, show sp + (y - y) = sp by omega]
    · rw [if_neg (fun q => h2 q.2)]
      by_cases h3 : dp + 1 ≤ y ∧ y < dp + 1 + i
      · rw [if_pos ⟨rfl, h3⟩, if_pos ⟨rfl, by omega, by omega⟩, show sp + 1 + (y - (dp + 1)) = sp + (y - dp) by omega]
      · rw [if_neg (fun q => h3 q.2), if_neg (fun q => h3 ⟨by omega, by omega⟩)]
  · simp [h1]
theorem xcpy_nil (M : xM) (c sp dp : Nat) : xcpy M c c sp dp 0 = M := by
  funext x y
  exact if_neg (by omega)
theorem pourM_F {R : xR} {pn ps ln ls : Nat} (hR : RG R pn ps ln ls) {a p b q m : Int} (ha : 0 ≤ a ∧ a < 4) (hb : 0 ≤ b ∧ b < 4) (hp : 0 ≤ p) (hq : 0 ≤ q) (hm : 0 ≤ m) (h1 : p + m ≤ 60) (h2 : q + m ≤ 60) (M : xM) : ∀ (n : Nat) (i : Int), 0 ≤ i → i ≤ m → m - i < n →
    M_pour_F118 R 104 a p b q m n i (if p < q then xcpy M 107 107 (60 * a.toNat + p.toNat + (m - i).toNat) (60 * b.toNat + q.toNat + (m - i).toNat) i.toNat else xcpy M 107 107 (60 * a.toNat + p.toNat) (60 * b.toNat + q.toNat) i.toNat) = some (1, xu (xcpy M 107 107 (60 * a.toNat + p.toNat) (60 * b.toNat + q.toNat) m.toNat) 104 0 0) := by
  intro n
  induction n with
  | zero => intro i g0 g1 g2; omega
  | succ n ih =>
    intro i g0 g1 g2
    rw [M_pour_F118]
    have ih1 := ih (i + 1)
    by_cases h : i < m
    · rw [if_pos h]
      by_cases hpq : p < q
      · simp only [if_pos hpq] at ih1 ⊢
        unfold M_pour_J143
        rw [hR.at 104 3 (by decide) (by decide), xR0_104.2.2.1, w32_of (x := m - 1) (by omega) (by omega), w32_of (x := m - 1 - i) (by omega) (by omega), w32_of (x := 60 * a) (by omega) (by omega), w32_of (x := 60 * b) (by omega) (by omega), w32_of (x := 60 * a + p) (by omega) (by omega), w32_of (x := 60 * b + q) (by omega) (by omega), w32_of (x := 60 * a + p + (m - 1 - i)) (by omega) (by omega), w32_of (x := 60 * b + q + (m - 1 - i)) (by omega) (by omega), w32_of (x := i + 1) (by omega) (by omega), xch_pos (by omega), xch_pos (by omega), xl_eq, xl_eq]
        rw [show (60 * a + p + (m - 1 - i)).toNat = 60 * a.toNat + p.toNat + (m - (i + 1)).toNat by omega, show (60 * b + q + (m - 1 - i)).toNat = 60 * b.toNat + q.toNat + (m - (i + 1)).toNat by omega]
        rw [show (m - i).toNat = (m - (i + 1)).toNat + 1 by omega, ← Nat.add_assoc, ← Nat.add_assoc, xcpy_less _ _ _ _ _ (by omega), show i.toNat + 1 = (i + 1).toNat by omega]
        exact ih1 (by omega) (by omega) (by omega)
      · simp only [if_neg hpq] at ih1 ⊢
        unfold M_pour_J143
        rw [hR.at 104 3 (by decide) (by decide), xR0_104.2.2.1, w32_of (x := 60 * a) (by omega) (by omega), w32_of (x := 60 * b) (by omega) (by omega), w32_of (x := 60 * a + p) (by omega) (by omega), w32_of (x := 60 * b + q) (by omega) (by omega), w32_of (x := 60 * a + p + i) (by omega) (by omega), w32_of (x := 60 * b + q + i) (by omega) (by omega), w32_of (x := i + 1) (by omega) (by omega), xch_pos (by omega), xch_pos (by omega), xl_eq, xl_eq]
        rw [show (60 * a + p + i).toNat = 60 * a.toNat + p.toNat + i.toNat by omega, show (60 * b + q + i).toNat = 60 * b.toNat + q.toNat + i.toNat by omega, xcpy_more _ _ _ _ _ (by omega), show i.toNat + 1 = (i + 1).toNat by omega]
        exact ih1 (by omega) (by omega) (by omega)
    · have e : i = m := by omega
      subst e
      rw [if_neg h, is_eq, xb2_some, if_pos rfl, xch_01.2, show (i - i).toNat = 0 by omega, Nat.add_zero, Nat.add_zero]
      simp only [ite_self]
theorem isv0 (M : xM) : f_M_is 104 0 M = some (1, xu M 104 0 0) := rfl
theorem isv1 (M : xM) : f_M_is 104 1 M = some (0, xu M 104 0 1) := rfl
theorem isv2 (M : xM) : f_M_is 104 2 M = some (0, xu M 104 0 2) := rfl
theorem isv3 (M : xM) : f_M_is 104 3 M = some (0, xu M 104 0 3) := rfl
theorem isv4 (M : xM) : f_M_is 104 4 M = some (0, xu M 104 0 4) := rfl
theorem isv5 (M : xM) : f_M_is 104 5 M = some (0, xu M 104 0 5) := rfl
theorem isv7 (M : xM) : f_M_is 104 7 M = some (0, xu M 104 0 7) := rfl
theorem isv8 (M : xM) : f_M_is 104 8 M = some (0, xu M 104 0 8) := rfl
theorem op_pour {R : xR} {M : xM} {pn ps ln ls : Nat} (hR : RG R pn ps ln ls) (hT : TrOK (M 6) (M 7) (M 5) (M 105) (M 106) (M 107)) {a p b q n : Int} (hp32 : xi32 p) (hq32 : xi32 q) (hn32 : xi32 n) :
    ∃ (r : Int) (M1 M2 : xM), f_X_pour R 1 a p b q n M = some (r, M1) ∧ f_M_pour R 104 a p b q n M1 = some (r, M2) ∧ ((∃ w, M2 = den w M) ∨
      (((0 ≤ a ∧ a < 4) ∧ (0 ≤ b ∧ b < 4) ∧ 0 ≤ p ∧ 0 ≤ q ∧ 0 ≤ n ∧ M 6 a.toNat ≠ -1 ∧ M 6 b.toNat ≠ -1 ∧ p + n ≤ M 7 a.toNat ∧ q + n ≤ M 7 b.toNat) ∧ M2 = den 0 (xcpy (xcpy M 5 5 (60 * a.toNat + p.toNat) (60 * b.toNat + q.toNat) n.toNat) 107 107 (60 * a.toNat + p.toNat) (60 * b.toNat + q.toNat) n.toNat))) := by
  have ex : ∀ w : Int, w ≠ 0 → f_X_pour R 1 a p b q n M = some (0, xu M 1 0 w) → f_M_pour R 104 a p b q n (xu M 1 0 w) = some (0, den w M) → ∃ (r : Int) (M1 M2 : xM), f_X_pour R 1 a p b q n M = some (r, M1) ∧ f_M_pour R 104 a p b q n M1 = some (r, M2) ∧ ((∃ w, M2 = den w M) ∨ (((0 ≤ a ∧ a < 4) ∧ (0 ≤ b ∧ b < 4) ∧ 0 ≤ p ∧ 0 ≤ q ∧ 0 ≤ n ∧ M 6 a.toNat ≠ -1 ∧ M 6 b.toNat ≠ -1 ∧ p + n ≤ M 7 a.toNat ∧ q + n ≤ M 7 b.toNat) ∧ M2 = den 0 (xcpy (xcpy M 5 5 (60 * a.toNat + p.toNat) (60 * b.toNat + q.toNat) n.toNat) 107 107 (60 * a.toNat + p.toNat) (60 * b.toNat + q.toNat) n.toNat))) :=
    fun w _ h1 h2 => ⟨0, _, _, h1, h2, Or.inl ⟨w, rfl⟩⟩
  unfold xi32 at hp32 hq32 hn32
  have r104 := xR0_104
  by_cases h1 : (0 ≤ a ∧ a < 4) ∧ (0 ≤ b ∧ b < 4) ∧ 0 ≤ p ∧ 0 ≤ q ∧ 0 ≤ n
  · obtain ⟨ha, hb, hp, hq, hn⟩ := h1
    have Ta := hT a.toNat (by omega)
    have Tb := hT b.toNat (by omega)
    have X0 : f_X_pour R 1 a p b q n M = (if M 6 a.toNat = -1 then some (0, xu M 1 0 2) else if M 6 b.toNat = -1 then some (0, xu M 1 0 2) else if M 6 a.toNat = M 6 b.toNat then (if p + n ≤ M 7 a.toNat then (if q + n ≤ M 7 b.toNat then xb1 (f_Y_move R 4 a p b q n M) (fun N => some (1, xu N 1 0 0)) else some (0, xu M 1 0 3)) else some (0, xu M 1 0 3)) else some (0, xu M 1 0 8)) := by
      unfold f_X_pour
      simp only [isTray_eq, xb1_some, x01_0, hR.2.1.2.1, isMissing_eq hR ha, isMissing_eq hR hb, areAlike_eq hR ha hb, hasRun_eq hR ha ⟨hp, hp32.2⟩ ⟨hn, hn32.2⟩, hasRun_eq hR hb ⟨hq, hq32.2⟩ ⟨hn, hn32.2⟩, deny_eq, done_eq, xb2_some, xch_01.1, xch_01.2]
      rw [if_neg (by omega), if_neg (by omega), if_neg (by omega), if_neg (by omega), if_neg (by omega)]
      simp only [ite_not, xch_pos, true_or, or_true]
    have M0 : ∀ N : xM, f_M_pour R 104 a p b q n N = (if N 106 a.toNat = -1 then some (0, xu N 104 0 2) else if N 106 b.toNat = -1 then some (0, xu N 104 0 2) else if N 105 a.toNat = N 105 b.toNat then (if w32 (N 106 a.toNat - p) < n then some (0, xu N 104 0 3) else if w32 (N 106 b.toNat - q) < n then some (0, xu N 104 0 3) else M_pour_F118 R 104 a p b q n xfu 0 N) else some (0, xu N 104 0 8)) := by
      intro N
      unfold f_M_pour
      simp only [isTrayM_eq, xb1_some, x01_0, hR.at 104 1 (by decide) (by decide), hR.at 104 2 (by decide) (by decide), r104.1, r104.2.1, isv1, isv2, isv3, isv8, xb2_some]
      rw [if_neg (by omega), if_neg (by omega), if_neg (by omega), if_neg (by omega), if_neg (by omega), xch_pos ha, xch_pos hb]
      simp only [xch_pos, true_or, or_true]
    have c6 : ∀ w : Int, (xu M 1 0 w) 106 = M 106 := fun w => xu_cell _ _ _ (by decide)
    have c5 : ∀ w : Int, (xu M 1 0 w) 105 = M 105 := fun w => xu_cell _ _ _ (by decide)
    rcases Ta with ⟨a1, a2⟩ | ⟨a1, a2, a3, a4, a5⟩
    · exact ex 2 (by decide) (by rw [X0, if_pos a1]) (by rw [M0, c6, if_pos a2]; rfl)
    rw [if_neg (by omega)] at X0
    rcases Tb with ⟨b1, b2⟩ | ⟨b1, b2, b3, b4, b5⟩
    · exact ex 2 (by decide) (by rw [X0, if_pos b1]) (by rw [M0, c6, if_neg (by omega), if_pos b2]; rfl)
    rw [if_neg (by omega)] at X0
    by_cases hs : M 6 a.toNat = M 6 b.toNat
    · rw [if_pos hs] at X0
      by_cases hra : p + n ≤ M 7 a.toNat
      · rw [if_pos hra] at X0
        by_cases hrb : q + n ≤ M 7 b.toNat
        · rw [if_pos hrb, move_eq hR ha hb hp hq hn (by omega) (by omega), xb1_some] at X0
          obtain ⟨N, hN⟩ : ∃ N, N = xcpy M 5 5 (60 * a.toNat + p.toNat) (60 * b.toNat + q.toNat) n.toNat := ⟨_, rfl⟩
          rw [← hN] at X0 ⊢
          have n6 : (xu N 1 0 0) 106 = M 106 := by rw [xu_cell _ _ _ (by decide), hN, xcpy_cell _ _ _ _ (by decide)]
          have n5 : (xu N 1 0 0) 105 = M 105 := by rw [xu_cell _ _ _ (by decide), hN, xcpy_cell _ _ _ _ (by decide)]
          have hF := pourM_F hR ha hb hp hq hn (by omega) (by omega) (xu N 1 0 0) xfu 0 (by omega) hn (by unfold xfu; omega)
          rw [show (0 : Int).toNat = 0 from rfl, xcpy_nil, xcpy_nil, ite_self] at hF
          refine ⟨1, _, _, X0, ?_, Or.inr ⟨⟨ha, hb, hp, hq, hn, by omega, by omega, hra, hrb⟩, rfl⟩⟩
          rw [M0, n6, n5, if_neg (by omega), if_neg (by omega), if_pos (by omega), w32_of (by omega) (by omega), w32_of (by omega) (by omega), if_neg (by omega), if_neg (by omega), hF]
          congr 2
          unfold den
          congr 1
          funext x y
          unfold xcpy xu
          by_cases e1 : x = 1
          · subst e1; simp
          · simp [e1]
        · rw [if_neg hrb] at X0
          exact ex 3 (by decide) X0 (by rw [M0, c6, c5, if_neg (by omega), if_neg (by omega), if_pos (by omega), w32_of (by omega) (by omega), w32_of (by omega) (by omega), if_neg (by omega), if_pos (by omega)]; rfl)
      · rw [if_neg hra] at X0
        exact ex 3 (by decide) X0 (by rw [M0, c6, c5, if_neg (by omega), if_neg (by omega), if_pos (by omega), w32_of (by omega) (by omega), if_pos (by omega)]; rfl)
    · rw [if_neg hs] at X0
      exact ex 8 (by decide) X0 (by rw [M0, c6, c5, if_neg (by omega), if_neg (by omega), if_neg (by omega)]; rfl)
  · have hX : f_X_pour R 1 a p b q n M = some (0, xu M 1 0 1) := by
      unfold f_X_pour
      simp only [isTray_eq, xb1_some, x01_0, deny_eq, xb2_some, xch_01.1]
      repeat' split
      all_goals first | rfl | omega
    have hM : f_M_pour R 104 a p b q n (xu M 1 0 1) = some (0, den 1 M) := by
      unfold f_M_pour
      simp only [isTrayM_eq, xb1_some, x01_0, is_eq, xb2_some, show ¬ ((1 : Int) = 0) by decide, if_false, xch_01.1]
      repeat' split
      all_goals first | rfl | omega
    exact ex 1 (by decide) hX hM
