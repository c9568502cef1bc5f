/-! ===== broken ===== -/
set_option maxRecDepth 100000 in
theorem xR0_bw : xR0 48 12 = 57 ∧ xR0 104 73 = 154 := by decide +kernel
theorem RG.lnn {R : xR} {pn ps ln ls : Nat} (h : RG R pn ps ln ls) : ln = 32 ∨ ln = 40 := by
  rcases h.2.2.2.2 with ⟨e, -⟩ | ⟨e, -⟩ <;> omega
/-- the class steps through hour H; the world of laws behind it, in both -/
theorem law_through {R : xR} {M : xM} {pn ps ln ls : Nat} (hR : RG R pn ps ln ls) (hW : WB pn M) (hI : FlI pn M) (hS : SC M) (hLw : LwOK ln M) {H : Nat} (hH : H < 48) : ∃ A, f_X_stepThrough R 1 (H : Int) M = some A ∧ FrG M A ∧ FlI pn A ∧ BX ln H (sim (w0 pn M) (H + 1) 1) (M 57) A ∧ A ln 0 = M ln 0 ∧ (∀ B : xM, (∀ x, x ≠ 1 → x ≠ ln + 7 → B x = A x) → ∃ C, f_M_steps R 104 (H : Int) B = some C ∧ FrM B C ∧ BM ln H (sim (w0 pn M) (H + 1) 1) (M 57) C) := by
  have hln := hR.lnn
  have hpn := hR.pnn
  obtain ⟨A, n, a1, a2, a3, a4, a5, a6, a7, a8, a9, a10, a11, a12, a13, a14, a15⟩ := both_through hR hW hI hS hH
  have lA : LwOK ln A := hLw.of (fun j hj => a2.1 _ (by omega)) (by rw [a2.1 104 (by decide)]) (fun x h1 h2 => a2.1 x (by omega))
  refine ⟨A, a1, a2, a3, ⟨lA, fun h hh => ⟨fun j hj => a14 _ (by omega), by rw [a2.1 57 (by decide)]⟩⟩, by rw [a2.1 ln (by omega)], fun B hB => ?_⟩
  have wB : WB pn B := by
    refine ⟨?_, ?_, ?_, ?_, ?_⟩
    · have e : ∀ k, k < 12 → B (pn + k) = A (pn + k) := fun k hk => hB _ (by omega) (by omega)
      have e0 : B pn = A pn := e 0 (by decide)
      unfold PlOK ClOK
      simp only [e0, e 3 (by decide), e 4 (by decide), e 5 (by decide), e 6 (by decide), e 8 (by decide), e 9 (by decide), e 10 (by decide), e 11 (by decide), hB 104 (by decide) (by omega), hB 121 (by decide) (by omega), hB 122 (by decide) (by omega), hB 123 (by decide) (by omega), hB 124 (by decide) (by omega), hB 125 (by decide) (by omega), hB 126 (by decide) (by omega), hB 127 (by decide) (by omega), hB 128 (by decide) (by omega)]
      exact a4.1
    · unfold BcOK
      rw [hB 48 (by decide) (by omega), hB 104 (by decide) (by omega)]
      exact a4.2.1
    · unfold RowOK
      rw [hB 48 (by decide) (by omega), hB 144 (by decide) (by omega), hB 145 (by decide) (by omega), hB 146 (by decide) (by omega), hB 147 (by decide) (by omega), hB 148 (by decide) (by omega), hB 49 (by decide) (by omega), hB 50 (by decide) (by omega), hB 51 (by decide) (by omega)]
      exact a4.2.2.1
    · unfold EvOK
      rw [hB 48 (by decide) (by omega), hB 149 (by decide) (by omega), hB 150 (by decide) (by omega), hB 151 (by decide) (by omega), hB 152 (by decide) (by omega), hB 153 (by decide) (by omega), hB 52 (by decide) (by omega), hB 53 (by decide) (by omega), hB 54 (by decide) (by omega), hB 55 (by decide) (by omega), hB 56 (by decide) (by omega), hB pn (by omega) (by omega), hB (pn + 3) (by omega) (by omega)]
      exact a4.2.2.2.1
    · rw [hB 154 (by decide) (by omega), hB 57 (by decide) (by omega)]
      exact a4.2.2.2.2
  have sB : SC B := by unfold SC; rw [hB 104 (by decide) (by omega)]; exact a5
  have ew : w0 pn B = w0 pn M := by rw [← a7]; exact w0_cg (fun k hk => hB _ (by omega) (by omega)) (fun x h1 h2 => hB x (by omega) (by omega)) (fun k _ => by rw [hB 48 (by decide) (by omega)])
  obtain ⟨C, c1, c2, c3⟩ := msteps hR wB sB hH
  rw [ew] at c3
  refine ⟨C, c1, c2, lA.of (fun j hj => by rw [c2 _ (by omega), hB _ (by omega) (by omega)]) (by rw [c2 104 (by decide), hB 104 (by decide) (by omega)]) (fun x h1 h2 => by rw [c2 x (by omega), hB x (by omega) (by omega)]), fun h hh => ⟨fun j hj => c3.1.1 _ (by omega), ?_⟩⟩
  rw [c2 154 (by decide), hB 154 (by decide) (by omega), a2.1 154 (by decide)]
  exact hW.2.2.2.2 h (by omega)
theorem op_broken {R : xR} {M : xM} {pn ps ln ls : Nat} (hR : RG R pn ps ln ls) (hW : WB pn M) (hI : FlI pn M) (hS : SC M) (hLw : LwOK ln M) (a b : Int) :
    ∃ (r : Int) (M1 M2 : xM), f_X_broken R 1 a b M = some (r, M1) ∧ f_M_broken R 104 a b M1 = some (r, M2) ∧ FrU M M2 ∧ FlI pn M2 := by
  have hpn := hR.pnn
  have hln := hR.lnn
  have r5 : R 1 5 = ln := hR.2.1.2.2.2.2.1
  have r7 : R 1 7 = 48 := hR.2.1.2.2.2.2.2.2.1
  have r8 : R 1 8 = 62 := hR.2.1.2.2.2.2.2.2.2.1
  have r62 : R 62 1 = 63 := hR.fl62.1
  have r48 : R 48 12 = 57 := by rw [hR.at 48 12 (by decide) (by decide)]; exact xR0_bw.1
  have s80 : R 104 80 = 156 := hR.m80 (k := 0) (by decide)
  have s73 : R 104 73 = 154 := by rw [hR.at 104 73 (by decide) (by decide)]; exact xR0_bw.2
  have s89 : R 104 89 = 165 := by rw [hR.at 104 89 (by decide) (by decide)]; exact xR0_l8.2.2
  have D : ∀ w, FrU M (den w M) ∧ FlI pn (den w M) := fun w => ⟨FrU_den w, hI.of (by omega) (by omega) (fun x _ _ _ _ => den_oth (by omega) (by omega)) (by omega)⟩
  have m40 : M 104 40 = M ln 0 := by
    obtain ⟨m, c, _, _, h1, h2, _⟩ := hLw
    rw [h1, h2]
  unfold f_X_broken f_M_broken
  simp only [isHour_eq, isHourM_eq, xb1_some, x01_0, refuse_eq, refuseM_eq, xb2_some, r5, r7, r8, r62, r48]
  by_cases h1 : a < 0
  · simp only [if_pos h1]
    exact ⟨-1, _, den 1 M, rfl, rfl, D 1⟩
  · simp only [if_neg h1]
    by_cases h2 : a < M ln 0
    · simp only [if_pos h2]
      by_cases h3 : 0 ≤ b ∧ b < 48
      · simp only [if_neg (show ¬¬(0 ≤ b ∧ b < 48) from fun q => q h3)]
        obtain ⟨l, rfl⟩ : ∃ l : Nat, a = l := ⟨a.toNat, by omega⟩
        obtain ⟨H, rfl⟩ : ∃ H : Nat, b = H := ⟨b.toNat, by omega⟩
        obtain ⟨A, a1, a2, a3, a4, a5, a6⟩ := law_through hR hW hI hS hLw (H := H) (by omega)
        obtain ⟨B, b1, b2⟩ := isBroken_eq hR.lnR hR.l8 (show ln + 8 ≤ 48 by omega) (show H < 48 by omega) a4 (l := l) (by rw [a5]; exact h2)
        obtain ⟨v, hv⟩ : ∃ v, v = bkV ln l A (sim (w0 pn M) (H + 1) 1) (M 57) H := ⟨_, rfl⟩
        rw [← hv] at b1
        have v01 : v = 0 ∨ v = 1 := by rw [hv]; exact bkV_01 _ _ _ _ _ _
        obtain ⟨E, hE⟩ : ∃ E, E = xu B 1 0 0 := ⟨_, rfl⟩
        have eO : ∀ x, x ≠ 1 → x ≠ ln + 7 → E x = A x := fun x h1 h2 => by rw [hE, xu1_c _ _ h1, b2 x h2]
        obtain ⟨C, c1, c2, c3⟩ := a6 E eO
        have cl : ∀ j, j < 7 → C (ln + j) = A (ln + j) := fun j hj => by rw [c2 _ (by omega), eO _ (by omega) (by omega)]
        have c0 : C ln = A ln := cl 0 (by decide)
        obtain ⟨F, f1, f2⟩ := breaks_eq hR.ms s89 s80 s73 (show ln + 8 ≤ 48 by omega) (show H < 48 by omega) (Nat.le_refl H) c3 (l := l) (by rw [c0, a5]; exact h2)
        rw [bkV_cg cl, ← hv] at f1
        have cX : (xb1 (f_X_stepThrough R 1 (H : Int) M) fun M_12 => xb2 (f_L_isBroken R ln (l : Int) (H : Int) 63 57 M_12) fun r_14 M_15 => if r_14 = 0 then xb2 (f_X_answer 1 0 M_15) fun r_18 M_19 => some (r_18, M_19) else xb2 (f_X_answer 1 1 M_15) fun r_21 M_22 => some (r_21, M_22)) = some (v, E) := by
          rw [a1, xb1_some, b1, xb2_some]
          rcases v01 with y | y
          · rw [if_pos y, answer_eq, xb2_some, hE, y]
          · rw [if_neg (by omega), answer_eq, xb2_some, hE, y]
        refine ⟨v, E, xu F 104 0 0, cX, ?_, ⟨fun x hx => ?_, fun k hk => ?_, fun k hk => ?_, fun k hk => ?_, ?_⟩, ?_⟩
        · have e40 : E 104 40 = M ln 0 := by rw [eO 104 (by decide) (by omega), a2.1 104 (by decide)]; exact m40
          rw [e40, if_pos h2, c1, xb1_some, f1, xb2_some]
          rcases v01 with y | y
          · rw [if_pos y, gives_eq, xb2_some, y]
          · rw [if_neg (by omega), gives_eq, xb2_some, y]
        · rw [xu_cell _ _ _ (by omega), f2 x (by omega), c2 x (by omega), eO x (by omega) (by omega), a2.1 x (by omega)]
        · rw [xu_cell _ _ _ (by decide), f2 48 (by decide), c2 48 (by decide), eO 48 (by decide) (by omega), a2.2.1 k hk]
        · rw [xu_cell _ _ _ (by decide), f2 1 (by decide), c2 1 (by decide), hE, xu_at, if_neg hk, b2 1 (by omega), a2.1 1 (by decide)]
        · rw [xu_at, if_neg hk, f2 104 (by decide), c2 104 (by decide), eO 104 (by decide) (by omega), a2.1 104 (by decide)]
        · rw [xu_at, if_pos rfl, xu_cell _ _ _ (by decide), f2 1 (by decide), c2 1 (by decide), hE, xu_at, if_pos rfl]
        · exact a3.of (by omega) (by omega) (fun x h1 h2 h3 h4 => by rw [xu_cell _ _ _ (by omega), f2 x (by omega), c2 x (by omega), eO x (by omega) (by omega)]) (by omega)
      · simp only [if_pos h3]
        refine ⟨-1, _, den 1 M, rfl, ?_, D 1⟩
        rw [xu1_104, m40, if_pos h2]
        rfl
    · simp only [if_neg h2]
      refine ⟨-1, _, den 1 M, rfl, ?_, D 1⟩
      rw [xu1_104, m40, if_neg h2]
      rfl
/-! ===== breach ===== -/
def CI (Bk : Nat → Nat → Int) (l : Nat) (bl bh : Int) : Prop := (bl = -1 ∧ bh = 48 ∧ ∀ k h, k < l → h < 48 → Bk k h = 0) ∨ (∃ L G : Nat, bl = (L : Int) ∧ bh = (G : Int) ∧ L < l ∧ G < 48 ∧ Bk L G = 1 ∧ ∀ k h, k < l → h < 48 → Bk k h = 1 → G < h ∨ (G = h ∧ L ≤ k))
theorem bch_F29 {R : xR} {M : xM} {pn ps ln ls : Nat} (hR : RG R pn ps ln ls) {u wv : Nat → Int} {Bk : Nat → Nat → Int} {m : Nat} (hm8 : m ≤ 8) (a : Int) (Q : Int → Int → xM → Option (Int × xM)) : ∀ (k f l : Nat) (bl bh : Int) (M : xM), k < f → l + k = m → BX ln 47 u wv M → M ln 0 = (m : Int) → (∀ l h, bkV ln l M u wv h = Bk l h) → CI Bk l bl bh → ∃ bl' bh' M', X_breach_F29 R 1 a Q f bl bh (l : Int) M = Q bl' bh' M' ∧ (∀ x, x ≠ ln + 7 → M' x = M x) ∧ CI Bk m bl' bh' := by
  have xf : xfu = 1000000 := rfl
  have hln := hR.lnn
  have r5 : R 1 5 = ln := hR.2.1.2.2.2.2.1
  have r7 : R 1 7 = 48 := hR.2.1.2.2.2.2.2.2.1
  have r8 : R 1 8 = 62 := hR.2.1.2.2.2.2.2.2.2.1
  have r62 : R 62 1 = 63 := hR.fl62.1
  have r48 : R 48 12 = 57 := by rw [hR.at 48 12 (by decide) (by decide)]; exact xR0_bw.1
  intro k
  induction k with
  | zero =>
    intro f l bl bh M hf hl hB h0 _ hC
    obtain ⟨f, rfl⟩ : ∃ g, f = g + 1 := ⟨f - 1, by omega⟩
    have e : l = m := by omega
    refine ⟨bl, bh, M, ?_, fun _ _ => rfl, by rw [← e]; exact hC⟩
    rw [X_breach_F29, r5, h0, if_neg (by omega)]
  | succ k ih =>
    intro f l bl bh M hf hl hB h0 hk hC
    obtain ⟨f, rfl⟩ : ∃ g, f = g + 1 := ⟨f - 1, by omega⟩
    obtain ⟨r, N, n1, n2, n3⟩ := first_F6 hR.lnR hR.l8 (show ln + 8 ≤ 48 by omega) (l := l) (u := u) (wv := wv) 48 xfu 0 0 M (by omega) (by omega) hB (by rw [h0]; omega) (by
      rw [Nat.zero_sub]
      show (0 : Int) = w64 (0 - 0)
      decide)
    have n1' : f_L_firstBroken R ln (l : Int) 63 57 M = some (r, N) := n1
    have J : ∀ v w X, X_breach_J84 R 1 a (X_breach_F29 R 1 a Q f) Q v w (l : Int) X = X_breach_F29 R 1 a Q f v w ((l + 1 : Nat) : Int) X := by
      intro v w X
      unfold X_breach_J84
      rw [xl_eq, w32_of (x := (l : Int) + 1) (by omega) (by omega)]
      rfl
    have go : ∀ v w, CI Bk (l + 1) v w → ∃ bl' bh' M', X_breach_F29 R 1 a Q f v w ((l + 1 : Nat) : Int) N = Q bl' bh' M' ∧ (∀ x, x ≠ ln + 7 → M' x = M x) ∧ CI Bk m bl' bh' := by
      intro v w hc
      obtain ⟨bl', bh', M', m1, m2, m3⟩ := ih f (l + 1) v w N (by omega) (by omega) (hB.of (by omega) n2) (by rw [n2 ln (by omega)]; exact h0) (fun l' h' => by rw [bkV_cg fun j hj => n2 _ (by omega)]; exact hk l' h') hc
      exact ⟨bl', bh', M', m1, fun x hx => (m2 x hx).trans (n2 x hx), m3⟩
    rw [X_breach_F29, r5, r7, r8, r62, r48, h0, if_pos (by omega), n1', xb2_some, J, J]
    rcases n3 with ⟨p1, p2⟩ | ⟨g, p1, p2, p3, p4, p5⟩
    · rw [if_pos p1]
      refine go bl bh ?_
      have z : ∀ h, h < 48 → Bk l h = 0 := fun h hh => by rw [← hk]; exact p2 h (by omega) hh
      rcases hC with ⟨c1, c2, c3⟩ | ⟨L, G, c1, c2, c3, c4, c5, c6⟩
      · refine Or.inl ⟨c1, c2, fun k' h' h1 h2 => ?_⟩
        by_cases y : k' = l
        · rw [y]; exact z h' h2
        · exact c3 k' h' (by omega) h2
      · refine Or.inr ⟨L, G, c1, c2, by omega, c4, c5, fun k' h' h1 h2 h3 => ?_⟩
        by_cases y : k' = l
        · rw [y, z h' h2] at h3
          exact absurd h3 (by decide)
        · exact c6 k' h' (by omega) h2 h3
    · rw [if_neg (show ¬ r = -1 by omega)]
      have z1 : Bk l g = 1 := by rw [← hk]; exact p4
      have z0 : ∀ h, h < g → Bk l h = 0 := fun h hh => by rw [← hk]; exact p5 h (by omega) hh
      have zmin : ∀ h, Bk l h = 1 → g ≤ h := fun h hh => by
        by_cases y : h < g
        · rw [z0 h y] at hh
          exact absurd hh (by decide)
        · omega
      rcases hC with ⟨c1, c2, c3⟩ | ⟨L, G, c1, c2, c3, c4, c5, c6⟩
      · rw [if_pos (show r < bh by omega), p1]
        refine go _ _ (Or.inr ⟨l, g, rfl, rfl, by omega, p3, z1, fun k' h' h1 h2 h3 => ?_⟩)
        by_cases y : k' = l
        · rw [y] at h3
          have := zmin h' h3
          omega
        · rw [c3 k' h' (by omega) h2] at h3
          exact absurd h3 (by decide)
      · by_cases y : r < bh
        · rw [if_pos y, p1]
          refine go _ _ (Or.inr ⟨l, g, rfl, rfl, by omega, p3, z1, fun k' h' h1 h2 h3 => ?_⟩)
          by_cases y2 : k' = l
          · rw [y2] at h3
            have := zmin h' h3
            omega
          · have := c6 k' h' (by omega) h2 h3
            omega
        · rw [if_neg y]
          refine go _ _ (Or.inr ⟨L, G, c1, c2, by omega, c4, c5, fun k' h' h1 h2 h3 => ?_⟩)
          by_cases y2 : k' = l
          · rw [y2] at h3
            have := zmin h' h3
            omega
          · exact c6 k' h' (by omega) h2 h3
theorem bchM_F31 {S : xR} (hS : MS S) (s89 : S 104 89 = 165) (s80 : S 104 80 = 156) (s73 : S 104 73 = 154) {q : Nat} (hq48 : q + 8 ≤ 48) {u wv : Nat → Int} {Bk : Nat → Nat → Int} {m h : Nat} (hm8 : m ≤ 8) (hh : h < 48) (a : Int) (Q1 : Int → xM → Option (Int × xM)) (Q2 : Int → Int → xM → Option (Int × xM)) : ∀ (k f l : Nat) (M : xM), k < f → l + k = m → BM q 47 u wv M → M q 0 = (m : Int) → M 104 40 = (m : Int) → (∀ l h, bkV q l M u wv h = Bk l h) → ∃ M', (∀ x, x ≠ 165 → M' x = M x) ∧ (((∀ i, l ≤ i → i < m → Bk i h = 0) ∧ M_breach_F31 S 104 a Q1 Q2 f (h : Int) (l : Int) M = Q1 (h : Int) M') ∨ (∃ L : Nat, l ≤ L ∧ L < m ∧ Bk L h = 1 ∧ (∀ i, l ≤ i → i < L → Bk i h = 0) ∧ M_breach_F31 S 104 a Q1 Q2 f (h : Int) (l : Int) M = Q2 (h : Int) (L : Int) M')) := by
  intro k
  induction k with
  | zero =>
    intro f l M hf hl hB h0 h40 _
    obtain ⟨f, rfl⟩ : ∃ g, f = g + 1 := ⟨f - 1, by omega⟩
    refine ⟨M, fun _ _ => rfl, Or.inl ⟨fun i h1 h2 => by omega, ?_⟩⟩
    rw [M_breach_F31, h40, if_neg (by omega)]
  | succ k ih =>
    intro f l M hf hl hB h0 h40 hk
    obtain ⟨f, rfl⟩ : ∃ g, f = g + 1 := ⟨f - 1, by omega⟩
    obtain ⟨N, n1, n2⟩ := breaks_eq hS s89 s80 s73 hq48 hh (show h ≤ 47 by omega) hB (l := l) (by rw [h0]; omega)
    rw [hk] at n1
    rw [M_breach_F31, h40, if_pos (by omega), n1, xb2_some]
    by_cases z : Bk l h = 0
    · obtain ⟨M', m1, m2⟩ := ih f (l + 1) N (by omega) (by omega) (hB.of hq48 n2) (by rw [n2 q (by omega)]; exact h0) (by rw [n2 104 (by decide)]; exact h40) (fun l' h' => by rw [bkV_cg fun j hj => n2 _ (by omega)]; exact hk l' h')
      rw [if_pos z, xl_eq, w32_of (x := (l : Int) + 1) (by omega) (by omega)]
      refine ⟨M', fun x hx => (m1 x hx).trans (n2 x hx), ?_⟩
      rcases m2 with ⟨p1, p2⟩ | ⟨L, p1, p2, p3, p4, p5⟩
      · refine Or.inl ⟨fun i h1 h2 => ?_, p2⟩
        by_cases y : i = l
        · rw [y]; exact z
        · exact p1 i (by omega) h2
      · refine Or.inr ⟨L, by omega, p2, p3, fun i h1 h2 => ?_, p5⟩
        by_cases y : i = l
        · rw [y]; exact z
        · exact p4 i (by omega) h2
    · rw [if_neg z]
      have z1 : Bk l h = 1 := by
        rcases bkV_01 q l M u wv h with y | y
        · rw [hk] at y; exact absurd y z
        · rw [hk] at y; exact y
      exact ⟨N, n2, Or.inr ⟨l, Nat.le_refl l, by omega, z1, fun i h1 h2 => by omega, rfl⟩⟩
theorem bchM_F23 {S : xR} (hS : MS S) (s89 : S 104 89 = 165) (s80 : S 104 80 = 156) (s73 : S 104 73 = 154) {q : Nat} (hq48 : q + 8 ≤ 48) {u wv : Nat → Int} {Bk : Nat → Nat → Int} {m : Nat} (hm8 : m ≤ 8) (a : Int) (Q2 : Int → Int → xM → Option (Int × xM)) : ∀ (k f h : Nat) (M : xM), k < f → h + k = 48 → BM q 47 u wv M → M q 0 = (m : Int) → M 104 40 = (m : Int) → (∀ l h, bkV q l M u wv h = Bk l h) → (∀ l g, l < m → g < h → Bk l g = 0) → ∃ M', (∀ x, x ≠ 165 → M' x = M x) ∧ (((∀ l g, l < m → g < 48 → Bk l g = 0) ∧ M_breach_F23 S 104 a Q2 f (h : Int) M = some (-1, xu M' 104 0 6)) ∨ (∃ L G : Nat, L < m ∧ G < 48 ∧ Bk L G = 1 ∧ (∀ l g, l < m → g < 48 → Bk l g = 1 → G < g ∨ (G = g ∧ L ≤ l)) ∧ M_breach_F23 S 104 a Q2 f (h : Int) M = Q2 (G : Int) (L : Int) M')) := by
  have xf : xfu = 1000000 := rfl
  intro k
  induction k with
  | zero =>
    intro f h M hf hh _ _ _ _ hz
    obtain ⟨f, rfl⟩ : ∃ g, f = g + 1 := ⟨f - 1, by omega⟩
    refine ⟨M, fun _ _ => rfl, Or.inl ⟨fun l g h1 h2 => hz l g h1 (by omega), ?_⟩⟩
    rw [M_breach_F23, if_neg (by omega), refuseM_eq, xb2_some]
  | succ k ih =>
    intro f h M hf hh hB h0 h40 hk hz
    obtain ⟨f, rfl⟩ : ∃ g, f = g + 1 := ⟨f - 1, by omega⟩
    obtain ⟨N, n1, n2⟩ := bchM_F31 hS s89 s80 s73 hq48 (h := h) hm8 (by omega) a (fun (v2_18 : Int) (M_19 : xM) =>
          xl (w32 (v2_18 + 1)) fun v2_20 =>
          M_breach_F23 S 104 a Q2 f v2_20 M_19) (fun (v2_21 : Int) (v3_22 : Int) (M_23 : xM) => Q2 v2_21 v3_22 M_23) m xfu 0 M (by omega) (by omega) hB h0 h40 hk
    rw [M_breach_F23, if_pos (by omega)]
    rcases n2 with ⟨p1, p2⟩ | ⟨L, p1, p2, p3, p4, p5⟩
    · obtain ⟨M', m1, m2⟩ := ih f (h + 1) N (by omega) (by omega) (hB.of hq48 n1) (by rw [n1 q (by omega)]; exact h0) (by rw [n1 104 (by decide)]; exact h40) (fun l' h' => by rw [bkV_cg fun j hj => n1 _ (by omega)]; exact hk l' h') (fun l g h1 h2 => by
        by_cases y : g = h
        · rw [y]; exact p1 l (by omega) h1
        · exact hz l g h1 (by omega))
      refine ⟨M', fun x hx => (m1 x hx).trans (n1 x hx), ?_⟩
      have e : M_breach_F31 S 104 a (fun (v2_18 : Int) (M_19 : xM) =>
          xl (w32 (v2_18 + 1)) fun v2_20 =>
          M_breach_F23 S 104 a Q2 f v2_20 M_19) (fun (v2_21 : Int) (v3_22 : Int) (M_23 : xM) => Q2 v2_21 v3_22 M_23) xfu (h : Int) 0 M = M_breach_F23 S 104 a Q2 f ((h + 1 : Nat) : Int) N := by
        refine p2.trans ?_
        rw [xl_eq, w32_of (x := (h : Int) + 1) (by omega) (by omega)]
        rfl
      rw [e]
      exact m2
    · refine ⟨N, n1, Or.inr ⟨L, h, p2, by omega, p3, fun l g h1 h2 h3 => ?_, p5⟩⟩
      by_cases y : g < h
      · rw [hz l g h1 y] at h3
        exact absurd h3 (by decide)
      · by_cases y2 : g = h
        · by_cases y3 : l < L
          · rw [y2, p4 l (by omega) y3] at h3
            exact absurd h3 (by decide)
          · omega
        · omega
theorem op_breach {R : xR} {M : xM} {pn ps ln ls : Nat} (hR : RG R pn ps ln ls) (hW : WB pn M) (hI : FlI pn M) (hS : SC M) (hLw : LwOK ln M) (a : Int) :
    ∃ (r : Int) (M1 M2 : xM), f_X_breach R 1 a M = some (r, M1) ∧ f_M_breach R 104 a M1 = some (r, M2) ∧ FrU M M2 ∧ FlI pn M2 := by
  have xf : xfu = 1000000 := rfl
  have hpn := hR.pnn
  have hln := hR.lnn
  have s80 : R 104 80 = 156 := hR.m80 (k := 0) (by decide)
  have s73 : R 104 73 = 154 := by rw [hR.at 104 73 (by decide) (by decide)]; exact xR0_bw.2
  have s89 : R 104 89 = 165 := by rw [hR.at 104 89 (by decide) (by decide)]; exact xR0_l8.2.2
  have D : ∀ w, FrU M (den w M) ∧ FlI pn (den w M) := fun w => ⟨FrU_den w, hI.of (by omega) (by omega) (fun x _ _ _ _ => den_oth (by omega) (by omega)) (by omega)⟩
  unfold f_X_breach f_M_breach
  simp only [refuse_eq, refuseM_eq, xb2_some]
  by_cases h1 : a < 0
  · simp only [if_pos h1]
    exact ⟨-1, _, den 1 M, rfl, rfl, D 1⟩
  · simp only [if_neg h1]
    by_cases h2 : 1 < a
    · simp only [if_pos h2]
      exact ⟨-1, _, den 1 M, rfl, rfl, D 1⟩
    · simp only [if_neg h2]
      obtain ⟨A, a1, a2, a3, a4, a5, a6⟩ := law_through hR hW hI hS hLw (H := 47) (by omega)
      have a1' : f_X_stepThrough R 1 47 M = some A := a1
      have lwM := hLw
      obtain ⟨m, c, hm8, _, hm0, hm40, _⟩ := lwM
      obtain ⟨u, hu⟩ : ∃ u, u = sim (w0 pn M) (47 + 1) 1 := ⟨_, rfl⟩
      rw [← hu] at a4 a6
      obtain ⟨Bk, hBk⟩ : ∃ Bk : Nat → Nat → Int, Bk = fun l h => bkV ln l A u (M 57) h := ⟨_, rfl⟩
      obtain ⟨bl, bh, B, b1, b2, b3⟩ := bch_F29 (M := M) hR (u := u) (wv := M 57) (Bk := Bk) hm8 a (fun (v2_18 : Int) (v3_19 : Int) (M_20 : xM) =>
          if v2_18 = -1 then
            some (-1, xu M_20 1 0 6)
          else
            if a = 0 then
              xb2 (f_X_answer 1 v3_19 M_20) fun r_26 M_27 =>
              some (r_26, M_27)
            else
              xb2 (f_X_answer 1 v2_18 M_20) fun r_29 M_30 =>
              some (r_29, M_30)) m xfu 0 (-1) 48 A (by omega) (by omega) a4 (by rw [a5]; exact hm0) (fun l h => by rw [hBk]) (Or.inl ⟨rfl, rfl, fun k h h1 _ => by omega⟩)
      -- what the model says, from the class's end
      have mod : ∀ E : xM, (∀ x, x ≠ 1 → x ≠ ln + 7 → E x = A x) → ∃ F, (∀ x, x < 156 ∨ 166 ≤ x → F x = E x) ∧ (((∀ l g, l < m → g < 48 → Bk l g = 0) ∧ (xb1 (f_M_steps R 104 47 E) fun M_9 => M_breach_F23 R 104 a (fun (v2_27 : Int) (v3_28 : Int) (M_29 : xM) => if a = 0 then xb2 (f_M_gives 104 v2_27 M_29) fun r_31 M_32 => some (r_31, M_32) else xb2 (f_M_gives 104 v3_28 M_29) fun r_34 M_35 => some (r_34, M_35)) xfu 0 M_9) = some (-1, xu F 104 0 6)) ∨ (∃ L G : Nat, L < m ∧ G < 48 ∧ Bk L G = 1 ∧ (∀ l g, l < m → g < 48 → Bk l g = 1 → G < g ∨ (G = g ∧ L ≤ l)) ∧ (xb1 (f_M_steps R 104 47 E) fun M_9 => M_breach_F23 R 104 a (fun (v2_27 : Int) (v3_28 : Int) (M_29 : xM) => if a = 0 then xb2 (f_M_gives 104 v2_27 M_29) fun r_31 M_32 => some (r_31, M_32) else xb2 (f_M_gives 104 v3_28 M_29) fun r_34 M_35 => some (r_34, M_35)) xfu 0 M_9) = some (if a = 0 then (G : Int) else (L : Int), xu F 104 0 0))) := by
        intro E eO
        obtain ⟨C, c1, c2, c3⟩ := a6 E eO
        have c1' : f_M_steps R 104 47 E = some C := c1
        have cl : ∀ j, j < 7 → C (ln + j) = A (ln + j) := fun j hj => by rw [c2 _ (by omega), eO _ (by omega) (by omega)]
        have c0 : C ln = A ln := cl 0 (by decide)
        obtain ⟨F, f1, f2⟩ := bchM_F23 hR.ms s89 s80 s73 (show ln + 8 ≤ 48 by omega) (u := u) (wv := M 57) (Bk := Bk) hm8 a (fun (v2_27 : Int) (v3_28 : Int) (M_29 : xM) => if a = 0 then xb2 (f_M_gives 104 v2_27 M_29) fun r_31 M_32 => some (r_31, M_32) else xb2 (f_M_gives 104 v3_28 M_29) fun r_34 M_35 => some (r_34, M_35)) 48 xfu 0 C (by omega) (by omega) c3 (by rw [c0, a5]; exact hm0) (by rw [c2 104 (by decide), eO 104 (by decide) (by omega), a2.1 104 (by decide)]; exact hm40) (fun l h => by rw [bkV_cg cl, hBk]) (fun l g _ h2 => by omega)
        refine ⟨F, fun x hx => by rw [f1 x (by omega), c2 x (by omega)], ?_⟩
        rw [c1', xb1_some]
        rcases f2 with ⟨p1, p2⟩ | ⟨L, G, p1, p2, p3, p4, p5⟩
        · exact Or.inl ⟨p1, p2⟩
        · refine Or.inr ⟨L, G, p1, p2, p3, p4, p5.trans ?_⟩
          by_cases y : a = 0
          · rw [if_pos y, if_pos y, gives_eq, xb2_some]
          · rw [if_neg y, if_neg y, gives_eq, xb2_some]
      have fr : ∀ (w v : Int) (E F : xM), (E = xu B 1 0 w) → (∀ x, x < 156 ∨ 166 ≤ x → F x = E x) → v = w → FrU M (xu F 104 0 v) ∧ FlI pn (xu F 104 0 v) := by
        intro w v E F hE hF hv
        have eO : ∀ x, x ≠ 1 → x ≠ ln + 7 → E x = A x := fun x h1 h2 => by rw [hE, xu1_c _ _ h1, b2 x h2]
        refine ⟨⟨fun x hx => ?_, fun k hk => ?_, fun k hk => ?_, fun k hk => ?_, ?_⟩, ?_⟩
        · rw [xu_cell _ _ _ (by omega), hF x (by omega), eO x (by omega) (by omega), a2.1 x (by omega)]
        · rw [xu_cell _ _ _ (by decide), hF 48 (by decide), eO 48 (by decide) (by omega), a2.2.1 k hk]
        · rw [xu_cell _ _ _ (by decide), hF 1 (by decide), hE, xu_at, if_neg hk, b2 1 (by omega), a2.1 1 (by decide)]
        · rw [xu_at, if_neg hk, hF 104 (by decide), eO 104 (by decide) (by omega), a2.1 104 (by decide)]
        · rw [xu_at, if_pos rfl, xu_cell _ _ _ (by decide), hF 1 (by decide), hE, xu_at, if_pos rfl, hv]
        · exact a3.of (by omega) (by omega) (fun x h1 h2 h3 h4 => by rw [xu_cell _ _ _ (by omega), hF x (by omega), eO x (by omega) (by omega)]) (by omega)
      rw [a1', xb1_some]
      have b1' := b1
      rw [show ((0 : Nat) : Int) = 0 from rfl] at b1'
      rcases b3 with ⟨q1, q2, q3⟩ | ⟨L, G, q1, q2, q3, q4, q5, q6⟩
      · obtain ⟨F, f1, f2⟩ := mod (xu B 1 0 6) (fun x h1 h2 => by rw [xu1_c _ _ h1, b2 x h2])
        refine ⟨-1, xu B 1 0 6, xu F 104 0 6, ?_, ?_, fr 6 6 _ F rfl f1 rfl⟩
        · refine b1'.trans ?_
          rw [if_pos q1]
        · rcases f2 with ⟨_, p2⟩ | ⟨L, G, p1, p2, p3, _⟩
          · exact p2
          · rw [q3 L G p1 p2] at p3
            exact absurd p3 (by decide)
      · obtain ⟨F, f1, f2⟩ := mod (xu B 1 0 0) (fun x h1 h2 => by rw [xu1_c _ _ h1, b2 x h2])
        refine ⟨if a = 0 then (G : Int) else (L : Int), xu B 1 0 0, xu F 104 0 0, ?_, ?_, fr 0 0 _ F rfl f1 rfl⟩
        · refine b1'.trans ?_
          rw [if_neg (show ¬ bl = -1 by omega)]
          by_cases y : a = 0
          · rw [if_pos y, if_pos y, answer_eq, xb2_some, q2]
          · rw [if_neg y, if_neg y, answer_eq, xb2_some, q1]
        · rcases f2 with ⟨p1, _⟩ | ⟨L', G', p1, p2, p3, p4, p5⟩
          · rw [p1 L G q3 q4] at q5
            exact absurd q5 (by decide)
          · have u1 := p4 L G q3 q4 q5
            have u2 := q6 L' G' p1 p2 p3
            have e1 : G = G' := by omega
            have e2 : L = L' := by omega
            rw [e1, e2]
            exact p5
