/-! ===== stepping through the hours, in the class ===== -/
/-- plant, book, rows, events and warmth of class and model -/
def WB (p : Nat) (M : xM) : Prop := PlOK p M ∧ BcOK M ∧ RowOK M ∧ EvOK p M ∧ ∀ h : Nat, h < 48 → M 154 h = M 57 h
theorem WB.of {p : Nat} (hp : p + 11 < 48) {M N : xM} (q : WB p M) (h1 : ∀ x, x < 58 → x ≠ 48 → x ≠ 1 → N x = M x) (h2 : ∀ k, k ≠ 13 → N 48 k = M 48 k) (h3 : ∀ x, 105 ≤ x → x < 156 → N x = M x) (h4 : ∀ k, 30 ≤ k → k < 63 → N 104 k = M 104 k) (hp1 : 2 ≤ p) : WB p N := by
  obtain ⟨q1, q2, q3, q4, q5⟩ := q
  have a : ∀ k, k < 12 → N (p + k) = M (p + k) := fun k hk => h1 _ (by omega) (by omega) (by omega)
  have a0 : N p = M p := a 0 (by decide)
  have a3 := a 3 (by decide)
  have a4 := a 4 (by decide)
  have a5 := a 5 (by decide)
  have a6 := a 6 (by decide)
  have a8 := a 8 (by decide)
  have a9 := a 9 (by decide)
  have a10 := a 10 (by decide)
  have a11 := a 11 (by decide)
  refine ⟨?_, ?_, ?_, ?_, ?_⟩
  · unfold PlOK ClOK
    simp only [a0, a3, a4, a5, a6, a8, a9, a10, a11, h4 30 (by decide) (by decide), h4 31 (by decide) (by decide), h3 121 (by decide) (by decide), h3 122 (by decide) (by decide), h3 123 (by decide) (by decide), h3 124 (by decide) (by decide), h3 125 (by decide) (by decide), h3 126 (by decide) (by decide), h3 127 (by decide) (by decide), h3 128 (by decide) (by decide)]
    exact q1
  · unfold BcOK
    rw [h2 0 (by decide), h2 4 (by decide), h2 10 (by decide), h2 11 (by decide), h4 59 (by decide) (by decide), h4 60 (by decide) (by decide), h4 61 (by decide) (by decide), h4 62 (by decide) (by decide)]
    exact q2
  · unfold RowOK
    rw [h2 0 (by decide), h3 144 (by decide) (by decide), h3 145 (by decide) (by decide), h3 146 (by decide) (by decide), h3 147 (by decide) (by decide), h3 148 (by decide) (by decide), h1 49 (by decide) (by decide) (by decide), h1 50 (by decide) (by decide) (by decide), h1 51 (by decide) (by decide) (by decide)]
    exact q3
  · unfold EvOK
    rw [h2 4 (by decide), h3 149 (by decide) (by decide), h3 150 (by decide) (by decide), h3 151 (by decide) (by decide), h3 152 (by decide) (by decide), h3 153 (by decide) (by decide), h1 52 (by decide) (by decide) (by decide), h1 53 (by decide) (by decide) (by decide), h1 54 (by decide) (by decide) (by decide), h1 55 (by decide) (by decide) (by decide), h1 56 (by decide) (by decide) (by decide), a0, a3]
    exact q4
  · rw [h3 154 (by decide) (by decide), h1 57 (by decide) (by decide) (by decide)]
    exact q5
theorem GaOK.of {M N : xM} (q : GaOK M) (h1 : ∀ x, 49 ≤ x → x < 62 → N x = M x) (h2 : ∀ k, k ≠ 13 → N 48 k = M 48 k) : GaOK N := by
  have fc : ∀ c h k, knF N c h k = knF M c h k ∧ ofF N c h k = ofF M c h k ∧ hoF N c h k = hoF M c h k := fun c h k => fold_cg (h1 52 (by decide) (by decide)) (h1 53 (by decide) (by decide)) (h1 54 (by decide) (by decide)) (h1 55 (by decide) (by decide)) (h1 56 (by decide) (by decide)) (h2 11 (by decide)) c h k
  obtain ⟨q1, g1, g2, g3⟩ := q
  refine ⟨fun i hi => ?_, ?_⟩
  · rw [h1 58 (by decide) (by decide), h1 49 (by decide) (by decide), h1 50 (by decide) (by decide), h1 51 (by decide) (by decide), h2 11 (by decide), h2 0 (by decide)]
    exact q1 i hi
  · rw [h2 4 (by decide)]
    refine ⟨fun c hc => ?_, fun c hc => ?_, fun i hi => ?_⟩
    · obtain ⟨t, t1, t2, t3⟩ := g1 c hc
      exact ⟨t, t1, by rw [h1 59 (by decide) (by decide), t2], fun h hh => by rw [t3 h hh]; dsimp only; rw [(fc _ _ _).1]⟩
    · obtain ⟨t, t1, t2, t3⟩ := g2 c hc
      exact ⟨t, t1, by rw [h1 60 (by decide) (by decide), t2], fun h hh => by rw [t3 h hh]; dsimp only; rw [(fc _ _ _).2.1]⟩
    · rw [h1 61 (by decide) (by decide), g3 i hi, (fc _ _ _).2.2]
def z0 : Nat → Int := fun _ => 0
/-- the world with nothing supposed -/
def w0 (p : Nat) (M : xM) : xM := wld p M z0 z0
/-- the flow at b stands behind n hours of the world W -/
def AgF (b n m : Nat) (M W : xM) : Prop := AgS b n M (sim W n) ∧ ∀ k, n = k + 1 → AgC b k m M (sim W n)
/-- the class's flow, fresh -/
def FlF (p : Nat) (M : xM) : Prop := GaOK M ∧ AgF 62 (M 62 0).toNat (M p 0).toNat M (w0 p M)
def FlI (p : Nat) (M : xM) : Prop := M 62 9 = -1 ∧ (0 ≤ M 62 0 ∧ M 62 0 ≤ 48) ∧ (M 48 13 = 0 → FlF p M)
theorem WH_w0 {p : Nat} {M : xM} (q : WB p M) {h : Nat} (hh : h < 48) : WH (w0 p M) h := WH_wld q.1 q.2.1 q.2.2.1 q.2.2.2.1 hh (fun _ => Or.inl rfl) fun c _ => ⟨Int.le_refl 0, by show (0 : Int) ≤ 100; decide, fun _ => rfl⟩
/-- one hour of a flow of the class, in the world with xk, xh -/
theorem fstep {R : xR} {pn ps ln ls : Nat} (hR : RG R pn ps ln ls) {b : Nat} (hb : b = 62 ∨ b = 79) {M S : xM} (hW : WB pn M) (hG : GaOK M) {xk xh : Nat → Int} {h : Nat} (hh : h < 48) (hk : ∀ i, xk i = 0 ∨ xk i = 1) (hx : ∀ c : Nat, (c : Int) < M pn 0 → 0 ≤ xh (48 * c + h) ∧ xh (48 * c + h) ≤ 100 ∧ (M (pn + 3) c ≠ 2 → xh (48 * c + h) = 0)) (hs : ∀ c : Nat, (c : Int) < M pn 0 → Sup b M xk xh h c) (hS : HB h S) (h0 : M b 0 = (h : Int)) (hA : AgS b h M S) :
    ∃ M', f_F_step R b pn 48 M = some M' ∧ (∀ x, x < b ∨ b + 12 ≤ x → M' x = M x) ∧ (∀ k, M' b k = if k = 0 then (h : Int) + 1 else M b k) ∧ AgC b h (M pn 0).toNat M' (hstp (wld pn M xk xh) h S) := by
  have hpn := hR.pnn
  have hF : FlR R b := by
    rcases hb with rfl | rfl
    · exact hR.fl62
    · exact hR.fl79
  have hP0 := hW.1.1
  have e0 : (wld pn M xk xh 0 0).toNat = (M pn 0).toNat := rfl
  have r := step_eq hF hR.pnR hR.bk (show pn + 11 < b by omega) (show 61 < b by omega) hh (WH_wld hW.1 hW.2.1 hW.2.2.1 hW.2.2.2.1 hh hk hx) hS h0 (WXw_wld hW.1 hG (xk := xk) (xh := xh) hh) (fun c hc => WXc_wld hR hW.1 hW.2.1 hW.2.2.2.1 hG hh (by rw [e0] at hc; omega) (hs c (by rw [e0] at hc; omega)) (by
    have := hx c (by rw [e0] at hc; omega)
    exact ⟨this.1, this.2.1⟩)) hA
  rw [e0] at r
  exact r
theorem w0_cg {p : Nat} {M N : xM} (h1 : ∀ k, k < 12 → N (p + k) = M (p + k)) (h2 : ∀ x, 49 ≤ x → x < 58 → N x = M x) (h3 : ∀ k, k ≠ 13 → N 48 k = M 48 k) : w0 p N = w0 p M := wld_cg h1 h2 h3
/-- nothing but the class's flow has changed -/
def FrF (M N : xM) : Prop := ∀ x, x < 62 ∨ 74 ≤ x → N x = M x
theorem FrF.wb {p : Nat} (hp : p + 11 < 48) (hp1 : 2 ≤ p) {M N : xM} (h : FrF M N) (q : WB p M) : WB p N := q.of hp (fun x hx _ _ => h x (by omega)) (fun k _ => by rw [h 48 (by decide)]) (fun x h1 _ => h x (by omega)) (fun k _ _ => by rw [h 104 (by decide)]) hp1
theorem FrF.ga {M N : xM} (h : FrF M N) (q : GaOK M) : GaOK N := q.of (fun x _ hx => h x (by omega)) (fun k _ => by rw [h 48 (by decide)])
theorem FrF.w0 {p : Nat} (hp : p + 11 < 48) {M N : xM} (h : FrF M N) : w0 p N = w0 p M := w0_cg (fun k hk => h _ (by omega)) (fun x _ hx => h x (by omega)) (fun k _ => by rw [h 48 (by decide)])
theorem through_F12 {R : xR} {pn ps ln ls : Nat} (hR : RG R pn ps ln ls) {H : Nat} (hH : H < 48) : ∀ (k f n : Nat) (M : xM), k < f → n + k = H + 1 → WB pn M → GaOK M → M 62 0 = (n : Int) → M 62 9 = -1 → AgF 62 n (M pn 0).toNat M (w0 pn M) →
    ∃ M', X_stepThrough_F12 R 1 (H : Int) f (n : Int) M = some M' ∧ FrF M M' ∧ M' 62 0 = ((H + 1 : Nat) : Int) ∧ (∀ k, k ≠ 0 → M' 62 k = M 62 k) ∧ AgF 62 (H + 1) (M pn 0).toNat M' (w0 pn M) := by
  have hpn := hR.pnn
  have r8 : R 1 8 = 62 := hR.2.1.2.2.2.2.2.2.2.1
  have r3 : R 1 3 = pn := hR.2.1.2.2.1
  have r7 : R 1 7 = 48 := hR.2.1.2.2.2.2.2.2.1
  intro k
  induction k with
  | zero =>
    intro f n M hf hn hW hG h0 h9 hA
    obtain ⟨f, rfl⟩ : ∃ g, f = g + 1 := ⟨f - 1, by omega⟩
    have e : n = H + 1 := by omega
    refine ⟨M, ?_, fun _ _ => rfl, by rw [h0, e], fun _ _ => rfl, by rw [← e]; exact hA⟩
    rw [X_stepThrough_F12, if_pos (by omega)]
  | succ k ih =>
    intro f n M hf hn hW hG h0 h9 hA
    obtain ⟨f, rfl⟩ : ∃ g, f = g + 1 := ⟨f - 1, by omega⟩
    obtain ⟨N, n1, n2, n3, n4⟩ := fstep hR (Or.inl rfl) hW hG (xk := z0) (xh := z0) (show n < 48 by omega) (fun _ => Or.inl rfl) (fun c _ => ⟨Int.le_refl 0, by show (0 : Int) ≤ 100; decide, fun _ => rfl⟩) (fun c hc => ⟨by rw [if_neg (by omega)]; rfl, by rw [if_neg (by omega)]; rfl⟩) (sim_HB n fun j hj => WH_w0 hW (by omega)) h0 hA.1
    have fr : FrF M N := fun x hx => n2 x (by omega)
    have ew : w0 pn N = w0 pn M := fr.w0 (by omega)
    have e0 : N pn = M pn := fr pn (by omega)
    obtain ⟨M', m1, m2, m3, m4, m5⟩ := ih f (n + 1) N (by omega) (by omega) (fr.wb (by omega) (by omega) hW) (fr.ga hG) (by rw [n3, if_pos rfl]; rfl) (by rw [n3, if_neg (by decide)]; exact h9) (by
      rw [ew, e0]
      refine ⟨n4.s, fun k hk => ?_⟩
      have : k = n := by omega
      rw [this]
      exact n4)
    rw [ew, e0] at m5
    refine ⟨M', ?_, fun x hx => (m2 x hx).trans (fr x hx), m3, fun j hj => by rw [m4 j hj, n3, if_neg hj], m5⟩
    rw [X_stepThrough_F12, if_neg (by omega), r8, r3, r7, n1, xb1_some, xl_eq, w32_of (x := (n : Int) + 1) (by omega) (by omega)]
    exact m1
theorem restart_eq {R : xR} {b : Nat} (hF : FlR R b) (M : xM) : ∃ M', f_F_restart R b M = some M' ∧ (∀ x, x < b ∨ b + 8 ≤ x → M' x = M x) ∧ (∀ k, M' b k = if k = 0 then 0 else M b k) ∧ ∀ i, i < 32 → M' (b + 5) i = 0 ∧ M' (b + 6) i = 0 ∧ M' (b + 7) i = 0 := by
  have x27 : xan 27 = 32 := by decide +kernel
  have r5 := hF.2.2.2.2.1
  have r6 := hF.2.2.2.2.2.1
  have r7 := hF.2.2.2.2.2.2.1
  unfold f_F_restart
  rw [xl_eq, r5, r6, r7, fill_aIIV, xb1_some, fill_aIIV, xb1_some, fill_aIIV, xb1_some, x27]
  refine ⟨_, rfl, fun x hx => ?_, fun k => ?_, fun i hi => ⟨?_, ?_, ?_⟩⟩
  · rw [xfil_cell _ _ _ _ (by omega), xfil_cell _ _ _ _ (by omega), xfil_cell _ _ _ _ (by omega), xu_cell _ _ _ (by omega)]
  · rw [xfil_cell _ _ _ _ (by omega), xfil_cell _ _ _ _ (by omega), xfil_cell _ _ _ _ (by omega), xu_at]
  · rw [xfil_cell _ _ _ _ (by omega), xfil_cell _ _ _ _ (by omega), xfil_at, if_pos ⟨by omega, hi⟩]
  · rw [xfil_cell _ _ _ _ (by omega), xfil_at, if_pos ⟨by omega, hi⟩]
  · rw [xfil_at, if_pos ⟨by omega, hi⟩]
/-- nothing but the class's flow and what it gathers has changed -/
def FrG (M N : xM) : Prop := (∀ x, x < 48 ∨ (49 ≤ x ∧ x < 58) ∨ 74 ≤ x → N x = M x) ∧ (∀ k, k ≠ 13 → N 48 k = M 48 k) ∧ ∀ k, k ≠ 0 → N 62 k = M 62 k
theorem FrG.wb {p : Nat} (hp : p + 11 < 48) (hp1 : 2 ≤ p) {M N : xM} (h : FrG M N) (q : WB p M) : WB p N := q.of hp (fun x h1 h2 _ => h.1 x (by omega)) h.2.1 (fun x h1 _ => h.1 x (by omega)) (fun k _ _ => by rw [h.1 104 (by decide)]) hp1
theorem FrG.w0 {p : Nat} (hp : p + 11 < 48) {M N : xM} (h : FrG M N) : w0 p N = w0 p M := w0_cg (fun k hk => h.1 _ (by omega)) (fun x h1 hx => h.1 x (by omega)) h.2.1
theorem freshen_eq {R : xR} {pn ps ln ls : Nat} (hR : RG R pn ps ln ls) {M : xM} (hW : WB pn M) (hI : FlI pn M) :
    ∃ M', f_X_freshen R 1 M = some M' ∧ FrG M M' ∧ M' 48 13 = 0 ∧ FlF pn M' ∧ (0 ≤ M' 62 0 ∧ M' 62 0 ≤ M 62 0) := by
  have hpn := hR.pnn
  have r8 : R 1 8 = 62 := hR.2.1.2.2.2.2.2.2.2.1
  have r7 : R 1 7 = 48 := hR.2.1.2.2.2.2.2.2.1
  obtain ⟨i1, i2, i3⟩ := hI
  unfold f_X_freshen
  rw [r7, r8]
  by_cases z : M 48 13 = 0
  · rw [if_pos z]
    exact ⟨M, rfl, ⟨fun _ _ => rfl, fun _ _ => rfl, fun _ _ => rfl⟩, z, i3 z, i2.1, Int.le_refl _⟩
  · rw [if_neg z]
    have h8 := hW.1.1
    obtain ⟨A, a1, a2, a3, a4, a5⟩ := gather_eq hR (show pn + 11 < 48 by omega) hW.2.1 hW.2.2.1 hW.2.2.2.1 (by omega)
    obtain ⟨B, b1, b2, b3, b4⟩ := restart_eq hR.fl62 A
    have aO : ∀ x, x ≠ 48 → x ≠ 58 → x ≠ 59 → x ≠ 60 → x ≠ 61 → A x = M x := fun x h1 h2 h3 h4 h5 => a2 x (by simp only [List.mem_cons, List.not_mem_nil, or_false, not_or]; exact ⟨h1, h2, h3, h4, h5⟩)
    have fA : FrF A B := fun x hx => b2 x (by omega)
    have b0 : B 62 0 = 0 := by rw [b3, if_pos rfl]
    refine ⟨B, by rw [a1, xb1_some, b1, xb1_some], ⟨fun x hx => ?_, fun k hk => ?_, fun k hk => ?_⟩, by rw [fA 48 (by decide), a4], ⟨fA.ga a5, ?_⟩, by rw [b0]; exact Int.le_refl 0, by rw [b0]; exact i2.1⟩
    · rw [fA x (by omega), aO x (by omega) (by omega) (by omega) (by omega) (by omega)]
    · rw [fA 48 (by decide), a3 k hk]
    · rw [b3, if_neg hk, aO 62 (by decide) (by decide) (by decide) (by decide) (by decide)]
    · rw [b0]
      exact ⟨⟨fun i hi => by have : i < 0 := hi; omega, fun i hi => b4 i hi⟩, fun k hk => by have : 0 = k + 1 := hk; omega⟩
theorem through_eq {R : xR} {pn ps ln ls : Nat} (hR : RG R pn ps ln ls) {M : xM} (hW : WB pn M) (hI : FlI pn M) {H : Nat} (hH : H < 48) :
    ∃ M' n, f_X_stepThrough R 1 (H : Int) M = some M' ∧ FrG M M' ∧ FlI pn M' ∧ M' 48 13 = 0 ∧ M' 62 0 = ((n : Nat) : Int) ∧ H + 1 ≤ n ∧ n ≤ 48 ∧ (M 62 0 ≤ (H : Int) + 1 → n = H + 1) ∧ AgF 62 n (M pn 0).toNat M' (w0 pn M) := by
  have hpn := hR.pnn
  have r8 : R 1 8 = 62 := hR.2.1.2.2.2.2.2.2.2.1
  have xf : xfu = 1000000 := rfl
  obtain ⟨A, a1, a2, a3, a4, a5⟩ := freshen_eq hR hW hI
  obtain ⟨i1, i2, i3⟩ := hI
  have wA := a2.wb (show pn + 11 < 48 by omega) (by omega) hW
  have eA : w0 pn A = w0 pn M := a2.w0 (by omega)
  have pA : A pn = M pn := a2.1 pn (by omega)
  obtain ⟨n, hn⟩ : ∃ n : Nat, A 62 0 = (n : Int) := ⟨(A 62 0).toNat, by omega⟩
  have a9 : A 62 9 = -1 := by rw [a2.2.2 9 (by decide)]; exact i1
  have aF := a4.2
  rw [hn, Int.toNat_natCast] at aF
  unfold f_X_stepThrough
  rw [a1, xb1_some, xl_eq, r8, hn]
  by_cases z : n ≤ H + 1
  · obtain ⟨B, b1, b2, b3, b4, b5⟩ := through_F12 hR hH (H + 1 - n) xfu n A (by omega) (by omega) wA a4.1 hn a9 aF
    have pB : B pn = A pn := b2 pn (by omega)
    refine ⟨B, H + 1, b1, ⟨fun x hx => by rw [b2 x (by omega), a2.1 x hx], fun k hk => by rw [b2 48 (by decide), a2.2.1 k hk], fun k hk => by rw [b4 k hk, a2.2.2 k hk]⟩, ⟨by rw [b4 9 (by decide)]; exact a9, by rw [b3]; omega, fun _ => ⟨b2.ga a4.1, ?_⟩⟩, by rw [b2 48 (by decide), a3], b3, Nat.le_refl _, by omega, fun _ => rfl, by rw [eA, pA] at b5; exact b5⟩
    rw [b3, Int.toNat_natCast, pB, b2.w0 (show pn + 11 < 48 by omega)]
    exact b5
  · refine ⟨A, n, ?_, a2, ⟨a9, by omega, fun _ => a4⟩, a3, hn, by omega, by omega, fun q => by omega, by rw [← eA, ← pA]; exact aF⟩
    rw [show xfu = 999999 + 1 from rfl, X_stepThrough_F12, if_pos (by omega)]
