/-! ===== plant: the ways of a cleaner ===== -/
theorem pig : ∀ (N j : Nat) (f : Nat → Nat), (∀ w, w < j → f w < N) → (∀ w v, w < v → v < j → f w ≠ f v) → j ≤ N := by
  intro N
  induction N with
  | zero =>
    intro j f h _
    cases j with
    | zero => exact Nat.le_refl 0
    | succ j => exact absurd (h 0 (by omega)) (by omega)
  | succ N ih =>
    intro j f h1 h2
    by_cases z : ∃ w, w < j ∧ f w = N
    · obtain ⟨w, hw, hf⟩ := z
      have := ih (j - 1) (fun v => if v < w then f v else f (v + 1)) (fun v hv => by
        by_cases y : v < w
        · rw [if_pos y]
          have a := h1 v (by omega)
          have d := h2 v w y hw
          omega
        · rw [if_neg y]
          have a := h1 (v + 1) (by omega)
          have d := h2 w (v + 1) (by omega) (by omega)
          omega) (fun v u hv hu => by
        by_cases y : v < w
        · rw [if_pos y]
          by_cases y2 : u < w
          · rw [if_pos y2]; exact h2 v u hv (by omega)
          · rw [if_neg y2]; exact h2 v (u + 1) (by omega) (by omega)
        · rw [if_neg y, if_neg (show ¬ u < w by omega)]
          exact h2 (v + 1) (u + 1) (by omega) (by omega))
      omega
    · have := ih j f (fun w hw => by
        have a := h1 w hw
        have : f w ≠ N := fun q => z ⟨w, hw, q⟩
        omega) h2
      omega
/-- j ways of cleaner c -/
def WI (p c m j : Nat) (X Y : xM) (v : Int) : Prop := X (p + 8) c = (j : Int) ∧ (∀ w, w < j → GlR c m (X (p + 9) (8 * c + w)) (Y 117 (8 * c + w)) ∧ (0 ≤ X (p + 10) (8 * c + w) ∧ X (p + 10) (8 * c + w) ≤ 100) ∧ Y 118 (8 * c + w) = X (p + 10) (8 * c + w)) ∧ (∀ w u, w < u → u < j → Y 117 (8 * c + w) ≠ Y 117 (8 * c + u)) ∧ v = sumN (fun w => X (p + 10) (8 * c + w)) j
def FXw (p c : Nat) (X X' : xM) : Prop := (∀ x, x ≠ 2 → x ≠ p + 8 → x ≠ p + 9 → x ≠ p + 10 → X' x = X x) ∧ (∀ j, j < 3 ∨ j = 4 ∨ j = 5 → X' 2 j = X 2 j) ∧ (∀ i, i ≠ c → X' (p + 8) i = X (p + 8) i) ∧ ∀ i, i < 8 * c ∨ 8 * c + 8 ≤ i → X' (p + 9) i = X (p + 9) i ∧ X' (p + 10) i = X (p + 10) i
def FYw (c : Nat) (Y Y' : xM) : Prop := (∀ x, x ≠ 104 → x ≠ 117 → x ≠ 118 → Y' x = Y x) ∧ (∀ j, j < 8 ∨ j = 13 ∨ 16 ≤ j → Y' 104 j = Y 104 j) ∧ ∀ i, i < 8 * c ∨ 8 * c + 8 ≤ i → Y' 117 i = Y 117 i ∧ Y' 118 i = Y 118 i
theorem FXw.tr {p c : Nat} {A B C : xM} (h : FXw p c A B) (k : FXw p c B C) : FXw p c A C := ⟨fun x h1 h2 h3 h4 => (k.1 x h1 h2 h3 h4).trans (h.1 x h1 h2 h3 h4), fun j hj => (k.2.1 j hj).trans (h.2.1 j hj), fun i hi => (k.2.2.1 i hi).trans (h.2.2.1 i hi), fun i hi => ⟨(k.2.2.2 i hi).1.trans (h.2.2.2 i hi).1, (k.2.2.2 i hi).2.trans (h.2.2.2 i hi).2⟩⟩
theorem FYw.tr {c : Nat} {A B C : xM} (h : FYw c A B) (k : FYw c B C) : FYw c A C := ⟨fun x h1 h2 h3 => (k.1 x h1 h2 h3).trans (h.1 x h1 h2 h3), fun j hj => (k.2.1 j hj).trans (h.2.1 j hj), fun i hi => ⟨(k.2.2 i hi).1.trans (h.2.2 i hi).1, (k.2.2 i hi).2.trans (h.2.2 i hi).2⟩⟩
theorem FXt.w {A B : xM} (h : FXt A B) {p : Nat} (hp : 4 ≤ p) (c : Nat) : FXw p c A B := ⟨fun x h1 _ _ _ => h.1 x h1, h.2, fun i _ => by rw [h.1 _ (by omega)], fun i _ => by rw [h.1 (p + 9) (by omega), h.1 (p + 10) (by omega)]; exact ⟨rfl, rfl⟩⟩
theorem FYt.w {A B : xM} (h : FYt A B) (c : Nat) : FYw c A B := ⟨fun x h1 _ _ => h.1 x h1, h.2, fun i _ => by rw [h.1 117 (by decide), h.1 118 (by decide)]; exact ⟨rfl, rfl⟩⟩
theorem WI.t {p c m j : Nat} (hp : 4 ≤ p) {X Y X' Y' : xM} {v : Int} (h : WI p c m j X Y v) (fx : FXt X X') (fy : FYt Y Y') : WI p c m j X' Y' v := by
  unfold WI
  rw [fx.1 (p + 8) (by omega), fx.1 (p + 9) (by omega), fx.1 (p + 10) (by omega), fy.1 117 (by decide), fy.1 118 (by decide)]
  exact h
theorem has_F2 {R : xR} {p : Nat} (hp : PnR R p) {X : xM} {c j : Nat} (hc : c < 8) (hj : j ≤ 8) (h8 : X (p + 8) c = (j : Int)) (x : Int) : ∀ (k f w : Nat), k < f → w + k = j → ((∃ i, w ≤ i ∧ i < j ∧ X (p + 9) (8 * c + i) = x) → N_hasWay_F2 R X p (c : Int) x f (w : Int) = some 1) ∧ ((∀ i, w ≤ i → i < j → X (p + 9) (8 * c + i) ≠ x) → N_hasWay_F2 R X p (c : Int) x f (w : Int) = some 0) := by
  have r9 : R p 9 = p + 8 := hp 9 (by decide) (by decide)
  have r10 : R p 10 = p + 9 := hp 10 (by decide) (by decide)
  intro k
  induction k with
  | zero =>
    intro f w hf hw
    obtain ⟨f, rfl⟩ : ∃ g, f = g + 1 := ⟨f - 1, by omega⟩
    refine ⟨fun ⟨i, h1, h2, _⟩ => by omega, fun _ => ?_⟩
    rw [N_hasWay_F2, xch_pos (by omega), r9, Int.toNat_natCast, h8, if_neg (by omega)]
  | succ k ih =>
    intro f w hf hw
    obtain ⟨f, rfl⟩ : ∃ g, f = g + 1 := ⟨f - 1, by omega⟩
    have i := ih f (w + 1) (by omega) (by omega)
    rw [N_hasWay_F2, xch_pos (by omega), r9, Int.toNat_natCast, h8, if_pos (by omega), w32_of (x := (c : Int) * 8) (by omega) (by omega), w32_of (x := (c : Int) * 8 + (w : Int)) (by omega) (by omega), xch_pos (by omega), r10, show ((c : Int) * 8 + (w : Int)).toNat = 8 * c + w by omega, xl_eq, w32_of (x := (w : Int) + 1) (by omega) (by omega), show (w : Int) + 1 = ((w + 1 : Nat) : Int) by omega]
    by_cases z : X (p + 9) (8 * c + w) = x
    · rw [if_pos z]
      exact ⟨fun _ => rfl, fun q => absurd z (q w (by omega) (by omega))⟩
    · rw [if_neg z]
      refine ⟨fun ⟨a, h1, h2, h3⟩ => i.1 ⟨a, ?_, h2, h3⟩, fun q => i.2 fun a h1 h2 => q a (by omega) h2⟩
      have : a ≠ w := fun y => z (y ▸ h3)
      omega
theorem tw_F97 {S : xR} (hm : MR S) {Y : xM} {c j : Nat} (hc : c < 8) (hj : j ≤ 8) (v2 y : Int) (Q : Int → Int → Int → Int → Int → xM → Option (Int × xM)) : ∀ (k f w : Nat), k < f → w + k = j → (M_joins_F97 S 104 Q f (c : Int) v2 (j : Int) y 1 (w : Int) Y = Q (c : Int) v2 (j : Int) y 1 Y) ∧ ((∃ i, w ≤ i ∧ i < j ∧ Y 117 (8 * c + i) = y) → M_joins_F97 S 104 Q f (c : Int) v2 (j : Int) y 0 (w : Int) Y = Q (c : Int) v2 (j : Int) y 1 Y) ∧ ((∀ i, w ≤ i → i < j → Y 117 (8 * c + i) ≠ y) → M_joins_F97 S 104 Q f (c : Int) v2 (j : Int) y 0 (w : Int) Y = Q (c : Int) v2 (j : Int) y 0 Y) := by
  have s24 : S 104 24 = 117 := hm.1 24 (by decide) (by decide)
  intro k
  induction k with
  | zero =>
    intro f w hf hw
    obtain ⟨f, rfl⟩ : ∃ g, f = g + 1 := ⟨f - 1, by omega⟩
    refine ⟨?_, fun ⟨i, h1, h2, _⟩ => by omega, fun _ => ?_⟩
    · rw [M_joins_F97, if_neg (by omega)]
    · rw [M_joins_F97, if_neg (by omega)]
  | succ k ih =>
    intro f w hf hw
    obtain ⟨f, rfl⟩ : ∃ g, f = g + 1 := ⟨f - 1, by omega⟩
    have i := ih f (w + 1) (by omega) (by omega)
    have J : ∀ s, M_joins_J130 S 104 (M_joins_F97 S 104 Q f) Q (c : Int) v2 (j : Int) y (w : Int) s Y = M_joins_F97 S 104 Q f (c : Int) v2 (j : Int) y s ((w + 1 : Nat) : Int) Y := by
      intro s
      unfold M_joins_J130
      rw [xl_eq, w32_of (x := (w : Int) + 1) (by omega) (by omega)]
      rfl
    have e0 : M_joins_F97 S 104 Q (f + 1) (c : Int) v2 (j : Int) y 0 (w : Int) Y = if Y 117 (8 * c + w) = y then M_joins_F97 S 104 Q f (c : Int) v2 (j : Int) y 1 ((w + 1 : Nat) : Int) Y else M_joins_F97 S 104 Q f (c : Int) v2 (j : Int) y 0 ((w + 1 : Nat) : Int) Y := by
      rw [M_joins_F97, if_pos (by omega), if_pos rfl, w32_of (x := 8 * (c : Int)) (by omega) (by omega), w32_of (x := 8 * (c : Int) + (w : Int)) (by omega) (by omega), xch_pos (by omega), s24, show (8 * (c : Int) + (w : Int)).toNat = 8 * c + w by omega, J, J]
    refine ⟨?_, fun ⟨a, h1, h2, h3⟩ => ?_, fun q => ?_⟩
    · rw [M_joins_F97, if_pos (by omega), if_neg (by decide), J]
      exact i.1
    · rw [e0]
      by_cases z : Y 117 (8 * c + w) = y
      · rw [if_pos z]
        exact i.1
      · rw [if_neg z]
        refine i.2.1 ⟨a, ?_, h2, h3⟩
        have : a ≠ w := fun u => z (u ▸ h3)
        omega
    · rw [e0, if_neg (q w (by omega) (by omega))]
      exact i.2.2 fun a h1 h2 => q a (by omega) h2
/-- behind a way, the model -/
def wyNext (S : xR) (QM : Int → Int → Int → xM → Option (Int × xM)) (g : Nat) (c : Int) (v : Int) (j : Int) (M : xM) : Option (Int × xM) :=
  xb1 (f_M_isSign 104 44 M) fun r_52 =>
  if r_52 = 0 then
    M_joins_F55 S 104 QM g c v j r_52 M
  else
    xb1 (f_M_next S 104 M) fun M_55 =>
    M_joins_F55 S 104 QM g c v j r_52 M_55
theorem way_tail {R S : xR} (hL : LR R S false) {p : Nat} (hp : PnR R p) (hp4 : 4 ≤ p) (hp92 : p + 12 ≤ 104) (hm : MR S) {b : Nat → Int} {n e : Nat} (hB : TxB b n) {X Y : xM} (h : SR false b n e X Y) {c m j : Nat} (hc : c < 8) (hm8 : m ≤ 8) (hj : j ≤ 8) {v : Int} (hW : WI p c m j X Y v) (hk1 : lxK false b n e = 1) (v3 gx gy : Int) (hg : (gx = -1 ∧ gy = 8 ∧ v3 ≠ 0) ∨ (0 ≤ gx ∧ gx < (m : Int) ∧ gy = gx ∧ v3 = 0)) (QM : Int → Int → Int → xM → Option (Int × xM)) (g : Nat) :
    ∃ X' Y', FXw p c X X' ∧ FYw c Y Y' ∧ ((N_readWay_J74 R p 2 (c : Int) v3 gx X = some (1, X') ∧ M_joins_J91 S 104 (M_joins_F55 S 104 QM g) QM (c : Int) v (j : Int) gy Y = wyNext S QM g (c : Int) (v + X' (p + 10) (8 * c + j)) ((j + 1 : Nat) : Int) Y' ∧ (∃ e', e < e' ∧ SR false b n e' X' Y') ∧ j < 8 ∧ WI p c m (j + 1) X' Y' (v + X' (p + 10) (8 * c + j))) ∨ (N_readWay_J74 R p 2 (c : Int) v3 gx X = some (0, X') ∧ M_joins_J91 S 104 (M_joins_F55 S 104 QM g) QM (c : Int) v (j : Int) gy Y = some (0, Y') ∧ FT X' Y')) := by
  have xf : xfu = 1000000 := rfl
  have r9 : R p 9 = p + 8 := hp 9 (by decide) (by decide)
  have r10 : R p 10 = p + 9 := hp 10 (by decide) (by decide)
  have r11 : R p 11 = p + 10 := hp 11 (by decide) (by decide)
  have s24 : S 104 24 = 117 := hm.1 24 (by decide) (by decide)
  have s25 : S 104 25 = 118 := hm.1 25 (by decide) (by decide)
  obtain ⟨w1, w2, w3, w4⟩ := hW
  have hw := has_F2 hp hc hj w1 gx j xfu 0 (by omega) (by omega)
  have eqg : ∀ i, i < j → (X (p + 9) (8 * c + i) = gx ↔ Y 117 (8 * c + i) = gy) := fun i hi => by
    have := (w2 i hi).1
    unfold GlR at this
    omega
  obtain ⟨A, B, a1, a2, a3, a4, a5⟩ := wrong_fail h (show lxK false b n e ≠ 4 by omega) (k := 5) (by decide)
  unfold N_readWay_J74 M_joins_J91
  have tw := tw_F97 hm (Y := Y) hc hj v gy (fun (v1_29 : Int) (v2_30 : Int) (v3_31 : Int) (v5_32 : Int) (v6_33 : Int) (M_34 : xM) =>
      if v1_29 < v5_32 then
        if v6_33 = 0 then
          xb1 (f_M_next S 104 M_34) fun M_37 =>
          xb2 (f_M_wantKey S 104 12 M_37) fun r_39 M_40 =>
          if r_39 = 0 then
            some (0, M_40)
          else
            xb2 (f_M_number S 104 0 100 4 M_40) fun r_43 M_44 =>
            if r_43 = 0 then
              some (0, M_44)
            else
              xch (0 ≤ w32 ((w32 (8 * v1_29)) + v3_31) ∧ w32 ((w32 (8 * v1_29)) + v3_31) < 64) <|
              xl (xu M_44 (S 104 24) (Int.toNat (w32 ((w32 (8 * v1_29)) + v3_31))) v5_32) fun M_48 =>
              xl (xu M_48 (S 104 25) (Int.toNat (w32 ((w32 (8 * v1_29)) + v3_31))) (M_48 104 12)) fun M_49 =>
              xl (w32 (v2_30 + (M_49 104 12))) fun v2_50 =>
              xl (w32 (v3_31 + 1)) fun v3_51 =>
              xb1 (f_M_isSign 104 44 M_49) fun r_52 =>
              if r_52 = 0 then
                M_joins_J236 S 104 (M_joins_F55 S 104 QM g) QM v1_29 v2_50 v3_51 r_52 M_49
              else
                xb1 (f_M_next S 104 M_49) fun M_55 =>
                M_joins_J236 S 104 (M_joins_F55 S 104 QM g) QM v1_29 v2_50 v3_51 r_52 M_55
        else
          xb2 (f_M_fails 104 5 M_34) fun r_57 M_58 =>
          xch (r_57 = 0 ∨ r_57 = 1) <|
          some (r_57, M_58)
      else
        xb2 (f_M_fails 104 5 M_34) fun r_61 M_62 =>
        xch (r_61 = 0 ∨ r_61 = 1) <|
        some (r_61, M_62)) j xfu 0 (by omega) (by omega)
  rw [show ((0 : Nat) : Int) = 0 from rfl] at hw tw
  have hwe : f_N_hasWay R p (c : Int) gx X = N_hasWay_F2 R X p (c : Int) gx xfu 0 := rfl
  rw [hwe]
  by_cases zh : ∃ i, 0 ≤ i ∧ i < j ∧ X (p + 9) (8 * c + i) = gx
  · rw [hw.1 zh, xb1_some, if_neg (by decide), a1, xb2_some, xch_01.1]
    refine ⟨A, B, a4.w hp4 c, a5.w c, Or.inr ⟨rfl, ?_, a3⟩⟩
    obtain ⟨i, i1, i2, i3⟩ := zh
    refine (tw.2.1 ⟨i, i1, i2, (eqg i i2).1 i3⟩).trans ?_
    by_cases y : (c : Int) < gy
    · rw [if_pos y, if_neg (by decide), a2, xb2_some, xch_01.1]
    · rw [if_neg y, a2, xb2_some, xch_01.1]
  · have zh' : ∀ i, 0 ≤ i → i < j → X (p + 9) (8 * c + i) ≠ gx := fun i h1 h2 h3 => zh ⟨i, h1, h2, h3⟩
    rw [hw.2 zh', xb1_some, if_pos rfl]
    have tw3 := tw.2.2 fun i h1 h2 h3 => zh' i h1 h2 ((eqg i h2).2 h3)
    by_cases zc : (c : Int) < gy
    · have cl : (if v3 = 0 then if (c : Int) < gx then N_readWay_J100 R p 2 (c : Int) gx X else xb2 (f_A_wrong 2 5 X) fun r_36 M_37 => xch (r_36 = 0 ∨ r_36 = 1) (some (r_36, M_37)) else N_readWay_J100 R p 2 (c : Int) gx X) = N_readWay_J100 R p 2 (c : Int) gx X := by
        by_cases y : v3 = 0
        · rw [if_pos y, if_pos (by omega)]
        · rw [if_neg y]
      rw [cl]
      -- room for one more
      have room : j + 1 ≤ 8 := by
        refine pig 8 (j + 1) (fun w => if w < j then (Y 117 (8 * c + w) - 1).toNat else (gy - 1).toNat) (fun w hw => ?_) (fun w u hwu hu => ?_)
        · try dsimp only
          by_cases y : w < j
          · rw [if_pos y]
            have := (w2 w y).1
            unfold GlR at this
            omega
          · rw [if_neg y]
            omega
        · try dsimp only
          rw [if_pos (show w < j by omega)]
          have a := (w2 w (by omega)).1
          unfold GlR at a
          by_cases y : u < j
          · rw [if_pos y]
            have a' := (w2 u y).1
            unfold GlR at a'
            have := w3 w u hwu y
            omega
          · rw [if_neg y]
            have : Y 117 (8 * c + w) ≠ gy := fun q => zh' w (by omega) (by omega) ((eqg w (by omega)).2 q)
            omega
      obtain ⟨X1, Y1, c1, c2, c3, c4, c5⟩ := adv_sim hL hB h
      have le : e < lxE b n e := lx_more (lw := false) h.2.2 (by omega)
      obtain ⟨r, X2, Y2, t1, t2, t3, t4, t5⟩ := takeKey_sim hL hB c3 (k := 13) (by decide)
      rw [show km 13 = 12 from rfl] at t2
      have fX2 : FXt X X2 := c4.t.tr t3
      have fY2 : FYt Y Y2 := c5.t.tr t4
      unfold N_readWay_J100
      rw [c1, xb1_some, t1, xb2_some]
      rcases t5 with ⟨rfl, t5, t6, -⟩ | ⟨rfl, t5⟩
      · rw [if_neg (by decide)]
        obtain ⟨r, X3, Y3, u1, u2, u3, u4, u5⟩ := takeNumber_sim hL hB t5 0 100 (fk := 4) (by decide)
        have fX3 := fX2.tr u3
        have fY3 := fY2.tr u4
        rw [u1, xb2_some]
        rcases u5 with ⟨rfl, u5, u6, u7, u8, u9⟩ | ⟨rfl, u5⟩
        · rw [if_neg (by decide)]
          obtain ⟨sh, hsh⟩ : ∃ sh, sh = X3 2 11 := ⟨_, rfl⟩
          rw [← hsh] at u7 u8 u9 ⊢
          have x38 : X3 (p + 8) c = (j : Int) := by rw [fX3.1 _ (by omega)]; exact w1
          obtain ⟨E, hE⟩ : ∃ E, E = xu (xu (xu X3 (p + 9) (8 * c + j) gx) (p + 10) (8 * c + j) sh) (p + 8) c ((j : Int) + 1) := ⟨_, rfl⟩
          have aw : f_N_addWay R p (c : Int) gx sh X3 = some E := by
            unfold f_N_addWay
            rw [xch_pos (by omega), xl_eq, r9, r10, r11, Int.toNat_natCast, x38, if_pos (by omega), w32_of (x := (c : Int) * 8) (by omega) (by omega), w32_of (x := (c : Int) * 8 + (j : Int)) (by omega) (by omega), xch_pos (by omega), xl_eq, xl_eq, xl_eq, show ((c : Int) * 8 + (j : Int)).toNat = 8 * c + j by omega, w32_of (x := (j : Int) + 1) (by omega) (by omega), hE]
          rw [aw, xb1_some]
          obtain ⟨F, hF⟩ : ∃ F, F = xu (xu Y3 117 (8 * c + j) gy) 118 (8 * c + j) sh := ⟨_, rfl⟩
          have eO : ∀ x, x ≠ p + 8 → x ≠ p + 9 → x ≠ p + 10 → E x = X3 x := fun x h1 h2 h3 => by rw [hE, xu_cell _ _ _ h1, xu_cell _ _ _ h3, xu_cell _ _ _ h2]
          have e8 : ∀ i, E (p + 8) i = if i = c then (j : Int) + 1 else X (p + 8) i := fun i => by rw [hE, xu_at, xu_cell _ _ _ (by omega), xu_cell _ _ _ (by omega), fX3.1 _ (by omega)]
          have e9 : ∀ i, E (p + 9) i = if i = 8 * c + j then gx else X (p + 9) i := fun i => by rw [hE, xu_cell _ _ _ (by omega), xu_cell _ _ _ (by omega), xu_at, fX3.1 _ (by omega)]
          have e10 : ∀ i, E (p + 10) i = if i = 8 * c + j then sh else X (p + 10) i := fun i => by rw [hE, xu_cell _ _ _ (by omega), xu_at, xu_cell _ _ _ (by omega), fX3.1 _ (by omega)]
          have f7 : ∀ i, F 117 i = if i = 8 * c + j then gy else Y 117 i := fun i => by rw [hF, xu_cell _ _ _ (by decide), xu_at, fY3.1 117 (by decide)]
          have f8 : ∀ i, F 118 i = if i = 8 * c + j then sh else Y 118 i := fun i => by rw [hF, xu_at, xu_cell _ _ _ (by decide), fY3.1 118 (by decide)]
          have fO : ∀ x, x ≠ 117 → x ≠ 118 → F x = Y3 x := fun x h1 h2 => by rw [hF, xu_cell _ _ _ h2, xu_cell _ _ _ h1]
          have eS : E (p + 10) (8 * c + j) = sh := by rw [e10, if_pos rfl]
          have vb : 0 ≤ v ∧ v ≤ 800 := by
            have key : ∀ k : Nat, k ≤ j → 0 ≤ sumN (fun w => X (p + 10) (8 * c + w)) k ∧ sumN (fun w => X (p + 10) (8 * c + w)) k ≤ 100 * k := by
              intro k
              induction k with
              | zero => intro _; exact ⟨Int.le_refl 0, Int.le_refl 0⟩
              | succ k ih =>
                intro hk
                have := ih (by omega)
                have := (w2 k (by omega)).2.1
                show 0 ≤ sumN (fun w => X (p + 10) (8 * c + w)) k + X (p + 10) (8 * c + k) ∧ sumN (fun w => X (p + 10) (8 * c + w)) k + X (p + 10) (8 * c + k) ≤ _
                omega
            have := key j (Nat.le_refl j)
            rw [← w4] at this
            omega
          refine ⟨E, F, ⟨fun x h1 h2 h3 h4 => by rw [eO x h2 h3 h4, fX3.1 x h1], fun k hk => by rw [eO 2 (by omega) (by omega) (by omega), fX3.2 k hk], fun i hi => by rw [e8, if_neg hi], fun i hi => by rw [e9, e10, if_neg (by omega), if_neg (by omega)]; exact ⟨rfl, rfl⟩⟩, ⟨fun x h1 h2 h3 => by rw [fO x h2 h3, fY3.1 x h1], fun k hk => by rw [fO 104 (by decide) (by decide), fY3.2 k hk], fun i hi => by rw [f7, f8, if_neg (by omega), if_neg (by omega)]; exact ⟨rfl, rfl⟩⟩, Or.inl ⟨rfl, ?_, ⟨lxE b n (lxE b n (lxE b n e)), ?_, ?_⟩, by omega, ?_, fun w hw => ?_, fun w u hwu hu => ?_, ?_⟩⟩
          · refine tw3.trans ?_
            rw [if_pos zc, if_pos rfl, c2, xb1_some, t2, xb2_some, if_neg (by decide), u2, xb2_some, if_neg (by decide), w32_of (x := 8 * (c : Int)) (by omega) (by omega), w32_of (x := 8 * (c : Int) + (j : Int)) (by omega) (by omega), xch_pos (by omega), xl_eq, xl_eq, s24, s25, show (8 * (c : Int) + (j : Int)).toNat = 8 * c + j by omega]
            have q1 : xu Y3 117 (8 * c + j) gy 104 12 = sh := by rw [xu_cell _ _ _ (by decide)]; exact u7
            rw [q1, ← hF]
            have q2 : F 104 12 = sh := by rw [fO 104 (by decide) (by decide)]; exact u7
            rw [q2, xl_eq, xl_eq, w32_of (x := v + sh) (by omega) (by omega), w32_of (x := (j : Int) + 1) (by omega) (by omega), eS]
            unfold wyNext M_joins_J236
            rfl
          · have := lx_in (b := b) (n := n) (e := lxE b n (lxE b n e)) t5.2.2
            have := lx_in (b := b) (n := n) (e := lxE b n e) c3.2.2
            omega
          · exact (u5.ofX (fun k _ => by rw [eO 2 (by omega) (by omega) (by omega)]) (eO 3 (by omega) (by omega) (by omega))).ofY (fun k _ _ _ _ => by rw [fO 104 (by decide) (by decide)]) (fO 109 (by decide) (by decide))
          · rw [e8, if_pos rfl]; rfl
          · rw [e9, e10, f7, f8]
            by_cases y : w = j
            · rw [if_pos (by omega), if_pos (by omega), if_pos (by omega), if_pos (by omega)]
              refine ⟨?_, ⟨u8, u9⟩, rfl⟩
              unfold GlR
              omega
            · rw [if_neg (by omega), if_neg (by omega), if_neg (by omega), if_neg (by omega)]
              exact w2 w (by omega)
          · rw [f7, f7, if_neg (by omega)]
            by_cases y : u = j
            · rw [if_pos (by omega)]
              exact fun q => zh' w (by omega) (by omega) ((eqg w (by omega)).2 q)
            · rw [if_neg (by omega)]
              exact w3 w u hwu (by omega)
          · have cg : ∀ k : Nat, k ≤ j → sumN (fun w => E (p + 10) (8 * c + w)) k = sumN (fun w => X (p + 10) (8 * c + w)) k := by
              intro k
              induction k with
              | zero => intro _; rfl
              | succ k ih =>
                intro hk
                show sumN (fun w => E (p + 10) (8 * c + w)) k + E (p + 10) (8 * c + k) = sumN (fun w => X (p + 10) (8 * c + w)) k + X (p + 10) (8 * c + k)
                rw [ih (by omega), e10, if_neg (by omega)]
            show _ = sumN (fun w => E (p + 10) (8 * c + w)) j + E (p + 10) (8 * c + j)
            rw [cg j (Nat.le_refl j), ← w4]
        · rw [if_pos rfl]
          refine ⟨X3, Y3, fX3.w hp4 c, fY3.w c, Or.inr ⟨rfl, ?_, u5⟩⟩
          refine tw3.trans ?_
          rw [if_pos zc, if_pos rfl, c2, xb1_some, t2, xb2_some, if_neg (by decide), u2, xb2_some, if_pos rfl]
      · rw [if_pos rfl]
        refine ⟨X2, Y2, fX2.w hp4 c, fY2.w c, Or.inr ⟨rfl, ?_, t5⟩⟩
        refine tw3.trans ?_
        rw [if_pos zc, if_pos rfl, c2, xb1_some, t2, xb2_some, if_pos rfl]
    · have v30 : v3 = 0 := by omega
      rw [if_pos v30, if_neg (show ¬ (c : Int) < gx by omega), a1, xb2_some, xch_01.1]
      refine ⟨A, B, a4.w hp4 c, a5.w c, Or.inr ⟨rfl, ?_, a3⟩⟩
      refine tw3.trans ?_
      rw [if_neg zc, a2, xb2_some, xch_01.1]
