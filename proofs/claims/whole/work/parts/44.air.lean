/-! ===== air ===== -/
set_option maxRecDepth 100000 in
theorem xR0_air : xR0 93 7 = 100 ∧ xR0 93 8 = 101 ∧ xR0 104 101 = 171 ∧ xan 30 = 8 := by decide +kernel
/-- a row laid whole -/
def xrow (M : xM) (c : Nat) (g : Nat → Int) : xM := fun x y => if x = c then g y else M x y
theorem xrow_cell (M : xM) {c x : Nat} (g : Nat → Int) (h : x ≠ c) : xrow M c g x = M x := by
  funext y
  exact if_neg h
theorem xrow_at (M : xM) (c : Nat) (g : Nat → Int) : xrow M c g c = g := by
  funext y
  exact if_pos rfl
theorem xrow_self (M : xM) (c : Nat) : xrow M c (M c) = M := by
  funext x y
  unfold xrow
  by_cases h : x = c
  · rw [if_pos h, h]
  · rw [if_neg h]
theorem xrow_xu (M : xM) (c i : Nat) (v : Int) (g : Nat → Int) : xrow (xu M c i v) c g = xrow M c g := by
  funext x y
  unfold xrow
  by_cases h : x = c
  · rw [if_pos h, if_pos h]
  · rw [if_neg h, if_neg h, xu_cell _ _ _ h]
theorem xu_row (M : xM) (c i : Nat) (v : Int) : xu M c i v c = fun b => if b = i then v else M c b := by
  funext b
  exact xu_at M c i b v
/-- the first least place: b or one of k places from v -/
def amin (H : Nat → Int) : Nat → Nat → Nat → Nat
  | 0, b, _ => b
  | k + 1, b, v => amin H k (if H v < H b then v else b) (v + 1)
theorem amin_lt (H : Nat → Int) (n : Nat) : ∀ k b v, b < n → v + k ≤ n → amin H k b v < n := by
  intro k
  induction k with
  | zero => intro b v h _; exact h
  | succ k ih =>
    intro b v h1 h2
    unfold amin
    refine ih _ _ ?_ (by omega)
    by_cases h : H v < H b
    · rw [if_pos h]; omega
    · rw [if_neg h]; omega
theorem amin_congr {H H' : Nat → Int} {n : Nat} (h : ∀ i, i < n → H i = H' i) : ∀ k b v, b < n → v + k ≤ n → amin H k b v = amin H' k b v := by
  intro k
  induction k with
  | zero => intro b v _ _; rfl
  | succ k ih =>
    intro b v h1 h2
    unfold amin
    rw [h v (by omega), h b h1]
    refine ih _ _ ?_ (by omega)
    by_cases h : H' v < H' b
    · rw [if_pos h]; omega
    · rw [if_neg h]; omega
def hin (h g : Nat → Int) (i : Nat) : Int := h i * (g i + 1) * (g i + 1)
def airS (h : Nat → Int) (n : Nat) : Nat → (Nat → Int) → (Nat → Int)
  | 0, g => g
  | k + 1, g => airS h n k (fun i => if i = amin (hin h g) (n - 1) 0 1 then g i + 1 else g i)
theorem airS_congr {h h' : Nat → Int} {n : Nat} (hn : 1 ≤ n) (hh : ∀ i, i < n → h i = h' i) : ∀ k g g', (∀ i, i < n → g i = g' i) → ∀ i, i < n → airS h n k g i = airS h' n k g' i := by
  intro k
  induction k with
  | zero => intro g g' q i hi; exact q i hi
  | succ k ih =>
    intro g g' q i hi
    unfold airS
    refine ih _ _ (fun j hj => ?_) i hi
    have e : amin (hin h g) (n - 1) 0 1 = amin (hin h' g') (n - 1) 0 1 := by
      refine amin_congr (n := n) (fun j hj => ?_) _ _ _ (by omega) (by omega)
      unfold hin
      rw [hh j hj, q j hj]
    show (if _ then _ else _) = (if _ then _ else _)
    rw [e, q j hj]
theorem hin_le {h g : Int} (h1 : 1 ≤ h) (h2 : h ≤ 100) (g1 : 0 ≤ g) (g2 : g ≤ 200) : (0 ≤ h * (g + 1) ∧ h * (g + 1) ≤ 20100) ∧ 0 ≤ h * (g + 1) * (g + 1) ∧ h * (g + 1) * (g + 1) ≤ 4040100 := by
  have a1 : h * (g + 1) ≤ 100 * 201 := Int.mul_le_mul h2 (by omega) (by omega) (by omega)
  have a2 : 0 ≤ h * (g + 1) := Int.mul_nonneg (by omega) (by omega)
  have a3 : h * (g + 1) * (g + 1) ≤ 20100 * 201 := Int.mul_le_mul a1 (by omega) (by omega) (by omega)
  have a4 : 0 ≤ h * (g + 1) * (g + 1) := Int.mul_nonneg a2 (by omega)
  omega
/-- bounds of hindrances and parts -/
def AirB (h g : Nat → Int) (n : Nat) (m : Int) : Prop := n ≤ 8 ∧ (∀ v, v < n → 1 ≤ h v ∧ h v ≤ 100) ∧ ∀ v, v < n → 0 ≤ g v ∧ g v ≤ m
theorem AirB.step {h g : Nat → Int} {n a : Nat} {m : Int} (q : AirB h g n m) : AirB h (fun i => if i = a then g i + 1 else g i) n (m + 1) := by
  refine ⟨q.1, q.2.1, fun v hv => ?_⟩
  have := q.2.2 v hv
  show 0 ≤ (if v = a then _ else _) ∧ (if v = a then _ else _) ≤ _
  by_cases e : v = a
  · rw [if_pos e]; omega
  · rw [if_neg e]; omega
theorem hind_eq {R : xR} {pn ps ln ls : Nat} (hR : RG R pn ps ln ls) {M : xM} {n : Nat} {m : Int} (hB : AirB (M 100) (M 101) n m) (hm : m ≤ 200) {v : Nat} (hv : v < n) : f_P_hindranceWithOneMore R 93 (v : Int) M = some (hin (M 100) (M 101) v) := by
  have r7 : R 93 7 = 100 := by rw [hR.at 93 7 (by decide) (by decide)]; exact xR0_air.1
  have r8 : R 93 8 = 101 := by rw [hR.at 93 8 (by decide) (by decide)]; exact xR0_air.2.1
  obtain ⟨b1, b2, b3⟩ := hB
  have c2 := b2 v hv
  have c3 := b3 v hv
  have c4 := hin_le c2.1 c2.2 c3.1 (by omega)
  unfold f_P_hindranceWithOneMore hin
  rw [xch_pos (by omega), xl_eq, r7, r8, Int.toNat_natCast, w32_of (x := M 101 v + 1) (by omega) (by omega), w32_of (x := M 100 v * (M 101 v + 1)) (by omega) (by omega), w32_of (by omega) (by omega)]
theorem hindM_eq {R : xR} {pn ps ln ls : Nat} (hR : RG R pn ps ln ls) {M : xM} {n t : Nat} {m : Int} (ht : t < 4) (hB : AirB (fun i => M 107 (60 * t + i)) (M 171) n m) (hm : m ≤ 200) {v : Nat} (hv : v < n) : f_M_hinders R 104 (t : Int) (v : Int) M = some (hin (fun i => M 107 (60 * t + i)) (M 171) v) := by
  have r7 : R 104 3 = 107 := by rw [hR.at 104 3 (by decide) (by decide)]; exact xR0_104.2.2.1
  have r8 : R 104 101 = 171 := by rw [hR.at 104 101 (by decide) (by decide)]; exact xR0_air.2.2.1
  obtain ⟨b1, b2, b3⟩ := hB
  have c2 := b2 v hv
  have c3 := b3 v hv
  have c4 := hin_le c2.1 c2.2 c3.1 (by omega)
  simp only at c2 c4
  unfold f_M_hinders hin
  rw [w32_of (x := 60 * (t : Int)) (by omega) (by omega), w32_of (x := 60 * (t : Int) + v) (by omega) (by omega), xch_pos (by omega), xch_pos (by omega), r7, r8, Int.toNat_natCast, show (60 * (t : Int) + v).toNat = 60 * t + v by omega, w64_of (x := M 171 v + 1) (by omega) (by omega), w64_of (x := M 107 (60 * t + v) * (M 171 v + 1)) (by omega) (by omega), w64_of (by omega) (by omega)]
theorem partAir_F21 {R : xR} {pn ps ln ls : Nat} (hR : RG R pn ps ln ls) {M : xM} {n : Nat} {m : Int} (hB : AirB (M 100) (M 101) n m) (hm : m ≤ 200) (l2 v3 : Int) (q : Int → Int → xM → Option xM) : ∀ k f b v, k < f → b < n → v + k = n → P_partAir_F21 R 93 (n : Int) l2 q f v3 (b : Int) (v : Int) M = q v3 (amin (hin (M 100) (M 101)) k b v : Nat) M := by
  intro k
  induction k with
  | zero =>
    intro f b v hf hb hv
    obtain ⟨f, rfl⟩ : ∃ g, f = g + 1 := ⟨f - 1, by omega⟩
    rw [P_partAir_F21, if_neg (by omega)]
    rfl
  | succ k ih =>
    intro f b v hf hb hv
    obtain ⟨f, rfl⟩ : ∃ g, f = g + 1 := ⟨f - 1, by omega⟩
    have hn := hB.1
    rw [P_partAir_F21, if_pos (by omega), hind_eq hR hB hm (by omega), hind_eq hR hB hm hb, xb1_some, xb1_some]
    unfold P_partAir_J46
    rw [xl_eq, xl_eq, w32_of (by omega) (by omega), show (v : Int) + 1 = ((v + 1 : Nat) : Int) by omega]
    rw [amin]
    by_cases h : hin (M 100) (M 101) v < hin (M 100) (M 101) b
    · rw [if_pos h, if_pos h, ih f v (v + 1) (by omega) (by omega) (by omega)]
    · rw [if_neg h, if_neg h, ih f b (v + 1) (by omega) (by omega) (by omega)]
theorem air_F159 {R : xR} {pn ps ln ls : Nat} (hR : RG R pn ps ln ls) {M : xM} {n t : Nat} {m : Int} (ht : t < 4) (hB : AirB (fun i => M 107 (60 * t + i)) (M 171) n m) (hm : m ≤ 200) (l3 l4 v5 : Int) (q : Int → Int → xM → Option (Int × xM)) : ∀ k f b v, k < f → b < n → v + k = n → M_air_F159 R 104 (t : Int) (n : Int) l3 l4 q f v5 (b : Int) (v : Int) M = q v5 (amin (hin (fun i => M 107 (60 * t + i)) (M 171)) k b v : Nat) M := by
  intro k
  induction k with
  | zero =>
    intro f b v hf hb hv
    obtain ⟨f, rfl⟩ : ∃ g, f = g + 1 := ⟨f - 1, by omega⟩
    rw [M_air_F159, if_neg (by omega)]
    rfl
  | succ k ih =>
    intro f b v hf hb hv
    obtain ⟨f, rfl⟩ : ∃ g, f = g + 1 := ⟨f - 1, by omega⟩
    have hn := hB.1
    rw [M_air_F159, if_pos (by omega), hindM_eq hR ht hB hm (by omega), hindM_eq hR ht hB hm hb, xb1_some, xb1_some]
    unfold M_air_J187
    rw [xl_eq, xl_eq, w32_of (by omega) (by omega), show (v : Int) + 1 = ((v + 1 : Nat) : Int) by omega]
    rw [amin]
    by_cases h : hin (fun i => M 107 (60 * t + i)) (M 171) v < hin (fun i => M 107 (60 * t + i)) (M 171) b
    · rw [if_pos h, if_pos h, ih f v (v + 1) (by omega) (by omega) (by omega)]
    · rw [if_neg h, if_neg h, ih f b (v + 1) (by omega) (by omega) (by omega)]
theorem partAir_F10 {R : xR} {pn ps ln ls : Nat} (hR : RG R pn ps ln ls) {n : Nat} (hn : 1 ≤ n) {l2 : Int} (hl : l2 ≤ 200) : ∀ (k f : Nat) (v3 : Int) (M : xM), k < f → 0 ≤ v3 → v3 + k = l2 → AirB (M 100) (M 101) n v3 → P_partAir_F10 R 93 (n : Int) l2 f v3 M = some (xrow M 101 (airS (M 100) n k (M 101))) := by
  have r8 : R 93 8 = 101 := by rw [hR.at 93 8 (by decide) (by decide)]; exact xR0_air.2.1
  intro k
  induction k with
  | zero =>
    intro f v3 M hf h0 hv hB
    obtain ⟨f, rfl⟩ : ∃ g, f = g + 1 := ⟨f - 1, by omega⟩
    rw [P_partAir_F10, if_neg (by omega)]
    show _ = some (xrow M 101 (M 101))
    rw [xrow_self]
  | succ k ih =>
    intro f v3 M hf h0 hv hB
    obtain ⟨f, rfl⟩ : ∃ g, f = g + 1 := ⟨f - 1, by omega⟩
    have h8 := hB.1
    rw [P_partAir_F10, if_pos (by omega)]
    have e := partAir_F21 hR hB (by omega) l2 v3 (fun (v3_11 : Int) (v4_12 : Int) (M_13 : xM) =>
          xch (0 ≤ v4_12 ∧ v4_12 < 8) <|
          xl (xu M_13 (R 93 8) (Int.toNat v4_12) (w32 ((M_13 (R 93 8) (Int.toNat v4_12)) + 1))) fun M_15 =>
          xl (w32 (v3_11 + 1)) fun v3_16 =>
          P_partAir_F10 R 93 n l2  f v3_16 M_15) (n - 1) xfu 0 1 (by have : xfu = 1000000 := rfl; omega) (by omega) (by omega)
    rw [show ((0 : Nat) : Int) = 0 from rfl, show ((1 : Nat) : Int) = 1 from rfl] at e
    rw [e]
    have ha := amin_lt (hin (M 100) (M 101)) n (n - 1) 0 1 (by omega) (by omega)
    have hb := hB.2.2 _ ha
    rw [airS]
    obtain ⟨a, haa⟩ : ∃ a, a = amin (hin (M 100) (M 101)) (n - 1) 0 1 := ⟨_, rfl⟩
    rw [← haa] at ha hb ⊢
    rw [xch_pos (by omega), xl_eq, xl_eq, r8, Int.toNat_natCast, w32_of (x := M 101 a + 1) (by omega) (by omega), w32_of (x := v3 + 1) (by omega) (by omega)]
    have hrow : xu M 101 a (M 101 a + 1) 101 = fun i => if i = a then M 101 i + 1 else M 101 i := by
      rw [xu_row]
      funext i
      by_cases hi : i = a
      · rw [if_pos hi, if_pos hi, hi]
      · rw [if_neg hi, if_neg hi]
    rw [ih f (v3 + 1) _ (by omega) (by omega) (by omega) (by rw [hrow, xu_cell _ _ _ (by decide)]; exact hB.step), xrow_xu, hrow, xu_cell _ _ _ (by decide)]
theorem air_F147 {R : xR} {pn ps ln ls : Nat} (hR : RG R pn ps ln ls) {n t : Nat} (ht : t < 4) (hn : 1 ≤ n) {l3 l4 : Int} (hl : l3 ≤ 200) (h4 : 0 ≤ l4 ∧ l4 < 8) : ∀ (k f : Nat) (v5 : Int) (M : xM), k < f → 0 ≤ v5 → v5 + k = l3 → AirB (fun i => M 107 (60 * t + i)) (M 171) n v5 → M_air_F147 R 104 (t : Int) (n : Int) l3 l4 f v5 M = some (airS (fun i => M 107 (60 * t + i)) n k (M 171) l4.toNat, xu (xrow M 171 (airS (fun i => M 107 (60 * t + i)) n k (M 171))) 104 0 0) := by
  have r8 : R 104 101 = 171 := by rw [hR.at 104 101 (by decide) (by decide)]; exact xR0_air.2.2.1
  intro k
  induction k with
  | zero =>
    intro f v5 M hf h0 hv hB
    obtain ⟨f, rfl⟩ : ∃ g, f = g + 1 := ⟨f - 1, by omega⟩
    rw [M_air_F147, if_neg (by omega), xch_pos h4, gives_eq, xb2_some, r8]
    show _ = some (M 171 l4.toNat, xu (xrow M 171 (M 171)) 104 0 0)
    rw [xrow_self]
  | succ k ih =>
    intro f v5 M hf h0 hv hB
    obtain ⟨f, rfl⟩ : ∃ g, f = g + 1 := ⟨f - 1, by omega⟩
    have h8 := hB.1
    rw [M_air_F147, if_pos (by omega)]
    have e := air_F159 hR ht hB (by omega) l3 l4 v5 (fun (v5_60 : Int) (v6_61 : Int) (M_62 : xM) =>
          xch (0 ≤ v6_61 ∧ v6_61 < 8) <|
          xl (xu M_62 (R 104 101) (Int.toNat v6_61) (w32 ((M_62 (R 104 101) (Int.toNat v6_61)) + 1))) fun M_64 =>
          xl (w32 (v5_60 + 1)) fun v5_65 =>
          M_air_F147 R 104 t n l3 l4  f v5_65 M_64) (n - 1) xfu 0 1 (by have : xfu = 1000000 := rfl; omega) (by omega) (by omega)
    rw [show ((0 : Nat) : Int) = 0 from rfl, show ((1 : Nat) : Int) = 1 from rfl] at e
    rw [e]
    have ha := amin_lt (hin (fun i => M 107 (60 * t + i)) (M 171)) n (n - 1) 0 1 (by omega) (by omega)
    have hb := hB.2.2 _ ha
    rw [airS]
    obtain ⟨a, haa⟩ : ∃ a, a = amin (hin (fun i => M 107 (60 * t + i)) (M 171)) (n - 1) 0 1 := ⟨_, rfl⟩
    rw [← haa] at ha hb ⊢
    rw [xch_pos (by omega), xl_eq, xl_eq, r8, Int.toNat_natCast, w32_of (x := M 171 a + 1) (by omega) (by omega), w32_of (x := v5 + 1) (by omega) (by omega)]
    have hrow : xu M 171 a (M 171 a + 1) 171 = fun i => if i = a then M 171 i + 1 else M 171 i := by
      rw [xu_row]
      funext i
      by_cases hi : i = a
      · rw [if_pos hi, if_pos hi, hi]
      · rw [if_neg hi, if_neg hi]
    have h107 : xu M 171 a (M 171 a + 1) 107 = M 107 := xu_cell _ _ _ (by decide)
    rw [ih f (v5 + 1) _ (by omega) (by omega) (by omega) (by rw [hrow, h107]; exact hB.step), xrow_xu, hrow, h107]
