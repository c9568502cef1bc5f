/-! ===== whose ===== -/
theorem whoseX_F39 {R : xR} {pn ps ln ls : Nat} (hR : RG R pn ps ln ls) {H s m : Nat} (hH : H < 48) (hs : s < 4) (hm : m ≤ 4) {sh : Nat → Int} (h : ∀ i, i < m → 0 ≤ sh i ∧ sh i ≤ 9999) (l1 : Int) (Q : Int → xM → Option (Int × xM)) : ∀ (k f v : Nat) (x : Int) (M : xM), k < f → v + k = m → 0 ≤ x → x ≤ 9999 * v → M pn 1 = (m : Int) → (∀ i, i < m → M 58 ((i * 48 + H) * 4 + s) = sh i) →
    X_whose_F39 R 1 l1 (H : Int) (s : Int) Q f x (v : Int) M = Q (x + (sumN sh m - sumN sh v)) (xrow M 75 (fun i => if v ≤ i ∧ i < m then sh i else M 75 i)) := by
  have hpn := hR.pnn
  have r3 : R 1 3 = pn := hR.2.1.2.2.1
  have r7 : R 1 7 = 48 := hR.2.1.2.2.2.2.2.2.1
  have r9 : R 1 9 = 74 := hR.2.1.2.2.2.2.2.2.2.2.1
  have r14 := hR.bk.2.1
  have r74 : R 74 0 = 75 := hR.pt74.1
  intro k
  induction k with
  | zero =>
    intro f v x M hf hv _ _ h1 _
    obtain ⟨f, rfl⟩ : ∃ g, f = g + 1 := ⟨f - 1, by omega⟩
    have e : v = m := by omega
    rw [X_whose_F39, r3, h1, if_neg (by omega), e, Int.sub_self, Int.add_zero]
    have e2 : (fun i => if m ≤ i ∧ i < m then sh i else M 75 i) = M 75 := by
      funext i
      rw [if_neg (by omega)]
    rw [e2, xrow_self]
  | succ k ih =>
    intro f v x M hf hv x0 x1 h1 h58
    obtain ⟨f, rfl⟩ : ∃ g, f = g + 1 := ⟨f - 1, by omega⟩
    have hv' := h v (by omega)
    have hcell : f_B_cell (v : Int) (H : Int) (s : Int) = some (((v * 48 + H) * 4 + s : Nat) : Int) := by
      unfold f_B_cell
      rw [w32_of (x := (v : Int) * 48) (by omega) (by omega), w32_of (x := (v : Int) * 48 + (H : Int)) (by omega) (by omega), w32_of (x := ((v : Int) * 48 + (H : Int)) * 4) (by omega) (by omega), w32_of (by omega) (by omega)]
      exact congrArg some (by omega)
    rw [X_whose_F39, r3, h1, if_pos (by omega), hcell, xb1_some, xch_pos (by omega), xl_eq, xch_pos (by omega), xl_eq, xl_eq, xl_eq, r7, r14, r9, r74, Int.toNat_natCast, Int.toNat_natCast, h58 v (by omega), w64_of (x := x + sh v) (by omega) (by omega), w32_of (x := (v : Int) + 1) (by omega) (by omega), show (v : Int) + 1 = ((v + 1 : Nat) : Int) by omega, ih f (v + 1) (x + sh v) _ (by omega) (by omega) (by omega) (by omega) (by rw [xu_cell _ _ _ (by omega)]; exact h1) (fun i hi => by rw [xu_cell _ _ _ (by decide)]; exact h58 i hi), xrow_xu]
    have es : sumN sh (v + 1) = sumN sh v + sh v := rfl
    rw [es, show x + sh v + (sumN sh m - (sumN sh v + sh v)) = x + (sumN sh m - sumN sh v) by omega]
    refine congrArg (fun g => Q (x + (sumN sh m - sumN sh v)) (xrow M 75 g)) ?_
    funext i
    rw [xu_row]
    show (if _ then _ else (if i = v then _ else _)) = _
    by_cases z : i = v
    · rw [if_neg (by omega), if_pos z, if_pos (by omega), z]
    · rw [if_neg z]
      by_cases y : v ≤ i ∧ i < m
      · rw [if_pos (by omega), if_pos y]
      · rw [if_neg (by omega), if_neg y]
/-- the model's portions in hour H, of size s -/
def PoM (R : xR) (H s m : Nat) (sh : Nat → Int) (M : xM) : Prop := M 104 31 = (m : Int) ∧ ∀ N : xM, (∀ x, x < 156 → N x = M x) → ∀ w : Nat, w < m → f_M_portionsOf R 104 (w : Int) (H : Int) (s : Int) N = some (sh w)
theorem PoM.of {R : xR} {H s m : Nat} {sh : Nat → Int} {M N : xM} (q : PoM R H s m sh M) (h : ∀ x, x < 156 → N x = M x) : PoM R H s m sh N := ⟨by rw [h 104 (by decide)]; exact q.1, fun P hP => q.2 P fun x hx => (hP x hx).trans (h x hx)⟩
theorem whoseM_F39 {R : xR} {H s m : Nat} (hm : m ≤ 4) {sh : Nat → Int} (h : ∀ i, i < m → 0 ≤ sh i ∧ sh i ≤ 9999) (l1 : Int) (Q : Int → xM → Option (Int × xM)) {M : xM} (hP : PoM R H s m sh M) : ∀ (k f v : Nat) (x : Int), k < f → v + k = m → 0 ≤ x → x ≤ 9999 * v → M_whose_F39 R 104 l1 (H : Int) (s : Int) Q f x (v : Int) M = Q (x + (sumN sh m - sumN sh v)) M := by
  intro k
  induction k with
  | zero =>
    intro f v x hf hv _ _
    obtain ⟨f, rfl⟩ : ∃ g, f = g + 1 := ⟨f - 1, by omega⟩
    have e : v = m := by omega
    rw [M_whose_F39, hP.1, if_neg (by omega), e, Int.sub_self, Int.add_zero]
  | succ k ih =>
    intro f v x hf hv x0 x1
    obtain ⟨f, rfl⟩ : ∃ g, f = g + 1 := ⟨f - 1, by omega⟩
    have hv' := h v (by omega)
    have es : sumN sh (v + 1) = sumN sh v + sh v := rfl
    rw [M_whose_F39, hP.1, if_pos (by omega), hP.2 M (fun _ _ => rfl) v (by omega), xb1_some, xl_eq, xl_eq, w64_of (x := x + sh v) (by omega) (by omega), w32_of (x := (v : Int) + 1) (by omega) (by omega), show (v : Int) + 1 = ((v + 1 : Nat) : Int) by omega, ih f (v + 1) (x + sh v) (by omega) (by omega) (by omega) (by omega), es, show x + sh v + (sumN sh m - (sumN sh v + sh v)) = x + (sumN sh m - sumN sh v) by omega]
theorem whoseM_F101 {R : xR} {pn ps ln ls : Nat} (hR : RG R pn ps ln ls) {a w : Int} {m H s : Nat} {sh : Nat → Int} (ha : 0 ≤ a) (ha2 : a ≤ 20000000) (hw : 0 < w) (hw2 : w ≤ 100000) (hm : m ≤ 4) (h : ∀ i, i < m → 0 ≤ sh i ∧ sh i ≤ w) (l1 : Int) (Q : Int → xM → Option (Int × xM)) : ∀ (k f v : Nat) (x : Int) (M : xM), k < f → v + k = m → -160000000 ≤ x + 20000000 * (v : Int) → x ≤ 20000000 → PoM R H s m sh M →
    M_whose_F101 R 104 l1 (H : Int) (s : Int) Q f w a x (v : Int) M = Q (x - (sumN (prB a w sh) m - sumN (prB a w sh) v)) (x2r M 163 164 (fun i => if v ≤ i ∧ i < m then prB a w sh i else M 163 i) (fun i => if v ≤ i ∧ i < m then prR a w sh i else M 164 i)) := by
  have r87 : R 104 87 = 163 := hR.m80 (k := 7) (by decide)
  have r88 : R 104 88 = 164 := hR.m80 (k := 8) (by decide)
  intro k
  induction k with
  | zero =>
    intro f v x M hf hv h1 h2 hP
    obtain ⟨f, rfl⟩ : ∃ g, f = g + 1 := ⟨f - 1, by omega⟩
    have ev : v = m := by omega
    rw [M_whose_F101, hP.1, if_neg (by omega), ev, Int.sub_self, Int.sub_zero]
    have e1 : (fun i => if m ≤ i ∧ i < m then prB a w sh i else M 163 i) = M 163 := by
      funext i
      rw [if_neg (by omega)]
    have e2 : (fun i => if m ≤ i ∧ i < m then prR a w sh i else M 164 i) = M 164 := by
      funext i
      rw [if_neg (by omega)]
    rw [e1, e2, x2r_self _ (by decide)]
  | succ k ih =>
    intro f v x M hf hv h1 h2 hP
    obtain ⟨f, rfl⟩ : ∃ g, f = g + 1 := ⟨f - 1, by omega⟩
    obtain ⟨p1, p2, p3, p4, p5, p6, p7⟩ := pr_in ha hw (h v (by omega)).1 (h v (by omega)).2
    have aw : a * w ≤ 20000000 * 100000 := Int.mul_le_mul ha2 hw2 (by omega) (by omega)
    have d1 : prB a w sh v = Int.tdiv (a * sh v) w := rfl
    have d2 : prR a w sh v = Int.tmod (a * sh v) w := rfl
    have hr2 : xu (xu M 163 v (prB a w sh v)) 164 v (prR a w sh v) 163 v = prB a w sh v := by rw [xu_cell _ _ _ (by decide), xu_at, if_pos rfl]
    rw [M_whose_F101, hP.1, if_pos (by omega), hP.2 M (fun _ _ => rfl) v (by omega), xb1_some, xch_pos (by omega), xch_pos (by omega), xl_eq, r87, r88, hP.2 _ (fun y hy => xu_cell _ _ _ (by omega)) v (by omega), xb1_some, xl_eq, xl_eq, xl_eq, Int.toNat_natCast, w64_of (x := a * sh v) (by omega) (by omega), ← d1, ← d2, w64_of (x := prB a w sh v) (by omega) (by omega), w32_of (x := prB a w sh v) (by omega) (by omega), w32_of (x := prR a w sh v) (by omega) (by omega), hr2, w64_of (x := x - prB a w sh v) (by omega) (by omega), w32_of (x := (v : Int) + 1) (by omega) (by omega), show (v : Int) + 1 = ((v + 1 : Nat) : Int) by omega]
    rw [ih f (v + 1) (x - prB a w sh v) _ (by omega) (by omega) (by omega) (by omega) (hP.of fun y hy => by rw [xu_cell _ _ _ (by omega), xu_cell _ _ _ (by omega)])]
    have es : sumN (prB a w sh) (v + 1) = sumN (prB a w sh) v + prB a w sh v := rfl
    rw [es, x2r_xu _ (by decide), show x - prB a w sh v - (sumN (prB a w sh) m - (sumN (prB a w sh) v + prB a w sh v)) = x - (sumN (prB a w sh) m - sumN (prB a w sh) v) by omega]
    refine congrArg (Q _) ?_
    have e1 : (fun i => if v + 1 ≤ i ∧ i < m then prB a w sh i else xu (xu M 163 v (prB a w sh v)) 164 v (prR a w sh v) 163 i) = (fun i => if v ≤ i ∧ i < m then prB a w sh i else M 163 i) := by
      funext i
      rw [xu_cell _ _ _ (show (163 : Nat) ≠ 164 by decide), xu_at]
      by_cases z : i = v
      · rw [if_neg (by omega), if_pos z, if_pos (by omega), z]
      · by_cases z2 : v ≤ i ∧ i < m
        · rw [if_pos (by omega), if_pos z2]
        · rw [if_neg (by omega), if_neg z, if_neg z2]
    have e2 : (fun i => if v + 1 ≤ i ∧ i < m then prR a w sh i else xu (xu M 163 v (prB a w sh v)) 164 v (prR a w sh v) 164 i) = (fun i => if v ≤ i ∧ i < m then prR a w sh i else M 164 i) := by
      funext i
      rw [xu_at, xu_cell _ _ _ (show (164 : Nat) ≠ 163 by decide)]
      by_cases z : i = v
      · rw [if_neg (by omega), if_pos z, if_pos (by omega), z]
      · by_cases z2 : v ≤ i ∧ i < m
        · rw [if_pos (by omega), if_pos z2]
        · rw [if_neg (by omega), if_neg z, if_neg z2]
    rw [e1, e2]
theorem whoseM_F188 {R : xR} {pn ps ln ls : Nat} (hR : RG R pn ps ln ls) {m : Nat} (hm : m ≤ 4) (l1 v8 : Int) (Q : Int → Int → xM → Option (Int × xM)) {M : xM} (h31 : M 104 31 = (m : Int)) : ∀ (k f b v : Nat), k < f → b < m → v + k = m → M_whose_F188 R 104 l1 Q f v8 (b : Int) (v : Int) M = Q v8 ((amin (fun i => -M 164 i) k b v : Nat) : Int) M := by
  have r88 : R 104 88 = 164 := hR.m80 (k := 8) (by decide)
  intro k
  induction k with
  | zero =>
    intro f b v hf hb hv
    obtain ⟨f, rfl⟩ : ∃ g, f = g + 1 := ⟨f - 1, by omega⟩
    rw [M_whose_F188, h31, if_neg (by omega)]
    rfl
  | succ k ih =>
    intro f b v hf hb hv
    obtain ⟨f, rfl⟩ : ∃ g, f = g + 1 := ⟨f - 1, by omega⟩
    rw [M_whose_F188, h31, if_pos (by omega), xch_pos (by omega), xch_pos (by omega), r88, Int.toNat_natCast, Int.toNat_natCast]
    unfold M_whose_J218
    rw [xl_eq, xl_eq, w32_of (x := (v : Int) + 1) (by omega) (by omega), show (v : Int) + 1 = ((v + 1 : Nat) : Int) by omega, amin]
    by_cases z : M 164 b < M 164 v
    · rw [if_pos z, if_pos (by omega), ih f v (v + 1) (by omega) (by omega) (by omega)]
    · rw [if_neg z, if_neg (by omega), ih f b (v + 1) (by omega) (by omega) (by omega)]
theorem whoseM_F175 {R : xR} {pn ps ln ls : Nat} (hR : RG R pn ps ln ls) {m w : Nat} (hm : m ≤ 4) (hm1 : 1 ≤ m) (hw : w < m) : ∀ (k f : Nat) (B : Int) (M : xM), k < f → B + k ≤ 30000000 → M 104 31 = (m : Int) → (∀ i, i < m → 0 ≤ M 163 i ∧ M 163 i ≤ B) → ∃ g, M_whose_F175 R 104 (w : Int) f (k : Int) M = some (prU m k (M 163) (M 164) w, xu (x2r M 163 164 (prU m k (M 163) (M 164)) g) 104 0 0) := by
  have r87 : R 104 87 = 163 := hR.m80 (k := 7) (by decide)
  have r88 : R 104 88 = 164 := hR.m80 (k := 8) (by decide)
  intro k
  induction k with
  | zero =>
    intro f B M hf _ h31 _
    obtain ⟨f, rfl⟩ : ∃ g, f = g + 1 := ⟨f - 1, by omega⟩
    refine ⟨M 164, ?_⟩
    have e : x2r M 163 164 (prU m 0 (M 163) (M 164)) (M 164) = M := x2r_self _ (by decide)
    rw [M_whose_F175, e, if_neg (by omega), xch_pos (by omega), r87, gives_eq, xb2_some, Int.toNat_natCast]
    rfl
  | succ k ih =>
    intro f B M hf hB h31 hb
    obtain ⟨f, rfl⟩ : ∃ g, f = g + 1 := ⟨f - 1, by omega⟩
    rw [M_whose_F175, if_pos (by omega)]
    have e := whoseM_F188 hR hm (w : Int) ((k + 1 : Nat) : Int) (fun (v8_53 : Int) (v10_54 : Int) (M_55 : xM) =>
          xch (0 ≤ v10_54 ∧ v10_54 < 8) <|
          xl (xu M_55 (R 104 88) (Int.toNat v10_54) (-1)) fun M_57 =>
          xl (xu M_57 (R 104 87) (Int.toNat v10_54) (w32 ((M_57 (R 104 87) (Int.toNat v10_54)) + 1))) fun M_58 =>
          xl (w64 (v8_53 - 1)) fun v8_59 =>
          M_whose_F175 R 104 (w : Int)  f v8_59 M_58) h31 (m - 1) xfu 0 1 (by have : xfu = 1000000 := rfl; omega) (by omega) (by omega)
    rw [show ((0 : Nat) : Int) = 0 from rfl, show ((1 : Nat) : Int) = 1 from rfl] at e
    rw [e]
    obtain ⟨b, hbd⟩ : ∃ b, b = amin (fun i => -M 164 i) (m - 1) 0 1 := ⟨_, rfl⟩
    have hbm : b < m := by rw [hbd]; exact amin_lt _ m _ _ _ (by omega) (by omega)
    have hbb := hb b hbm
    have hcc : xu M 164 b (-1) 163 b = M 163 b := by rw [xu_cell _ _ _ (by decide)]
    rw [← hbd, xch_pos (by omega), xl_eq, xl_eq, xl_eq, r87, r88, Int.toNat_natCast, hcc, w32_of (x := M 163 b + 1) (by omega) (by omega), w64_of (x := ((k + 1 : Nat) : Int) - 1) (by omega) (by omega), show ((k + 1 : Nat) : Int) - 1 = (k : Int) by omega, xu_comm _ _ _ _ _ (by decide), xu2_x2r _ (by decide)]
    obtain ⟨g, hg⟩ := ih f (B + 1) (x2r M 163 164 (fun k => if k = b then M 163 b + 1 else M 163 k) (fun k => if k = b then -1 else M 164 k)) (by omega) (by omega) (by rw [x2r_oth _ _ _ (by decide) (by decide)]; exact h31) (fun i hi => by
      rw [x2r_c _ _ _ (by decide)]
      have := hb i hi
      split <;> omega)
    refine ⟨g, ?_⟩
    have e3 : prU m (k + 1) (M 163) (M 164) = prU m k (fun i => if i = b then M 163 b + 1 else M 163 i) (fun i => if i = b then -1 else M 164 i) := by
      show prU m k _ _ = _
      rw [← hbd]
      refine congrArg (fun z => prU m k z _) ?_
      funext i
      by_cases z : i = b
      · rw [if_pos z, if_pos z, z]
      · rw [if_neg z, if_neg z]
    rw [hg, x2r_x2r _ (by decide), x2r_c _ _ _ (by decide), x2r_d, e3]
