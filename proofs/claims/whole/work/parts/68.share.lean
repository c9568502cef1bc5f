/-! ===== parting: the class's Parter ===== -/
def x2r (M : xM) (c d : Nat) (f g : Nat → Int) : xM := xrow (xrow M c f) d g
theorem x2r_oth (M : xM) {c d x : Nat} (f g : Nat → Int) (h1 : x ≠ c) (h2 : x ≠ d) : x2r M c d f g x = M x := by
  unfold x2r
  rw [xrow_cell _ _ h2, xrow_cell _ _ h1]
theorem x2r_c (M : xM) {c d : Nat} (f g : Nat → Int) (h : c ≠ d) : x2r M c d f g c = f := by
  unfold x2r
  rw [xrow_cell _ _ h, xrow_at]
theorem x2r_d (M : xM) (c d : Nat) (f g : Nat → Int) : x2r M c d f g d = g := by
  unfold x2r
  rw [xrow_at]
theorem x2r_self (M : xM) {c d : Nat} (h : c ≠ d) : x2r M c d (M c) (M d) = M := by
  unfold x2r
  rw [xrow_self, xrow_self]
theorem x2r_xu (M : xM) {c d : Nat} (h : c ≠ d) (i j : Nat) (u v : Int) (f g : Nat → Int) : x2r (xu (xu M c i u) d j v) c d f g = x2r M c d f g := by
  funext x y
  by_cases h1 : x = c
  · rw [h1, x2r_c _ _ _ h, x2r_c _ _ _ h]
  · by_cases h2 : x = d
    · rw [h2, x2r_d, x2r_d]
    · rw [x2r_oth _ _ _ h1 h2, x2r_oth _ _ _ h1 h2, xu_cell _ _ _ h2, xu_cell _ _ _ h1]
theorem x2r_x2r (M : xM) {c d : Nat} (h : c ≠ d) (f g f' g' : Nat → Int) : x2r (x2r M c d f' g') c d f g = x2r M c d f g := by
  funext x y
  by_cases h1 : x = c
  · rw [h1, x2r_c _ _ _ h, x2r_c _ _ _ h]
  · by_cases h2 : x = d
    · rw [h2, x2r_d, x2r_d]
    · rw [x2r_oth _ _ _ h1 h2, x2r_oth _ _ _ h1 h2, x2r_oth _ _ _ h1 h2]
/-- two writes, at one place of two rows -/
theorem xu2_x2r (M : xM) {c d : Nat} (h : c ≠ d) (i : Nat) (u v : Int) : xu (xu M c i u) d i v = x2r M c d (fun k => if k = i then u else M c k) (fun k => if k = i then v else M d k) := by
  funext x y
  by_cases h1 : x = c
  · rw [h1, x2r_c _ _ _ h, xu_cell _ _ _ h, xu_at]
  · by_cases h2 : x = d
    · rw [h2, x2r_d, xu_at, xu_cell _ _ _ (fun q => h q.symm)]
    · rw [x2r_oth _ _ _ h1 h2, xu_cell _ _ _ h2, xu_cell _ _ _ h1]
/-- a parter at q, with its rows -/
def PtR (R : xR) (q : Nat) : Prop := R q 0 = q + 1 ∧ R q 1 = q + 2 ∧ R q 2 = q + 3
theorem share_F20 {R : xR} {q : Nat} (hq : PtR R q) {a w : Int} {m : Nat} {sh : Nat → Int} (ha : 0 ≤ a) (ha2 : a ≤ 20000000) (hw : 0 < w) (hw2 : w ≤ 100000) (hm : m ≤ 8) (h : ∀ i, i < m → 0 ≤ sh i ∧ sh i ≤ w) (Q : Int → xM → Option xM) : ∀ (k f v : Nat) (x : Int) (M : xM), k < f → v + k = m → -160000000 ≤ x + 20000000 * (v : Int) → x ≤ 20000000 → (∀ i, i < m → M (q + 1) i = sh i) →
    T_share_F20 R q a (m : Int) w Q f x (v : Int) M = Q (x - (sumN (prB a w sh) m - sumN (prB a w sh) v)) (x2r M (q + 2) (q + 3) (fun i => if v ≤ i ∧ i < m then prB a w sh i else M (q + 2) i) (fun i => if v ≤ i ∧ i < m then prR a w sh i else M (q + 3) i)) := by
  intro k
  induction k with
  | zero =>
    intro f v x M hf hv h1 h2 hs
    obtain ⟨f, rfl⟩ : ∃ g, f = g + 1 := ⟨f - 1, by omega⟩
    have ev : v = m := by omega
    rw [T_share_F20, if_neg (by omega), ev, Int.sub_self, Int.sub_zero]
    have e1 : (fun i => if m ≤ i ∧ i < m then prB a w sh i else M (q + 2) i) = M (q + 2) := by
      funext i
      rw [if_neg (by omega)]
    have e2 : (fun i => if m ≤ i ∧ i < m then prR a w sh i else M (q + 3) i) = M (q + 3) := by
      funext i
      rw [if_neg (by omega)]
    rw [e1, e2, x2r_self _ (by omega)]
  | succ k ih =>
    intro f v x M hf hv h1 h2 hs
    obtain ⟨f, rfl⟩ : ∃ g, f = g + 1 := ⟨f - 1, by omega⟩
    obtain ⟨p1, p2, p3, p4, p5, p6, p7⟩ := pr_in ha hw (h v (by omega)).1 (h v (by omega)).2
    have aw : a * w ≤ 20000000 * 100000 := Int.mul_le_mul ha2 hw2 (by omega) (by omega)
    have d1 : prB a w sh v = Int.tdiv (a * sh v) w := rfl
    have d2 : prR a w sh v = Int.tmod (a * sh v) w := rfl
    have hr2 : xu (xu M (q + 2) v (prB a w sh v)) (q + 3) v (prR a w sh v) (q + 2) v = prB a w sh v := by rw [xu_cell _ _ _ (by omega), xu_at, if_pos rfl]
    rw [T_share_F20, if_pos (by omega), xch_pos (by omega), xl_eq, xch_pos (by omega), xl_eq, xl_eq, xl_eq, xl_eq, hq.1, hq.2.1, hq.2.2, Int.toNat_natCast, hs v (by omega), w64_of (x := a * sh v) (by omega) (by omega), ← d1, ← d2, w64_of (x := prB a w sh v) (by omega) (by omega), w32_of (x := prB a w sh v) (by omega) (by omega), hr2, w64_of (x := x - prB a w sh v) (by omega) (by omega), w32_of (x := (v : Int) + 1) (by omega) (by omega), show (v : Int) + 1 = ((v + 1 : Nat) : Int) by omega]
    rw [ih f (v + 1) (x - prB a w sh v) _ (by omega) (by omega) (by omega) (by omega) (fun i hi => by rw [xu_cell _ _ _ (by omega), xu_cell _ _ _ (by omega)]; exact hs i hi)]
    have es : sumN (prB a w sh) (v + 1) = sumN (prB a w sh) v + prB a w sh v := rfl
    rw [es, x2r_xu _ (by omega), show x - prB a w sh v - (sumN (prB a w sh) m - (sumN (prB a w sh) v + prB a w sh v)) = x - (sumN (prB a w sh) m - sumN (prB a w sh) v) by omega]
    refine congrArg (Q _) ?_
    have e1 : (fun i => if v + 1 ≤ i ∧ i < m then prB a w sh i else xu (xu M (q + 2) v (prB a w sh v)) (q + 3) v (prR a w sh v) (q + 2) i) = (fun i => if v ≤ i ∧ i < m then prB a w sh i else M (q + 2) i) := by
      funext i
      rw [xu_cell _ _ _ (show q + 2 ≠ q + 3 by omega), xu_at]
      by_cases z : i = v
      · rw [if_neg (by omega), if_pos z, if_pos (by omega), z]
      · by_cases z2 : v ≤ i ∧ i < m
        · rw [if_pos (by omega), if_pos z2]
        · rw [if_neg (by omega), if_neg z, if_neg z2]
    have e2 : (fun i => if v + 1 ≤ i ∧ i < m then prR a w sh i else xu (xu M (q + 2) v (prB a w sh v)) (q + 3) v (prR a w sh v) (q + 3) i) = (fun i => if v ≤ i ∧ i < m then prR a w sh i else M (q + 3) i) := by
      funext i
      rw [xu_at, xu_cell _ _ _ (show q + 3 ≠ q + 2 by omega)]
      by_cases z : i = v
      · rw [if_neg (by omega), if_pos z, if_pos (by omega), z]
      · by_cases z2 : v ≤ i ∧ i < m
        · rw [if_pos (by omega), if_pos z2]
        · rw [if_neg (by omega), if_neg z, if_neg z2]
    rw [e1, e2]
theorem share_F103 {R : xR} {q : Nat} (hq : PtR R q) {m : Nat} (hm : m ≤ 8) (v6 v8 : Int) (Q : Int → Int → Int → xM → Option xM) (M : xM) : ∀ (k f b v : Nat), k < f → b < m → v + k = m → T_share_F103 R q (m : Int) Q f v6 v8 (b : Int) (v : Int) M = Q v6 v8 ((amin (fun i => -M (q + 3) i) k b v : Nat) : Int) M := by
  intro k
  induction k with
  | zero =>
    intro f b v hf hb hv
    obtain ⟨f, rfl⟩ : ∃ g, f = g + 1 := ⟨f - 1, by omega⟩
    rw [T_share_F103, if_neg (by omega)]
    rfl
  | succ k ih =>
    intro f b v hf hb hv
    obtain ⟨f, rfl⟩ : ∃ g, f = g + 1 := ⟨f - 1, by omega⟩
    rw [T_share_F103, if_pos (by omega), xch_pos (by omega), xch_pos (by omega), hq.2.2, Int.toNat_natCast, Int.toNat_natCast]
    unfold T_share_J131
    rw [xl_eq, xl_eq, w32_of (x := (v : Int) + 1) (by omega) (by omega), show (v : Int) + 1 = ((v + 1 : Nat) : Int) by omega, amin]
    by_cases z : M (q + 3) b < M (q + 3) v
    · rw [if_pos z, if_pos (by omega), ih f v (v + 1) (by omega) (by omega) (by omega)]
    · rw [if_neg z, if_neg (by omega), ih f b (v + 1) (by omega) (by omega) (by omega)]
theorem share_F84 {R : xR} {q : Nat} (hq : PtR R q) {m : Nat} (hm : m ≤ 8) (hm1 : 1 ≤ m) : ∀ (k f v : Nat) (M : xM), k < f → v + k ≤ m → (∀ i, i < m → 0 ≤ M (q + 2) i ∧ M (q + 2) i ≤ 20000000 + v) → ∃ g, T_share_F84 R q (m : Int) f (k : Int) (v : Int) M = some (x2r M (q + 2) (q + 3) (prU m k (M (q + 2)) (M (q + 3))) g) := by
  intro k
  induction k with
  | zero =>
    intro f v M hf hv _
    obtain ⟨f, rfl⟩ : ∃ g, f = g + 1 := ⟨f - 1, by omega⟩
    refine ⟨M (q + 3), ?_⟩
    have e : x2r M (q + 2) (q + 3) (prU m 0 (M (q + 2)) (M (q + 3))) (M (q + 3)) = M := x2r_self _ (by omega)
    rw [T_share_F84, e]
    by_cases z : (v : Int) < (m : Int)
    · rw [if_pos z, if_neg (by omega)]
    · rw [if_neg z]
  | succ k ih =>
    intro f v M hf hv hb
    obtain ⟨f, rfl⟩ : ∃ g, f = g + 1 := ⟨f - 1, by omega⟩
    rw [T_share_F84, if_pos (by omega), if_pos (by omega)]
    have e := share_F103 hq hm ((k + 1 : Nat) : Int) (v : Int) (fun (v6_20 : Int) (v8_21 : Int) (v9_22 : Int) (M_23 : xM) =>
            xch (0 ≤ v9_22 ∧ v9_22 < 8) <|
            xl (xu M_23 (R q 1) (Int.toNat v9_22) (w32 ((M_23 (R q 1) (Int.toNat v9_22)) + 1))) fun M_25 =>
            xl (xu M_25 (R q 2) (Int.toNat v9_22) (-1)) fun M_26 =>
            xl (w64 (v6_20 - 1)) fun v6_27 =>
            xl (w32 (v8_21 + 1)) fun v8_28 =>
            T_share_F84 R q (m : Int)  f v6_27 v8_28 M_26) M (m - 1) xfu 0 1 (by have : xfu = 1000000 := rfl; omega) (by omega) (by omega)
    rw [show ((0 : Nat) : Int) = 0 from rfl, show ((1 : Nat) : Int) = 1 from rfl] at e
    rw [e]
    obtain ⟨b, hbd⟩ : ∃ b, b = amin (fun i => -M (q + 3) i) (m - 1) 0 1 := ⟨_, rfl⟩
    have hbm : b < m := by rw [hbd]; exact amin_lt _ m _ _ _ (by omega) (by omega)
    have hbb := hb b hbm
    rw [← hbd, xch_pos (by omega), xl_eq, xl_eq, xl_eq, xl_eq, hq.2.1, hq.2.2, Int.toNat_natCast, w32_of (x := M (q + 2) b + 1) (by omega) (by omega), w64_of (x := ((k + 1 : Nat) : Int) - 1) (by omega) (by omega), w32_of (x := (v : Int) + 1) (by omega) (by omega), show ((k + 1 : Nat) : Int) - 1 = (k : Int) by omega, show (v : Int) + 1 = ((v + 1 : Nat) : Int) by omega, xu2_x2r _ (by omega)]
    obtain ⟨g, hg⟩ := ih f (v + 1) (x2r M (q + 2) (q + 3) (fun k => if k = b then M (q + 2) b + 1 else M (q + 2) k) (fun k => if k = b then -1 else M (q + 3) k)) (by omega) (by omega) (fun i hi => by
      rw [x2r_c _ _ _ (by omega)]
      have := hb i hi
      split <;> omega)
    refine ⟨g, ?_⟩
    rw [hg, x2r_x2r _ (by omega), x2r_c _ _ _ (by omega), x2r_d]
    have e3 : prU m (k + 1) (M (q + 2)) (M (q + 3)) = prU m k (fun i => if i = b then M (q + 2) b + 1 else M (q + 2) i) (fun i => if i = b then -1 else M (q + 3) i) := by
      show prU m k _ _ = _
      rw [← hbd]
      refine congrArg (fun z => prU m k z _) ?_
      funext i
      by_cases z : i = b
      · rw [if_pos z, if_pos z, z]
      · rw [if_neg z, if_neg z]
    rw [e3]
theorem share_eq {R : xR} {q : Nat} (hq : PtR R q) {a w : Int} {m : Nat} {sh : Nat → Int} {M : xM} (ha : 0 ≤ a) (ha2 : a ≤ 20000000) (hw : 0 < w) (hw2 : w ≤ 100000) (hm1 : 1 ≤ m) (hm : m ≤ 8) (h : ∀ i, i < m → 0 ≤ sh i ∧ sh i ≤ w) (hs : sumN sh m = w) (hM : ∀ i, i < m → M (q + 1) i = sh i) :
    ∃ f g, f_T_share R q a (m : Int) w M = some (x2r M (q + 2) (q + 3) f g) ∧ ∀ i, i < m → f i = prt a w m sh i := by
  have hl := prL_in ha hw hm1 h hs
  have e1 := share_F20 hq ha ha2 hw hw2 hm h (fun (v6_11 : Int) (M_12 : xM) => T_share_F84 R q (m : Int) xfu v6_11 0 M_12) m xfu 0 a M (by have : xfu = 1000000 := rfl; omega) (by omega) (by omega) (by omega) hM
  have e0 : sumN (prB a w sh) 0 = 0 := rfl
  rw [e0, Int.sub_zero] at e1
  have e2 : a - sumN (prB a w sh) m = ((prL a w m sh).toNat : Int) := by unfold prL at hl ⊢; omega
  rw [e2] at e1
  obtain ⟨N, hN⟩ : ∃ N, N = x2r M (q + 2) (q + 3) (fun i => if 0 ≤ i ∧ i < m then prB a w sh i else M (q + 2) i) (fun i => if 0 ≤ i ∧ i < m then prR a w sh i else M (q + 3) i) := ⟨_, rfl⟩
  rw [← hN] at e1
  have n2 : ∀ i, i < m → N (q + 2) i = prB a w sh i := fun i hi => by rw [hN, x2r_c _ _ _ (by omega), if_pos ⟨by omega, hi⟩]
  have n3 : ∀ i, i < m → N (q + 3) i = prR a w sh i := fun i hi => by rw [hN, x2r_d, if_pos ⟨by omega, hi⟩]
  obtain ⟨g, hg⟩ := share_F84 hq hm hm1 (prL a w m sh).toNat xfu 0 N (by have : xfu = 1000000 := rfl; omega) (by omega) (fun i hi => by
    rw [n2 i hi]
    have := pr_in ha hw (h i hi).1 (h i hi).2
    omega)
  refine ⟨prU m (prL a w m sh).toNat (N (q + 2)) (N (q + 3)), g, ?_, ?_⟩
  · unfold f_T_share
    rw [if_pos hw, if_neg (by omega)]
    refine e1.trans ?_
    refine hg.trans ?_
    have e3 : ∀ f, x2r N (q + 2) (q + 3) f g = x2r M (q + 2) (q + 3) f g := fun f => by rw [hN, x2r_x2r _ (by omega)]
    rw [e3]
  · intro i hi
    exact prU_cg hm1 _ _ _ _ _ n2 n3 i hi
