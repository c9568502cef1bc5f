/-! ===== sending on, in the model ===== -/
set_option maxRecDepth 100000 in
theorem xR0_fl : (∀ k, k < 9 → 1 ≤ k → xR0 62 k = 62 + k ∧ xR0 79 k = 79 + k) ∧ (∀ k, k < 3 → xR0 70 k = 71 + k ∧ xR0 87 k = 88 + k ∧ xR0 74 k = 75 + k) ∧ (∀ k, k < 9 → xR0 104 (80 + k) = 156 + k) ∧ xR0 78 0 = 79 ∧ xR0 78 1 = 91 ∧ xR0 78 9 = 92 := by decide +kernel
theorem RG.fl62 {R : xR} {pn ps ln ls : Nat} (h : RG R pn ps ln ls) : FlR R 62 := by
  have k := xR0_fl
  have e : ∀ j, j < 9 → 1 ≤ j → R 62 j = 62 + j := fun j h1 h2 => by rw [h.at 62 j (by decide) (by decide), (k.1 j h1 h2).1]
  have e2 : ∀ j, j < 3 → R 70 j = 71 + j := fun j h1 => by rw [h.at 70 j (by decide) (by decide), (k.2.1 j h1).1]
  exact ⟨e 1 (by decide) (by decide), e 2 (by decide) (by decide), e 3 (by decide) (by decide), e 4 (by decide) (by decide), e 5 (by decide) (by decide), e 6 (by decide) (by decide), e 7 (by decide) (by decide), e 8 (by decide) (by decide), e2 0 (by decide), e2 1 (by decide), e2 2 (by decide)⟩
theorem RG.fl79 {R : xR} {pn ps ln ls : Nat} (h : RG R pn ps ln ls) : FlR R 79 := by
  have k := xR0_fl
  have e : ∀ j, j < 9 → 1 ≤ j → R 79 j = 79 + j := fun j h1 h2 => by rw [h.at 79 j (by decide) (by decide), (k.1 j h1 h2).2]
  have e2 : ∀ j, j < 3 → R 87 j = 88 + j := fun j h1 => by rw [h.at 87 j (by decide) (by decide), (k.2.1 j h1).2.1]
  exact ⟨e 1 (by decide) (by decide), e 2 (by decide) (by decide), e 3 (by decide) (by decide), e 4 (by decide) (by decide), e 5 (by decide) (by decide), e 6 (by decide) (by decide), e 7 (by decide) (by decide), e 8 (by decide) (by decide), e2 0 (by decide), e2 1 (by decide), e2 2 (by decide)⟩
theorem RG.pt74 {R : xR} {pn ps ln ls : Nat} (h : RG R pn ps ln ls) : PtR R 74 := by
  have k := xR0_fl
  have e2 : ∀ j, j < 3 → R 74 j = 75 + j := fun j h1 => by rw [h.at 74 j (by decide) (by decide), (k.2.1 j h1).2.2]
  exact ⟨e2 0 (by decide), e2 1 (by decide), e2 2 (by decide)⟩
theorem RG.m80 {R : xR} {pn ps ln ls : Nat} (h : RG R pn ps ln ls) {k : Nat} (hk : k < 9) : R 104 (80 + k) = 156 + k := by
  rw [h.at 104 (80 + k) (by decide) (by decide)]
  exact xR0_fl.2.2.1 k hk
theorem RG.pnR {R : xR} {pn ps ln ls : Nat} (h : RG R pn ps ln ls) : PnR R pn := fun k h1 h2 => h.now h1 h2
theorem sends_F15 {R : xR} {pn ps ln ls : Nat} (hR : RG R pn ps ln ls) {a : Int} {m c : Nat} {sh : Nat → Int} (hc : c < 8) (ha : 0 ≤ a) (ha2 : a ≤ 20000000) (hm : m ≤ 8) (h : ∀ i, i < m → 0 ≤ sh i ∧ sh i ≤ 100) (l2 l3 : Int) (Q : Int → Int → xM → Option xM) : ∀ (k f v : Nat) (x : Int) (M : xM), k < f → v + k = m → -160000000 ≤ x + 20000000 * (v : Int) → x ≤ 20000000 → (∀ i, i < m → M 127 (8 * c + i) = sh i) →
    M_sends_F15 R 104 (c : Int) l2 l3 a Q f x (m : Int) (v : Int) M = Q (x - (sumN (prB a 100 sh) m - sumN (prB a 100 sh) v)) (m : Int) (x2r M 163 164 (fun i => if v ≤ i ∧ i < m then prB a 100 sh i else M 163 i) (fun i => if v ≤ i ∧ i < m then prR a 100 sh i else M 164 i)) := by
  have r87 : R 104 87 = 163 := hR.m80 (k := 7) (by decide)
  have r88 : R 104 88 = 164 := hR.m80 (k := 8) (by decide)
  have r38 : R 104 38 = 127 := by rw [hR.at 104 38 (by decide) (by decide)]; exact xR0_mp.2.2.2.2.2.2.1
  intro k
  induction k with
  | zero =>
    intro f v x M hf hv h1 h2 hs
    obtain ⟨f, rfl⟩ : ∃ g, f = g + 1 := ⟨f - 1, by omega⟩
    have ev : v = m := by omega
    rw [M_sends_F15, if_neg (by omega), ev, Int.sub_self, Int.sub_zero]
    have e1 : (fun i => if m ≤ i ∧ i < m then prB a 100 sh i else M 163 i) = M 163 := by
      funext i
      rw [if_neg (by omega)]
    have e2 : (fun i => if m ≤ i ∧ i < m then prR a 100 sh i else M 164 i) = M 164 := by
      funext i
      rw [if_neg (by omega)]
    rw [e1, e2, x2r_self _ (by decide)]
  | succ k ih =>
    intro f v x M hf hv h1 h2 hs
    obtain ⟨f, rfl⟩ : ∃ g, f = g + 1 := ⟨f - 1, by omega⟩
    obtain ⟨p1, p2, p3, p4, p5, p6, p7⟩ := pr_in ha (by decide : (0 : Int) < 100) (h v (by omega)).1 (h v (by omega)).2
    have d1 : prB a 100 sh v = Int.tdiv (a * sh v) 100 := rfl
    have d2 : prR a 100 sh v = Int.tmod (a * sh v) 100 := rfl
    have hr2 : xu (xu M 163 v (prB a 100 sh v)) 164 v (prR a 100 sh v) 163 v = prB a 100 sh v := by rw [xu_cell _ _ _ (by decide), xu_at, if_pos rfl]
    have hr3 : ∀ z, xu M 163 v z 127 = M 127 := fun z => xu_cell _ _ _ (by decide)
    rw [M_sends_F15, if_pos (by omega), w32_of (x := 8 * (c : Int)) (by omega) (by omega), w32_of (x := 8 * (c : Int) + (v : Int)) (by omega) (by omega), xch_pos (by omega), xch_pos (by omega), xl_eq, xl_eq, xl_eq, xl_eq, r87, r88, r38, Int.toNat_natCast, hr3, show (8 * (c : Int) + (v : Int)).toNat = 8 * c + v by omega, hs v (by omega), w32_of (x := a * sh v) (by omega) (by omega), ← d1, ← d2, w32_of (x := prB a 100 sh v) (by omega) (by omega), hr2, w32_of (x := x - prB a 100 sh v) (by omega) (by omega), w32_of (x := (v : Int) + 1) (by omega) (by omega), show (v : Int) + 1 = ((v + 1 : Nat) : Int) by omega]
    rw [ih f (v + 1) (x - prB a 100 sh v) _ (by omega) (by omega) (by omega) (by omega) (fun i hi => by rw [xu_cell _ _ _ (by decide), xu_cell _ _ _ (by decide)]; exact hs i hi)]
    have es : sumN (prB a 100 sh) (v + 1) = sumN (prB a 100 sh) v + prB a 100 sh v := rfl
    rw [es, x2r_xu _ (by decide), show x - prB a 100 sh v - (sumN (prB a 100 sh) m - (sumN (prB a 100 sh) v + prB a 100 sh v)) = x - (sumN (prB a 100 sh) m - sumN (prB a 100 sh) v) by omega]
    refine congrArg (Q _ _) ?_
    have e1 : (fun i => if v + 1 ≤ i ∧ i < m then prB a 100 sh i else xu (xu M 163 v (prB a 100 sh v)) 164 v (prR a 100 sh v) 163 i) = (fun i => if v ≤ i ∧ i < m then prB a 100 sh i else M 163 i) := by
      funext i
      rw [xu_cell _ _ _ (show (163 : Nat) ≠ 164 by decide), xu_at]
      by_cases z : i = v
      · rw [if_neg (by omega), if_pos z, if_pos (by omega), z]
      · by_cases z2 : v ≤ i ∧ i < m
        · rw [if_pos (by omega), if_pos z2]
        · rw [if_neg (by omega), if_neg z, if_neg z2]
    have e2 : (fun i => if v + 1 ≤ i ∧ i < m then prR a 100 sh i else xu (xu M 163 v (prB a 100 sh v)) 164 v (prR a 100 sh v) 164 i) = (fun i => if v ≤ i ∧ i < m then prR a 100 sh i else M 164 i) := by
      funext i
      rw [xu_at, xu_cell _ _ _ (show (164 : Nat) ≠ 163 by decide)]
      by_cases z : i = v
      · rw [if_neg (by omega), if_pos z, if_pos (by omega), z]
      · by_cases z2 : v ≤ i ∧ i < m
        · rw [if_pos (by omega), if_pos z2]
        · rw [if_neg (by omega), if_neg z, if_neg z2]
    rw [e1, e2]
theorem sends_F101 {R : xR} {pn ps ln ls : Nat} (hR : RG R pn ps ln ls) {m : Nat} (hm : m ≤ 8) (l1 l2 l3 v5 : Int) (Q : Int → Int → Int → xM → Option xM) (M : xM) : ∀ (k f b v : Nat), k < f → b < m → v + k = m → M_sends_F101 R 104 l1 l2 l3 Q f v5 (m : Int) (b : Int) (v : Int) M = Q v5 (m : Int) ((amin (fun i => -M 164 i) k b v : Nat) : Int) M := by
  have r88 : R 104 88 = 164 := hR.m80 (k := 8) (by decide)
  intro k
  induction k with
  | zero =>
    intro f b v hf hb hv
    obtain ⟨f, rfl⟩ : ∃ g, f = g + 1 := ⟨f - 1, by omega⟩
    rw [M_sends_F101, if_neg (by omega)]
    rfl
  | succ k ih =>
    intro f b v hf hb hv
    obtain ⟨f, rfl⟩ : ∃ g, f = g + 1 := ⟨f - 1, by omega⟩
    rw [M_sends_F101, if_pos (by omega), xch_pos (by omega), xch_pos (by omega), r88, Int.toNat_natCast, Int.toNat_natCast]
    unfold M_sends_J129
    rw [xl_eq, xl_eq, w32_of (x := (v : Int) + 1) (by omega) (by omega), show (v : Int) + 1 = ((v + 1 : Nat) : Int) by omega, amin]
    by_cases z : M 164 b < M 164 v
    · rw [if_pos z, if_pos (by omega), ih f v (v + 1) (by omega) (by omega) (by omega)]
    · rw [if_neg z, if_neg (by omega), ih f b (v + 1) (by omega) (by omega) (by omega)]
theorem sends_F90 {R : xR} {pn ps ln ls : Nat} (hR : RG R pn ps ln ls) {m : Nat} (hm : m ≤ 8) (hm1 : 1 ≤ m) (l1 l2 l3 : Int) (Q : Int → xM → Option xM) : ∀ (k f : Nat) (B : Int) (M : xM), k < f → B + k ≤ 30000000 → (∀ i, i < m → 0 ≤ M 163 i ∧ M 163 i ≤ B) → ∃ g, M_sends_F90 R 104 l1 l2 l3 Q f (k : Int) (m : Int) M = Q (m : Int) (x2r M 163 164 (prU m k (M 163) (M 164)) g) := by
  have r87 : R 104 87 = 163 := hR.m80 (k := 7) (by decide)
  have r88 : R 104 88 = 164 := hR.m80 (k := 8) (by decide)
  intro k
  induction k with
  | zero =>
    intro f B M hf _ _
    obtain ⟨f, rfl⟩ : ∃ g, f = g + 1 := ⟨f - 1, by omega⟩
    refine ⟨M 164, ?_⟩
    have e : x2r M 163 164 (prU m 0 (M 163) (M 164)) (M 164) = M := x2r_self _ (by decide)
    rw [M_sends_F90, e, if_neg (by omega)]
  | succ k ih =>
    intro f B M hf hB hb
    obtain ⟨f, rfl⟩ : ∃ g, f = g + 1 := ⟨f - 1, by omega⟩
    rw [M_sends_F90, if_pos (by omega)]
    have e := sends_F101 hR hm l1 l2 l3 ((k + 1 : Nat) : Int) (fun (v5_19 : Int) (v6_20 : Int) (v7_21 : Int) (M_22 : xM) =>
          xch (0 ≤ v7_21 ∧ v7_21 < 8) <|
          xl (xu M_22 (R 104 88) (Int.toNat v7_21) (-1)) fun M_24 =>
          xl (xu M_24 (R 104 87) (Int.toNat v7_21) (w32 ((M_24 (R 104 87) (Int.toNat v7_21)) + 1))) fun M_25 =>
          xl (w32 (v5_19 + (-1))) fun v5_26 =>
          M_sends_F90 R 104 l1 l2 l3 Q f v5_26 v6_20 M_25) M (m - 1) xfu 0 1 (by have : xfu = 1000000 := rfl; omega) (by omega) (by omega)
    rw [show ((0 : Nat) : Int) = 0 from rfl, show ((1 : Nat) : Int) = 1 from rfl] at e
    rw [e]
    obtain ⟨b, hbd⟩ : ∃ b, b = amin (fun i => -M 164 i) (m - 1) 0 1 := ⟨_, rfl⟩
    have hbm : b < m := by rw [hbd]; exact amin_lt _ m _ _ _ (by omega) (by omega)
    have hbb := hb b hbm
    have hcc : xu M 164 b (-1) 163 b = M 163 b := by rw [xu_cell _ _ _ (by decide)]
    rw [← hbd, xch_pos (by omega), xl_eq, xl_eq, xl_eq, r87, r88, Int.toNat_natCast, hcc, w32_of (x := M 163 b + 1) (by omega) (by omega), w32_of (x := ((k + 1 : Nat) : Int) + -1) (by omega) (by omega), show ((k + 1 : Nat) : Int) + -1 = (k : Int) by omega, xu_comm _ _ _ _ _ (by decide), xu2_x2r _ (by decide)]
    obtain ⟨g, hg⟩ := ih f (B + 1) (x2r M 163 164 (fun k => if k = b then M 163 b + 1 else M 163 k) (fun k => if k = b then -1 else M 164 k)) (by omega) (by omega) (fun i hi => by
      rw [x2r_c _ _ _ (by decide)]
      have := hb i hi
      split <;> omega)
    refine ⟨g, ?_⟩
    rw [hg, x2r_x2r _ (by decide), x2r_c _ _ _ (by decide), x2r_d]
    have e3 : prU m (k + 1) (M 163) (M 164) = prU m k (fun i => if i = b then M 163 b + 1 else M 163 i) (fun i => if i = b then -1 else M 164 i) := by
      show prU m k _ _ = _
      rw [← hbd]
      refine congrArg (fun z => prU m k z _) ?_
      funext i
      by_cases z : i = b
      · rw [if_pos z, if_pos z, z]
      · rw [if_neg z, if_neg z]
    rw [e3]
theorem sumN_mono {pt : Nat → Int} {m : Nat} (hpt : ∀ i, i < m → 0 ≤ pt i) {v : Nat} (hv : v ≤ m) : sumN pt v ≤ sumN pt m := by
  have : ∀ d, v + d ≤ m → sumN pt v ≤ sumN pt (v + d) := by
    intro d
    induction d with
    | zero => intro _; exact Int.le_refl _
    | succ d ihd =>
      intro hd
      have a := ihd (by omega)
      have a2 := hpt (v + d) (by omega)
      have a3 : sumN pt (v + (d + 1)) = sumN pt (v + d) + pt (v + d) := rfl
      omega
  have e := this (m - v) (by omega)
  rw [show v + (m - v) = m by omega] at e
  exact e
theorem sends_F163 {R : xR} {pn ps ln ls : Nat} (hR : RG R pn ps ln ls) {c h s m : Nat} (hs : s < 4) (hh : h < 48) (hc : c < 8) (hm : m ≤ 8) {gol pt : Nat → Int} (hg : ∀ i, i < m → gol i = -1 ∨ ((c : Int) + 1 ≤ gol i ∧ gol i < 8)) (hpt : ∀ i, i < m → 0 ≤ pt i) : ∀ (k f v : Nat) (M S : xM), k < f → v + k = m → Ag12 155 h M S → nn12 h s S → tot (c + 1) h s S + (sumN pt m - sumN pt v) ≤ 1000000000 → (∀ i, i < m → M 126 (8 * c + i) = if gol i = -1 then 8 else gol i) → (∀ i, i < m → M 163 i = pt i) →
    ∃ M', M_sends_F163 R 104 (c : Int) (s : Int) (h : Int) f (m : Int) (v : Int) M = some M' ∧ Fr [156, 157] M M' ∧ Ag12 155 h M' (sndP gol pt h s k v S) := by
  have r80 : R 104 80 = 156 := hR.m80 (k := 0) (by decide)
  have r81 : R 104 81 = 157 := hR.m80 (k := 1) (by decide)
  have r87 : R 104 87 = 163 := hR.m80 (k := 7) (by decide)
  have r37 : R 104 37 = 126 := by rw [hR.at 104 37 (by decide) (by decide)]; exact xR0_mp.2.2.2.2.2.1
  intro k
  induction k with
  | zero =>
    intro f v M S hf hv hA _ _ _ _
    obtain ⟨f, rfl⟩ : ∃ g, f = g + 1 := ⟨f - 1, by omega⟩
    refine ⟨M, ?_, fun _ _ => rfl, hA⟩
    rw [M_sends_F163, if_neg (by omega)]
  | succ k ih =>
    intro f v M S hf hv hA hn ht hG hP
    obtain ⟨f, rfl⟩ : ∃ g, f = g + 1 := ⟨f - 1, by omega⟩
    have J : ∀ X, M_sends_J235 R 104 (c : Int) (s : Int) (h : Int) (M_sends_F163 R 104 (c : Int) (s : Int) (h : Int) f) (m : Int) (v : Int) X = M_sends_F163 R 104 (c : Int) (s : Int) (h : Int) f (m : Int) ((v + 1 : Nat) : Int) X := by
      intro X
      unfold M_sends_J235
      rw [xl_eq, w32_of (x := (v : Int) + 1) (by omega) (by omega)]
      rfl
    have hgv := hg v (by omega)
    have hpv := hpt v (by omega)
    have le := hn.le (c + 1)
    have es : sumN pt (v + 1) = sumN pt v + pt v := rfl
    have hm' : sumN pt (v + 1) ≤ sumN pt m := sumN_mono hpt (by omega)
    have cont : ∀ (X : xM), Fr [156, 157] M X → Ag12 155 h X (snd1 (gol v) (pt v) h s S) → ∃ M', M_sends_F163 R 104 (c : Int) (s : Int) (h : Int) f (m : Int) ((v + 1 : Nat) : Int) X = some M' ∧ Fr [156, 157] M M' ∧ Ag12 155 h M' (sndP gol pt h s (k + 1) v S) := by
      intro X hX hAX
      have x9 : X 126 = M 126 := hX _ (by decide)
      have x10 : X 163 = M 163 := hX _ (by decide)
      obtain ⟨M', m1, m2, m3⟩ := ih f (v + 1) X (snd1 (gol v) (pt v) h s S) (by omega) (by omega) hAX (snd1_nn hn hpv) (by rw [snd1_tot hs S (by omega)]; omega) (by rw [x9]; exact hG) (by rw [x10]; exact hP)
      exact ⟨M', m1, fun x hx => (m2 x hx).trans (hX x hx), m3⟩
    rw [M_sends_F163, if_pos (by omega), w32_of (x := 8 * (c : Int)) (by omega) (by omega), w32_of (x := 8 * (c : Int) + (v : Int)) (by omega) (by omega), xch_pos (by omega), xl_eq, r37, show (8 * (c : Int) + (v : Int)).toNat = 8 * c + v by omega, hG v (by omega)]
    have a1 := hA.1 (4 * h + s) (by omega)
    rw [show 155 + 1 = 156 from rfl] at a1
    rcases hgv with e | ⟨e1, e2⟩
    · rw [if_pos e, if_pos rfl, w32_of (x := 4 * (h : Int)) (by omega) (by omega), w32_of (x := 4 * (h : Int) + (s : Int)) (by omega) (by omega), xch_pos (by omega), xch_pos (by omega), xl_eq, r80, r87, J, Int.toNat_natCast, show (4 * (h : Int) + (s : Int)).toNat = 4 * h + s by omega, a1, hP v (by omega), w32_of (x := S 1 (4 * h + s) + pt v) (by have := hn.1; omega) (by omega)]
      refine cont _ (fun x hx => ?_) ?_
      · simp only [List.mem_cons, List.not_mem_nil, or_false, not_or] at hx
        rw [xu_cell _ _ _ hx.1]
      · rw [e]
        exact hA.st1 hs (pt v)
    · have hle := le.2 (gol v).toNat (by omega) (by omega)
      have hnn := hn.2 (gol v).toNat (by omega)
      have a2 := hA.2 (4 * (gol v).toNat + s) (by omega)
      rw [show 155 + 2 = 157 from rfl] at a2
      rw [if_neg (show gol v ≠ -1 by omega), if_neg (by omega), w32_of (x := 4 * gol v) (by omega) (by omega), w32_of (x := 4 * gol v + (s : Int)) (by omega) (by omega), xch_pos (by omega), xch_pos (by omega), xl_eq, r81, r87, J, Int.toNat_natCast, show (4 * gol v + (s : Int)).toNat = 4 * (gol v).toNat + s by omega, a2, hP v (by omega), w32_of (x := S 2 (4 * (gol v).toNat + s) + pt v) (by omega) (by omega)]
      refine cont _ (fun x hx => ?_) ?_
      · simp only [List.mem_cons, List.not_mem_nil, or_false, not_or] at hx
        rw [xu_cell _ _ _ hx.2]
      · exact hA.st2 (by omega)
theorem sends_eq {R : xR} {pn ps ln ls : Nat} (hR : RG R pn ps ln ls) {c h s m : Nat} (hs : s < 4) (hh : h < 48) (hc : c < 8) {gol sh : Nat → Int} (hW : WyB c m gol sh) {M S : xM} {a : Int} (ha : 0 ≤ a) (ha2 : a ≤ 20000000) (hA : Ag12 155 h M S) (hn : nn12 h s S) (ht : tot (c + 1) h s S + a ≤ 1000000000)
    (h8 : M 125 c = (m : Int)) (hG : ∀ i, i < m → M 126 (8 * c + i) = if gol i = -1 then 8 else gol i) (hS : ∀ i, i < m → M 127 (8 * c + i) = sh i) :
    ∃ M', f_M_sends R 104 (c : Int) (s : Int) (h : Int) a M = some M' ∧ Fr [156, 157, 163, 164] M M' ∧ Ag12 155 h M' (sndP gol (prt a 100 m sh) h s m 0 S) := by
  have r36 : R 104 36 = 125 := by rw [hR.at 104 36 (by decide) (by decide)]; exact xR0_mp.2.2.2.2.1
  obtain ⟨w1, w2, w3, w4, w5⟩ := hW
  have hpr := prt_in ha (by decide : (0 : Int) < 100) w1 w4 w5
  have hl := prL_in ha (by decide : (0 : Int) < 100) w1 w4 w5
  unfold f_M_sends
  rw [xch_pos (by omega), xl_eq, r36, Int.toNat_natCast, h8]
  have e1 := sends_F15 hR hc ha ha2 w2 w4 (s : Int) (h : Int) (fun (v5_10 : Int) (v6_11 : Int) (M_12 : xM) =>
      M_sends_F90 R 104 (c : Int) (s : Int) (h : Int)
        (fun (v6_27 : Int) (M_28 : xM) =>
          M_sends_F163 R 104 (c : Int) (s : Int) (h : Int)
            xfu v6_27 0 M_28)
        xfu v5_10 v6_11 M_12) m xfu 0 a M (by have : xfu = 1000000 := rfl; omega) (by omega) (by omega) (by omega) hS
  have e0 : sumN (prB a 100 sh) 0 = 0 := rfl
  rw [e0, Int.sub_zero, show ((0 : Nat) : Int) = 0 from rfl] at e1
  have e2 : a - sumN (prB a 100 sh) m = ((prL a 100 m sh).toNat : Int) := by unfold prL at hl ⊢; omega
  rw [e2] at e1
  rw [e1]
  obtain ⟨N, hN⟩ : ∃ N, N = x2r M 163 164 (fun i => if 0 ≤ i ∧ i < m then prB a 100 sh i else M 163 i) (fun i => if 0 ≤ i ∧ i < m then prR a 100 sh i else M 164 i) := ⟨_, rfl⟩
  rw [← hN]
  have n2 : ∀ i, i < m → N 163 i = prB a 100 sh i := fun i hi => by rw [hN, x2r_c _ _ _ (by decide), if_pos ⟨by omega, hi⟩]
  have n3 : ∀ i, i < m → N 164 i = prR a 100 sh i := fun i hi => by rw [hN, x2r_d, if_pos ⟨by omega, hi⟩]
  obtain ⟨g, hg⟩ := sends_F90 hR w2 w1 (c : Int) (s : Int) (h : Int) (fun (v6_27 : Int) (M_28 : xM) =>
          M_sends_F163 R 104 (c : Int) (s : Int) (h : Int)
            xfu v6_27 0 M_28) (prL a 100 m sh).toNat xfu 20000000 N (by have : xfu = 1000000 := rfl; omega) (by omega) (fun i hi => by
    rw [n2 i hi]
    have := pr_in ha (by decide : (0 : Int) < 100) (w4 i hi).1 (w4 i hi).2
    omega)
  rw [hg]
  obtain ⟨B, hB⟩ : ∃ B, B = x2r N 163 164 (prU m (prL a 100 m sh).toNat (N 163) (N 164)) g := ⟨_, rfl⟩
  rw [← hB]
  have bO : ∀ x, x ≠ 163 → x ≠ 164 → B x = M x := fun x h1 h2 => by rw [hB, x2r_oth _ _ _ h1 h2, hN, x2r_oth _ _ _ h1 h2]
  have b3 : ∀ i, i < m → B 163 i = prt a 100 m sh i := fun i hi => by
    rw [hB, x2r_c _ _ _ (by decide)]
    exact prU_cg w1 _ _ _ _ _ n2 n3 i hi
  obtain ⟨M', m1, m2, m3⟩ := sends_F163 hR hs hh hc w2 (gol := gol) (pt := prt a 100 m sh) w3 (fun i hi => (hpr.1 i hi).1) m xfu 0 B S (by have : xfu = 1000000 := rfl; omega) (by omega) ⟨fun i hi => by rw [bO (155 + 1) (by decide) (by decide)]; exact hA.1 i hi, fun i hi => by rw [bO (155 + 2) (by decide) (by decide)]; exact hA.2 i hi⟩ hn (by
        rw [hpr.2]
        have : sumN (prt a 100 m sh) 0 = 0 := rfl
        omega) (fun i hi => by rw [bO 126 (by decide) (by decide)]; exact hG i hi) b3
  refine ⟨M', m1, fun x hx => ?_, m3⟩
  simp only [List.mem_cons, List.not_mem_nil, or_false, not_or] at hx
  rw [m2 x (by simp only [List.mem_cons, List.not_mem_nil, or_false, not_or]; exact ⟨hx.1, hx.2.1⟩), bO x hx.2.2.1 hx.2.2.2]
