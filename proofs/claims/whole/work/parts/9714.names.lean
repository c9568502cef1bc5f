/-! ===== texts: words and names in the model ===== -/
theorem lx_word {lw : Bool} {b : Nat → Int} {n e : Nat} (h : lxK lw b n e = 1) : lxP b n e < lxE b n e ∧ lxE b n e ≤ n ∧ (∀ i, lxP b n e ≤ i → i < lxE b n e → isL (b i)) ∧ LW (lxW b n e) ∧ lxW b n e ≠ [] ∧ (lxW b n e).length = lxE b n e - lxP b n e := by
  obtain ⟨p, hp⟩ : ∃ p, p = lxP b n e := ⟨_, rfl⟩
  by_cases z : p < n
  · by_cases zl : 97 ≤ b p ∧ b p ≤ 122
    · have eE : lxE b n e = rn isL b (n - p) p := by unfold lxE; rw [← hp, if_pos z, if_pos zl]
      obtain ⟨q1, q2, q3, q4⟩ := rn_in (P := isL) (b := b) (n - p) p
      rw [← eE] at q1 q2 q3 q4
      have ne : p ≠ lxE b n e := by
        intro q
        rw [← q] at q4
        exact q4 (by omega) zl
      have len : (lxW b n e).length = lxE b n e - lxP b n e := by unfold lxW; rw [wds_len]
      refine ⟨by omega, by omega, by rw [← hp]; exact q3, ?_, fun q => ?_, len⟩
      · unfold lxW
        exact wds_LW _ fun i hi => by rw [← hp]; exact q3 (p + i) (by omega) (by omega)
      · rw [q, List.length_nil] at len
        omega
    · exfalso
      unfold lxK at h
      rw [← hp, if_pos z, if_neg zl] at h
      by_cases zd : 48 ≤ b p ∧ b p ≤ 57
      · rw [if_pos zd] at h
        split at h <;> exact absurd h (by decide)
      · rw [if_neg zd] at h
        split at h <;> exact absurd h (by decide)
  · exfalso
    unfold lxK at h
    rw [← hp, if_neg z] at h
    exact absurd h (by decide)
/-- a place of the token, and where it ends -/
theorem lx_in {b : Nat → Int} {n e : Nat} (he : e ≤ n) : e ≤ lxP b n e ∧ lxP b n e ≤ lxE b n e ∧ lxE b n e ≤ n ∧ (lxP b n e < n → lxP b n e < lxE b n e) := by
  obtain ⟨p, hp⟩ : ∃ p, p = lxP b n e := ⟨_, rfl⟩
  obtain ⟨p1, p2, p3, p4⟩ := rn_in (P := isBl) (b := b) (n - e) e
  have hp' : rn isBl b (n - e) e = p := by rw [hp]; rfl
  rw [hp'] at p1 p2
  rw [← hp]
  by_cases z : p < n
  · by_cases zl : 97 ≤ b p ∧ b p ≤ 122
    · have eE : lxE b n e = rn isL b (n - p) p := by unfold lxE; rw [← hp, if_pos z, if_pos zl]
      obtain ⟨q1, q2, q3, q4⟩ := rn_in (P := isL) (b := b) (n - p) p
      rw [← eE] at q1 q2 q4
      have ne : p ≠ lxE b n e := by
        intro q
        rw [← q] at q4
        exact q4 (by omega) zl
      omega
    · by_cases zd : 48 ≤ b p ∧ b p ≤ 57
      · have eE : lxE b n e = rn isD b (n - p) p := by unfold lxE; rw [← hp, if_pos z, if_neg zl, if_pos zd]
        obtain ⟨q1, q2, q3, q4⟩ := rn_in (P := isD) (b := b) (n - p) p
        rw [← eE] at q1 q2 q4
        have ne : p ≠ lxE b n e := by
          intro q
          rw [← q] at q4
          exact q4 (by omega) zd
        omega
      · have eE : lxE b n e = p + 1 := by unfold lxE; rw [← hp, if_pos z, if_neg zl, if_neg zd]
        omega
  · have eE : lxE b n e = p := by unfold lxE; rw [← hp, if_neg z]
    omega
/-- which tokens there are -/
theorem lx_kind (lw : Bool) (b : Nat → Int) {n e : Nat} (he : e ≤ n) : (lxK lw b n e = 0 ∧ lxP b n e = n) ∨ (lxP b n e < n ∧ (lxK lw b n e = 1 ∨ (lxK lw b n e = 2 ∧ 0 ≤ lxV b n e ∧ lxV b n e < 10000) ∨ (lxK lw b n e = 3 ∧ lxV b n e ∈ sgs lw) ∨ lxK lw b n e = 4)) := by
  obtain ⟨p, hp⟩ : ∃ p, p = lxP b n e := ⟨_, rfl⟩
  have li := lx_in (b := b) he
  rw [← hp] at li ⊢
  by_cases z : p < n
  · right
    refine ⟨z, ?_⟩
    by_cases zl : 97 ≤ b p ∧ b p ≤ 122
    · left
      unfold lxK; rw [← hp, if_pos z, if_pos zl]
    · by_cases zd : 48 ≤ b p ∧ b p ≤ 57
      · have eE : lxE b n e = rn isD b (n - p) p := by unfold lxE; rw [← hp, if_pos z, if_neg zl, if_pos zd]
        have eK : lxK lw b n e = if 4 < lxE b n e - p then 4 else 2 := by unfold lxK; rw [← hp, if_pos z, if_neg zl, if_pos zd]
        have eV : lxV b n e = nv b p (lxE b n e - p) := by unfold lxV; rw [← hp, if_pos zd]
        by_cases y : 4 < lxE b n e - p
        · rw [if_pos y] at eK
          exact Or.inr (Or.inr (Or.inr eK))
        · rw [if_neg y] at eK
          obtain ⟨q1, q2, q3, q4⟩ := rn_in (P := isD) (b := b) (n - p) p
          rw [← eE] at q3
          have cb := nv_in (b := b) (p := p) (lxE b n e - p) fun i hi => q3 (p + i) (by omega) (by omega)
          have pb : 10 ^ (lxE b n e - p) ≤ 10 ^ 4 := Nat.pow_le_pow_right (by decide) (by omega)
          have pe : (10 : Int) ^ (lxE b n e - p) = ((10 ^ (lxE b n e - p) : Nat) : Int) := by rw [Int.natCast_pow]; rfl
          have pc : (10 ^ 4 : Nat) = 10000 := by decide
          rw [pe] at cb
          exact Or.inr (Or.inl ⟨eK, by rw [eV]; exact cb.1, by rw [eV]; omega⟩)
      · have eK : lxK lw b n e = if ub (b p) ∈ sgs lw then 3 else 4 := by unfold lxK; rw [← hp, if_pos z, if_neg zl, if_neg zd]
        have eV : lxV b n e = ub (b p) := by unfold lxV; rw [← hp, if_neg zd]
        by_cases y : ub (b p) ∈ sgs lw
        · rw [if_pos y] at eK
          exact Or.inr (Or.inr (Or.inl ⟨eK, by rw [eV]; exact y⟩))
        · rw [if_neg y] at eK
          exact Or.inr (Or.inr (Or.inr eK))
  · left
    refine ⟨?_, by omega⟩
    unfold lxK; rw [← hp, if_neg z]
theorem sch_at {s i : Nat} {pre u r : List Int} (hS : xsL.getD s [] = pre ++ (u ++ 32 :: r)) (hi : pre.length = i) {j : Nat} (hj : j < u.length) : i + j < xsn s ∧ xsb s (i + j) = u.getD j 0 := by
  refine ⟨?_, ?_⟩
  · show i + j < (xsL.getD s []).length
    rw [hS, List.length_append, List.length_append, hi]
    omega
  · show (xsL.getD s []).getD (i + j) 0 = _
    rw [hS, ← hi, app_at, app_lt _ _ _ hj]
theorem sch_bl {s i : Nat} {pre u r : List Int} (hS : xsL.getD s [] = pre ++ (u ++ 32 :: r)) (hi : pre.length = i) : i + u.length < xsn s ∧ xsb s (i + u.length) = 32 := by
  refine ⟨?_, ?_⟩
  · show i + u.length < (xsL.getD s []).length
    rw [hS, List.length_append, List.length_append, hi, List.length_cons]
    omega
  · show (xsL.getD s []).getD (i + u.length) 0 = _
    rw [hS, ← hi, app_at]
    have := app_at u (32 :: r) 0
    rw [Nat.add_zero] at this
    rw [this]
    rfl
theorem LW_at {u : List Int} (hu : LW u) : ∀ {j : Nat}, j < u.length → 97 ≤ u.getD j 0 ∧ u.getD j 0 ≤ 122 := by
  induction u with
  | nil => intro j hj; exact absurd hj (by simp)
  | cons c u ih =>
    intro j hj
    cases j with
    | zero => exact hu.hd
    | succ j =>
      rw [List.getD_cons_succ]
      exact ih hu.tl (by simpa using hj)
theorem inF25 {R : xR} {M : xM} {s i : Nat} (hs : xsn s < 200) {pre u r : List Int} (hS : xsL.getD s [] = pre ++ (u ++ 32 :: r)) (hi : pre.length = i) (hu : LW u) (v2 v3 : Int) (Q : Int → Int → Int → Option Int) : ∀ (k f j : Nat), k < f → j + k = u.length → M_inWords_F25 R M 104 s Q f v2 v3 ((i + j : Nat) : Int) = Q v2 v3 ((i + u.length : Nat) : Int) := by
  intro k
  induction k with
  | zero =>
    intro f j hf hj
    obtain ⟨f, rfl⟩ : ∃ g, f = g + 1 := ⟨f - 1, by omega⟩
    have e : j = u.length := by omega
    have c := sch_bl hS hi
    rw [M_inWords_F25, e, charAt_eq c.1 c.2 (by decide) (by decide), xb1_some, if_pos rfl]
  | succ k ih =>
    intro f j hf hj
    obtain ⟨f, rfl⟩ : ∃ g, f = g + 1 := ⟨f - 1, by omega⟩
    have c := sch_at hS hi (show j < u.length by omega)
    have l := LW_at hu (show j < u.length by omega)
    rw [M_inWords_F25, charAt_eq c.1 c.2 (by omega) (by omega), xb1_some, if_neg (by omega), xl_eq, w32_of (x := ((i + j : Nat) : Int) + 1) (by omega) (by omega), show ((i + j : Nat) : Int) + 1 = ((i + (j + 1) : Nat) : Int) by omega]
    exact ih f (j + 1) (by omega) (by omega)
theorem inF68 {R : xR} (r5 : R 104 5 = 109) {M : xM} {b : Nat → Int} {n p : Nat} (hB : TxB b n) (hT : TxM b n M) (h9 : M 104 9 = (p : Int)) {s i : Nat} (hs : xsn s < 200) {pre u r : List Int} (hS : xsL.getD s [] = pre ++ (u ++ 32 :: r)) (hi : pre.length = i) (hu : LW u) (hlen : p + u.length ≤ n) (hl : ∀ j, j < u.length → isL (b (p + j))) (v2 : Int) (Q : Int → Int → Int → Option Int) : ∀ (k f j : Nat), k < f → j + k = u.length → ((∀ x, j ≤ x → x < u.length → u.getD x 0 = b (p + x)) → M_inWords_F68 R M 104 s Q f v2 (i : Int) ((i + u.length : Nat) : Int) 1 ((i + j : Nat) : Int) = Q v2 ((i + u.length : Nat) : Int) 1) ∧ ((∃ x, j ≤ x ∧ x < u.length ∧ u.getD x 0 ≠ b (p + x)) → M_inWords_F68 R M 104 s Q f v2 (i : Int) ((i + u.length : Nat) : Int) 1 ((i + j : Nat) : Int) = Q v2 ((i + u.length : Nat) : Int) 0) := by
  have hn := hB.1
  intro k
  induction k with
  | zero =>
    intro f j hf hj
    obtain ⟨f, rfl⟩ : ∃ g, f = g + 1 := ⟨f - 1, by omega⟩
    refine ⟨fun _ => ?_, fun ⟨x, h1, h2, _⟩ => by omega⟩
    rw [M_inWords_F68, if_neg (by omega)]
  | succ k ih =>
    intro f j hf hj
    obtain ⟨f, rfl⟩ : ∃ g, f = g + 1 := ⟨f - 1, by omega⟩
    have h := ih f (j + 1) (by omega) (by omega)
    have c := sch_at hS hi (show j < u.length by omega)
    have l := LW_at hu (show j < u.length by omega)
    have lj := hl j (by omega)
    have lj' : 97 ≤ b (p + j) ∧ b (p + j) ≤ 122 := lj
    have eu := (ub_in (hB.2 (p + j))).2.2.2.2.2 (by omega)
    rw [M_inWords_F68, if_pos (by omega), if_neg (by decide), charAt_eq c.1 c.2 (by omega) (by omega), xb1_some, h9, w32_of (x := (p : Int) + ((i + j : Nat) : Int)) (by omega) (by omega), w32_of (x := (p : Int) + ((i + j : Nat) : Int) - (i : Int)) (by omega) (by omega), show (p : Int) + ((i + j : Nat) : Int) - (i : Int) = ((p + j : Nat) : Int) by omega, byteAt_eq r5 hB hT, if_pos (by omega), eu, xb1_some]
    unfold M_inWords_J107
    rw [xl_eq, w32_of (x := ((i + j : Nat) : Int) + 1) (by omega) (by omega), show ((i + j : Nat) : Int) + 1 = ((i + (j + 1) : Nat) : Int) by omega]
    by_cases z : u.getD j 0 = b (p + j)
    · rw [if_pos z]
      refine ⟨fun q => h.1 fun x h1 h2 => q x (by omega) h2, fun ⟨x, h1, h2, h3⟩ => h.2 ⟨x, ?_, h2, h3⟩⟩
      have : x ≠ j := fun y => h3 (y ▸ z)
      omega
    · rw [if_neg z, xl_eq]
      refine ⟨fun q => absurd (q j (by omega) (by omega)) z, fun _ => ?_⟩
      obtain ⟨f, rfl⟩ : ∃ g, f = g + 1 := ⟨f - 1, by omega⟩
      rw [M_inWords_F68]
      by_cases y : ((i + (j + 1) : Nat) : Int) < ((i + u.length : Nat) : Int)
      · rw [if_pos y, if_pos rfl]
      · rw [if_neg y]
theorem inJ {R : xR} (r5 : R 104 5 = 109) {M : xM} {b : Nat → Int} {n p L : Nat} (hB : TxB b n) (hT : TxM b n M) (h9 : M 104 9 = (p : Int)) (h10 : M 104 10 = ((p + L : Nat) : Int)) (hL : p + L ≤ n) (hl : ∀ j, j < L → isL (b (p + j))) {s : Nat} (hs : xsn s < 200) (hsl : f_S_length s = some (xsn s : Int)) : ∀ (kl : List (List Int)) (pre : List Int) (f i : Nat) (v : Int), xsL.getD s [] = pre ++ jn kl → pre.length = i → KW kl → kl.length < f → 0 ≤ v → v + kl.length < 1000 →
    M_inWords_F14 R M 104 s f v (i : Int) = some (ix kl (wds b p L) v) := by
  have xf : xfu = 1000000 := rfl
  have hn := hB.1
  intro kl
  induction kl with
  | nil =>
    intro pre f i v hS hi _ hf _ _
    obtain ⟨f, rfl⟩ : ∃ g, f = g + 1 := ⟨f - 1, by omega⟩
    have hlen : xsn s = i := by
      show (xsL.getD s []).length = i
      rw [hS]
      show (pre ++ []).length = i
      rw [List.append_nil, hi]
    rw [M_inWords_F14, hsl, xb1_some, if_neg (by omega)]
    rfl
  | cons k r ih =>
    intro pre f i v hS hi hk hf hv1 hv2
    obtain ⟨f, rfl⟩ : ∃ g, f = g + 1 := ⟨f - 1, by omega⟩
    rw [List.length_cons] at hf hv2
    have a := hk k List.mem_cons_self
    have lr : LW k.reverse := fun y hy => a.1 y (List.mem_reverse.1 hy)
    have ekl : k.reverse.length = k.length := List.length_reverse
    have bl := sch_bl (u := k.reverse) (r := jn r) hS hi
    have nx := ih (pre ++ (k.reverse ++ [32])) f (i + k.length + 1) (v + 1) (by rw [hS, List.append_assoc, List.append_assoc]; rfl) (by rw [List.length_append, List.length_append, List.length_reverse, hi]; rfl) (fun y hy => hk y (List.mem_cons_of_mem k hy)) (by omega) (by omega) (by omega)
    have f25 := inF25 (R := R) (M := M) hs (u := k.reverse) (r := jn r) hS hi lr v (i : Int) (fun (v2_9 : Int) (v3_10 : Int) (v4_11 : Int) =>
          if w32 (v4_11 - v3_10) = w32 ((M 104 10) - (M 104 9)) then
            M_inWords_J63 R M 104 s (M_inWords_F14 R M 104 s f) v2_9 v3_10 v4_11 1
          else
            M_inWords_J63 R M 104 s (M_inWords_F14 R M 104 s f) v2_9 v3_10 v4_11 0) k.reverse.length xfu 0 (by omega) (by omega)
    rw [Nat.add_zero] at f25
    rw [M_inWords_F14, hsl, xb1_some, if_pos (by omega)]
    refine f25.trans ?_
    rw [h9, h10, w32_of (x := ((i + k.reverse.length : Nat) : Int) - (i : Int)) (by omega) (by omega), w32_of (x := ((p + L : Nat) : Int) - (p : Int)) (by omega) (by omega)]
    have no : M_inWords_J115 R M 104 s (M_inWords_F14 R M 104 s f) v ((i + k.reverse.length : Nat) : Int) 0 = some (ix r (wds b p L) (v + 1)) := by
      unfold M_inWords_J115
      rw [if_pos rfl, xl_eq, xl_eq, w32_of (x := v + 1) (by omega) (by omega), w32_of (x := ((i + k.reverse.length : Nat) : Int) + 1) (by omega) (by omega), show ((i + k.reverse.length : Nat) : Int) + 1 = ((i + k.length + 1 : Nat) : Int) by omega]
      exact nx
    have yes : M_inWords_J115 R M 104 s (M_inWords_F14 R M 104 s f) v ((i + k.reverse.length : Nat) : Int) 1 = some v := by
      unfold M_inWords_J115
      rw [if_neg (by decide)]
    by_cases zL : k.length = L
    · rw [if_pos (by omega)]
      unfold M_inWords_J63
      have f68 := inF68 r5 hB hT h9 hs (u := k.reverse) (r := jn r) hS hi lr (by omega) (fun j hj => hl j (by omega)) v (fun (v2_21 : Int) (v4_22 : Int) (v5_23 : Int) => M_inWords_J115 R M 104 s (M_inWords_F14 R M 104 s f) v2_21 v4_22 v5_23) k.reverse.length xfu 0 (by omega) (by omega)
      rw [Nat.add_zero] at f68
      by_cases z : k = wds b p L
      · have q := ((wds_eq L k).1 z).2
        refine (f68.1 fun x _ hx => q x (by omega)).trans ?_
        unfold ix
        rw [if_pos z]
        exact yes
      · have q : ∃ x, 0 ≤ x ∧ x < k.reverse.length ∧ k.reverse.getD x 0 ≠ b (p + x) := Classical.byContradiction fun y => z ((wds_eq L k).2 ⟨zL, fun j hj => Classical.byContradiction fun y2 => y ⟨j, by omega, by omega, y2⟩⟩)
        refine (f68.2 q).trans ?_
        unfold ix
        rw [if_neg z]
        exact no
    · rw [if_neg (by omega)]
      have z : k ≠ wds b p L := fun q => zL ((wds_eq L k).1 q).1
      unfold ix
      rw [if_neg z]
      unfold M_inWords_J63
      have kp : 0 < k.length := List.length_pos_iff.2 a.2.1
      rw [show xfu = 999999 + 1 from rfl, M_inWords_F68, if_pos (by omega), if_pos rfl]
      exact no
/-- the words of the model, by the text's number -/
theorem inWords_eq {R : xR} (r5 : R 104 5 = 109) {lw : Bool} {b : Nat → Int} {n e : Nat} (hB : TxB b n) {M : xM} (hT : TxM b n M) (hK : TkM lw b n e M) : f_M_inWords R 104 6 M = some (if lxK lw b n e = 1 then ix KQ (lxW b n e) 0 else -1) ∧ f_M_inWords R 104 7 M = some (if lxK lw b n e = 1 then ix KL (lxW b n e) 0 else -1) := by
  have xf : xfu = 1000000 := rfl
  obtain ⟨s3, s5, s6, s7, b3, b5, b6, b7⟩ := slen_eq
  obtain ⟨k10, k9, k8, -⟩ := hK
  unfold f_M_inWords
  rw [k8]
  by_cases z : lxK lw b n e = 1
  · rw [if_pos z]
    have ek : kmp (lxK lw b n e) = 2 := by rw [z]; rfl
    rw [if_pos ek, if_pos ek, if_pos z]
    obtain ⟨w1, w2, w3, w4, w5, w6⟩ := lx_word z
    have e10 : M 104 10 = ((lxP b n e + (lxE b n e - lxP b n e) : Nat) : Int) := by rw [k10]; omega
    have hl : ∀ j, j < lxE b n e - lxP b n e → isL (b (lxP b n e + j)) := fun j hj => w3 _ (by omega) (by omega)
    exact ⟨inJ r5 hB hT k9 e10 (by omega) hl b6 s6 KQ [32] xfu 1 0 xsL_w.2.2.1 rfl KW_all.2.2 (by show 15 < xfu; omega) (by decide) (by decide), inJ r5 hB hT k9 e10 (by omega) hl b7 s7 KL [32] xfu 1 0 xsL_w.2.2.2 rfl KW_all.2.1 (by show 8 < xfu; omega) (by decide) (by decide)⟩
  · have ek : kmp (lxK lw b n e) ≠ 2 := by
      intro q
      unfold kmp at q
      rw [if_neg z] at q
      split at q
      · exact absurd q (by decide)
      · split at q
        · exact absurd q (by decide)
        · split at q <;> exact absurd q (by decide)
    rw [if_neg ek, if_neg ek, if_neg z, if_neg z]
    exact ⟨rfl, rfl⟩
/-- the token is a name -/
def nmo (lw : Bool) (b : Nat → Int) (n e : Nat) : Prop := lxK lw b n e = 1 ∧ (lxW b n e).length ≤ 8 ∧ ix (kls lw) (lxW b n e) 0 = -1
theorem isName_eq {lw : Bool} {b : Nat → Int} {n e : Nat} {M : xM} (hK : TkX lw b n e M) : (nmo lw b n e → f_A_isName 2 M = some 1 ∧ M 2 8 = c5 (lxW b n e)) ∧ (¬ nmo lw b n e → f_A_isName 2 M = some 0) := by
  obtain ⟨k3, k6, k7, k8, k9, k10⟩ := hK
  unfold f_A_isName nmo
  rw [k7]
  by_cases z : lxK lw b n e = 1
  · obtain ⟨w1, w2, w3, w4, w5, w6⟩ := lx_word z
    have h8 := k8 z
    have cp := c5_pos w4 w5
    rw [if_pos z, h8.1, h8.2]
    by_cases y : (lxW b n e).length ≤ 8
    · rw [if_pos y, if_neg (by omega)]
      by_cases x : ix (kls lw) (lxW b n e) 0 = -1
      · rw [if_pos x]
        exact ⟨fun _ => ⟨rfl, rfl⟩, fun q => absurd ⟨z, y, x⟩ q⟩
      · rw [if_neg x]
        exact ⟨fun q => absurd q.2.2 x, fun _ => rfl⟩
    · rw [if_neg y, if_pos rfl]
      exact ⟨fun q => absurd q.2.1 y, fun _ => rfl⟩
  · rw [if_neg z]
    exact ⟨fun q => absurd q.1 z, fun _ => rfl⟩
theorem ysh_or {v r : Nat} (hv : v < 2 ^ 55) (hr : r < 256) : yor (yshl (v : Int) 8) (r : Int) = (v : Int) * 256 + (r : Int) := by
  have e1 : yshl (v : Int) 8 = ((v * 256 : Nat) : Int) := by
    have e : (Int64.ofInt (v : Int) <<< ((Int32.ofInt 8).toInt64 &&& 63)).toBitVec = BitVec.ofNat 64 (v * 256) := by
      rw [Int64.toBitVec_shiftLeft, ofInt_bv]
      have s : (((Int32.ofInt 8).toInt64 &&& 63).toBitVec.smod 64) = 8#64 := by decide +kernel
      rw [s]
      apply BitVec.eq_of_toNat_eq
      rw [BitVec.shiftLeft_eq', BitVec.toNat_shiftLeft, BitVec.toNat_ofNat, BitVec.toNat_ofNat, BitVec.toNat_ofNat, Nat.mod_eq_of_lt (show v < 2 ^ 64 by omega), Nat.mod_eq_of_lt (show 8 < 2 ^ 64 by decide), Nat.shiftLeft_eq]
    unfold yshl
    show (Int64.ofInt (v : Int) <<< ((Int32.ofInt 8).toInt64 &&& 63)).toBitVec.toInt = _
    rw [e, i64_nat (by omega)]
  have hor : v * 256 ||| r = v * 256 + r := by
    have := Nat.two_pow_add_eq_or_of_lt (i := 8) (b := r) hr v
    rw [show (2 ^ 8 : Nat) = 256 from rfl, Nat.mul_comm 256 v] at this
    exact this.symm
  have e2 : (Int64.ofInt ((v * 256 : Nat) : Int) ||| Int64.ofInt (r : Int)).toBitVec = BitVec.ofNat 64 (v * 256 + r) := by
    rw [Int64.toBitVec_or, ofInt_bv, ofInt_bv]
    apply BitVec.eq_of_toNat_eq
    rw [BitVec.toNat_or, BitVec.toNat_ofNat, BitVec.toNat_ofNat, BitVec.toNat_ofNat, Nat.mod_eq_of_lt (show v * 256 < 2 ^ 64 by omega), Nat.mod_eq_of_lt (show r < 2 ^ 64 by omega), Nat.mod_eq_of_lt (show v * 256 + r < 2 ^ 64 by omega), hor]
  rw [e1]
  unfold yor
  show (Int64.ofInt ((v * 256 : Nat) : Int) ||| Int64.ofInt (r : Int)).toBitVec.toInt = _
  rw [e2, i64_nat (by omega)]
  omega
theorem c8_lt {w : List Int} (h : LW w) (hl : w.length ≤ 7) : 0 ≤ c8 w ∧ c8 w < 36028797018963968 := by
  have a := c8_nn h
  have b : 256 ^ w.length ≤ 256 ^ 7 := Nat.pow_le_pow_right (by decide) hl
  have e : (256 : Int) ^ w.length = ((256 ^ w.length : Nat) : Int) := by rw [Int.natCast_pow]; rfl
  have c : (256 ^ 7 : Nat) = 72057594037927936 := by decide
  rw [e] at a
  omega
theorem nm_F57 {R : xR} (r5 : R 104 5 = 109) {M : xM} {b : Nat → Int} {n p L : Nat} (hB : TxB b n) (hT : TxM b n M) (h10 : M 104 10 = ((p + L : Nat) : Int)) (hL : p + L ≤ n) (hL8 : L ≤ 8) (hl : ∀ j, j < L → isL (b (p + j))) : ∀ (k f j : Nat), k < f → j + k = L → M_nameHere_F57 R M 104 f (c8 (wds b p j)) ((p + j : Nat) : Int) = some (c8 (wds b p L)) := by
  have hn := hB.1
  intro k
  induction k with
  | zero =>
    intro f j hf hj
    obtain ⟨f, rfl⟩ : ∃ g, f = g + 1 := ⟨f - 1, by omega⟩
    have e : j = L := by omega
    rw [M_nameHere_F57, h10, if_neg (by omega), e]
  | succ k ih =>
    intro f j hf hj
    obtain ⟨f, rfl⟩ : ∃ g, f = g + 1 := ⟨f - 1, by omega⟩
    have lj : 97 ≤ b (p + j) ∧ b (p + j) ≤ 122 := hl j (by omega)
    have eu := (ub_in (hB.2 (p + j))).2.2.2.2.2 (by omega)
    have lw : LW (wds b p j) := wds_LW _ fun i hi => hl i (by omega)
    have cb := c8_lt lw (by rw [wds_len]; omega)
    have ys := ysh_or (v := (c8 (wds b p j)).toNat) (r := (b (p + j)).toNat) (by omega) (by omega)
    rw [show (((c8 (wds b p j)).toNat : Nat) : Int) = c8 (wds b p j) by omega, show (((b (p + j)).toNat : Nat) : Int) = b (p + j) by omega] at ys
    rw [M_nameHere_F57, h10, if_pos (by omega), byteAt_eq r5 hB hT, if_pos (by omega), eu, xb1_some, xl_eq, xl_eq, ys, w32_of (x := ((p + j : Nat) : Int) + 1) (by omega) (by omega), show ((p + j : Nat) : Int) + 1 = ((p + (j + 1) : Nat) : Int) by omega]
    exact ih f (j + 1) (by omega) (by omega)
theorem nameHere_eq {R : xR} (r5 : R 104 5 = 109) {lw : Bool} {b : Nat → Int} {n e : Nat} (hB : TxB b n) {M : xM} (hT : TxM b n M) (hK : TkM lw b n e M) (h16 : M 104 16 = (if lw then 1 else 0)) : (nmo lw b n e → f_M_nameHere R 104 M = some (c8 (lxW b n e))) ∧ (¬ nmo lw b n e → f_M_nameHere R 104 M = some (-1)) := by
  have xf : xfu = 1000000 := rfl
  have iw := inWords_eq r5 hB hT hK
  obtain ⟨k10, k9, k8, -⟩ := hK
  have hn := hB.1
  unfold f_M_nameHere nmo
  rw [k8]
  by_cases z : lxK lw b n e = 1
  · rw [if_pos z, if_pos z] at iw
    obtain ⟨w1, w2, w3, w4, w5, w6⟩ := lx_word z
    have ek : kmp (lxK lw b n e) = 2 := by rw [z]; rfl
    rw [if_pos ek, k10, k9, w32_of (x := (lxE b n e : Int) - (lxP b n e : Int)) (by omega) (by omega)]
    by_cases y : 8 < (lxE b n e : Int) - (lxP b n e : Int)
    · rw [if_pos y]
      exact ⟨fun q => by omega, fun _ => rfl⟩
    · rw [if_neg y, h16]
      have F : M_nameHere_F57 R M 104 xfu 0 (M 104 9) = some (c8 (lxW b n e)) := by
        have := nm_F57 r5 hB hT (p := lxP b n e) (L := lxE b n e - lxP b n e) (by rw [k10]; omega) (by omega) (by omega) (fun j hj => w3 _ (by omega) (by omega)) (lxE b n e - lxP b n e) xfu 0 (by omega) (by omega)
        rw [Nat.add_zero] at this
        rw [k9]
        exact this
      cases lw with
      | false =>
        rw [if_pos (by rfl)]
        unfold M_nameHere_J39
        rw [iw.1, xb1_some, xl_eq, F, ix_km]
        by_cases x : ix (kls false) (lxW b n e) 0 = -1
        · have x' : ix KP (lxW b n e) 0 = -1 := x
          rw [x', if_pos (by decide)]
          exact ⟨fun _ => rfl, fun q => absurd ⟨z, by omega, x⟩ q⟩
        · have x' : ix KP (lxW b n e) 0 ≠ -1 := x
          have xi := ix_in (kl := KP) (w := lxW b n e) 0 (by decide)
          have : km (ix KP (lxW b n e) 0) ≠ -1 := by
            unfold km
            split
            · decide
            · split
              · decide
              · split
                · decide
                · exact x'
          rw [if_neg this]
          exact ⟨fun q => absurd q.2.2 x, fun _ => rfl⟩
      | true =>
        rw [if_neg (by decide)]
        unfold M_nameHere_J39
        rw [iw.2, xb1_some, xl_eq, F]
        by_cases x : ix (kls true) (lxW b n e) 0 = -1
        · have x' : ix KL (lxW b n e) 0 = -1 := x
          rw [if_pos x']
          exact ⟨fun _ => rfl, fun q => absurd ⟨z, by omega, x⟩ q⟩
        · have x' : ix KL (lxW b n e) 0 ≠ -1 := x
          rw [if_neg x']
          exact ⟨fun q => absurd q.2.2 x, fun _ => rfl⟩
  · have ek : kmp (lxK lw b n e) ≠ 2 := by
      intro q
      unfold kmp at q
      rw [if_neg z] at q
      split at q
      · exact absurd q (by decide)
      · split at q
        · exact absurd q (by decide)
        · split at q <;> exact absurd q (by decide)
    rw [if_neg ek]
    exact ⟨fun q => absurd q.1 z, fun _ => rfl⟩
