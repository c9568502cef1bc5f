/-! ===== texts: the model cuts tokens ===== -/
def TxM (b : Nat → Int) (n : Nat) (M : xM) : Prop := M 104 7 = (n : Int) ∧ ∀ i, i < n → M 109 i = b i
def kmp (k : Int) : Int := if k = 1 then 2 else if k = 2 then 3 else if k = 3 then 4 else if k = 4 then 1 else 0
def TkM (lw : Bool) (b : Nat → Int) (n e : Nat) (M : xM) : Prop := M 104 10 = (lxE b n e : Int) ∧ M 104 9 = (lxP b n e : Int) ∧ M 104 8 = kmp (lxK lw b n e) ∧ (lxK lw b n e = 2 ∨ lxK lw b n e = 3 → M 104 11 = lxV b n e)
def FrQ (M N : xM) : Prop := (∀ x, x ≠ 104 → N x = M x) ∧ ∀ j, j < 8 ∨ 12 ≤ j → N 104 j = M 104 j
theorem ub_in {c : Int} (h : -128 ≤ c ∧ c < 128) : 0 ≤ ub c ∧ ub c < 256 ∧ (isL (ub c) ↔ isL c) ∧ (isD (ub c) ↔ isD c) ∧ (isBl (ub c) ↔ isBl c) ∧ (0 ≤ c → ub c = c) := by
  unfold ub isL isD isBl
  by_cases z : c < 0
  · rw [if_pos z]; omega
  · rw [if_neg z]; omega
theorem TxM.of {b : Nat → Int} {n : Nat} {M N : xM} (h : TxM b n M) (h1 : N 104 7 = M 104 7) (h2 : N 109 = M 109) : TxM b n N := ⟨by rw [h1]; exact h.1, by rw [h2]; exact h.2⟩
theorem byteAt_eq {R : xR} (r5 : R 104 5 = 109) {b : Nat → Int} {n k : Nat} (hB : TxB b n) {M : xM} (hT : TxM b n M) : f_M_byteAt R 104 (k : Int) M = some (if k < n then ub (b k) else -1) := by
  have hn := hB.1
  unfold f_M_byteAt
  rw [hT.1]
  by_cases z : k < n
  · rw [if_pos (by omega), xch_pos (by omega), r5, Int.toNat_natCast, hT.2 k z, xand_255 (hB.2 k).1 (hB.2 k).2, if_pos z]
  · rw [if_neg (by omega), if_neg z]
theorem isSmall_eq (c : Int) : (isL c → f_M_isSmall c = some 1) ∧ (¬ isL c → f_M_isSmall c = some 0) := by
  unfold f_M_isSmall isL
  by_cases h1 : c < 97
  · rw [if_pos h1]; exact ⟨fun q => by omega, fun _ => rfl⟩
  · rw [if_neg h1]
    by_cases h2 : 122 < c
    · rw [if_pos h2]; exact ⟨fun q => by omega, fun _ => rfl⟩
    · rw [if_neg h2]; exact ⟨fun _ => rfl, fun q => absurd (by omega) q⟩
theorem isDigM_eq (c : Int) : (isD c → f_M_isDigit c = some 1) ∧ (¬ isD c → f_M_isDigit c = some 0) := by
  unfold f_M_isDigit isD
  by_cases h1 : c < 48
  · rw [if_pos h1]; exact ⟨fun q => by omega, fun _ => rfl⟩
  · rw [if_neg h1]
    by_cases h2 : 57 < c
    · rw [if_pos h2]; exact ⟨fun q => by omega, fun _ => rfl⟩
    · rw [if_neg h2]; exact ⟨fun _ => rfl, fun q => absurd (by omega) q⟩
theorem nx_F0 {R : xR} (r5 : R 104 5 = 109) {b : Nat → Int} {n : Nat} (hB : TxB b n) (Q : xM → Option xM) : ∀ (k f e : Nat) (M : xM), k < f → e + k = n → TxM b n M → M 104 10 = (e : Int) → ∃ M', M_next_F0 R 104 Q f M = Q M' ∧ (∀ x, x ≠ 104 → M' x = M x) ∧ (∀ j, j ≠ 10 → M' 104 j = M 104 j) ∧ M' 104 10 = (rn isBl b k e : Int) := by
  have hn := hB.1
  intro k
  induction k with
  | zero =>
    intro f e M hf he hT h3
    obtain ⟨f, rfl⟩ : ∃ g, f = g + 1 := ⟨f - 1, by omega⟩
    refine ⟨M, ?_, fun _ _ => rfl, fun _ _ => rfl, h3⟩
    rw [M_next_F0, h3, byteAt_eq r5 hB hT, if_neg (by omega), xb1_some, if_neg (by decide), xb1_some, if_neg (by decide)]
  | succ k ih =>
    intro f e M hf he hT h3
    obtain ⟨f, rfl⟩ : ∃ g, f = g + 1 := ⟨f - 1, by omega⟩
    have J : M_next_J26 R 104 (M_next_F0 R 104 Q f) Q M = M_next_F0 R 104 Q f (xu M 104 10 ((e + 1 : Nat) : Int)) := by
      unfold M_next_J26
      rw [xl_eq, h3, w32_of (x := (e : Int) + 1) (by omega) (by omega)]
      rfl
    have u := (ub_in (hB.2 e)).2.2.2.2.1
    rw [M_next_F0, h3, byteAt_eq r5 hB hT, if_pos (by omega), xb1_some, xb1_some, J]
    have go : isBl (b e) → ∃ M', M_next_F0 R 104 Q f (xu M 104 10 ((e + 1 : Nat) : Int)) = Q M' ∧ (∀ x, x ≠ 104 → M' x = M x) ∧ (∀ j, j ≠ 10 → M' 104 j = M 104 j) ∧ M' 104 10 = (rn isBl b (k + 1) e : Int) := by
      intro z
      obtain ⟨M', m1, m2, m3, m4⟩ := ih f (e + 1) (xu M 104 10 ((e + 1 : Nat) : Int)) (by omega) (by omega) (hT.of (by rw [xu_at, if_neg (by decide)]) (xu_cell _ _ _ (by decide))) (by rw [xu_at, if_pos rfl])
      exact ⟨M', m1, fun x hx => by rw [m2 x hx, xu_cell _ _ _ hx], fun j hj => by rw [m3 j hj, xu_at, if_neg hj], by rw [rn_pos z]; exact m4⟩
    by_cases z1 : ub (b e) = 32
    · rw [if_pos z1]
      exact go (u.1 (Or.inl z1))
    · rw [if_neg z1]
      by_cases z2 : ub (b e) = 10
      · rw [if_pos z2]
        exact go (u.1 (Or.inr z2))
      · rw [if_neg z2]
        exact ⟨M, rfl, fun _ _ => rfl, fun _ _ => rfl, by rw [rn_neg (fun q => (u.2 q).elim z1 z2)]; exact h3⟩
theorem nx_F81 {R : xR} (r5 : R 104 5 = 109) {b : Nat → Int} {n : Nat} (hB : TxB b n) (Q : xM → Option xM) : ∀ (k f e : Nat) (M : xM), k < f → e + k = n → TxM b n M → M 104 10 = (e : Int) → ∃ M', M_next_F81 R 104 Q f M = Q M' ∧ (∀ x, x ≠ 104 → M' x = M x) ∧ (∀ j, j ≠ 10 → M' 104 j = M 104 j) ∧ M' 104 10 = (rn isL b k e : Int) := by
  have hn := hB.1
  intro k
  induction k with
  | zero =>
    intro f e M hf he hT h3
    obtain ⟨f, rfl⟩ : ∃ g, f = g + 1 := ⟨f - 1, by omega⟩
    refine ⟨M, ?_, fun _ _ => rfl, fun _ _ => rfl, h3⟩
    rw [M_next_F81, h3, byteAt_eq r5 hB hT, if_neg (by omega), xb1_some, (isSmall_eq (-1)).2 (by unfold isL; omega), xb1_some, if_pos rfl]
  | succ k ih =>
    intro f e M hf he hT h3
    obtain ⟨f, rfl⟩ : ∃ g, f = g + 1 := ⟨f - 1, by omega⟩
    have u := (ub_in (hB.2 e)).2.2.1
    rw [M_next_F81, h3, byteAt_eq r5 hB hT, if_pos (by omega), xb1_some]
    by_cases z : isL (b e)
    · rw [(isSmall_eq _).1 (u.2 z), xb1_some, if_neg (by decide), xl_eq, w32_of (x := (e : Int) + 1) (by omega) (by omega)]
      obtain ⟨M', m1, m2, m3, m4⟩ := ih f (e + 1) (xu M 104 10 ((e + 1 : Nat) : Int)) (by omega) (by omega) (hT.of (by rw [xu_at, if_neg (by decide)]) (xu_cell _ _ _ (by decide))) (by rw [xu_at, if_pos rfl])
      exact ⟨M', m1, fun x hx => by rw [m2 x hx, xu_cell _ _ _ hx], fun j hj => by rw [m3 j hj, xu_at, if_neg hj], by rw [rn_pos z]; exact m4⟩
    · rw [(isSmall_eq _).2 (fun q => z (u.1 q)), xb1_some, if_pos rfl]
      exact ⟨M, rfl, fun _ _ => rfl, fun _ _ => rfl, by rw [rn_neg z]; exact h3⟩
theorem nx_F128 {R : xR} (r5 : R 104 5 = 109) {b : Nat → Int} {n p : Nat} (hB : TxB b n) (Q : xM → Option xM) : ∀ (k f e : Nat) (M : xM), k < f → e + k = n → TxM b n M → M 104 10 = (e : Int) → p ≤ e → (∀ i, p ≤ i → i < e → isD (b i)) → (0 ≤ M 104 11 ∧ M 104 11 ≤ 1000000) → (e - p ≤ 4 → M 104 11 = nv b p (e - p)) → ∃ M', M_next_F128 R 104 Q f M = Q M' ∧ (∀ x, x ≠ 104 → M' x = M x) ∧ (∀ j, j ≠ 10 → j ≠ 11 → M' 104 j = M 104 j) ∧ M' 104 10 = (rn isD b k e : Int) ∧ (rn isD b k e - p ≤ 4 → M' 104 11 = nv b p (rn isD b k e - p)) := by
  have hn := hB.1
  intro k
  induction k with
  | zero =>
    intro f e M hf he hT h3 _ _ _ h11
    obtain ⟨f, rfl⟩ : ∃ g, f = g + 1 := ⟨f - 1, by omega⟩
    refine ⟨M, ?_, fun _ _ => rfl, fun _ _ _ => rfl, h3, h11⟩
    rw [M_next_F128, h3, byteAt_eq r5 hB hT, if_neg (by omega), xb1_some, (isDigM_eq (-1)).2 (by unfold isD; omega), xb1_some, if_pos rfl]
  | succ k ih =>
    intro f e M hf he hT h3 hp hd hv h11
    obtain ⟨f, rfl⟩ : ∃ g, f = g + 1 := ⟨f - 1, by omega⟩
    have u := ub_in (hB.2 e)
    rw [M_next_F128, h3, byteAt_eq r5 hB hT, if_pos (by omega), xb1_some]
    by_cases z : isD (b e)
    · have z' : 48 ≤ b e ∧ b e ≤ 57 := z
      have eu := u.2.2.2.2.2 (by omega)
      rw [(isDigM_eq _).1 (u.2.2.2.1.2 z), xb1_some, if_neg (by decide), xb1_some, eu, xl_eq, w32_of (x := 10 * M 104 11) (by omega) (by omega), w32_of (x := 10 * M 104 11 + b e) (by omega) (by omega), w32_of (x := 10 * M 104 11 + b e - 48) (by omega) (by omega)]
      obtain ⟨v, hvd⟩ : ∃ v, v = xmin 1000000 (10 * M 104 11 + b e - 48) := ⟨_, rfl⟩
      have vb : (0 ≤ v ∧ v ≤ 1000000) ∧ (10 * M 104 11 + b e - 48 ≤ 1000000 → v = 10 * M 104 11 + b e - 48) := by
        rw [hvd]
        unfold xmin
        split <;> omega
      have e10 : xu M 104 11 v 104 10 = (e : Int) := by rw [xu_at, if_neg (by decide)]; exact h3
      rw [← hvd, e10, xl_eq, w32_of (x := (e : Int) + 1) (by omega) (by omega)]
      obtain ⟨M', m1, m2, m3, m4, m5⟩ := ih f (e + 1) (xu (xu M 104 11 v) 104 10 ((e + 1 : Nat) : Int)) (by omega) (by omega) (hT.of (by rw [xu_at, if_neg (by decide), xu_at, if_neg (by decide)]) (by rw [xu_cell _ _ _ (by decide), xu_cell _ _ _ (by decide)])) (by rw [xu_at, if_pos rfl]) (by omega) (fun i h1 h2 => by
        by_cases y : i = e
        · rw [y]; exact z
        · exact hd i h1 (by omega)) (by rw [xu_at, if_neg (by decide), xu_at, if_pos rfl]; exact vb.1) (fun y => by
        have cb := nv_in (b := b) (p := p) (e - p) fun i hi => hd (p + i) (by omega) (by omega)
        have pb : 10 ^ (e - p) ≤ 10 ^ 4 := Nat.pow_le_pow_right (by decide) (by omega)
        have pe : (10 : Int) ^ (e - p) = ((10 ^ (e - p) : Nat) : Int) := by rw [Int.natCast_pow]; rfl
        have pc : (10 ^ 4 : Nat) = 10000 := by decide
        rw [pe] at cb
        have h := h11 (by omega)
        rw [xu_at, if_neg (by decide), xu_at, if_pos rfl, vb.2 (by omega), h, show e + 1 - p = (e - p) + 1 by omega]
        show _ = nv b p (e - p) * 10 + (b (p + (e - p)) - 48)
        rw [show p + (e - p) = e by omega]
        omega)
      exact ⟨M', m1, fun x hx => by rw [m2 x hx, xu_cell _ _ _ hx, xu_cell _ _ _ hx], fun j h1 h2 => by rw [m3 j h1 h2, xu_at, if_neg h1, xu_at, if_neg h2], by rw [rn_pos z]; exact m4, by rw [rn_pos z]; exact m5⟩
    · rw [(isDigM_eq _).2 (fun q => z (u.2.2.2.1.1 q)), xb1_some, if_pos rfl]
      exact ⟨M, rfl, fun _ _ => rfl, fun _ _ _ => rfl, by rw [rn_neg z]; exact h3, by rw [rn_neg z]; exact h11⟩
set_option maxRecDepth 100000 in
theorem lawSign_eq : ∀ v : Nat, v < 256 → f_M_isLawSign (v : Int) = some (if (v : Int) ∈ sgs true then 1 else 0) := by decide +kernel
theorem plSign_eq {v : Int} : v ∈ sgs false ↔ v = 59 ∨ v = 44 := by
  show v ∈ [(59 : Int), 44] ↔ _
  simp
theorem next_eq {R : xR} (r5 : R 104 5 = 109) {lw : Bool} {b : Nat → Int} {n e : Nat} (hB : TxB b n) (he : e ≤ n) {M : xM} (hT : TxM b n M) (h3 : M 104 10 = (e : Int)) (h16 : M 104 16 = (if lw then 1 else 0)) : ∃ M', f_M_next R 104 M = some M' ∧ FrQ M M' ∧ TkM lw b n e M' := by
  have hn := hB.1
  have xf : xfu = 1000000 := rfl
  have st := nx_F0 r5 hB (fun (M_8 : xM) =>
      xl (xu M_8 104 9 (M_8 104 10)) fun M_9 =>
      xb1 (f_M_byteAt R 104 (M_9 104 10) M_9) fun r_10 =>
      xl (xu M_9 104 11 r_10) fun M_12 =>
      if r_10 = -1 then
        xl (xu M_12 104 8 0) fun M_14 =>
        some (M_14)
      else
        xb1 (f_M_isSmall r_10) fun r_15 =>
        if r_15 = 0 then
          xb1 (f_M_isDigit r_10) fun r_18 =>
          if r_18 = 0 then
            xl (xu M_12 104 10 (w32 ((M_12 104 10) + 1))) fun M_21 =>
            if M_21 104 16 = 0 then
              if r_10 = 59 then
                M_next_J254 R 4 104 M_21
              else
                if r_10 = 44 then
                  M_next_J254 R 4 104 M_21
                else
                  M_next_J254 R 1 104 M_21
            else
              xb1 (f_M_isLawSign r_10) fun r_26 =>
              if r_26 = 0 then
                M_next_J254 R 1 104 M_21
              else
                M_next_J254 R 4 104 M_21
          else
            xl (xu M_12 104 11 0) fun M_29 =>
            M_next_F128 R 104
              (fun (M_39 : xM) =>
                if 4 < w32 ((M_39 104 10) - (M_39 104 9)) then
                  M_next_J203 R 1 104 M_39
                else
                  M_next_J203 R 3 104 M_39)
              xfu M_29
        else
          M_next_F81 R 104
            (fun (M_48 : xM) =>
              xl (xu M_48 104 8 2) fun M_49 =>
              some (M_49))
            xfu M_12) (n - e) xfu e M (by omega) (by omega) hT h3
  obtain ⟨A, a1, a2, a3, a4⟩ := st
  obtain ⟨p1, p2, p3, p4⟩ := rn_in (P := isBl) (b := b) (n - e) e
  obtain ⟨p, hp⟩ : ∃ p, p = lxP b n e := ⟨_, rfl⟩
  have hp' : rn isBl b (n - e) e = p := by rw [hp]; rfl
  rw [hp'] at a4 p1 p2 p3 p4
  have tA : TxM b n (xu A 104 9 (p : Int)) := hT.of (by rw [xu_at, if_neg (by decide), a3 7 (by decide)]) (by rw [xu_cell _ _ _ (by decide), a2 109 (by decide)])
  obtain ⟨c, hc⟩ : ∃ c, c = if p < n then ub (b p) else -1 := ⟨_, rfl⟩
  obtain ⟨B, hBd⟩ : ∃ B, B = xu (xu A 104 9 (p : Int)) 104 11 c := ⟨_, rfl⟩
  have b2 : ∀ j, B 104 j = if j = 11 then c else if j = 9 then (p : Int) else A 104 j := fun j => by rw [hBd, xu_at, xu_at]
  have bO : ∀ x, x ≠ 104 → B x = M x := fun x hx => by rw [hBd, xu_cell _ _ _ hx, xu_cell _ _ _ hx, a2 x hx]
  have tB : TxM b n B := hT.of (by rw [b2, if_neg (by decide), if_neg (by decide), a3 7 (by decide)]) (bO 109 (by decide))
  have b9 : B 104 9 = (p : Int) := by rw [b2, if_neg (by decide), if_pos rfl]
  have b10 : B 104 10 = (p : Int) := by rw [b2, if_neg (by decide), if_neg (by decide), a4]
  have b11 : B 104 11 = c := by rw [b2, if_pos rfl]
  have b16 : B 104 16 = (if lw then 1 else 0) := by rw [b2, if_neg (by decide), if_neg (by decide), a3 16 (by decide)]; exact h16
  have fB : FrQ M B := ⟨bO, fun j hj => by rw [b2, if_neg (by omega), if_neg (by omega), a3 j (by omega)]⟩
  have e10 : xu A 104 9 (p : Int) 104 10 = (p : Int) := by rw [xu_at, if_neg (by decide), a4]
  have start := a1
  rw [a4, xl_eq, e10, byteAt_eq r5 hB tA, ← hc, xb1_some, xl_eq, ← hBd] at start
  have start2 : f_M_next R 104 M = _ := start
  rw [start2]
  clear start start2 a1
  unfold TkM
  by_cases z : p < n
  · have u := ub_in (hB.2 p)
    rw [if_pos z] at hc
    rw [if_neg (show c ≠ -1 by omega)]
    by_cases zl : 97 ≤ b p ∧ b p ≤ 122
    · have eE : lxE b n e = rn isL b (n - p) p := by unfold lxE; rw [← hp, if_pos z, if_pos zl]
      have eK : lxK lw b n e = 1 := by unfold lxK; rw [← hp, if_pos z, if_pos zl]
      rw [(isSmall_eq c).1 (by rw [hc]; exact u.2.2.1.2 zl), xb1_some, if_neg (by decide)]
      obtain ⟨D, d1, d2, d3, d4⟩ := nx_F81 r5 hB (fun (M_48 : xM) =>
              xl (xu M_48 104 8 2) fun M_49 =>
              some (M_49)) (n - p) xfu p B (by omega) (by omega) tB b10
      refine ⟨xu D 104 8 2, ?_, ⟨fun x hx => by rw [xu_cell _ _ _ hx, d2 x hx, bO x hx], fun j hj => by rw [xu_at, if_neg (by omega), d3 j (by omega), fB.2 j hj]⟩, ?_, ?_, ?_, fun q => ?_⟩
      · refine d1.trans ?_
        rw [xl_eq]
      · rw [xu_at, if_neg (by decide), d4, eE]
      · rw [xu_at, if_neg (by decide), d3 9 (by decide), b9, ← hp]
      · rw [xu_at, if_pos rfl, eK]; rfl
      · rw [eK] at q; exact absurd q (by decide)
    · rw [(isSmall_eq c).2 (by rw [hc]; exact fun q => zl (u.2.2.1.1 q)), xb1_some, if_pos rfl]
      by_cases zd : 48 ≤ b p ∧ b p ≤ 57
      · have eE : lxE b n e = rn isD b (n - p) p := by unfold lxE; rw [← hp, if_pos z, if_neg zl, if_pos zd]
        have eK : lxK lw b n e = if 4 < lxE b n e - p then 4 else 2 := by unfold lxK; rw [← hp, if_pos z, if_neg zl, if_pos zd]
        have eV : lxV b n e = nv b p (lxE b n e - p) := by unfold lxV; rw [← hp, if_pos zd]
        rw [(isDigM_eq c).1 (by rw [hc]; exact u.2.2.2.1.2 zd), xb1_some, if_neg (by decide), xl_eq]
        obtain ⟨C, hC⟩ : ∃ C, C = xu B 104 11 0 := ⟨_, rfl⟩
        have c2 : ∀ j, C 104 j = if j = 11 then 0 else B 104 j := fun j => by rw [hC, xu_at]
        have cO : ∀ x, x ≠ 104 → C x = B x := fun x hx => by rw [hC, xu_cell _ _ _ hx]
        obtain ⟨D, d1, d2, d3, d4, d5⟩ := nx_F128 r5 hB (p := p) (fun (M_39 : xM) =>
                if 4 < w32 ((M_39 104 10) - (M_39 104 9)) then
                  M_next_J203 R 1 104 M_39
                else
                  M_next_J203 R 3 104 M_39) (n - p) xfu p C (by omega) (by omega) (tB.of (by rw [c2, if_neg (by decide)]) (cO 109 (by decide))) (by rw [c2, if_neg (by decide)]; exact b10) (Nat.le_refl p) (fun i h1 h2 => by omega) (by rw [c2, if_pos rfl]; decide) (fun _ => by rw [c2, if_pos rfl, Nat.sub_self]; rfl)
        rw [← eE] at d4 d5
        obtain ⟨q1, q2, q3, q4⟩ := rn_in (P := isD) (b := b) (n - p) p
        rw [← eE] at q1 q2 q3
        have d9 : D 104 9 = (p : Int) := by rw [d3 9 (by decide) (by decide), c2, if_neg (by decide)]; exact b9
        have k1 : kmp (lxK lw b n e) = if 4 < lxE b n e - p then 1 else 3 := by rw [eK]; split <;> rfl
        refine ⟨xu D 104 8 (kmp (lxK lw b n e)), ?_, ⟨fun x hx => by rw [xu_cell _ _ _ hx, d2 x hx, cO x hx, bO x hx], fun j hj => by rw [xu_at, if_neg (by omega), d3 j (by omega) (by omega), c2, if_neg (by omega), fB.2 j hj]⟩, ?_, ?_, ?_, fun q => ?_⟩
        · rw [← hC]
          refine d1.trans ?_
          unfold M_next_J203
          rw [d4, d9, w32_of (x := (lxE b n e : Int) - (p : Int)) (by omega) (by omega), k1]
          by_cases y : 4 < (lxE b n e : Int) - (p : Int)
          · rw [if_pos y, if_pos (by omega), xl_eq]
          · rw [if_neg y, if_neg (by omega), xl_eq]
        · rw [xu_at, if_neg (by decide), d4]
        · rw [xu_at, if_neg (by decide), d9, ← hp]
        · rw [xu_at, if_pos rfl]
        · have y : ¬ 4 < lxE b n e - p := by
            intro y
            rw [eK, if_pos y] at q
            exact absurd q (by decide)
          rw [xu_at, if_neg (by decide), d5 (by omega), eV]
      · have eE : lxE b n e = p + 1 := by unfold lxE; rw [← hp, if_pos z, if_neg zl, if_neg zd]
        have eK : lxK lw b n e = if ub (b p) ∈ sgs lw then 3 else 4 := by unfold lxK; rw [← hp, if_pos z, if_neg zl, if_neg zd]
        have eV : lxV b n e = ub (b p) := by unfold lxV; rw [← hp, if_neg zd]
        rw [(isDigM_eq c).2 (by rw [hc]; exact fun q => zd (u.2.2.2.1.1 q)), xb1_some, if_pos rfl, xl_eq, b10, w32_of (x := (p : Int) + 1) (by omega) (by omega)]
        obtain ⟨C, hC⟩ : ∃ C, C = xu B 104 10 ((p : Int) + 1) := ⟨_, rfl⟩
        have c2 : ∀ j, C 104 j = if j = 10 then (p : Int) + 1 else B 104 j := fun j => by rw [hC, xu_at]
        have cO : ∀ x, x ≠ 104 → C x = B x := fun x hx => by rw [hC, xu_cell _ _ _ hx]
        have k1 : kmp (lxK lw b n e) = if c ∈ sgs lw then 4 else 1 := by rw [eK, hc]; split <;> rfl
        rw [← hC]
        have c16 : C 104 16 = (if lw then 1 else 0) := by rw [c2, if_neg (by decide)]; exact b16
        rw [c16]
        have J : ∀ v, v = kmp (lxK lw b n e) → M_next_J254 R v 104 C = some (xu C 104 8 (kmp (lxK lw b n e))) := by
          intro v hv
          unfold M_next_J254
          rw [xl_eq, hv]
        refine ⟨xu C 104 8 (kmp (lxK lw b n e)), ?_, ⟨fun x hx => by rw [xu_cell _ _ _ hx, cO x hx, bO x hx], fun j hj => by rw [xu_at, if_neg (by omega), c2, if_neg (by omega), fB.2 j hj]⟩, ?_, ?_, ?_, fun _ => ?_⟩
        · cases lw with
          | false =>
            rw [if_pos (by rfl)]
            by_cases y1 : c = 59
            · rw [if_pos y1]
              exact J 4 (by rw [k1, if_pos (plSign_eq.2 (Or.inl y1))])
            · rw [if_neg y1]
              by_cases y2 : c = 44
              · rw [if_pos y2]
                exact J 4 (by rw [k1, if_pos (plSign_eq.2 (Or.inr y2))])
              · rw [if_neg y2]
                exact J 1 (by rw [k1, if_neg (fun q => (plSign_eq.1 q).elim y1 y2)])
          | true =>
            have ls := lawSign_eq c.toNat (by omega)
            rw [show ((c.toNat : Nat) : Int) = c by omega] at ls
            rw [if_neg (by decide), ls, xb1_some]
            by_cases y : c ∈ sgs true
            · rw [if_pos y, if_neg (by decide)]
              exact J 4 (by rw [k1, if_pos y])
            · rw [if_neg y, if_pos rfl]
              exact J 1 (by rw [k1, if_neg y])
        · rw [xu_at, if_neg (by decide), c2, if_pos rfl, eE]; rfl
        · rw [xu_at, if_neg (by decide), c2, if_neg (by decide), b9, ← hp]
        · rw [xu_at, if_pos rfl]
        · rw [xu_at, if_neg (by decide), c2, if_neg (by decide), b11, hc, eV]
  · rw [if_neg z] at hc
    rw [if_pos hc, xl_eq]
    have eE : lxE b n e = p := by unfold lxE; rw [← hp, if_neg z]
    have eK : lxK lw b n e = 0 := by unfold lxK; rw [← hp, if_neg z]
    refine ⟨_, rfl, ⟨fun x hx => by rw [xu_cell _ _ _ hx, bO x hx], fun j hj => by rw [xu_at, if_neg (by omega), fB.2 j hj]⟩, ?_, ?_, ?_, fun q => ?_⟩
    · rw [xu_at, if_neg (by decide), b10, eE]
    · rw [xu_at, if_neg (by decide), b9, ← hp]
    · rw [xu_at, if_pos rfl, eK]; rfl
    · rw [eK] at q; exact absurd q (by decide)
