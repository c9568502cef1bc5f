/-! ===== rowOf: all lengths ===== -/
theorem pow_le {n L : Nat} (hn : n ≤ 7) (hL : L ≤ 4) : n ^ L ≤ 2401 :=
  Nat.le_trans (Nat.pow_le_pow_left hn L) (Nat.le_trans (Nat.pow_le_pow_right (by decide) hL) (by decide))
theorem rfld_idle {f p : Nat → Int} {n L : Nat} {most : Int} (h1 : n < L) (h2 : L ≤ 4) (hn : 1 ≤ n) : ∀ k r s, rfld f p n L most k r s = s := by
  intro k
  induction k with
  | zero => intro r s; rfl
  | succ k ih =>
    intro r s
    show rfld f p n L most k (r + 1) (rstp f p n L most s r) = s
    rw [ih, rstp_neg]
    intro z
    have d := z.1
    have hi : ∀ i, i < L → 0 ≤ wrdW n L r i ∧ wrdW n L r i < n := fun i hi => wrdW_in hn hi
    have a0 := hi 0 (by omega)
    have a1 := hi 1 (by omega)
    have d01 := d 0 1 (by omega) (by omega) (by omega)
    by_cases n1 : n = 1
    · omega
    · have a2 := hi 2 (by omega)
      have d02 := d 0 2 (by omega) (by omega) (by omega)
      have d12 := d 1 2 (by omega) (by omega) (by omega)
      by_cases n2 : n = 2
      · omega
      · have a3 := hi 3 (by omega)
        have d03 := d 0 3 (by omega) (by omega) (by omega)
        have d13 := d 1 3 (by omega) (by omega) (by omega)
        have d23 := d 2 3 (by omega) (by omega) (by omega)
        omega
theorem rall_idle {f p : Nat → Int} {n : Nat} {most : Int} (hn : 1 ≤ n) : ∀ k L s, n < L → L + k ≤ 5 → rall f p n most k L s = s := by
  intro k
  induction k with
  | zero => intro L s _ _; rfl
  | succ k ih =>
    intro L s h1 h2
    show rall f p n most k (L + 1) (rfld f p n L most (n ^ L) 0 s) = s
    rw [rfld_idle h1 (by omega) hn, ih _ _ (by omega) (by omega)]
theorem rall_add {f p : Nat → Int} {n : Nat} {most : Int} : ∀ a b L s, rall f p n most (a + b) L s = rall f p n most b (L + a) (rall f p n most a L s) := by
  intro a
  induction a with
  | zero => intro b L s; rw [Nat.zero_add]; rfl
  | succ a ih =>
    intro b L s
    rw [show a + 1 + b = (a + b) + 1 by omega]
    show rall f p n most (a + b) (L + 1) _ = rall f p n most b (L + (a + 1)) (rall f p n most a (L + 1) _)
    rw [ih, show L + 1 + a = L + (a + 1) by omega]
theorem cheap_F11 {R : xR} {pn ps ln ls : Nat} (hR : RG R pn ps ln ls) {n T : Nat} (hn : 1 ≤ n) (hn7 : n ≤ 7) (hT : (T = 5 ∧ 4 ≤ n) ∨ (T = n + 1 ∧ n < 4)) (most : Int) (q : Int → Int → xM → Option (Int × xM)) : ∀ (k fu L : Nat) (s : Int × Nat × (Nat → Int)) (M : xM), k < fu → L + k = T → CpB (M 94) n → PpB (M 95) → s.2.1 ≤ 4 → (∀ i, i < s.2.1 → M 98 i = s.2.2 i) →
    ∃ M', Fr [96, 97, 98] M M' ∧ (∀ i, i < (rall (M 94) (M 95) n most k L s).2.1 → M' 98 i = (rall (M 94) (M 95) n most k L s).2.2 i) ∧ (rall (M 94) (M 95) n most k L s).2.1 ≤ 4 ∧ P_cheapest_F11 R 93 (n : Int) most q fu s.1 (s.2.1 : Int) ((n ^ L : Nat) : Int) (L : Int) M = q (rall (M 94) (M 95) n most k L s).1 ((rall (M 94) (M 95) n most k L s).2.1 : Int) M' := by
  intro k
  induction k with
  | zero =>
    intro fu L s M hf hk hC hP hs hb
    obtain ⟨fu, rfl⟩ : ∃ g, fu = g + 1 := ⟨fu - 1, by omega⟩
    refine ⟨M, fun _ _ => rfl, hb, hs, ?_⟩
    rw [P_cheapest_F11]
    by_cases h : 4 < (L : Int)
    · rw [if_pos h]; rfl
    · rw [if_neg h, if_pos (by omega)]; rfl
  | succ k ih =>
    intro fu L s M hf hk hC hP hs hb
    obtain ⟨fu, rfl⟩ : ∃ g, fu = g + 1 := ⟨fu - 1, by omega⟩
    have hp : n ^ L ≤ 2401 := pow_le hn7 (by omega)
    have hp1 : n ^ (L + 1) = n ^ L * n := Nat.pow_succ _ _
    have hp2 : n ^ L * n ≤ 2401 * 7 := Nat.mul_le_mul hp hn7
    rw [P_cheapest_F11, if_neg (by omega), if_neg (by omega)]
    obtain ⟨M', m1, m2, m3, m4⟩ := cheap_F26 hR hn hn7 (show L ≤ 4 by omega) hp most (fun (v3_19 : Int) (v4_20 : Int) (v5_21 : Int) (v6_22 : Int) (M_23 : xM) =>
            xl (w32 (v5_21 * (n : Int))) fun v5_24 =>
            xl (w32 (v6_22 + 1)) fun v6_25 =>
            P_cheapest_F11 R 93 (n : Int) most q fu v3_19 v4_20 v5_24 v6_25 M_23) (n ^ L) xfu 0 s M (by have : xfu = 1000000 := rfl; omega) (by omega) hC hP hs hb
    rw [show ((0 : Nat) : Int) = 0 from rfl] at m4
    rw [m4, xl_eq, xl_eq]
    obtain ⟨N, hN⟩ : ∃ N : Nat, N = n ^ (L + 1) := ⟨_, rfl⟩
    have e1 : ((n ^ L : Nat) : Int) * (n : Int) = (N : Int) := by rw [hN, hp1, Int.natCast_mul]
    have hNb : N ≤ 16807 := by omega
    rw [e1, w32_of (x := (N : Int)) (by omega) (by omega), w32_of (x := (L : Int) + 1) (by omega) (by omega), hN]
    have x4 : M' 94 = M 94 := m1 94 (by decide)
    have x5 : M' 95 = M 95 := m1 95 (by decide)
    obtain ⟨M2, k1, k2, k3, k4⟩ := ih fu (L + 1) (rfld (M 94) (M 95) n L most (n ^ L) 0 s) M' (by omega) (by omega) (by rw [x4]; exact hC) (by rw [x5]; exact hP) m3 m2
    rw [x4, x5] at k2 k3 k4
    exact ⟨M2, fun c hc => (k1 c hc).trans (m1 c hc), k2, k3, k4⟩
theorem rowOf_F284 {R : xR} {pn ps ln ls : Nat} (hR : RG R pn ps ln ls) {n : Nat} (hn : 1 ≤ n) (hn7 : n ≤ 7) (most : Int) (q : Int → Int → xM → Option (Int × xM)) : ∀ (k fu L : Nat) (s : Int × Nat × (Nat → Int)) (M : xM), k < fu → L + k = 5 → CpB (M 166) n → PpB (M 167) → s.2.1 ≤ 4 → (∀ i, i < s.2.1 → M 170 i = s.2.2 i) →
    ∃ M', Fr [168, 170] M M' ∧ (∀ i, i < (rall (M 166) (M 167) n most k L s).2.1 → M' 170 i = (rall (M 166) (M 167) n most k L s).2.2 i) ∧ (rall (M 166) (M 167) n most k L s).2.1 ≤ 4 ∧ M_rowOf_F284 R 104 (n : Int) most q fu s.1 (s.2.1 : Int) ((n ^ L : Nat) : Int) (L : Int) M = q (rall (M 166) (M 167) n most k L s).1 ((rall (M 166) (M 167) n most k L s).2.1 : Int) M' := by
  intro k
  induction k with
  | zero =>
    intro fu L s M hf hk hC hP hs hb
    obtain ⟨fu, rfl⟩ : ∃ g, fu = g + 1 := ⟨fu - 1, by omega⟩
    refine ⟨M, fun _ _ => rfl, hb, hs, ?_⟩
    rw [M_rowOf_F284, if_pos (by omega)]
    rfl
  | succ k ih =>
    intro fu L s M hf hk hC hP hs hb
    obtain ⟨fu, rfl⟩ : ∃ g, fu = g + 1 := ⟨fu - 1, by omega⟩
    have hp : n ^ L ≤ 2401 := pow_le hn7 (by omega)
    have hp1 : n ^ (L + 1) = n ^ L * n := Nat.pow_succ _ _
    have hp2 : n ^ L * n ≤ 2401 * 7 := Nat.mul_le_mul hp hn7
    rw [M_rowOf_F284, if_neg (by omega)]
    obtain ⟨M', m1, m2, m3, m4⟩ := rowOf_F293 hR hn hn7 (show L ≤ 4 by omega) hp most (fun (v5_133 : Int) (v6_134 : Int) (v7_135 : Int) (v8_136 : Int) (M_137 : xM) =>
          xl (w32 (v7_135 * (n : Int))) fun v7_138 =>
          xl (w32 (v8_136 + 1)) fun v8_139 =>
          M_rowOf_F284 R 104 (n : Int) most q fu v5_133 v6_134 v7_138 v8_139 M_137) (n ^ L) xfu 0 s M (by have : xfu = 1000000 := rfl; omega) (by omega) hC hP hs hb
    rw [show ((0 : Nat) : Int) = 0 from rfl] at m4
    rw [m4, xl_eq, xl_eq]
    obtain ⟨N, hN⟩ : ∃ N : Nat, N = n ^ (L + 1) := ⟨_, rfl⟩
    have e1 : ((n ^ L : Nat) : Int) * (n : Int) = (N : Int) := by rw [hN, hp1, Int.natCast_mul]
    have hNb : N ≤ 16807 := by omega
    rw [e1, w32_of (x := (N : Int)) (by omega) (by omega), w32_of (x := (L : Int) + 1) (by omega) (by omega), hN]
    have x4 : M' 166 = M 166 := m1 166 (by decide)
    have x5 : M' 167 = M 167 := m1 167 (by decide)
    obtain ⟨M2, k1, k2, k3, k4⟩ := ih fu (L + 1) (rfld (M 166) (M 167) n L most (n ^ L) 0 s) M' (by omega) (by omega) (by rw [x4]; exact hC) (by rw [x5]; exact hP) m3 m2
    rw [x4, x5] at k2 k3 k4
    exact ⟨M2, fun c hc => (k1 c hc).trans (m1 c hc), k2, k3, k4⟩
theorem rall_45 {f p : Nat → Int} {n T : Nat} {most : Int} (hn : 1 ≤ n) (hT : (T = 5 ∧ 4 ≤ n) ∨ (T = n + 1 ∧ n < 4)) (s : Int × Nat × (Nat → Int)) : rall f p n most 5 0 s = rall f p n most T 0 s := by
  rcases hT with ⟨h, -⟩ | ⟨h, h2⟩
  · rw [h]
  · rw [show 5 = T + (5 - T) by omega, rall_add, rall_idle hn _ _ _ (by omega) (by omega)]
theorem rfld_cg {f f' p p' : Nat → Int} {n L : Nat} {most : Int} (hn : 1 ≤ n) (hf : ∀ d, d < n → ∀ j, j < 5 → f (5 * d + j) = f' (5 * d + j)) (hp : ∀ j, j < 4 → p j = p' j) : ∀ k r s, rfld f p n L most k r s = rfld f' p' n L most k r s := by
  intro k
  induction k with
  | zero => intro r s; rfl
  | succ k ih =>
    intro r s
    show rfld f p n L most k (r + 1) _ = rfld f' p' n L most k (r + 1) _
    have hd : ∀ i, i < L → (wrdW n L r i).toNat < n := fun i hi => by have := wrdW_in (n := n) (L := L) (r := r) hn hi; omega
    have e1 : cbk f (wrdW n L r) L = cbk f' (wrdW n L r) L := cbk_cg L (fun _ _ => rfl) fun i hi => hf _ (hd i hi) 4 (by omega)
    have e2 : pss f (wrdW n L r) p L 4 0 0 = pss f' (wrdW n L r) p' L 4 0 0 := pss_cg (fun _ _ => rfl) (fun i j hi hj => hf _ (hd i hi) j (by omega)) hp 4 0 0 rfl
    have e3 : rstp f p n L most s r = rstp f' p' n L most s r := by
      unfold rstp Gd
      rw [e1, e2]
    rw [e3, ih]
theorem rall_cg {f f' p p' : Nat → Int} {n : Nat} {most : Int} (hn : 1 ≤ n) (hf : ∀ d, d < n → ∀ j, j < 5 → f (5 * d + j) = f' (5 * d + j)) (hp : ∀ j, j < 4 → p j = p' j) : ∀ k L s, rall f p n most k L s = rall f' p' n most k L s := by
  intro k
  induction k with
  | zero => intro L s; rfl
  | succ k ih =>
    intro L s
    show rall f p n most k (L + 1) _ = rall f' p' n most k (L + 1) _
    rw [rfld_cg hn hf hp, ih]
