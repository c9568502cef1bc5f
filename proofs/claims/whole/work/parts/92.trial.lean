/-! ===== knocks: a trial in the class ===== -/
def xkS (c0 u : Nat) : Nat → Int := fun i => if i / 48 = c0 ∧ u.testBit (i % 48) = true then 1 else 0
theorem xkS_01 (c0 u i : Nat) : xkS c0 u i = 0 ∨ xkS c0 u i = 1 := by
  unfold xkS
  split
  · exact Or.inr rfl
  · exact Or.inl rfl
theorem xkS_at {c0 u c h : Nat} (hh : h < 48) : xkS c0 u (48 * c + h) = if c = c0 ∧ u.testBit h = true then 1 else 0 := by
  unfold xkS
  rw [show (48 * c + h) / 48 = c by omega, show (48 * c + h) % 48 = h by omega]
/-- nothing but the trial flow has changed -/
def FrT (M N : xM) : Prop := ∀ x, x < 79 ∨ 91 ≤ x → N x = M x
theorem FrT.wb {p : Nat} (hp : p + 11 < 48) (hp1 : 2 ≤ p) {M N : xM} (h : FrT M N) (q : WB p M) : WB p N := q.of hp (fun x hx _ _ => h x (by omega)) (fun k _ => by rw [h 48 (by decide)]) (fun x h1 _ => h x (by omega)) (fun k _ _ => by rw [h 104 (by decide)]) hp1
theorem FrT.ga {M N : xM} (h : FrT M N) (q : GaOK M) : GaOK N := q.of (fun x _ hx => h x (by omega)) (fun k _ => by rw [h 48 (by decide)])
theorem FrT.wl {p : Nat} (hp : p + 11 < 48) {M N : xM} {xk xh : Nat → Int} (h : FrT M N) : wld p N xk xh = wld p M xk xh := wld_cg (fun k hk => h _ (by omega)) (fun x _ hx => h x (by omega)) (fun k _ => by rw [h 48 (by decide)])
theorem WH_kn {p : Nat} {M : xM} (q : WB p M) (c0 u : Nat) {h : Nat} (hh : h < 48) : WH (wld p M (xkS c0 u) z0) h := WH_wld q.1 q.2.1 q.2.2.1 q.2.2.2.1 hh (xkS_01 c0 u) fun c _ => ⟨Int.le_refl 0, by show (0 : Int) ≤ 100; decide, fun _ => rfl⟩
theorem upT_F68 {R : xR} {pn ps ln ls : Nat} (hR : RG R pn ps ln ls) {c0 u T : Nat} (hu : u < 2 ^ 48) (hT : T < 48) : ∀ (k f h : Nat) (x : Int) (M : xM), k < f → h + k = T + 1 → WB pn M → GaOK M → M 79 0 = (h : Int) → M 79 9 = (c0 : Int) → M 79 10 = (u : Int) → M 79 11 = 0 → AgS 79 h M (sim (wld pn M (xkS c0 u) z0) h) → x = tU (wld pn M (xkS c0 u) z0) h →
    ∃ M', H_upTogether_F68 R 78 pn 48 (T : Int) f x (h : Int) M = some (tU (wld pn M (xkS c0 u) z0) (T + 1), M') ∧ FrT M M' := by
  have hpn := hR.pnn
  have r0 : R 78 0 = 79 := by rw [hR.at 78 0 (by decide) (by decide)]; exact xR0_fl.2.2.2.1
  intro k
  induction k with
  | zero =>
    intro f h x M hf hh _ _ _ _ _ _ _ hx
    obtain ⟨f, rfl⟩ : ∃ g, f = g + 1 := ⟨f - 1, by omega⟩
    have e : h = T + 1 := by omega
    refine ⟨M, ?_, fun _ _ => rfl⟩
    rw [H_upTogether_F68, if_pos (by omega), hx, e]
  | succ k ih =>
    intro f h x M hf hh hW hG h0 h9 h10 h11 hA hx
    obtain ⟨f, rfl⟩ : ∃ g, f = g + 1 := ⟨f - 1, by omega⟩
    have hh48 : h < 48 := by omega
    obtain ⟨W, hWd⟩ : ∃ W, W = wld pn M (xkS c0 u) z0 := ⟨_, rfl⟩
    have wh : ∀ j, j < 48 → WH W j := fun j hj => by rw [hWd]; exact WH_kn hW c0 u hj
    obtain ⟨N, n1, n2, n3, n4⟩ := fstep hR (Or.inr rfl) hW hG (xk := xkS c0 u) (xh := z0) hh48 (xkS_01 c0 u) (fun c _ => ⟨Int.le_refl 0, by show (0 : Int) ≤ 100; decide, fun _ => rfl⟩) (fun c hc => by
      refine ⟨?_, ?_⟩
      · rw [h9, h10, ybit hu hh48, xkS_at hh48]
        by_cases y : c = c0
        · rw [if_pos (by omega)]
          by_cases z : u.testBit h = true
          · rw [if_pos z, if_neg (by decide), if_pos ⟨y, z⟩]
          · rw [if_neg z, if_pos rfl, if_neg (fun q => z q.2)]
        · rw [if_neg (by omega), if_neg (fun q => y q.1)]
      · rw [h11]
        split <;> rfl) (sim_HB h fun j hj => WH_kn hW c0 u (by omega)) h0 hA
    have fr : FrT M N := fun y hy => n2 y (by omega)
    have ew : wld pn N (xkS c0 u) z0 = wld pn M (xkS c0 u) z0 := fr.wl (by omega)
    have up := upOf_eq hR.fl79 hh48 (M := N) (S := sim (wld pn M (xkS c0 u) z0) (h + 1)) n4.1.1 (fun i hi => sim_up_in (by omega) (fun j hj => WH_kn hW c0 u (by omega)) (by omega)) (v := -1) (Or.inl rfl)
    have b1 := tU_in (W := W) h (by omega) (fun j hj => wh j (by omega))
    have b2 := tU_in (W := W) (h + 1) (by omega) (fun j hj => wh j (by omega))
    have e : tU W (h + 1) = tU W h + upV (sim W (h + 1)) h (-1) := rfl
    rw [← hWd] at hx up
    obtain ⟨M', m1, m2⟩ := ih f (h + 1) (tU W (h + 1)) N (by omega) (by omega) (fr.wb (by omega) (by omega) hW) (fr.ga hG) (by rw [n3, if_pos rfl]; rfl) (by rw [n3, if_neg (by decide)]; exact h9) (by rw [n3, if_neg (by decide)]; exact h10) (by rw [n3, if_neg (by decide)]; exact h11) (by rw [ew]; exact n4.s) (by rw [ew, ← hWd])
    rw [ew] at m1
    refine ⟨M', ?_, fun y hy => (m2 y hy).trans (fr y hy)⟩
    rw [H_upTogether_F68, if_neg (by omega), r0, n1, xb1_some, up, xb1_some, xl_eq, xl_eq, hx, ← e, w32_of (x := tU W (h + 1)) (by omega) (by omega), w32_of (x := (h : Int) + 1) (by omega) (by omega)]
    exact m1
theorem upT_eq {R : xR} {pn ps ln ls : Nat} (hR : RG R pn ps ln ls) {c0 m v T : Nat} (hm : m ≤ 6) (hv : v < 64) (hT : T < 48) {M : xM} (hW : WB pn M) (hG : GaOK M) (hM : M 78 10 = (m : Int)) (hr : ∀ j, j < m → 0 ≤ M 92 j ∧ M 92 j < 48) :
    ∃ (u : Nat) (M' : xM), u < 2 ^ 48 ∧ (∀ h, u.testBit h = true ↔ inSet (M 92) m v h) ∧ f_H_upTogether R 78 pn 48 (c0 : Int) (v : Int) (T : Int) M = some (tU (wld pn M (xkS c0 u) z0) (T + 1), M') ∧ FrT M M' := by
  have hpn := hR.pnn
  have r0 : R 78 0 = 79 := by rw [hR.at 78 0 (by decide) (by decide)]; exact xR0_fl.2.2.2.1
  obtain ⟨u, u1, u2, u3⟩ := upT_F6 hR hm hv pn 48 (c0 : Int) (T : Int) (fun (v6_6 : Int) (M_7 : xM) =>
      xb1 (f_F_restart R (R 78 0) M_7) fun M_8 =>
      xb1 (f_F_supposeKnocks (R 78 0) (c0 : Int) v6_6 M_8) fun M_10 =>
      H_upTogether_F68 R 78 pn 48 (T : Int)
        xfu 0 0 M_10) hM hr m xfu 0 0 (by have : xfu = 1000000 := rfl; omega) (by omega) (by decide) (fun h => by
        rw [Nat.zero_testBit]
        exact ⟨fun q => absurd q (by decide), fun ⟨j, h1, _⟩ => by omega⟩)
  obtain ⟨A, a1, a2, a3, a4⟩ := restart_eq hR.fl79 M
  obtain ⟨B, hB⟩ : ∃ B, B = xu (xu (xu A 79 9 (c0 : Int)) 79 10 (u : Int)) 79 11 0 := ⟨_, rfl⟩
  have bO : ∀ x, x ≠ 79 → B x = A x := fun x hx => by rw [hB, xu_cell _ _ _ hx, xu_cell _ _ _ hx, xu_cell _ _ _ hx]
  have bF : ∀ k, B 79 k = if k = 11 then 0 else if k = 10 then (u : Int) else if k = 9 then (c0 : Int) else A 79 k := fun k => by rw [hB, xu_at, xu_at, xu_at]
  have fr : FrT M B := fun x hx => by rw [bO x (by omega), a2 x (by omega)]
  have ew : wld pn B (xkS c0 u) z0 = wld pn M (xkS c0 u) z0 := fr.wl (by omega)
  obtain ⟨C, c1, c2⟩ := upT_F68 hR (c0 := c0) u1 hT (T + 1) xfu 0 0 B (by have : xfu = 1000000 := rfl; omega) (by omega) (fr.wb (by omega) (by omega) hW) (fr.ga hG) (by rw [bF, if_neg (by decide), if_neg (by decide), if_neg (by decide), a3, if_pos rfl]; rfl) (by rw [bF, if_neg (by decide), if_neg (by decide), if_pos rfl]) (by rw [bF, if_neg (by decide), if_pos rfl]) (by rw [bF, if_pos rfl]) ⟨fun i hi => by omega, fun i hi => by rw [bO (79 + 5) (by decide), bO (79 + 6) (by decide), bO (79 + 7) (by decide)]; exact a4 i hi⟩ rfl
  rw [ew] at c1
  refine ⟨u, C, u1, u2, ?_, fun x hx => (c2 x hx).trans (fr x hx)⟩
  unfold f_H_upTogether
  refine u3.trans ?_
  show xb1 _ _ = _
  rw [r0, a1, xb1_some]
  unfold f_F_supposeKnocks
  rw [xl_eq, xl_eq, xl_eq, xb1_some, ← hB]
  exact c1
