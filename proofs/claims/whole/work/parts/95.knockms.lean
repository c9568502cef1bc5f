theorem knocks_F301 {R : xR} {pn ps ln ls : Nat} (hR : RG R pn ps ln ls) {T : Nat} (hT : T < 48) {W M : xM} (hW : ∀ j, j < 48 → WH W j) (hA : ∀ i, i < 4 * T + 4 → M 156 i = sim W (T + 1) 1 i) (l2 l3 l4 v6 v7 v8 : Int) (Q : Int → Int → Int → Int → xM → Option (Int × xM)) : ∀ (k f h : Nat), k < f → h + k = T + 1 → M_knocks_F301 R 104 l2 l3 l4 (T : Int) Q f v6 v7 v8 (tU W h) (h : Int) M = Q v6 v7 v8 (tU W (T + 1)) M := by
  intro k
  induction k with
  | zero =>
    intro f h hf hh
    obtain ⟨f, rfl⟩ : ∃ g, f = g + 1 := ⟨f - 1, by omega⟩
    have e : h = T + 1 := by omega
    rw [M_knocks_F301, if_pos (by omega), e]
  | succ k ih =>
    intro f h hf hh
    obtain ⟨f, rfl⟩ : ∃ g, f = g + 1 := ⟨f - 1, by omega⟩
    have su : ∀ i, i < 4 * h + 4 → sim W (T + 1) 1 i = sim W (h + 1) 1 i := by
      intro i hi
      have := sim_up (W := W) (h := h + 1) (i := i) (by omega) (T - h) (fun j hj => hW j (by omega))
      rw [show h + 1 + (T - h) = T + 1 by omega] at this
      exact this
    have up := upIn_eq hR (show h < 48 by omega) (M := M) (S := sim W (h + 1)) (fun i hi => by rw [hA i (by omega), su i hi]) (fun i hi => sim_up_in (by omega) (fun j hj => hW j (by omega)) (by omega))
    have b2 := tU_in (W := W) (h + 1) (by omega) (fun j hj => hW j (by omega))
    have e : tU W h + upV (sim W (h + 1)) h (-1) = tU W (h + 1) := rfl
    rw [M_knocks_F301, if_neg (by omega), up, xb1_some, xl_eq, xl_eq, e, w32_of (x := tU W (h + 1)) (by omega) (by omega), w32_of (x := (h : Int) + 1) (by omega) (by omega)]
    exact ih f (h + 1) (by omega) (by omega)
/-- the model's steps with the set u of hours knocked at c0 -/
theorem ksteps {R : xR} {pn ps ln ls : Nat} (hR : RG R pn ps ln ls) {M : xM} (hW : WB pn M) (h74 : M 104 74 = -1) {c0 u m v T : Nat} {hr : Nat → Int} (h77 : M 104 77 = (c0 : Int)) (hH : HrM hr M m v) (hm : m ≤ 6) (hu : ∀ h, u.testBit h = true ↔ inSet hr m v h) (hT : T < 48) : ∃ M', f_M_steps R 104 (T : Int) M = some M' ∧ FrM M M' ∧ ∀ i, i < 4 * T + 4 → M' 156 i = sim (wld pn M (xkS c0 u) z0) (T + 1) 1 i := by
  have hpn := hR.pnn
  have hP0 := hW.1.1
  obtain ⟨q, q1, q2, q3⟩ := hH
  have e0 : (wld pn M (xkS c0 u) z0 0 0).toNat = (M pn 0).toNat := rfl
  obtain ⟨M', m1, m2, m3⟩ := steps_eq hR hT (W := wld pn M (xkS c0 u) z0) (M := M) (fun h hh => WH_kn hW c0 u (by omega)) (fun h hh => ⟨WMw_wld hR hW.1 hW.2.1 hW.2.2.1 (by omega), fun c hc => WMc_wld hR (by omega) hW.1 hW.2.1 hW.2.2.2.1 (by omega) (by rw [e0] at hc; omega) (hW.2.2.2.2 h (by omega)) ⟨fun N hN => by
    have f := kn_F62 hR (N := N) (c := c) (h := h) (by rw [hN 104 (by decide)]; exact q2) (by omega) (by rw [hN 104 (by decide)]; exact h77) q xfu 0 (by have : xfu = 1000000 := rfl; omega) (by omega)
    rw [show ((0 : Nat) : Int) = 0 from rfl, hN 155 (by decide)] at f
    rw [xkS_at (by omega)]
    by_cases z : c = c0 ∧ u.testBit h = true
    · rw [if_pos z]
      obtain ⟨i, i1, i2⟩ := (q3 h).2 ((hu h).1 z.2)
      exact f.1 ⟨z.1, i, by omega, i1, i2⟩
    · rw [if_neg z]
      refine f.2 fun y => z ⟨y.1, (hu h).2 ((q3 h).1 ?_)⟩
      obtain ⟨i, _, i1, i2⟩ := y.2
      exact ⟨i, i1, i2⟩, by rw [if_neg (by rw [h74]; omega)]; rfl⟩ ⟨Int.le_refl 0, by show (0 : Int) ≤ 100; decide⟩⟩)
  exact ⟨M', m1, m2, m3.1.1⟩
