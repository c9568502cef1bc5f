/-! ===== an hour, pure ===== -/
/-- dust of the first w works for place i -/
def dsm (W : xM) (h w i : Nat) : Int := sumN (fun w => if W 8 w = ((i / 4 : Nat) : Int) then W 10 ((w * 48 + h) * 4 + i % 4) else 0) w
def hini (W : xM) (h : Nat) (S : xM) : xM := fun j i => if j = 1 then (if 4 * h ≤ i ∧ i < 4 * h + 4 then 0 else S 1 i) else if j = 2 then dsm W h (W 0 1).toNat i else S j i
def csps (W : xM) (h : Nat) : Nat → Nat → xM → xM
  | 0, _, S => S
  | k + 1, c, S => csps W h k (c + 1) (cstp W h c S)
def hstp (W : xM) (h : Nat) (S : xM) : xM := csps W h (W 0 0).toNat 0 (hini W h S)
def sim (W : xM) : Nat → xM
  | 0 => fun _ _ => 0
  | h + 1 => hstp W h (sim W h)
/-- the world at hour h -/
def WH (W : xM) (h : Nat) : Prop := (0 ≤ W 0 0 ∧ W 0 0 ≤ 8) ∧ (0 ≤ W 0 1 ∧ W 0 1 ≤ 4) ∧ (∀ w, w < (W 0 1).toNat → (0 ≤ W 8 w ∧ W 8 w < 8) ∧ ∀ s, s < 4 → 0 ≤ W 10 ((w * 48 + h) * 4 + s) ∧ W 10 ((w * 48 + h) * 4 + s) ≤ 9999) ∧ ∀ c, c < (W 0 0).toNat → WC W h c
/-- bounds of the state at the start of hour h -/
def HB (h : Nat) (S : xM) : Prop := (∀ i, i < 32 → 0 ≤ S 5 i ∧ 0 ≤ S 7 i ∧ S 7 i < 100) ∧ ∀ s, s < 4 → sumN (fun g => S 5 (4 * g + s)) 8 ≤ 39996 * h
theorem dsm_in {W : xM} {h : Nat} (hW : WH W h) : ∀ w, w ≤ (W 0 1).toNat → (∀ i, 0 ≤ dsm W h w i ∧ dsm W h w i ≤ 9999 * w) ∧ ∀ s, s < 4 → sumN (fun g => dsm W h w (4 * g + s)) 8 ≤ 9999 * w := by
  intro w
  induction w with
  | zero =>
    intro _
    refine ⟨fun i => ⟨Int.le_refl 0, Int.le_refl 0⟩, fun s hs => ?_⟩
    show sumN (fun _ => (0 : Int)) 8 ≤ _
    decide
  | succ w ih =>
    intro hw
    obtain ⟨i1, i2⟩ := ih (by omega)
    obtain ⟨a, d⟩ := hW.2.2.1 w (by omega)
    have st : ∀ i, dsm W h (w + 1) i = dsm W h w i + (if W 8 w = ((i / 4 : Nat) : Int) then W 10 ((w * 48 + h) * 4 + i % 4) else 0) := fun i => rfl
    refine ⟨fun i => ?_, fun s hs => ?_⟩
    · have b := i1 i
      have e := d (i % 4) (by omega)
      rw [st]
      split <;> omega
    · have e : (fun g => dsm W h (w + 1) (4 * g + s)) = (fun i => if i = (W 8 w).toNat then dsm W h w (4 * (W 8 w).toNat + s) + W 10 ((w * 48 + h) * 4 + s) else (fun g => dsm W h w (4 * g + s)) i) := by
        funext g
        rw [st, show (4 * g + s) / 4 = g by omega, show (4 * g + s) % 4 = s by omega]
        by_cases z : g = (W 8 w).toNat
        · rw [if_pos z, if_pos (by omega), z]
        · rw [if_neg z, if_neg (by omega), Int.add_zero]
      rw [e, sumN_up, if_pos (by omega)]
      have b := i2 s hs
      have f := d s hs
      omega
theorem hini_CB {W S : xM} {h : Nat} (hW : WH W h) (hS : HB h S) : CB (39996 * (h + 1)) h 0 (hini W h S) := by
  obtain ⟨d1, d2⟩ := dsm_in hW (W 0 1).toNat (Nat.le_refl _)
  have h1 : ∀ s, s < 4 → hini W h S 1 (4 * h + s) = 0 := fun s hs => by
    show (if _ then _ else _) = _
    rw [if_pos rfl, if_pos (by omega)]
  have h2 : ∀ i, hini W h S 2 i = dsm W h (W 0 1).toNat i := fun i => rfl
  have h5 : ∀ i, hini W h S 5 i = S 5 i := fun i => rfl
  have h7 : ∀ i, hini W h S 7 i = S 7 i := fun i => rfl
  refine ⟨fun i hi => ?_, fun s hs => by rw [h1 s hs]; exact Int.le_refl 0, fun s hs => ?_⟩
  · rw [h2, h5, h7]
    exact ⟨(d1 i).1, hS.1 i hi⟩
  · unfold tot
    rw [h1 s hs]
    have e : (fun g => if g < 0 then (0 : Int) else hini W h S 2 (4 * g + s)) = (fun g => dsm W h (W 0 1).toNat (4 * g + s)) := by
      funext g
      rw [if_neg (by omega), h2]
    rw [e]
    simp only [h5]
    have a := d2 s hs
    have b := hS.2 s hs
    have c := hW.2.1
    omega
theorem csps_CB {B : Int} {W : xM} {h n : Nat} (hn : n ≤ 8) (hW : ∀ c, c < n → WC W h c) : ∀ k c S, c + k = n → CB B h c S → CB B h n (csps W h k c S) := by
  intro k
  induction k with
  | zero =>
    intro c S hc q
    have : c = n := by omega
    rw [← this]
    exact q
  | succ k ih =>
    intro c S hc q
    exact ih (c + 1) _ (by omega) (cstp_CB (hW c (by omega)) (by omega) q)
theorem hstp_CB {W S : xM} {h : Nat} (hW : WH W h) (hS : HB h S) : CB (39996 * (h + 1)) h (W 0 0).toNat (hstp W h S) := csps_CB (by have := hW.1; omega) hW.2.2.2 _ 0 _ (by omega) (hini_CB hW hS)
theorem CB.HB {h n : Nat} {S : xM} (q : CB (39996 * ((h : Int) + 1)) h n S) : HB (h + 1) S := by
  refine ⟨fun i hi => (q.1 i hi).2, fun s hs => ?_⟩
  have a := q.2.2 s hs
  have b := (q.nn hs).le n
  have c := (q.nn hs).1
  omega
theorem CB.up {h n : Nat} {S : xM} (q : CB (39996 * ((h : Int) + 1)) h n S) (hh : h < 48) {s : Nat} (hs : s < 4) : 0 ≤ S 1 (4 * h + s) ∧ S 1 (4 * h + s) ≤ 1919808 := by
  have a := q.2.2 s hs
  have b := (q.nn hs).le n
  have c := (q.nn hs).1
  have d : 0 ≤ sumN (fun g => S 5 (4 * g + s)) 8 := sumN_nn 8 fun g hg => (q.1 (4 * g + s) (by omega)).2.1
  omega
theorem sim_HB {W : xM} : ∀ h, (∀ k, k < h → WH W k) → HB h (sim W h) := by
  intro h
  induction h with
  | zero =>
    intro _
    refine ⟨fun i hi => ⟨Int.le_refl 0, Int.le_refl 0, by show (0 : Int) < 100; decide⟩, fun s hs => ?_⟩
    show sumN (fun _ => (0 : Int)) 8 ≤ _
    decide
  | succ h ih =>
    intro hW
    exact (hstp_CB (hW h (by omega)) (ih fun k hk => hW k (by omega))).HB
theorem csps_up {W : xM} {h n i : Nat} (hn : n ≤ 8) (hW : ∀ c, c < n → WC W h c) (hi : i < 4 * h) : ∀ k c S, c + k = n → csps W h k c S 1 i = S 1 i := by
  intro k
  induction k with
  | zero => intro c S _; rfl
  | succ k ih =>
    intro c S hc
    show csps W h k (c + 1) _ 1 i = _
    rw [ih (c + 1) _ (by omega), cstp_12 (Or.inl rfl), csnd_oth (hW c (by omega)) (Or.inr (Or.inl ⟨rfl, Or.inl hi⟩)) 4 0 S (by omega)]
theorem hstp_up {W S : xM} {h i : Nat} (hW : WH W h) (hi : i < 4 * h) : hstp W h S 1 i = S 1 i := by
  unfold hstp
  rw [csps_up (by have := hW.1; omega) hW.2.2.2 hi _ 0 _ (by omega)]
  show (if _ then _ else _) = _
  rw [if_pos rfl, if_neg (by omega)]
/-- what goes up in an hour is not changed by later ones -/
theorem sim_up {W : xM} {h i : Nat} (hi : i < 4 * h) : ∀ k, (∀ j, j < h + k → WH W j) → sim W (h + k) 1 i = sim W h 1 i := by
  intro k
  induction k with
  | zero => intro _; rfl
  | succ k ih =>
    intro hW
    show hstp W (h + k) (sim W (h + k)) 1 i = _
    rw [hstp_up (hW (h + k) (by omega)) (by omega), ih fun j hj => hW j (by omega)]
theorem sim_up_in {W : xM} {h : Nat} (hh : h ≤ 48) (hW : ∀ j, j < h → WH W j) {i : Nat} (hi : i < 4 * h) : 0 ≤ sim W h 1 i ∧ sim W h 1 i ≤ 1919808 := by
  have e : sim W h 1 i = sim W (i / 4 + 1) 1 i := by
    have := sim_up (W := W) (h := i / 4 + 1) (i := i) (by omega) (h - (i / 4 + 1)) (fun j hj => hW j (by omega))
    rw [show i / 4 + 1 + (h - (i / 4 + 1)) = h by omega] at this
    exact this
  rw [e]
  have q := hstp_CB (hW (i / 4) (by omega)) (sim_HB (i / 4) fun k hk => hW k (by omega))
  have a := q.up (by omega) (show i % 4 < 4 by omega)
  rw [show 4 * (i / 4) + i % 4 = i by omega] at a
  exact a
