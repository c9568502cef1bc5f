/-! ===== a cleaner's hour, pure: W is the world (1 sorts, 2 holds, 3 limits, 4 flies, 5 ways, 6 goals, 7 shares, 9 warmth, 11 knocked, 12 off, 13 less by holes), S the state (1 up, 2 comes, 3 held, 4 flying, 5 layers, 6 ashes, 7 left over) ===== -/
def cFl (W : xM) (h c : Nat) (S : xM) (i : Nat) : Int := if W 11 (48 * c + h) = 0 then 0 else Int.tdiv (S 5 i * W 4 c) 100
def cL1 (W : xM) (h c : Nat) (S : xM) (i : Nat) : Int := if W 11 (48 * c + h) = 0 then S 5 i else 0
def cA1 (W : xM) (h c : Nat) (S : xM) (i : Nat) : Int := if W 11 (48 * c + h) = 0 then S 6 i else w32 (S 6 i + (S 5 i - cFl W h c S i))
def cIt (W : xM) (h c : Nat) (S : xM) : Int := cL1 W h c S (4 * c) + cL1 W h c S (4 * c + 1) + cL1 W h c S (4 * c + 2) + cL1 W h c S (4 * c + 3)
def cHu (W : xM) (h c : Nat) (S : xM) (i : Nat) : Int :=
  if W 12 (48 * c + h) = 0 then
    if W 1 c = 1 then (if cIt W h c S < W 3 c then W 2 i else Int.tdiv (W 2 i) 2)
    else if W 1 c = 2 then (if cIt W h c S < W 3 c then (if 0 ≤ W 2 i - W 13 (48 * c + h) then W 2 i - W 13 (48 * c + h) else 0) else 0)
    else if W 1 c = 3 then (if W 9 h < W 3 c then W 2 i else 0)
    else W 2 i
  else 0
def cQ (W : xM) (h c : Nat) (S : xM) (i : Nat) : Int := S 2 i * cHu W h c S i + S 7 i
def cHd (W : xM) (h c : Nat) (S : xM) (i : Nat) : Int := Int.tdiv (cQ W h c S i) 100
def cLf (W : xM) (h c : Nat) (S : xM) (i : Nat) : Int := Int.tmod (cQ W h c S i) 100
def cL2 (W : xM) (h c : Nat) (S : xM) (i : Nat) : Int := if W 1 c = 1 ∨ W 1 c = 2 then cL1 W h c S i + cHd W h c S i else cL1 W h c S i
def cA2 (W : xM) (h c : Nat) (S : xM) (i : Nat) : Int := if W 1 c = 1 ∨ W 1 c = 2 then cA1 W h c S i else w32 (cA1 W h c S i + cHd W h c S i)
def cOu (W : xM) (h c : Nat) (S : xM) (i : Nat) : Int := S 2 i - cHd W h c S i + cFl W h c S i
def cSn (W : xM) (h c : Nat) (S : xM) (s : Nat) (U : xM) : xM := sndP (fun i => W 6 (8 * c + i)) (prt (cOu W h c S (4 * c + s)) 100 (W 5 c).toNat (fun i => W 7 (8 * c + i))) h s (W 5 c).toNat 0 U
def csnd (W : xM) (h c : Nat) (S : xM) : Nat → Nat → xM → xM
  | 0, _, U => U
  | k + 1, s, U => csnd W h c S k (s + 1) (cSn W h c S s U)
def cstp (W : xM) (h c : Nat) (S : xM) : xM := fun j i => if j = 1 ∨ j = 2 then csnd W h c S 4 0 S j i else if 4 * c ≤ i ∧ i < 4 * c + 4 then (if j = 3 then cHd W h c S i else if j = 4 then cFl W h c S i else if j = 5 then cL2 W h c S i else if j = 6 then cA2 W h c S i else if j = 7 then cLf W h c S i else S j i) else S j i
/-- what the world says of cleaner c at hour h -/
def WC (W : xM) (h c : Nat) : Prop := (0 ≤ W 1 c ∧ W 1 c < 4) ∧ (∀ s, s < 4 → 0 ≤ W 2 (4 * c + s) ∧ W 2 (4 * c + s) ≤ 100) ∧ (0 ≤ W 3 c ∧ W 3 c ≤ 9999) ∧ (0 ≤ W 4 c ∧ W 4 c ≤ 100 ∧ (W 1 c ≠ 1 → W 4 c = 0)) ∧ (0 ≤ W 5 c ∧ WyB c (W 5 c).toNat (fun i => W 6 (8 * c + i)) (fun i => W 7 (8 * c + i))) ∧ (W 11 (48 * c + h) = 0 ∨ W 11 (48 * c + h) = 1) ∧ (W 12 (48 * c + h) = 0 ∨ W 12 (48 * c + h) = 1) ∧ (0 ≤ W 13 (48 * c + h) ∧ W 13 (48 * c + h) ≤ 100000 ∧ (W 1 c ≠ 2 → W 13 (48 * c + h) = 0))
/-- bounds of the state ahead of cleaner c, in hour h -/
def CB (B : Int) (h c : Nat) (S : xM) : Prop := (∀ i, i < 32 → 0 ≤ S 2 i ∧ 0 ≤ S 5 i ∧ 0 ≤ S 7 i ∧ S 7 i < 100) ∧ (∀ s, s < 4 → 0 ≤ S 1 (4 * h + s)) ∧ ∀ s, s < 4 → tot c h s S + sumN (fun g => S 5 (4 * g + s)) 8 ≤ B
theorem CB.nn {B : Int} {h c : Nat} {S : xM} (q : CB B h c S) {s : Nat} (hs : s < 4) : nn12 h s S := ⟨q.2.1 s hs, fun g hg => (q.1 (4 * g + s) (by omega)).1⟩
theorem CB.at {B : Int} {h c : Nat} {S : xM} (q : CB B h c S) {s : Nat} (hs : s < 4) (hc : c < 8) : tot c h s S = tot (c + 1) h s S + S 2 (4 * c + s) ∧ 0 ≤ tot (c + 1) h s S ∧ (S 5 (4 * c + s) ≤ sumN (fun g => S 5 (4 * g + s)) 8) ∧ S 2 (4 * c + s) + S 5 (4 * c + s) ≤ B := by
  have e1 : tot c h s S = tot (c + 1) h s S + S 2 (4 * c + s) := by
    unfold tot
    have e : (fun g => if g < c then (0 : Int) else S 2 (4 * g + s)) = (fun i => if i = c then S 2 (4 * c + s) else (fun g => if g < c + 1 then (0 : Int) else S 2 (4 * g + s)) i) := by
      funext g
      by_cases z : g = c
      · rw [if_pos z, if_neg (by omega), z]
      · rw [if_neg z]
        by_cases z2 : g < c
        · rw [if_pos z2]; dsimp only; rw [if_pos (by omega)]
        · rw [if_neg z2]; dsimp only; rw [if_neg (by omega)]
    rw [e, sumN_up, if_pos hc]
    rw [if_pos (by omega)]
    omega
  have e2 := (q.nn hs).le (c + 1)
  have e3 := (q.nn hs).1
  have e4 : S 5 (4 * c + s) ≤ sumN (fun g => S 5 (4 * g + s)) 8 := sumN_ge (f := fun g => S 5 (4 * g + s)) 8 c hc fun g hg => (q.1 (4 * g + s) (by omega)).2.1
  have e5 := q.2.2 s hs
  refine ⟨e1, by omega, e4, by omega⟩
theorem fl_in {W S : xM} {h c i : Nat} (hW : WC W h c) (h5 : 0 ≤ S 5 i) : 0 ≤ cFl W h c S i ∧ 0 ≤ cL1 W h c S i ∧ cFl W h c S i + cL1 W h c S i ≤ S 5 i ∧ (0 ≤ S 5 i * W 4 c ∧ S 5 i * W 4 c ≤ S 5 i * 100) := by
  have a0 : 0 ≤ S 5 i * W 4 c := Int.mul_nonneg h5 hW.2.2.2.1.1
  have a1 : S 5 i * W 4 c ≤ S 5 i * 100 := Int.mul_le_mul_of_nonneg_left hW.2.2.2.1.2.1 h5
  unfold cFl cL1
  by_cases z : W 11 (48 * c + h) = 0
  · rw [if_pos z, if_pos z]
    omega
  · rw [if_neg z, if_neg z, Int.tdiv_eq_ediv_of_nonneg a0]
    omega
theorem hu_in {W S : xM} {h c s : Nat} (hW : WC W h c) (hs : s < 4) : 0 ≤ cHu W h c S (4 * c + s) ∧ cHu W h c S (4 * c + s) ≤ 100 := by
  have a := hW.2.1 s hs
  have b := hW.2.2.2.2.2.2.2
  have e : Int.tdiv (W 2 (4 * c + s)) 2 = W 2 (4 * c + s) / 2 := Int.tdiv_eq_ediv_of_nonneg a.1
  unfold cHu
  rw [e]
  split
  · split
    · split <;> omega
    · split
      · split
        · split <;> omega
        · omega
      · split
        · split <;> omega
        · omega
  · omega
theorem hd_in {W S : xM} {h c s : Nat} (hW : WC W h c) (hs : s < 4) (h2 : 0 ≤ S 2 (4 * c + s)) (h7 : 0 ≤ S 7 (4 * c + s)) (h8 : S 7 (4 * c + s) < 100) : 0 ≤ cHd W h c S (4 * c + s) ∧ cHd W h c S (4 * c + s) ≤ S 2 (4 * c + s) ∧ 0 ≤ cLf W h c S (4 * c + s) ∧ cLf W h c S (4 * c + s) < 100 ∧ (0 ≤ S 2 (4 * c + s) * cHu W h c S (4 * c + s) ∧ S 2 (4 * c + s) * cHu W h c S (4 * c + s) ≤ S 2 (4 * c + s) * 100) ∧ cQ W h c S (4 * c + s) = S 2 (4 * c + s) * cHu W h c S (4 * c + s) + S 7 (4 * c + s) := by
  have a := hu_in (S := S) hW hs
  have a0 : 0 ≤ S 2 (4 * c + s) * cHu W h c S (4 * c + s) := Int.mul_nonneg h2 a.1
  have a1 : S 2 (4 * c + s) * cHu W h c S (4 * c + s) ≤ S 2 (4 * c + s) * 100 := Int.mul_le_mul_of_nonneg_left a.2 h2
  have e : cQ W h c S (4 * c + s) = S 2 (4 * c + s) * cHu W h c S (4 * c + s) + S 7 (4 * c + s) := rfl
  unfold cHd cLf
  rw [Int.tdiv_eq_ediv_of_nonneg (by omega), Int.tmod_eq_emod_of_nonneg (by omega)]
  omega
theorem cSn_oth {W S U : xM} {h c s j i : Nat} (hW : WC W h c) (hs : s < 4) (hj : (j ≠ 1 ∧ j ≠ 2) ∨ (j = 1 ∧ i ≠ 4 * h + s) ∨ (j = 2 ∧ (i % 4 ≠ s ∨ i < 4 * c + 4))) : cSn W h c S s U j i = U j i := by
  have hg := hW.2.2.2.2.1.2.2.2.1
  refine sndP_oth hs _ _ _ ?_ (fun u _ hu => ?_)
  · rcases hj with hj | hj | ⟨hj, hk⟩
    · exact Or.inl hj
    · exact Or.inr (Or.inl hj)
    · refine Or.inr (Or.inr ⟨hj, ?_⟩)
      rcases hk with hk | hk
      · exact Or.inl (by omega)
      · refine Or.inr fun u _ hu => ?_
        have := hg u (by omega)
        dsimp only at this ⊢
        omega
  · have := hg u (by omega)
    dsimp only at this ⊢
    omega
theorem csnd_oth {W S : xM} {h c j i : Nat} (hW : WC W h c) (hj : (j ≠ 1 ∧ j ≠ 2) ∨ (j = 1 ∧ (i < 4 * h ∨ 4 * h + 4 ≤ i)) ∨ (j = 2 ∧ i < 4 * c + 4)) : ∀ k s U, s + k ≤ 4 → csnd W h c S k s U j i = U j i := by
  intro k
  induction k with
  | zero => intro s U _; rfl
  | succ k ih =>
    intro s U hs
    show csnd W h c S k (s + 1) _ j i = _
    rw [ih _ _ (by omega), cSn_oth hW (by omega) (by omega)]
theorem cSn_tot {W S U : xM} {h c s t : Nat} (hW : WC W h c) (hs : s < 4) (ht : t < 4) (ho : 0 ≤ cOu W h c S (4 * c + s)) (hn : ∀ t, t < 4 → nn12 h t U) : nn12 h t (cSn W h c S s U) ∧ tot (c + 1) h t (cSn W h c S s U) = tot (c + 1) h t U + (if t = s then cOu W h c S (4 * c + s) else 0) := by
  obtain ⟨w1, w2, w3, w4, w5⟩ := hW.2.2.2.2.1.2
  have hpr := prt_in ho (by decide : (0 : Int) < 100) w1 w4 w5
  by_cases e : t = s
  · subst e
    rw [if_pos rfl]
    refine ⟨sndP_nn _ _ _ (hn t hs) fun i _ hi => (hpr.1 i (by omega)).1, ?_⟩
    have q := sndP_tot (gol := fun i => W 6 (8 * c + i)) (p := prt (cOu W h c S (4 * c + t)) 100 (W 5 c).toNat (fun i => W 7 (8 * c + i))) (c := c + 1) (h := h) hs (W 5 c).toNat 0 U (fun i _ hi => by
      have := w3 i (by omega)
      dsimp only at this ⊢
      omega)
    have z : sumN (prt (cOu W h c S (4 * c + t)) 100 (W 5 c).toNat (fun i => W 7 (8 * c + i))) 0 = 0 := rfl
    rw [Nat.zero_add, hpr.2] at q
    show tot (c + 1) h t (sndP _ _ _ _ _ _ _) = _
    omega
  · rw [if_neg e, Int.add_zero]
    have e1 : cSn W h c S s U 1 (4 * h + t) = U 1 (4 * h + t) := cSn_oth hW hs (Or.inr (Or.inl ⟨rfl, by omega⟩))
    have e2 : ∀ g, cSn W h c S s U 2 (4 * g + t) = U 2 (4 * g + t) := fun g => cSn_oth hW hs (Or.inr (Or.inr ⟨rfl, Or.inl (by omega)⟩))
    refine ⟨⟨by rw [e1]; exact (hn t ht).1, fun g hg => by rw [e2]; exact (hn t ht).2 g hg⟩, ?_⟩
    unfold tot
    rw [e1]
    simp only [e2]
theorem csnd_tot {W S : xM} {h c t : Nat} (hW : WC W h c) (ht : t < 4) (ho : ∀ s, s < 4 → 0 ≤ cOu W h c S (4 * c + s)) : ∀ k s U, s + k ≤ 4 → (∀ t, t < 4 → nn12 h t U) → nn12 h t (csnd W h c S k s U) ∧ tot (c + 1) h t (csnd W h c S k s U) = tot (c + 1) h t U + (if s ≤ t ∧ t < s + k then cOu W h c S (4 * c + t) else 0) := by
  intro k
  induction k with
  | zero =>
    intro s U hs hn
    refine ⟨hn t ht, ?_⟩
    rw [if_neg (by omega), Int.add_zero]
    rfl
  | succ k ih =>
    intro s U hs hn
    have a := cSn_tot (S := S) (U := U) hW (show s < 4 by omega) ht (ho s (by omega)) hn
    obtain ⟨i1, i2⟩ := ih (s + 1) (cSn W h c S s U) (by omega) (fun t ht => (cSn_tot hW (show s < 4 by omega) ht (ho s (by omega)) hn).1)
    refine ⟨i1, ?_⟩
    show tot (c + 1) h t (csnd W h c S k (s + 1) _) = _
    rw [i2, a.2]
    by_cases e : t = s
    · rw [if_pos e, if_neg (by omega), if_pos (by omega), e]; omega
    · rw [if_neg e]
      by_cases z : s ≤ t ∧ t < s + (k + 1)
      · rw [if_pos (by omega), if_pos z]; omega
      · rw [if_neg (by omega), if_neg z]; omega
theorem ou_in {B : Int} {W S : xM} {h c s : Nat} (hW : WC W h c) (hc : c < 8) (q : CB B h c S) (hs : s < 4) : 0 ≤ cOu W h c S (4 * c + s) ∧ cOu W h c S (4 * c + s) ≤ S 2 (4 * c + s) + S 5 (4 * c + s) ∧ tot (c + 1) h s S + cOu W h c S (4 * c + s) ≤ B := by
  obtain ⟨a1, a2, a3, a4⟩ := q.1 (4 * c + s) (by omega)
  have b := fl_in hW a2
  have d := hd_in hW hs a1 a3 a4
  have e := q.at hs hc
  have f := q.2.2 s hs
  unfold cOu
  omega
theorem cstp_CB {B : Int} {W S : xM} {h c : Nat} (hW : WC W h c) (hc : c < 8) (q : CB B h c S) : CB B h (c + 1) (cstp W h c S) := by
  have ho : ∀ s, s < 4 → 0 ≤ cOu W h c S (4 * c + s) := fun s hs => (ou_in hW hc q hs).1
  have hn : ∀ t, t < 4 → nn12 h t S := fun t ht => q.nn ht
  have e12 : ∀ j i, (j = 1 ∨ j = 2) → cstp W h c S j i = csnd W h c S 4 0 S j i := fun j i z => if_pos z
  have e5 : ∀ i, cstp W h c S 5 i = if 4 * c ≤ i ∧ i < 4 * c + 4 then cL2 W h c S i else S 5 i := fun i => by
    show (if _ then _ else if _ then _ else _) = _
    rw [if_neg (by decide)]
    rfl
  have e7 : ∀ i, cstp W h c S 7 i = if 4 * c ≤ i ∧ i < 4 * c + 4 then cLf W h c S i else S 7 i := fun i => by
    show (if _ then _ else if _ then _ else _) = _
    rw [if_neg (by decide)]
    rfl
  refine ⟨fun i hi => ?_, fun s hs => ?_, fun s hs => ?_⟩
  · obtain ⟨a1, a2, a3, a4⟩ := q.1 i hi
    have n2 := ((csnd_tot (S := S) (t := i % 4) hW (by omega) ho 4 0 S (by omega) hn).1).2 (i / 4) (by omega)
    rw [show 4 * (i / 4) + i % 4 = i by omega] at n2
    rw [e12 2 i (Or.inr rfl), e5, e7]
    refine ⟨n2, ?_⟩
    by_cases z : 4 * c ≤ i ∧ i < 4 * c + 4
    · rw [if_pos z, if_pos z]
      obtain ⟨s, rfl⟩ : ∃ s, i = 4 * c + s := ⟨i - 4 * c, by omega⟩
      have b := fl_in hW a2
      have d := hd_in hW (show s < 4 by omega) a1 a3 a4
      unfold cL2
      split <;> omega
    · rw [if_neg z, if_neg z]
      exact ⟨a2, a3, a4⟩
  · rw [e12 1 _ (Or.inl rfl)]
    exact ((csnd_tot (S := S) (t := s) hW hs ho 4 0 S (by omega) hn).1).1
  · have a := (csnd_tot (S := S) (t := s) hW hs ho 4 0 S (by omega) hn).2
    rw [if_pos (by omega)] at a
    have b : tot (c + 1) h s (cstp W h c S) = tot (c + 1) h s (csnd W h c S 4 0 S) := by
      unfold tot
      rw [e12 1 _ (Or.inl rfl)]
      simp only [e12 2 _ (Or.inr rfl)]
    have d : sumN (fun g => cstp W h c S 5 (4 * g + s)) 8 = sumN (fun g => S 5 (4 * g + s)) 8 + (cL2 W h c S (4 * c + s) - S 5 (4 * c + s)) := by
      have e : (fun g => cstp W h c S 5 (4 * g + s)) = (fun i => if i = c then cL2 W h c S (4 * c + s) else (fun g => S 5 (4 * g + s)) i) := by
        funext g
        rw [e5]
        by_cases z : g = c
        · rw [if_pos z, if_pos (by omega), z]
        · rw [if_neg z, if_neg (by omega)]
      rw [e, sumN_up, if_pos hc]
    obtain ⟨a1, a2, a3, a4⟩ := q.1 (4 * c + s) (by omega)
    have f := fl_in hW a2
    have g := hd_in hW hs a1 a3 a4
    have k := q.at hs hc
    have l := q.2.2 s hs
    have m : cL2 W h c S (4 * c + s) ≤ cL1 W h c S (4 * c + s) + cHd W h c S (4 * c + s) := by
      unfold cL2
      split <;> omega
    have o : cOu W h c S (4 * c + s) = S 2 (4 * c + s) - cHd W h c S (4 * c + s) + cFl W h c S (4 * c + s) := rfl
    omega
