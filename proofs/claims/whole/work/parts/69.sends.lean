/-! ===== sending on: ups are row 1, what comes is row 2 ===== -/
def snd1 (g p : Int) (h s : Nat) (S : xM) : xM := if g = -1 then xu S 1 (4 * h + s) (S 1 (4 * h + s) + p) else xu S 2 (4 * g.toNat + s) (S 2 (4 * g.toNat + s) + p)
def sndP (gol p : Nat → Int) (h s : Nat) : Nat → Nat → xM → xM
  | 0, _, S => S
  | k + 1, v, S => sndP gol p h s k (v + 1) (snd1 (gol v) (p v) h s S)
def tot (c h s : Nat) (S : xM) : Int := S 1 (4 * h + s) + sumN (fun g => if g < c then 0 else S 2 (4 * g + s)) 8
/-- none below 0 -/
def nn12 (h s : Nat) (S : xM) : Prop := 0 ≤ S 1 (4 * h + s) ∧ ∀ g, g < 8 → 0 ≤ S 2 (4 * g + s)
theorem nn12.le {h s : Nat} {S : xM} (q : nn12 h s S) (c : Nat) : S 1 (4 * h + s) ≤ tot c h s S ∧ ∀ g, g < 8 → c ≤ g → S 2 (4 * g + s) ≤ tot c h s S := by
  have a : ∀ g, g < 8 → 0 ≤ (fun g => if g < c then (0 : Int) else S 2 (4 * g + s)) g := fun g hg => by
    have := q.2 g hg
    dsimp only
    split <;> omega
  have b := sumN_nn 8 a
  unfold tot
  refine ⟨by omega, fun g hg hc => ?_⟩
  have d := sumN_ge 8 g hg a
  rw [if_neg (by omega)] at d
  have := q.1
  omega
theorem snd1_tot {c : Nat} {g p : Int} {h s : Nat} (hs : s < 4) (S : xM) (hg : g = -1 ∨ ((c : Int) ≤ g ∧ g < 8)) : tot c h s (snd1 g p h s S) = tot c h s S + p := by
  unfold snd1 tot
  rcases hg with rfl | ⟨h1, h2⟩
  · rw [if_pos rfl, xu_at, if_pos rfl, xu_cell _ _ _ (by decide)]
    omega
  · rw [if_neg (by omega), xu_cell _ _ _ (by decide)]
    have e : (fun g_1 => if g_1 < c then (0 : Int) else xu S 2 (4 * g.toNat + s) (S 2 (4 * g.toNat + s) + p) 2 (4 * g_1 + s)) = (fun i => if i = g.toNat then S 2 (4 * g.toNat + s) + p else (fun g => if g < c then (0 : Int) else S 2 (4 * g + s)) i) := by
      funext i
      rw [xu_at]
      by_cases e : i = g.toNat
      · rw [if_pos e, if_neg (by omega), if_pos (by omega)]
      · rw [if_neg e]
        by_cases q : i < c
        · rw [if_pos q]; dsimp only; rw [if_pos q]
        · rw [if_neg q, if_neg (by omega)]; dsimp only; rw [if_neg q]
    rw [e, sumN_up, if_pos (by omega)]
    rw [if_neg (by omega)]
    omega
theorem snd1_nn {g p : Int} {h s : Nat} {S : xM} (q : nn12 h s S) (hp : 0 ≤ p) : nn12 h s (snd1 g p h s S) := by
  unfold snd1
  by_cases e : g = -1
  · rw [if_pos e]
    refine ⟨?_, fun i hi => ?_⟩
    · rw [xu_at, if_pos rfl]
      have := q.1
      omega
    · rw [xu_cell _ _ _ (by decide)]
      exact q.2 i hi
  · rw [if_neg e]
    refine ⟨?_, fun i hi => ?_⟩
    · rw [xu_cell _ _ _ (by decide)]
      exact q.1
    · rw [xu_at]
      by_cases z : 4 * i + s = 4 * g.toNat + s
      · rw [if_pos z]
        have := q.2 i hi
        rw [z] at this
        omega
      · rw [if_neg z]
        exact q.2 i hi
theorem sndP_nn {gol p : Nat → Int} {h s : Nat} : ∀ k v S, nn12 h s S → (∀ i, v ≤ i → i < v + k → 0 ≤ p i) → nn12 h s (sndP gol p h s k v S) := by
  intro k
  induction k with
  | zero => intro v S q _; exact q
  | succ k ih =>
    intro v S q hp
    exact ih (v + 1) _ (snd1_nn q (hp v (by omega) (by omega))) fun i h1 h2 => hp i (by omega) (by omega)
theorem sndP_tot {gol p : Nat → Int} {c h s : Nat} (hs : s < 4) : ∀ k v S, (∀ i, v ≤ i → i < v + k → gol i = -1 ∨ ((c : Int) ≤ gol i ∧ gol i < 8)) → tot c h s (sndP gol p h s k v S) + sumN p v = tot c h s S + sumN p (v + k) := by
  intro k
  induction k with
  | zero => intro v S _; rfl
  | succ k ih =>
    intro v S hg
    have e := ih (v + 1) (snd1 (gol v) (p v) h s S) (fun i h1 h2 => hg i (by omega) (by omega))
    rw [snd1_tot hs S (hg v (by omega) (by omega))] at e
    rw [show v + 1 + k = v + (k + 1) by omega] at e
    have e2 : sumN p (v + 1) = sumN p v + p v := rfl
    show tot c h s (sndP gol p h s k (v + 1) _) + _ = _
    omega
theorem snd1_oth {g p : Int} {h s : Nat} {S : xM} {j i : Nat} (hj : (j ≠ 1 ∧ j ≠ 2) ∨ (j = 1 ∧ i ≠ 4 * h + s) ∨ (j = 2 ∧ (i % 4 ≠ s % 4 ∨ (i : Int) / 4 ≠ g))) (hg : g = -1 ∨ 0 ≤ g) (hs : s < 4) : snd1 g p h s S j i = S j i := by
  unfold snd1
  by_cases e : g = -1
  · rw [if_pos e]
    by_cases z : j = 1
    · rw [z, xu_at, if_neg (by omega)]
    · rw [xu_cell _ _ _ z]
  · rw [if_neg e]
    by_cases z : j = 2
    · rw [z, xu_at, if_neg (by omega)]
    · rw [xu_cell _ _ _ z]
theorem sndP_oth {gol p : Nat → Int} {h s j i : Nat} (hs : s < 4) : ∀ k v S, ((j ≠ 1 ∧ j ≠ 2) ∨ (j = 1 ∧ i ≠ 4 * h + s) ∨ (j = 2 ∧ (i % 4 ≠ s % 4 ∨ ∀ u, v ≤ u → u < v + k → (i : Int) / 4 ≠ gol u))) → (∀ u, v ≤ u → u < v + k → gol u = -1 ∨ 0 ≤ gol u) → sndP gol p h s k v S j i = S j i := by
  intro k
  induction k with
  | zero => intro v S _ _; rfl
  | succ k ih =>
    intro v S hj hg
    show sndP gol p h s k (v + 1) _ j i = _
    rw [ih (v + 1) _ ?_ fun u h1 h2 => hg u (by omega) (by omega), snd1_oth ?_ (hg v (by omega) (by omega)) hs]
    · rcases hj with hj | hj | ⟨hj, hk⟩
      · exact Or.inl hj
      · exact Or.inr (Or.inl hj)
      · refine Or.inr (Or.inr ⟨hj, ?_⟩)
        rcases hk with hk | hk
        · exact Or.inl hk
        · exact Or.inr (hk v (by omega) (by omega))
    · rcases hj with hj | hj | ⟨hj, hk⟩
      · exact Or.inl hj
      · exact Or.inr (Or.inl hj)
      · refine Or.inr (Or.inr ⟨hj, ?_⟩)
        rcases hk with hk | hk
        · exact Or.inl hk
        · exact Or.inr fun u h1 h2 => hk u (by omega) (by omega)
/-- rows 1 and 2 of a memory, from base b on, are those of S -/
def Ag12 (b h : Nat) (M S : xM) : Prop := (∀ i, i < 4 * h + 4 → M (b + 1) i = S 1 i) ∧ ∀ i, i < 32 → M (b + 2) i = S 2 i
theorem Ag12.st1 {b h s : Nat} {M S : xM} (q : Ag12 b h M S) (hs : s < 4) (p : Int) : Ag12 b h (xu M (b + 1) (4 * h + s) (S 1 (4 * h + s) + p)) (snd1 (-1) p h s S) := by
  unfold snd1
  rw [if_pos rfl]
  refine ⟨fun i hi => ?_, fun i hi => ?_⟩
  · rw [xu_at, xu_at, q.1 i hi]
  · rw [xu_cell _ _ _ (by omega), xu_cell _ _ _ (by decide), q.2 i hi]
theorem Ag12.st2 {b h s : Nat} {M S : xM} (q : Ag12 b h M S) {g p : Int} (hg : 0 ≤ g) : Ag12 b h (xu M (b + 2) (4 * g.toNat + s) (S 2 (4 * g.toNat + s) + p)) (snd1 g p h s S) := by
  unfold snd1
  rw [if_neg (by omega)]
  refine ⟨fun i hi => ?_, fun i hi => ?_⟩
  · rw [xu_cell _ _ _ (by omega), xu_cell _ _ _ (by decide), q.1 i hi]
  · rw [xu_at, xu_at, q.2 i hi]
/-- a flow at b, with its rows -/
def FlR (R : xR) (b : Nat) : Prop := R b 1 = b + 1 ∧ R b 2 = b + 2 ∧ R b 3 = b + 3 ∧ R b 4 = b + 4 ∧ R b 5 = b + 5 ∧ R b 6 = b + 6 ∧ R b 7 = b + 7 ∧ R b 8 = b + 8 ∧ PtR R (b + 8)
theorem pass_F107 {R : xR} {b p : Nat} (hF : FlR R b) (hp : R p 10 = p + 9) (hne : p + 9 < b) {c h s m : Nat} (hs : s < 4) (hh : h < 48) (hc : c < 8) (hm : m ≤ 8) {gol pt : Nat → Int} (hg : ∀ i, i < m → gol i = -1 ∨ ((c : Int) + 1 ≤ gol i ∧ gol i < 8)) (hpt : ∀ i, i < m → 0 ≤ pt i) : ∀ (k f v : Nat) (M S : xM), k < f → v + k = m → Ag12 b h M S → nn12 h s S → tot (c + 1) h s S + (sumN pt m - sumN pt v) ≤ 1000000000 → (∀ i, i < m → M (p + 9) (8 * c + i) = gol i) → (∀ i, i < m → M (b + 10) i = pt i) →
    ∃ M', F_pass_F107 R b p (s : Int) (h : Int) f ((8 * c : Nat) : Int) (m : Int) (v : Int) M = some M' ∧ Fr [b + 1, b + 2] M M' ∧ Ag12 b h M' (sndP gol pt h s k v S) := by
  have r1 := hF.1
  have r2 := hF.2.1
  have r8 := hF.2.2.2.2.2.2.2.1
  have r81 : R (b + 8) 1 = b + 10 := hF.2.2.2.2.2.2.2.2.2.1
  intro k
  induction k with
  | zero =>
    intro f v M S hf hv hA _ _ _ _
    obtain ⟨f, rfl⟩ : ∃ g, f = g + 1 := ⟨f - 1, by omega⟩
    refine ⟨M, ?_, fun _ _ => rfl, hA⟩
    rw [F_pass_F107, if_neg (by omega)]
  | succ k ih =>
    intro f v M S hf hv hA hn ht hG hP
    obtain ⟨f, rfl⟩ : ∃ g, f = g + 1 := ⟨f - 1, by omega⟩
    have J : ∀ X, F_pass_J183 R b p (s : Int) (h : Int) (F_pass_F107 R b p (s : Int) (h : Int) f) ((8 * c : Nat) : Int) (m : Int) (v : Int) X = F_pass_F107 R b p (s : Int) (h : Int) f ((8 * c : Nat) : Int) (m : Int) ((v + 1 : Nat) : Int) X := by
      intro X
      unfold F_pass_J183
      rw [xl_eq, w32_of (x := (v : Int) + 1) (by omega) (by omega)]
      rfl
    have hgv := hg v (by omega)
    have hpv := hpt v (by omega)
    have le := hn.le (c + 1)
    have es : sumN pt (v + 1) = sumN pt v + pt v := rfl
    have hm' : sumN pt (v + 1) ≤ sumN pt m := by
      have : ∀ d, v + 1 + d ≤ m → sumN pt (v + 1) ≤ sumN pt (v + 1 + d) := by
        intro d
        induction d with
        | zero => intro _; exact Int.le_refl _
        | succ d ihd =>
          intro hd
          have a := ihd (by omega)
          have a2 := hpt (v + 1 + d) (by omega)
          have a3 : sumN pt (v + 1 + (d + 1)) = sumN pt (v + 1 + d) + pt (v + 1 + d) := rfl
          omega
      have e := this (m - (v + 1)) (by omega)
      rw [show v + 1 + (m - (v + 1)) = m by omega] at e
      exact e
    have cont : ∀ (X : xM), Fr [b + 1, b + 2] M X → Ag12 b h X (snd1 (gol v) (pt v) h s S) → ∃ M', F_pass_F107 R b p (s : Int) (h : Int) f ((8 * c : Nat) : Int) (m : Int) ((v + 1 : Nat) : Int) X = some M' ∧ Fr [b + 1, b + 2] M M' ∧ Ag12 b h M' (sndP gol pt h s (k + 1) v S) := by
      intro X hX hAX
      have x9 : X (p + 9) = M (p + 9) := hX _ (by simp only [List.mem_cons, List.not_mem_nil, or_false, not_or]; omega)
      have x10 : X (b + 10) = M (b + 10) := hX _ (by simp only [List.mem_cons, List.not_mem_nil, or_false, not_or]; omega)
      obtain ⟨M', m1, m2, m3⟩ := ih f (v + 1) X (snd1 (gol v) (pt v) h s S) (by omega) (by omega) hAX (snd1_nn hn hpv) (by rw [snd1_tot hs S (by omega)]; omega) (by rw [x9]; exact hG) (by rw [x10]; exact hP)
      exact ⟨M', m1, fun x hx => (m2 x hx).trans (hX x hx), m3⟩
    rw [F_pass_F107, if_pos (by omega), w32_of (x := ((8 * c : Nat) : Int) + (v : Int)) (by omega) (by omega), xch_pos (by omega), xl_eq, hp, show (((8 * c : Nat) : Int) + (v : Int)).toNat = 8 * c + v by omega, hG v (by omega)]
    rcases hgv with e | ⟨e1, e2⟩
    · rw [if_pos e, w32_of (x := (h : Int) * 4) (by omega) (by omega), w32_of (x := (h : Int) * 4 + (s : Int)) (by omega) (by omega), xch_pos (by omega), xch_pos (by omega), xl_eq, r1, r8, r81, J, Int.toNat_natCast, show ((h : Int) * 4 + (s : Int)).toNat = 4 * h + s by omega, hA.1 (4 * h + s) (by omega), hP v (by omega), w32_of (x := S 1 (4 * h + s) + pt v) (by have := hn.1; omega) (by omega)]
      refine cont _ (fun x hx => ?_) ?_
      · simp only [List.mem_cons, List.not_mem_nil, or_false, not_or] at hx
        rw [xu_cell _ _ _ hx.1]
      · rw [e]
        exact hA.st1 hs (pt v)
    · have hle := le.2 (gol v).toNat (by omega) (by omega)
      have hnn := hn.2 (gol v).toNat (by omega)
      rw [if_neg (by omega), w32_of (x := gol v * 4) (by omega) (by omega), w32_of (x := gol v * 4 + (s : Int)) (by omega) (by omega), xch_pos (by omega), xch_pos (by omega), xl_eq, r2, r8, r81, J, Int.toNat_natCast, show (gol v * 4 + (s : Int)).toNat = 4 * (gol v).toNat + s by omega, hA.2 (4 * (gol v).toNat + s) (by omega), hP v (by omega), w32_of (x := S 2 (4 * (gol v).toNat + s) + pt v) (by omega) (by omega)]
      refine cont _ (fun x hx => ?_) ?_
      · simp only [List.mem_cons, List.not_mem_nil, or_false, not_or] at hx
        rw [xu_cell _ _ _ hx.2]
      · exact hA.st2 (by omega)
