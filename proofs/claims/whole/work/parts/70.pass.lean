theorem snd1_zero {g p : Int} {h s : Nat} {S : xM} (e : p = 0) : snd1 g p h s S = S := by
  have z : ∀ j i, xu S j i (S j i) = S := by
    intro j i
    funext x y
    unfold xu
    by_cases q : x = j ∧ y = i
    · rw [if_pos q, q.1, q.2]
    · rw [if_neg q]
  unfold snd1
  rw [e, Int.add_zero, Int.add_zero, z, z]
  split <;> rfl
theorem sndP_zero {gol p : Nat → Int} {h s : Nat} : ∀ k v S, (∀ i, v ≤ i → i < v + k → p i = 0) → sndP gol p h s k v S = S := by
  intro k
  induction k with
  | zero => intro v S _; rfl
  | succ k ih =>
    intro v S hp
    show sndP gol p h s k (v + 1) _ = S
    rw [ih (v + 1) _ (fun i h1 h2 => hp i (by omega) (by omega)), snd1_zero (hp v (by omega) (by omega))]
theorem pass_F55 {R : xR} {b p : Nat} (hF : FlR R b) (hp : R p 11 = p + 10) (hne : p + 10 < b) {c m : Nat} (hc : c < 8) (hm : m ≤ 8) (l3 l4 : Int) (Q : Int → Int → Int → xM → Option xM) (v6 : Int) : ∀ (k f v : Nat) (M : xM), k < f → v + k = m → F_pass_F55 R b p l3 l4 Q f v6 ((8 * c : Nat) : Int) (m : Int) (v : Int) M = Q v6 ((8 * c : Nat) : Int) (m : Int) (xrow M (b + 9) (fun i => if v ≤ i ∧ i < m then M (p + 10) (8 * c + i) else M (b + 9) i)) := by
  have r8 := hF.2.2.2.2.2.2.2.1
  have r80 : R (b + 8) 0 = b + 9 := hF.2.2.2.2.2.2.2.2.1
  intro k
  induction k with
  | zero =>
    intro f v M hf hv
    obtain ⟨f, rfl⟩ : ∃ g, f = g + 1 := ⟨f - 1, by omega⟩
    rw [F_pass_F55, if_neg (by omega)]
    have e : (fun i => if v ≤ i ∧ i < m then M (p + 10) (8 * c + i) else M (b + 9) i) = M (b + 9) := by
      funext i
      rw [if_neg (by omega)]
    rw [e, xrow_self]
  | succ k ih =>
    intro f v M hf hv
    obtain ⟨f, rfl⟩ : ∃ g, f = g + 1 := ⟨f - 1, by omega⟩
    rw [F_pass_F55, if_pos (by omega), w32_of (x := ((8 * c : Nat) : Int) + (v : Int)) (by omega) (by omega), xch_pos (by omega), xch_pos (by omega), xl_eq, xl_eq, r8, r80, hp, Int.toNat_natCast, show (((8 * c : Nat) : Int) + (v : Int)).toNat = 8 * c + v by omega, w32_of (x := (v : Int) + 1) (by omega) (by omega), show (v : Int) + 1 = ((v + 1 : Nat) : Int) by omega, ih f (v + 1) _ (by omega) (by omega), xrow_xu, xu_cell _ _ _ (show p + 10 ≠ b + 9 by omega)]
    refine congrArg (fun g => Q v6 ((8 * c : Nat) : Int) (m : Int) (xrow M (b + 9) g)) ?_
    funext i
    rw [xu_row]
    show (if _ then _ else (if i = v then _ else _)) = _
    by_cases h1 : i = v
    · rw [if_neg (by omega), if_pos h1, if_pos (by omega), h1]
    · rw [if_neg h1]
      by_cases h2 : v ≤ i ∧ i < m
      · rw [if_pos (by omega), if_pos h2]
      · rw [if_neg (by omega), if_neg h2]
/-- a plant at p, with its rows -/
def PnR (R : xR) (p : Nat) : Prop := ∀ k, 2 ≤ k → k < 13 → R p k = p + (k - 1)
/-- the ways of cleaner c: how many, where they lead, their shares -/
def WyB (c m : Nat) (gol sh : Nat → Int) : Prop := 1 ≤ m ∧ m ≤ 8 ∧ (∀ i, i < m → gol i = -1 ∨ ((c : Int) + 1 ≤ gol i ∧ gol i < 8)) ∧ (∀ i, i < m → 0 ≤ sh i ∧ sh i ≤ 100) ∧ sumN sh m = 100
theorem pass_eq {R : xR} {b p : Nat} (hF : FlR R b) (hP : PnR R p) (hne : p + 11 < b) {c h s m : Nat} (hs : s < 4) (hh : h < 48) (hc : c < 8) {gol sh : Nat → Int} (hW : WyB c m gol sh) {M S : xM} {a : Int} (ha : 0 ≤ a) (ha2 : a ≤ 20000000) (hA : Ag12 b h M S) (hn : nn12 h s S) (ht : tot (c + 1) h s S + a ≤ 1000000000)
    (hx : (0 ≤ M (b + 2) (4 * c + s) ∧ M (b + 2) (4 * c + s) ≤ 20000000) ∧ (0 ≤ M (b + 3) (4 * c + s) ∧ M (b + 3) (4 * c + s) ≤ 20000000) ∧ (0 ≤ M (b + 4) (4 * c + s) ∧ M (b + 4) (4 * c + s) ≤ 20000000)) (hae : a = M (b + 2) (4 * c + s) - M (b + 3) (4 * c + s) + M (b + 4) (4 * c + s))
    (h8 : M (p + 8) c = (m : Int)) (hG : ∀ i, i < m → M (p + 9) (8 * c + i) = gol i) (hS : ∀ i, i < m → M (p + 10) (8 * c + i) = sh i) :
    ∃ M', f_F_pass R b p (c : Int) (s : Int) (h : Int) M = some M' ∧ Fr [b + 1, b + 2, b + 9, b + 10, b + 11] M M' ∧ Ag12 b h M' (sndP gol (prt a 100 m sh) h s m 0 S) := by
  have r2 := hF.2.1
  have r3 := hF.2.2.1
  have r4 := hF.2.2.2.1
  have r8 := hF.2.2.2.2.2.2.2.1
  have p9 : R p 9 = p + 8 := hP 9 (by decide) (by decide)
  have p10 : R p 10 = p + 9 := hP 10 (by decide) (by decide)
  have p11 : R p 11 = p + 10 := hP 11 (by decide) (by decide)
  obtain ⟨w1, w2, w3, w4, w5⟩ := hW
  have hpr := prt_in ha (by decide : (0 : Int) < 100) w1 w4 w5
  unfold f_F_pass
  rw [xl_eq, w32_of (x := (c : Int) * 4) (by omega) (by omega), w32_of (x := (c : Int) * 4 + (s : Int)) (by omega) (by omega), xch_pos (by omega), xl_eq, r2, r3, r4, show ((c : Int) * 4 + (s : Int)).toNat = 4 * c + s by omega, w32_of (x := M (b + 2) (4 * c + s) - M (b + 3) (4 * c + s)) (by omega) (by omega), ← hae, w32_of (x := a) (by omega) (by omega)]
  by_cases z : a = 0
  · rw [if_pos z]
    refine ⟨M, rfl, fun _ _ => rfl, ?_⟩
    rw [sndP_zero]
    · exact hA
    · intro i _ hi
      have := hpr.1 i (by omega)
      omega
  · rw [if_neg z, xl_eq, w32_of (x := (c : Int) * 8) (by omega) (by omega), xch_pos (by omega), xl_eq, p9, Int.toNat_natCast, h8, show (c : Int) * 8 = ((8 * c : Nat) : Int) by omega]
    have e1 := pass_F55 hF p11 (by omega) hc w2 (s : Int) (h : Int) (fun (v6_13 : Int) (v7_14 : Int) (v8_15 : Int) (M_16 : xM) =>
        xb1 (f_T_share R (R b 8) v6_13 v8_15 100 M_16) fun M_17 =>
        F_pass_F107 R b p (s : Int) (h : Int)
          xfu v7_14 v8_15 0 M_17) a m xfu 0 M (by have : xfu = 1000000 := rfl; omega) (by omega)
    rw [show ((0 : Nat) : Int) = 0 from rfl] at e1
    rw [e1]
    obtain ⟨A, hAA⟩ : ∃ A, A = xrow M (b + 9) (fun i => if 0 ≤ i ∧ i < m then M (p + 10) (8 * c + i) else M (b + 9) i) := ⟨_, rfl⟩
    rw [← hAA]
    have aO : ∀ x, x ≠ b + 9 → A x = M x := fun x hx => by rw [hAA, xrow_cell _ _ hx]
    have a9 : ∀ i, i < m → A (b + 9) i = sh i := fun i hi => by rw [hAA, xrow_at, if_pos ⟨by omega, hi⟩, hS i hi]
    obtain ⟨f, g, e2, e3⟩ := share_eq hF.2.2.2.2.2.2.2.2 (M := A) ha ha2 (by decide : (0 : Int) < 100) (by decide) w1 w2 w4 w5 a9
    rw [r8, e2, xb1_some]
    obtain ⟨B, hB⟩ : ∃ B, B = x2r A (b + 8 + 2) (b + 8 + 3) f g := ⟨_, rfl⟩
    rw [← hB]
    have bO : ∀ x, x ≠ b + 9 → x ≠ b + 10 → x ≠ b + 11 → B x = M x := fun x h1 h2 h3 => by rw [hB, x2r_oth _ _ _ (by omega) (by omega), aO x h1]
    have b10 : ∀ i, i < m → B (b + 10) i = prt a 100 m sh i := fun i hi => by rw [hB, show b + 10 = b + 8 + 2 by omega, x2r_c _ _ _ (by omega), e3 i hi]
    obtain ⟨M', m1, m2, m3⟩ := pass_F107 hF p10 (by omega) hs hh hc w2 (gol := gol) (pt := prt a 100 m sh) w3 (fun i hi => (hpr.1 i hi).1) m xfu 0 B S (by have : xfu = 1000000 := rfl; omega) (by omega) ⟨fun i hi => by rw [bO (b + 1) (by omega) (by omega) (by omega)]; exact hA.1 i hi, fun i hi => by rw [bO (b + 2) (by omega) (by omega) (by omega)]; exact hA.2 i hi⟩ hn (by
        rw [hpr.2]
        have : sumN (prt a 100 m sh) 0 = 0 := rfl
        omega) (fun i hi => by rw [bO (p + 9) (by omega) (by omega) (by omega)]; exact hG i hi) b10
    refine ⟨M', m1, fun x hx => ?_, m3⟩
    simp only [List.mem_cons, List.not_mem_nil, or_false, not_or] at hx
    rw [m2 x (by simp only [List.mem_cons, List.not_mem_nil, or_false, not_or]; exact ⟨hx.1, hx.2.1⟩), bO x hx.2.2.1 hx.2.2.2.1 hx.2.2.2.2]
