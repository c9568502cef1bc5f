/-! ===== a cleaner's hour in the class ===== -/
theorem sumOf_eq {k l i : Nat} {M : xM} (hi : i + 3 < xan k) (hk : xan k ≤ 1000) : f_F_sumOf k l (i : Int) M = some (w32 (w32 (w32 (w32 (0 + M l i) + M l (i + 1)) + M l (i + 2)) + M l (i + 3))) := by
  have st : ∀ (f : Nat) (x : Int) (v : Nat), v < 4 → F_sumOf_F4 M k l (i : Int) (f + 1) x (v : Int) = F_sumOf_F4 M k l (i : Int) f (w32 (x + M l (i + v))) ((v + 1 : Nat) : Int) := by
    intro f x v hv
    rw [F_sumOf_F4, if_pos (by omega), w32_of (x := (i : Int) + (v : Int)) (by omega) (by omega), xch_pos (by omega), xl_eq, xl_eq, w32_of (x := (v : Int) + 1) (by omega) (by omega), show ((i : Int) + (v : Int)).toNat = i + v by omega]
    rfl
  have e : f_F_sumOf k l (i : Int) M = F_sumOf_F4 M k l (i : Int) (999995 + 1 + 1 + 1 + 1 + 1) 0 ((0 : Nat) : Int) := rfl
  rw [e, st _ _ _ (by decide), st _ _ _ (by decide), st _ _ _ (by decide), st _ _ _ (by decide), F_sumOf_F4, if_neg (by decide)]
  rfl
/-- the book, with its rows -/
def BkR (R : xR) : Prop := R 48 12 = 57 ∧ R 48 14 = 58 ∧ R 48 15 = 59 ∧ R 48 16 = 60 ∧ R 48 17 = 61
theorem RG.bk {R : xR} {pn ps ln ls : Nat} (h : RG R pn ps ln ls) : BkR R := by
  have e := xR0_bk
  exact ⟨by rw [h.at 48 12 (by decide) (by decide)]; exact e.2.2.2.2.2.2.2.2.1, by rw [h.at 48 14 (by decide) (by decide)]; exact e.2.2.2.2.2.2.2.2.2.1, by rw [h.at 48 15 (by decide) (by decide)]; exact e.2.2.2.2.2.2.2.2.2.2.1, by rw [h.at 48 16 (by decide) (by decide)]; exact e.2.2.2.2.2.2.2.2.2.2.2.1, by rw [h.at 48 17 (by decide) (by decide)]; exact e.2.2.2.2.2.2.2.2.2.2.2.2⟩
/-- what the class says of cleaner c at hour h is what the world says -/
def WXc (R : xR) (p b h c : Nat) (W M : xM) : Prop := M (p + 3) c = W 1 c ∧ (∀ s, s < 4 → M (p + 4) (4 * c + s) = W 2 (4 * c + s)) ∧ M (p + 5) c = W 3 c ∧ M (p + 6) c = W 4 c ∧ M (p + 8) c = W 5 c ∧ (∀ i, i < (W 5 c).toNat → M (p + 9) (8 * c + i) = W 6 (8 * c + i) ∧ M (p + 10) (8 * c + i) = W 7 (8 * c + i)) ∧ M 57 h = W 9 h ∧ f_F_isKnocked R b 48 (c : Int) (h : Int) M = some (W 11 (48 * c + h)) ∧ f_B_isOff R 48 (c : Int) (h : Int) M = some (W 12 (48 * c + h)) ∧ f_F_lessBy R b 48 (c : Int) (h : Int) M = some (W 13 (48 * c + h))
/-- nothing but the rows of the flow at b has changed -/
def FrB (b : Nat) (M M' : xM) : Prop := ∀ x, x ≤ b ∨ b + 12 ≤ x → M' x = M x
theorem FrB.trans {b : Nat} {M N P : xM} (h : FrB b M N) (k : FrB b N P) : FrB b M P := fun x hx => (k x hx).trans (h x hx)
theorem WXc.of {R : xR} {p b h c : Nat} {W M N : xM} (hB : BkR R) (hp : p + 11 < b) (hb : 61 < b) (q : WXc R p b h c W M) (hf : FrB b M N) : WXc R p b h c W N := by
  have e : ∀ x, x ≤ b → N x = M x := fun x hx => hf x (Or.inl hx)
  obtain ⟨q1, q2, q3, q4, q5, q6, q7, q8, q9, q10⟩ := q
  refine ⟨by rw [e _ (by omega)]; exact q1, fun s hs => by rw [e _ (by omega)]; exact q2 s hs, by rw [e _ (by omega)]; exact q3, by rw [e _ (by omega)]; exact q4, by rw [e _ (by omega)]; exact q5, fun i hi => by rw [e _ (by omega), e _ (by omega)]; exact q6 i hi, by rw [e _ (by omega)]; exact q7, ?_, ?_, ?_⟩
  · rw [← q8]
    unfold f_F_isKnocked f_B_isKnocked
    rw [hB.2.2.1, e 59 (by omega), e b (by omega)]
  · rw [← q9]
    unfold f_B_isOff
    rw [hB.2.2.2.1, e 60 (by omega)]
  · rw [← q10]
    unfold f_F_lessBy f_B_holesBy
    rw [hB.2.2.2.2, e 61 (by omega), e b (by omega)]
theorem xmax0 {x : Int} : xmax 0 x = if 0 ≤ x then x else 0 := by
  unfold xmax
  by_cases h : 0 < x
  · rw [if_pos h, if_pos (by omega)]
  · rw [if_neg h]
    split <;> omega
theorem clean_flags {R : xR} {p b h c : Nat} (hF : FlR R b) (hP : PnR R p) (hB : BkR R) (hh : h < 48) (hc : c < 8) {W M S : xM} (hW : WC W h c) (hX : WXc R p b h c W M) (hi : M (b + 5) (4 * c) + M (b + 5) (4 * c + 1) + M (b + 5) (4 * c + 2) + M (b + 5) (4 * c + 3) = cIt W h c S) (hb : ∀ s, s < 4 → 0 ≤ M (b + 5) (4 * c + s) ∧ M (b + 5) (4 * c + s) ≤ 2000000) :
    ∃ v8 v9 : Int, f_F_clean R b p 48 (c : Int) (h : Int) M = F_clean_F128 R b p (c : Int) xfu v8 v9 (W 13 (48 * c + h)) (if W 1 c = 1 ∨ W 1 c = 2 then 1 else 0) ((4 * c : Nat) : Int) M ∧ ∀ s, s < 4 → cHu W h c S (4 * c + s) = if v8 = 0 then (if v9 = 0 then xmax 0 (W 2 (4 * c + s) - W 13 (48 * c + h)) else Int.tdiv (W 2 (4 * c + s)) 2) else 0 := by
  have r5 := hF.2.2.2.2.1
  have p4 : R p 4 = p + 3 := hP 4 (by decide) (by decide)
  have p6 : R p 6 = p + 5 := hP 6 (by decide) (by decide)
  obtain ⟨q1, q2, q3, q4, q5, q6, q7, q8, q9, q10⟩ := hX
  have b0 : 0 ≤ M (b + 5) (4 * c) ∧ M (b + 5) (4 * c) ≤ 2000000 := hb 0 (by decide)
  have b1 := hb 1 (by decide)
  have b2 := hb 2 (by decide)
  have b3 := hb 3 (by decide)
  have x27 : xan 27 = 32 := by decide +kernel
  have hsum : f_F_sumOf 27 (b + 5) (w32 ((c : Int) * 4)) M = some (cIt W h c S) := by
    rw [w32_of (x := (c : Int) * 4) (by omega) (by omega), show (c : Int) * 4 = ((4 * c : Nat) : Int) by omega, sumOf_eq (by omega) (by omega), w32_of (x := 0 + M (b + 5) (4 * c)) (by omega) (by omega), w32_of (x := 0 + M (b + 5) (4 * c) + M (b + 5) (4 * c + 1)) (by omega) (by omega), w32_of (x := 0 + M (b + 5) (4 * c) + M (b + 5) (4 * c + 1) + M (b + 5) (4 * c + 2)) (by omega) (by omega), w32_of (by omega) (by omega), ← hi]
    exact congrArg some (by omega)
  have hk : f_N_keepsLayer R p (c : Int) M = some (if W 1 c = 1 ∨ W 1 c = 2 then 1 else 0) := by
    unfold f_N_keepsLayer
    rw [xch_pos (by omega), p4, Int.toNat_natCast, q1]
    by_cases z : W 1 c = 1
    · rw [if_pos z, if_pos (Or.inl z)]
    · rw [if_neg z]
      by_cases z2 : W 1 c = 2
      · rw [if_pos z2, if_pos (Or.inr z2)]
      · rw [if_neg z2, if_neg (fun y => y.elim z z2)]
  have h104 : ∀ v8 v9 : Int, F_clean_J104 R b p 48 (c : Int) (h : Int) v8 v9 M = F_clean_F128 R b p (c : Int) xfu v8 v9 (W 13 (48 * c + h)) (if W 1 c = 1 ∨ W 1 c = 2 then 1 else 0) ((4 * c : Nat) : Int) M := by
    intro v8 v9
    unfold F_clean_J104
    rw [q10, xb1_some, hk, xb1_some, xl_eq, w32_of (x := (c : Int) * 4) (by omega) (by omega), show (c : Int) * 4 = ((4 * c : Nat) : Int) by omega]
  have h86 : ∀ v7 s0 : Int, F_clean_J86 R b p 48 (c : Int) (h : Int) (W 1 c) v7 s0 M = F_clean_F128 R b p (c : Int) xfu s0 (if W 1 c = 1 then (if v7 = 0 then 0 else 1) else 0) (W 13 (48 * c + h)) (if W 1 c = 1 ∨ W 1 c = 2 then 1 else 0) ((4 * c : Nat) : Int) M := by
    intro v7 s0
    unfold F_clean_J86
    by_cases z : W 1 c = 1
    · rw [if_pos z, if_pos z]
      by_cases z2 : v7 = 0
      · rw [if_pos z2, if_pos z2, h104]
      · rw [if_neg z2, if_neg z2, h104]
    · rw [if_neg z, if_neg z, h104]
  have h59 : ∀ v7 : Int, F_clean_J59 R b p 48 (c : Int) (h : Int) (W 1 c) v7 M = F_clean_J86 R b p 48 (c : Int) (h : Int) (W 1 c) v7 (if W 1 c = 3 then (if W 9 h < W 3 c then 0 else 1) else 0) M := by
    intro v7
    unfold F_clean_J59
    by_cases z : W 1 c = 3
    · rw [if_pos z, if_pos z, xch_pos (by omega), xch_pos (by omega), hB.1, p6, Int.toNat_natCast, Int.toNat_natCast, q7, q3]
      by_cases z2 : W 9 h < W 3 c
      · rw [if_pos z2, if_pos z2]
      · rw [if_neg z2, if_neg z2]
    · rw [if_neg z, if_neg z]
  obtain ⟨s0, hs0, hs1⟩ : ∃ s0 : Int, f_F_clean R b p 48 (c : Int) (h : Int) M = F_clean_J36 R b p 48 (c : Int) (h : Int) (W 1 c) s0 M ∧ ((s0 = 0 ∧ cIt W h c S < W 3 c) ∨ (s0 = 1 ∧ ¬ cIt W h c S < W 3 c)) := by
    unfold f_F_clean
    rw [xch_pos (by omega), xl_eq, r5, hsum, xb1_some, p4, p6, Int.toNat_natCast, q1, q3]
    by_cases z : cIt W h c S < W 3 c
    · rw [if_pos z]
      exact ⟨0, rfl, Or.inl ⟨rfl, z⟩⟩
    · rw [if_neg z]
      exact ⟨1, rfl, Or.inr ⟨rfl, z⟩⟩
  have h13 := hW.2.2.2.2.2.2.2
  have h2i := hW.2.1
  have hplain : W 1 c ≠ 2 → ∀ s, s < 4 → xmax 0 (W 2 (4 * c + s) - W 13 (48 * c + h)) = W 2 (4 * c + s) := by
    intro z s hs
    have a := h2i s hs
    rw [h13.2.2 z, xmax0, if_pos (by omega), Int.sub_zero]
  rw [hs0]
  unfold F_clean_J36
  rw [q9, xb1_some]
  unfold cHu
  by_cases zo : W 12 (48 * c + h) = 0
  · rw [if_pos zo]
    simp only [if_pos zo]
    by_cases z2 : W 1 c = 2
    · rw [if_pos z2]
      have n1 : ¬ W 1 c = 1 := by omega
      have n3 : ¬ W 1 c = 3 := by omega
      rcases hs1 with ⟨e, z⟩ | ⟨e, z⟩
      · rw [if_pos e, h59, h86]
        refine ⟨_, _, rfl, fun s hs => ?_⟩
        rw [if_neg n1, if_pos z2, if_pos z, if_neg n3, if_pos rfl, if_neg n1, if_pos rfl, xmax0]
      · rw [if_neg (by omega), h86]
        refine ⟨_, _, rfl, fun s hs => ?_⟩
        rw [if_neg n1, if_pos z2, if_neg z, if_neg (by decide)]
    · rw [if_neg z2, h59, h86]
      refine ⟨_, _, rfl, fun s hs => ?_⟩
      rw [hplain z2 s hs]
      by_cases z1 : W 1 c = 1
      · have n3 : ¬ W 1 c = 3 := by omega
        rw [if_pos z1, if_neg n3, if_pos rfl, if_pos z1]
        rcases hs1 with ⟨e, z⟩ | ⟨e, z⟩
        · rw [if_pos z, if_pos e, if_pos rfl]
        · rw [if_neg z, if_neg (by omega)]
      · rw [if_neg z1, if_neg z2, if_neg z1]
        by_cases z3 : W 1 c = 3
        · rw [if_pos z3, if_pos z3]
          by_cases z : W 9 h < W 3 c
          · rw [if_pos z, if_pos z, if_pos rfl, if_pos rfl]
          · rw [if_neg z, if_neg z, if_neg (by decide)]
        · rw [if_neg z3, if_neg z3, if_pos rfl, if_pos rfl]
  · rw [if_neg zo, h86]
    simp only [if_neg zo]
    refine ⟨_, _, rfl, fun s hs => ?_⟩
    rw [if_neg (by decide)]
