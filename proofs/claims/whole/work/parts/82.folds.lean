/-! ===== what counts of rows and events, as folds; the model's scans ===== -/
def dstF (cel por kno : Nat → Int) (a : Int) : Nat → Int → Int
  | 0, _ => 0
  | k + 1, i => if kno k ≤ a ∧ cel k = i then por k else dstF cel por kno a k i
theorem dst_st (cel por kno : Nat → Int) (a : Int) (k : Nat) (i : Int) : dstF cel por kno a (k + 1) i = if kno k ≤ a ∧ cel k = i then por k else dstF cel por kno a k i := rfl
def knM (M : xM) (c h : Int) (e : Nat) : Prop := M 52 e = 0 ∧ M 53 e = c ∧ M 54 e = h ∧ M 56 e ≤ M 48 11
def ofM (M : xM) (c h : Int) (e : Nat) : Prop := M 52 e = 2 ∧ M 53 e = c ∧ M 54 e ≤ h ∧ h ≤ M 55 e ∧ M 56 e ≤ M 48 11
def hoM (M : xM) (c h : Int) (e : Nat) : Prop := M 52 e = 1 ∧ M 53 e = c ∧ M 54 e ≤ h ∧ M 56 e ≤ M 48 11
def knF (M : xM) (c h : Int) : Nat → Int
  | 0 => 0
  | k + 1 => if M 52 k = 0 ∧ M 53 k = c ∧ M 54 k = h ∧ M 56 k ≤ M 48 11 then 1 else knF M c h k
def ofF (M : xM) (c h : Int) : Nat → Int
  | 0 => 0
  | k + 1 => if M 52 k = 2 ∧ M 53 k = c ∧ M 54 k ≤ h ∧ h ≤ M 55 k ∧ M 56 k ≤ M 48 11 then 1 else ofF M c h k
def hoF (M : xM) (c h : Int) : Nat → Int
  | 0 => 0
  | k + 1 => hoF M c h k + (if M 52 k = 1 ∧ M 53 k = c ∧ M 54 k ≤ h ∧ M 56 k ≤ M 48 11 then M 55 k else 0)
theorem knF_iff {M : xM} {c h : Int} : ∀ k, (knF M c h k = 0 ∨ knF M c h k = 1) ∧ (knF M c h k = 1 ↔ ∃ e, e < k ∧ knM M c h e) := by
  intro k
  induction k with
  | zero => exact ⟨Or.inl rfl, ⟨fun q => absurd (show (0 : Int) = 1 from q) (by decide), fun ⟨e, q, _⟩ => by omega⟩⟩
  | succ k ih =>
    unfold knF
    by_cases z : M 52 k = 0 ∧ M 53 k = c ∧ M 54 k = h ∧ M 56 k ≤ M 48 11
    · rw [if_pos z]
      exact ⟨Or.inr rfl, ⟨fun _ => ⟨k, by omega, z⟩, fun _ => rfl⟩⟩
    · rw [if_neg z]
      refine ⟨ih.1, ih.2.trans ⟨fun ⟨e, h1, h2⟩ => ⟨e, by omega, h2⟩, fun ⟨e, h1, h2⟩ => ⟨e, ?_, h2⟩⟩⟩
      have : e ≠ k := fun q => z (q ▸ h2)
      omega
theorem ofF_iff {M : xM} {c h : Int} : ∀ k, (ofF M c h k = 0 ∨ ofF M c h k = 1) ∧ (ofF M c h k = 1 ↔ ∃ e, e < k ∧ ofM M c h e) := by
  intro k
  induction k with
  | zero => exact ⟨Or.inl rfl, ⟨fun q => absurd (show (0 : Int) = 1 from q) (by decide), fun ⟨e, q, _⟩ => by omega⟩⟩
  | succ k ih =>
    unfold ofF
    by_cases z : M 52 k = 2 ∧ M 53 k = c ∧ M 54 k ≤ h ∧ h ≤ M 55 k ∧ M 56 k ≤ M 48 11
    · rw [if_pos z]
      exact ⟨Or.inr rfl, ⟨fun _ => ⟨k, by omega, z⟩, fun _ => rfl⟩⟩
    · rw [if_neg z]
      refine ⟨ih.1, ih.2.trans ⟨fun ⟨e, h1, h2⟩ => ⟨e, by omega, h2⟩, fun ⟨e, h1, h2⟩ => ⟨e, ?_, h2⟩⟩⟩
      have : e ≠ k := fun q => z (q ▸ h2)
      omega
/-- rows of the class and of the model -/
def RowOK (M : xM) : Prop := ∀ r : Nat, (r : Int) < M 48 0 → (0 ≤ M 144 r ∧ M 144 r < 4) ∧ (0 ≤ M 145 r ∧ M 145 r < 48) ∧ (0 ≤ M 146 r ∧ M 146 r < 4) ∧ M 49 r = (M 144 r * 48 + M 145 r) * 4 + M 146 r ∧ M 147 r = M 50 r ∧ (0 ≤ M 50 r ∧ M 50 r ≤ 9999) ∧ M 148 r = M 51 r
/-- events of the class and of the model -/
def EvOK (p : Nat) (M : xM) : Prop := ∀ e : Nat, (e : Int) < M 48 4 → (M 149 e = M 52 e ∧ M 150 e = M 53 e ∧ M 151 e = M 54 e ∧ M 153 e = M 56 e) ∧ (0 ≤ M 53 e ∧ M 53 e < M p 0) ∧ (0 ≤ M 54 e ∧ M 54 e < 48) ∧ (M 52 e = 0 ∨ (M 52 e = 1 ∧ M 152 e = M 55 e ∧ (1 ≤ M 55 e ∧ M 55 e ≤ 100) ∧ M (p + 3) (M 53 e).toNat = 2) ∨ (M 52 e = 2 ∧ M 152 e = M 55 e ∧ M 54 e ≤ M 55 e ∧ M 55 e < 48))
theorem RG.ev {R : xR} {pn ps ln ls : Nat} (h : RG R pn ps ln ls) {k : Nat} (hk : k < 10) : R 104 (63 + k) = 144 + k := by
  rw [h.at 104 (63 + k) (by decide) (by decide)]
  exact xR0_mb.1 k hk
theorem portions_F8 {R : xR} {pn ps ln ls : Nat} (hR : RG R pn ps ln ls) {N : xM} (hB : BcOK N) (hr : RowOK N) {w h s : Nat} (hw : w < 4) (hh : h < 48) (hs : s < 4) : ∀ (k f : Nat), k < f → (k : Int) ≤ N 48 0 → M_portionsOf_F8 R N 104 (w : Int) (h : Int) (s : Int) f ((k : Int) - 1) = some (dstF (N 49) (N 50) (N 51) (N 48 11) k (((w * 48 + h) * 4 + s : Nat) : Int)) := by
  have r63 : R 104 63 = 144 := hR.ev (k := 0) (by decide)
  have r64 : R 104 64 = 145 := hR.ev (k := 1) (by decide)
  have r65 : R 104 65 = 146 := hR.ev (k := 2) (by decide)
  have r66 : R 104 66 = 147 := hR.ev (k := 3) (by decide)
  have r67 : R 104 67 = 148 := hR.ev (k := 4) (by decide)
  have ha : N 104 62 = N 48 11 := hB.2.2.2.2.2
  intro k
  induction k with
  | zero =>
    intro f hf _
    obtain ⟨f, rfl⟩ : ∃ g, f = g + 1 := ⟨f - 1, by omega⟩
    rw [M_portionsOf_F8, if_pos (by omega)]
    rfl
  | succ k ih =>
    intro f hf hk
    obtain ⟨f, rfl⟩ : ∃ g, f = g + 1 := ⟨f - 1, by omega⟩
    obtain ⟨a1, a2, a3, a4, a5, a6, a7⟩ := hr k (by omega)
    have b1 := hB.1
    have J : M_portionsOf_J68 R N 104 (w : Int) (h : Int) (s : Int) (M_portionsOf_F8 R N 104 (w : Int) (h : Int) (s : Int) f) (((k + 1 : Nat) : Int) - 1) = some (dstF (N 49) (N 50) (N 51) (N 48 11) k (((w * 48 + h) * 4 + s : Nat) : Int)) := by
      unfold M_portionsOf_J68
      rw [xl_eq, w32_of (x := ((k + 1 : Nat) : Int) - 1 + -1) (by omega) (by omega), show ((k + 1 : Nat) : Int) - 1 + -1 = (k : Int) - 1 by omega]
      exact ih f (by omega) (by omega)
    rw [M_portionsOf_F8, if_neg (by omega), xch_pos (by omega), r63, r64, r65, r66, r67, show (((k + 1 : Nat) : Int) - 1).toNat = k by omega, ha, J]
    rw [dst_st]
    by_cases z : N 51 k ≤ N 48 11 ∧ N 49 k = (((w * 48 + h) * 4 + s : Nat) : Int)
    · rw [if_pos z, if_pos (by omega), if_pos (by omega), if_pos (by omega), if_neg (by omega), a5]
    · rw [if_neg z]
      by_cases y1 : N 144 k = (w : Int)
      · rw [if_pos y1]
        by_cases y2 : N 145 k = (h : Int)
        · rw [if_pos y2]
          by_cases y3 : N 146 k = (s : Int)
          · rw [if_pos y3, if_pos (by omega)]
          · rw [if_neg y3]
        · rw [if_neg y2]
      · rw [if_neg y1]
theorem portions_eq {R : xR} {pn ps ln ls : Nat} (hR : RG R pn ps ln ls) {N : xM} (hB : BcOK N) (hr : RowOK N) {w h s : Nat} (hw : w < 4) (hh : h < 48) (hs : s < 4) : f_M_portionsOf R 104 (w : Int) (h : Int) (s : Int) N = some (dstF (N 49) (N 50) (N 51) (N 48 11) (N 48 0).toNat (((w * 48 + h) * 4 + s : Nat) : Int)) := by
  have b1 := hB.1
  have e := portions_F8 hR hB hr hw hh hs (N 48 0).toNat xfu (by have : xfu = 1000000 := rfl; omega) (by omega)
  unfold f_M_portionsOf
  rw [xl_eq, b1.2.2, w32_of (x := N 48 0 - 1) (by omega) (by omega)]
  rw [show ((N 48 0).toNat : Int) = N 48 0 by omega] at e
  exact e
theorem isKn_F2 {R : xR} {pn ps ln ls : Nat} (hR : RG R pn ps ln ls) {p : Nat} {N : xM} (hB : BcOK N) (he : EvOK p N) {c h : Int} (Q : Option Int) : ∀ (k f v : Nat), k < f → v + k = (N 48 4).toNat → ((∃ e, v ≤ e ∧ e < (N 48 4).toNat ∧ knM N c h e) → M_isKnocked_F2 R N 104 c h Q f (v : Int) = some 1) ∧ ((¬ ∃ e, v ≤ e ∧ e < (N 48 4).toNat ∧ knM N c h e) → M_isKnocked_F2 R N 104 c h Q f (v : Int) = Q) := by
  have r68 : R 104 68 = 149 := hR.ev (k := 5) (by decide)
  have r69 : R 104 69 = 150 := hR.ev (k := 6) (by decide)
  have r70 : R 104 70 = 151 := hR.ev (k := 7) (by decide)
  have r72 : R 104 72 = 153 := hR.ev (k := 9) (by decide)
  have ha : N 104 62 = N 48 11 := hB.2.2.2.2.2
  have hn : N 104 60 = N 48 4 := hB.2.1.2.2
  have b2 := hB.2.1
  intro k
  induction k with
  | zero =>
    intro f v hf hv
    obtain ⟨f, rfl⟩ : ∃ g, f = g + 1 := ⟨f - 1, by omega⟩
    rw [M_isKnocked_F2, hn, if_neg (by omega)]
    exact ⟨fun ⟨e, h1, h2, _⟩ => by omega, fun _ => rfl⟩
  | succ k ih =>
    intro f v hf hv
    obtain ⟨f, rfl⟩ : ∃ g, f = g + 1 := ⟨f - 1, by omega⟩
    obtain ⟨⟨a1, a2, a3, a4⟩, -⟩ := he v (by omega)
    have hi := ih f (v + 1) (by omega) (by omega)
    have J : M_isKnocked_J54 R N 104 c h (M_isKnocked_F2 R N 104 c h Q f) Q (v : Int) = M_isKnocked_F2 R N 104 c h Q f ((v + 1 : Nat) : Int) := by
      unfold M_isKnocked_J54
      rw [xl_eq, w32_of (x := (v : Int) + 1) (by omega) (by omega)]
      rfl
    rw [M_isKnocked_F2, hn, if_pos (by omega), xch_pos (by omega), r68, r69, r70, r72, Int.toNat_natCast, ha, J, a1, a2, a3, a4]
    by_cases z : knM N c h v
    · obtain ⟨z1, z2, z3, z4⟩ := z
      rw [if_pos z1, if_pos z2, if_pos z3, if_neg (by omega)]
      exact ⟨fun _ => rfl, fun y => absurd ⟨v, by omega, by omega, ⟨z1, z2, z3, z4⟩⟩ y⟩
    · have eq : (if N 52 v = 0 then if N 53 v = c then if N 54 v = h then if N 48 11 < N 56 v then M_isKnocked_F2 R N 104 c h Q f ((v + 1 : Nat) : Int) else some 1 else M_isKnocked_F2 R N 104 c h Q f ((v + 1 : Nat) : Int) else M_isKnocked_F2 R N 104 c h Q f ((v + 1 : Nat) : Int) else M_isKnocked_F2 R N 104 c h Q f ((v + 1 : Nat) : Int)) = M_isKnocked_F2 R N 104 c h Q f ((v + 1 : Nat) : Int) := by
        by_cases y1 : N 52 v = 0
        · rw [if_pos y1]
          by_cases y2 : N 53 v = c
          · rw [if_pos y2]
            by_cases y3 : N 54 v = h
            · rw [if_pos y3]
              by_cases y4 : N 48 11 < N 56 v
              · rw [if_pos y4]
              · exact absurd ⟨y1, y2, y3, by omega⟩ z
            · rw [if_neg y3]
          · rw [if_neg y2]
        · rw [if_neg y1]
      rw [eq]
      have ex : (∃ e, v ≤ e ∧ e < (N 48 4).toNat ∧ knM N c h e) ↔ ∃ e, v + 1 ≤ e ∧ e < (N 48 4).toNat ∧ knM N c h e := by
        refine ⟨fun ⟨e, h1, h2, h3⟩ => ⟨e, ?_, h2, h3⟩, fun ⟨e, h1, h2, h3⟩ => ⟨e, by omega, h2, h3⟩⟩
        have : e ≠ v := fun q => z (q ▸ h3)
        omega
      rw [ex]
      exact hi
theorem isOff_F2 {R : xR} {pn ps ln ls : Nat} (hR : RG R pn ps ln ls) {p : Nat} {N : xM} (hB : BcOK N) (he : EvOK p N) {c h : Int} : ∀ (k f v : Nat), k < f → v + k = (N 48 4).toNat → ((∃ e, v ≤ e ∧ e < (N 48 4).toNat ∧ ofM N c h e) → M_isOff_F2 R N 104 c h f (v : Int) = some 1) ∧ ((¬ ∃ e, v ≤ e ∧ e < (N 48 4).toNat ∧ ofM N c h e) → M_isOff_F2 R N 104 c h f (v : Int) = some 0) := by
  have r68 : R 104 68 = 149 := hR.ev (k := 5) (by decide)
  have r69 : R 104 69 = 150 := hR.ev (k := 6) (by decide)
  have r70 : R 104 70 = 151 := hR.ev (k := 7) (by decide)
  have r71 : R 104 71 = 152 := hR.ev (k := 8) (by decide)
  have r72 : R 104 72 = 153 := hR.ev (k := 9) (by decide)
  have ha : N 104 62 = N 48 11 := hB.2.2.2.2.2
  have hn : N 104 60 = N 48 4 := hB.2.1.2.2
  have b2 := hB.2.1
  intro k
  induction k with
  | zero =>
    intro f v hf hv
    obtain ⟨f, rfl⟩ : ∃ g, f = g + 1 := ⟨f - 1, by omega⟩
    rw [M_isOff_F2, hn, if_neg (by omega)]
    exact ⟨fun ⟨e, h1, h2, _⟩ => by omega, fun _ => rfl⟩
  | succ k ih =>
    intro f v hf hv
    obtain ⟨f, rfl⟩ : ∃ g, f = g + 1 := ⟨f - 1, by omega⟩
    obtain ⟨⟨a1, a2, a3, a4⟩, -, -, a5⟩ := he v (by omega)
    have hi := ih f (v + 1) (by omega) (by omega)
    have J : M_isOff_J65 R N 104 c h (M_isOff_F2 R N 104 c h f) (v : Int) = M_isOff_F2 R N 104 c h f ((v + 1 : Nat) : Int) := by
      unfold M_isOff_J65
      rw [xl_eq, w32_of (x := (v : Int) + 1) (by omega) (by omega)]
      rfl
    rw [M_isOff_F2, hn, if_pos (by omega), xch_pos (by omega), r68, r69, r70, r71, r72, Int.toNat_natCast, ha, J, a1, a2, a3, a4]
    by_cases z : ofM N c h v
    · obtain ⟨z1, z2, z3, z4, z5⟩ := z
      rw [if_pos z1, if_pos z2, if_neg (by omega), if_neg (by omega), if_neg (by omega)]
      exact ⟨fun _ => rfl, fun y => absurd ⟨v, by omega, by omega, ⟨z1, z2, z3, z4, z5⟩⟩ y⟩
    · have eq : (if N 52 v = 2 then if N 53 v = c then if h < N 54 v then M_isOff_F2 R N 104 c h f ((v + 1 : Nat) : Int) else if N 152 v < h then M_isOff_F2 R N 104 c h f ((v + 1 : Nat) : Int) else if N 48 11 < N 56 v then M_isOff_F2 R N 104 c h f ((v + 1 : Nat) : Int) else some 1 else M_isOff_F2 R N 104 c h f ((v + 1 : Nat) : Int) else M_isOff_F2 R N 104 c h f ((v + 1 : Nat) : Int)) = M_isOff_F2 R N 104 c h f ((v + 1 : Nat) : Int) := by
        by_cases y1 : N 52 v = 2
        · rw [if_pos y1]
          by_cases y2 : N 53 v = c
          · rw [if_pos y2]
            by_cases y3 : h < N 54 v
            · rw [if_pos y3]
            · rw [if_neg y3]
              by_cases y4 : N 152 v < h
              · rw [if_pos y4]
              · rw [if_neg y4]
                by_cases y5 : N 48 11 < N 56 v
                · rw [if_pos y5]
                · exact absurd ⟨y1, y2, by omega, by omega, by omega⟩ z
          · rw [if_neg y2]
        · rw [if_neg y1]
      rw [eq]
      have ex : (∃ e, v ≤ e ∧ e < (N 48 4).toNat ∧ ofM N c h e) ↔ ∃ e, v + 1 ≤ e ∧ e < (N 48 4).toNat ∧ ofM N c h e := by
        refine ⟨fun ⟨e, h1, h2, h3⟩ => ⟨e, ?_, h2, h3⟩, fun ⟨e, h1, h2, h3⟩ => ⟨e, by omega, h2, h3⟩⟩
        have : e ≠ v := fun q => z (q ▸ h3)
        omega
      rw [ex]
      exact hi
theorem hoF_in {p : Nat} {N : xM} (he : EvOK p N) {c h : Int} : ∀ k : Nat, (k : Int) ≤ N 48 4 → 0 ≤ hoF N c h k ∧ hoF N c h k ≤ 100 * k := by
  intro k
  induction k with
  | zero => intro _; exact ⟨Int.le_refl 0, Int.le_refl 0⟩
  | succ k ih =>
    intro hk
    have a := ih (by omega)
    obtain ⟨-, -, -, a5⟩ := he k (by omega)
    unfold hoF
    by_cases z : N 52 k = 1 ∧ N 53 k = c ∧ N 54 k ≤ h ∧ N 56 k ≤ N 48 11
    · rw [if_pos z]
      omega
    · rw [if_neg z]
      omega
theorem holes_F28 {R : xR} {pn ps ln ls : Nat} (hR : RG R pn ps ln ls) {p : Nat} {N : xM} (hB : BcOK N) (he : EvOK p N) {c h : Int} : ∀ (k f v : Nat) (x : Int), k < f → v + k = (N 48 4).toNat → 0 ≤ x → x ≤ 1000 + 100 * v → M_holesOf_F28 R N 104 c h f x (v : Int) = some (x + (hoF N c h (N 48 4).toNat - hoF N c h v)) := by
  have r68 : R 104 68 = 149 := hR.ev (k := 5) (by decide)
  have r69 : R 104 69 = 150 := hR.ev (k := 6) (by decide)
  have r70 : R 104 70 = 151 := hR.ev (k := 7) (by decide)
  have r71 : R 104 71 = 152 := hR.ev (k := 8) (by decide)
  have r72 : R 104 72 = 153 := hR.ev (k := 9) (by decide)
  have ha : N 104 62 = N 48 11 := hB.2.2.2.2.2
  have hn : N 104 60 = N 48 4 := hB.2.1.2.2
  have b2 := hB.2.1
  intro k
  induction k with
  | zero =>
    intro f v x hf hv _ _
    obtain ⟨f, rfl⟩ : ∃ g, f = g + 1 := ⟨f - 1, by omega⟩
    have e : v = (N 48 4).toNat := by omega
    rw [M_holesOf_F28, hn, if_neg (by omega), e, Int.sub_self, Int.add_zero]
  | succ k ih =>
    intro f v x hf hv x0 x1
    obtain ⟨f, rfl⟩ : ∃ g, f = g + 1 := ⟨f - 1, by omega⟩
    obtain ⟨⟨a1, a2, a3, a4⟩, -, -, a5⟩ := he v (by omega)
    have J : ∀ y, M_holesOf_J94 R N 104 c h (M_holesOf_F28 R N 104 c h f) y (v : Int) = M_holesOf_F28 R N 104 c h f y ((v + 1 : Nat) : Int) := by
      intro y
      unfold M_holesOf_J94
      rw [xl_eq, w32_of (x := (v : Int) + 1) (by omega) (by omega)]
      rfl
    have st : hoF N c h (v + 1) = hoF N c h v + (if N 52 v = 1 ∧ N 53 v = c ∧ N 54 v ≤ h ∧ N 56 v ≤ N 48 11 then N 55 v else 0) := rfl
    rw [M_holesOf_F28, hn, if_pos (by omega), xch_pos (by omega), r68, r69, r70, r71, r72, Int.toNat_natCast, ha, xl_eq, J, J, a1, a2, a3, a4]
    by_cases z : N 52 v = 1 ∧ N 53 v = c ∧ N 54 v ≤ h ∧ N 56 v ≤ N 48 11
    · rw [if_pos z] at st
      rw [if_pos z.1, if_pos z.2.1, if_neg (by omega), if_neg (by omega), w32_of (x := x + N 152 v) (by omega) (by omega), ih f (v + 1) _ (by omega) (by omega) (by omega) (by omega), st]
      exact congrArg some (by omega)
    · rw [if_neg z, Int.add_zero] at st
      have eq : (if N 52 v = 1 then if N 53 v = c then if h < N 54 v then M_holesOf_F28 R N 104 c h f x ((v + 1 : Nat) : Int) else if N 48 11 < N 56 v then M_holesOf_F28 R N 104 c h f x ((v + 1 : Nat) : Int) else M_holesOf_F28 R N 104 c h f (w32 (x + N 152 v)) ((v + 1 : Nat) : Int) else M_holesOf_F28 R N 104 c h f x ((v + 1 : Nat) : Int) else M_holesOf_F28 R N 104 c h f x ((v + 1 : Nat) : Int)) = M_holesOf_F28 R N 104 c h f x ((v + 1 : Nat) : Int) := by
        by_cases y1 : N 52 v = 1
        · rw [if_pos y1]
          by_cases y2 : N 53 v = c
          · rw [if_pos y2]
            by_cases y3 : h < N 54 v
            · rw [if_pos y3]
            · rw [if_neg y3]
              by_cases y5 : N 48 11 < N 56 v
              · rw [if_pos y5]
              · exact absurd ⟨y1, y2, by omega, by omega⟩ z
          · rw [if_neg y2]
        · rw [if_neg y1]
      rw [eq, ih f (v + 1) _ (by omega) (by omega) x0 (by omega), st]
