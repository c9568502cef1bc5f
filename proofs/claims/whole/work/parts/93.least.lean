/-! ===== knocks: the best set ===== -/
noncomputable def xkP (c0 : Nat) (P : Nat → Prop) : Nat → Int := fun i => @ite _ (i / 48 = c0 ∧ P (i % 48)) (Classical.propDecidable _) 1 0
theorem xkS_P {c0 u : Nat} {P : Nat → Prop} (h : ∀ h, u.testBit h = true ↔ P h) : xkS c0 u = xkP c0 P := by
  funext i
  unfold xkS xkP
  by_cases z : i / 48 = c0 ∧ u.testBit (i % 48) = true
  · rw [if_pos z, if_pos ⟨z.1, (h _).1 z.2⟩]
  · rw [if_neg z, if_neg (fun q => z ⟨q.1, (h _).2 q.2⟩)]
/-- what goes up by hour T with the set v knocked -/
noncomputable def upK (pn c0 T m : Nat) (hr : Nat → Int) (M : xM) (v : Nat) : Int := tU (wld pn M (xkP c0 (inSet hr m v)) z0) (T + 1)
def kst (U : Nat → Int) (n : Int) (s : Int × Int × Int) (v : Nat) : Int × Int × Int := if bcn v ≤ n ∧ (s.1 = -1 ∨ U v < s.2.1 ∨ (U v = s.2.1 ∧ bcn v < s.2.2)) then ((v : Int), U v, bcn v) else s
def kfd (U : Nat → Int) (n : Int) : Nat → Nat → Int × Int × Int → Int × Int × Int
  | 0, _, s => s
  | k + 1, v, s => kfd U n k (v + 1) (kst U n s v)
theorem upK_nn {pn c0 T m : Nat} {hr : Nat → Int} {M : xM} (hW : WB pn M) (hT : T < 48) {u v : Nat} (hu : ∀ h, u.testBit h = true ↔ inSet hr m v h) : 0 ≤ upK pn c0 T m hr M v ∧ upK pn c0 T m hr M v ≤ 400000000 := by
  have q := tU_in (W := wld pn M (xkS c0 u) z0) (T + 1) (by omega) (fun j hj => WH_kn hW c0 u (by omega))
  unfold upK
  rw [← xkS_P hu]
  omega
theorem least_F9 {R : xR} {pn ps ln ls : Nat} (hR : RG R pn ps ln ls) {c0 m T : Nat} {n : Int} (hm : m ≤ 6) (hT : T < 48) : ∀ (k f v : Nat) (s : Int × Int × Int) (M : xM), k < f → v + k = 2 ^ m → WB pn M → GaOK M → M 78 10 = (m : Int) → (∀ j, j < m → 0 ≤ M 92 j ∧ M 92 j < 48) → (s.1 = -1 ∨ 0 ≤ s.2.1) → (s.1 ≠ -1 → M 78 11 = s.1) →
    ∃ M', H_leastUp_F9 R 78 pn 48 (c0 : Int) n (T : Int) f (if s.1 = -1 then -1 else s.2.1) s.2.2 (v : Int) M = some ((if (kfd (upK pn c0 T m (M 92) M) n k v s).1 = -1 then -1 else (kfd (upK pn c0 T m (M 92) M) n k v s).2.1), M') ∧ (∀ x, x < 78 ∨ 91 ≤ x → M' x = M x) ∧ (∀ j, j ≠ 11 → M' 78 j = M 78 j) ∧ ((kfd (upK pn c0 T m (M 92) M) n k v s).1 ≠ -1 → M' 78 11 = (kfd (upK pn c0 T m (M 92) M) n k v s).1) := by
  have hpn := hR.pnn
  have hpow : 2 ^ m ≤ 64 := Nat.le_trans (Nat.pow_le_pow_right (by decide) hm) (by decide)
  intro k
  induction k with
  | zero =>
    intro f v s M hf hv _ _ h10 _ _ h11
    obtain ⟨f, rfl⟩ : ∃ g, f = g + 1 := ⟨f - 1, by omega⟩
    refine ⟨M, ?_, fun _ _ => rfl, fun _ _ => rfl, h11⟩
    rw [H_leastUp_F9, h10, xshl_pow m hm, if_neg (by omega)]
    rfl
  | succ k ih =>
    intro f v s M hf hv hW hG h10 hr hs h11
    obtain ⟨f, rfl⟩ : ∃ g, f = g + 1 := ⟨f - 1, by omega⟩
    have hv64 : v < 64 := by omega
    have J : ∀ a b X, H_leastUp_J88 R 78 pn 48 (c0 : Int) n (T : Int) (H_leastUp_F9 R 78 pn 48 (c0 : Int) n (T : Int) f) a b (v : Int) X = H_leastUp_F9 R 78 pn 48 (c0 : Int) n (T : Int) f a b ((v + 1 : Nat) : Int) X := by
      intro a b X
      unfold H_leastUp_J88
      rw [xl_eq, w32_of (x := (v : Int) + 1) (by omega) (by omega)]
      rfl
    obtain ⟨U, hU⟩ : ∃ U, U = upK pn c0 T m (M 92) M := ⟨_, rfl⟩
    rw [← hU]
    have go : ∀ (s' : Int × Int × Int) (X : xM), kst U n s v = s' → (∀ x, x < 78 ∨ 91 ≤ x → X x = M x) → (∀ j, j ≠ 11 → X 78 j = M 78 j) → (s'.1 = -1 ∨ 0 ≤ s'.2.1) → (s'.1 ≠ -1 → X 78 11 = s'.1) → ∃ M', H_leastUp_F9 R 78 pn 48 (c0 : Int) n (T : Int) f (if s'.1 = -1 then -1 else s'.2.1) s'.2.2 ((v + 1 : Nat) : Int) X = some ((if (kfd U n (k + 1) v s).1 = -1 then -1 else (kfd U n (k + 1) v s).2.1), M') ∧ (∀ x, x < 78 ∨ 91 ≤ x → M' x = M x) ∧ (∀ j, j ≠ 11 → M' 78 j = M 78 j) ∧ ((kfd U n (k + 1) v s).1 ≠ -1 → M' 78 11 = (kfd U n (k + 1) v s).1) := by
      intro s' X e hX hX8 hs' h11'
      have wX : WB pn X := hW.of (by omega) (fun x hx _ _ => hX x (by omega)) (fun k _ => by rw [hX 48 (by decide)]) (fun x h1 _ => hX x (by omega)) (fun k _ _ => by rw [hX 104 (by decide)]) (by omega)
      have gX : GaOK X := hG.of (fun x _ hx => hX x (by omega)) (fun k _ => by rw [hX 48 (by decide)])
      have x92 : X 92 = M 92 := hX 92 (by decide)
      have eU : upK pn c0 T m (X 92) X = U := by
        rw [hU, x92]
        funext y
        unfold upK
        rw [wld_cg (fun k hk => hX _ (by omega)) (fun x _ hx => hX x (by omega)) (fun k _ => by rw [hX 48 (by decide)])]
      obtain ⟨M', m1, m2, m3, m4⟩ := ih f (v + 1) s' X (by omega) (by omega) wX gX (by rw [hX8 10 (by decide)]; exact h10) (by rw [x92]; exact hr) hs' h11'
      rw [eU] at m1 m4
      have er : kfd U n (k + 1) v s = kfd U n k (v + 1) s' := by
        show kfd U n k (v + 1) (kst U n s v) = _
        rw [e]
      rw [er]
      exact ⟨M', m1, fun x hx => (m2 x hx).trans (hX x hx), fun j hj => (m3 j hj).trans (hX8 j hj), m4⟩
    rw [H_leastUp_F9, h10, xshl_pow m hm, if_pos (by omega), bitCount_eq v hv64, xb1_some]
    by_cases z : n < bcn v
    · rw [if_pos z, J]
      refine go s M ?_ (fun _ _ => rfl) (fun _ _ => rfl) hs h11
      unfold kst
      rw [if_neg (fun q => by have := q.1; omega)]
    · rw [if_neg z]
      obtain ⟨u, N, u1, u2, u3, u4⟩ := upT_eq hR (c0 := c0) hm hv64 hT hW hG h10 hr
      have eV : tU (wld pn M (xkS c0 u) z0) (T + 1) = U v := by rw [hU]; unfold upK; rw [xkS_P u2]
      rw [u3, xb2_some, eV, J]
      have hUb : 0 ≤ U v := by rw [hU]; exact (upK_nn hW hT u2).1
      have n78 : N 78 = M 78 := u4 78 (Or.inl (by decide))
      have nO : ∀ x, x < 78 ∨ 91 ≤ x → N x = M x := fun x hx => u4 x (by omega)
      have take : (s.1 = -1 ∨ U v < s.2.1 ∨ (U v = s.2.1 ∧ bcn v < s.2.2)) → ∃ M', H_leastUp_J74 R 78 pn 48 (c0 : Int) n (T : Int) (H_leastUp_F9 R 78 pn 48 (c0 : Int) n (T : Int) f) (v : Int) (bcn v) (U v) N = some ((if (kfd U n (k + 1) v s).1 = -1 then -1 else (kfd U n (k + 1) v s).2.1), M') ∧ (∀ x, x < 78 ∨ 91 ≤ x → M' x = M x) ∧ (∀ j, j ≠ 11 → M' 78 j = M 78 j) ∧ ((kfd U n (k + 1) v s).1 ≠ -1 → M' 78 11 = (kfd U n (k + 1) v s).1) := by
        intro hc
        obtain ⟨M', m1, m2⟩ := go ((v : Int), U v, bcn v) (xu N 78 11 (v : Int)) (by unfold kst; rw [if_pos ⟨by omega, hc⟩]) (fun x hx => by rw [xu_cell _ _ _ (by omega), nO x hx]) (fun j hj => by rw [xu_at, if_neg hj, n78]) (Or.inr hUb) (fun _ => by rw [xu_at, if_pos rfl])
        refine ⟨M', ?_, m2⟩
        unfold H_leastUp_J74
        rw [xl_eq, J]
        have e1 : (if ((v : Int), U v, bcn v).1 = -1 then (-1 : Int) else ((v : Int), U v, bcn v).2.1) = U v := if_neg (by show ¬ (v : Int) = -1; omega)
        rw [e1] at m1
        exact m1
      have skip : ¬ (s.1 = -1 ∨ U v < s.2.1 ∨ (U v = s.2.1 ∧ bcn v < s.2.2)) → ∃ M', H_leastUp_F9 R 78 pn 48 (c0 : Int) n (T : Int) f (if s.1 = -1 then -1 else s.2.1) s.2.2 ((v + 1 : Nat) : Int) N = some ((if (kfd U n (k + 1) v s).1 = -1 then -1 else (kfd U n (k + 1) v s).2.1), M') ∧ (∀ x, x < 78 ∨ 91 ≤ x → M' x = M x) ∧ (∀ j, j ≠ 11 → M' 78 j = M 78 j) ∧ ((kfd U n (k + 1) v s).1 ≠ -1 → M' 78 11 = (kfd U n (k + 1) v s).1) := by
        intro hc
        exact go s N (by unfold kst; rw [if_neg (fun q => hc q.2)]) nO (fun j _ => by rw [n78]) hs (by rw [n78]; exact h11)
      by_cases y : s.1 = -1
      · rw [if_pos y, if_pos rfl]
        exact take (Or.inl y)
      · rw [if_neg y]
        have s0 : 0 ≤ s.2.1 := hs.elim (fun q => absurd q y) id
        rw [if_neg (by omega)]
        by_cases y2 : U v < s.2.1
        · rw [if_pos y2]
          exact take (Or.inr (Or.inl y2))
        · rw [if_neg y2]
          have sk := skip
          rw [if_neg y] at sk
          by_cases y3 : U v = s.2.1
          · rw [if_pos y3]
            by_cases y4 : bcn v < s.2.2
            · rw [if_pos y4]
              exact take (Or.inr (Or.inr ⟨y3, y4⟩))
            · rw [if_neg y4]
              exact sk (fun q => by omega)
          · rw [if_neg y3]
            exact sk (fun q => by omega)
