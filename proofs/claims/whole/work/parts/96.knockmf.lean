theorem ex_u {hr : Nat → Int} {m : Nat} (v : Nat) (hb : ∀ j, j < m → 0 ≤ hr j ∧ hr j < 48) : ∀ j, j ≤ m → ∃ u : Nat, u < 2 ^ 48 ∧ ∀ h, u.testBit h = true ↔ inSet hr j v h := by
  intro j
  induction j with
  | zero => intro _; exact ⟨0, by decide, fun h => by rw [Nat.zero_testBit]; exact ⟨fun q => absurd q (by decide), fun ⟨j, h1, _⟩ => by omega⟩⟩
  | succ j ih =>
    intro hj
    obtain ⟨u, u1, u2⟩ := ih (by omega)
    have hbj := hb j (by omega)
    by_cases z : v.testBit j = true
    · obtain ⟨w, w1, -, w3⟩ := yset u1 (show (hr j).toNat < 48 by omega)
      refine ⟨w, w1, fun h => ?_⟩
      rw [w3, u2]
      constructor
      · rintro (⟨i, i1, i2, i3⟩ | y)
        · exact ⟨i, by omega, i2, i3⟩
        · exact ⟨j, by omega, z, by omega⟩
      · rintro ⟨i, i1, i2, i3⟩
        by_cases y : i = j
        · rw [y] at i3
          exact Or.inr (by omega)
        · exact Or.inl ⟨i, by omega, i2, i3⟩
    · refine ⟨u, u1, fun h => ?_⟩
      rw [u2]
      constructor
      · rintro ⟨i, i1, i2, i3⟩
        exact ⟨i, by omega, i2, i3⟩
      · rintro ⟨i, i1, i2, i3⟩
        have : i ≠ j := fun q => z (q ▸ i2)
        exact ⟨i, by omega, i2, i3⟩
/-- what the search for the best set changes in the model -/
def FrK (M N : xM) : Prop := (∀ x, (x < 155 ∧ x ≠ 104) ∨ 165 ≤ x → N x = M x) ∧ ∀ k, k ≠ 78 → N 104 k = M 104 k
theorem FrK.wb {p : Nat} (hp : p + 11 < 48) (hp1 : 2 ≤ p) {M N : xM} (h : FrK M N) (q : WB p M) : WB p N := by
  refine ⟨?_, ?_, ?_, ?_, ?_⟩
  all_goals
    have e : ∀ x, x < 155 → x ≠ 104 → N x = M x := fun x h1 h2 => h.1 x (Or.inl ⟨h1, h2⟩)
    have f : ∀ k, k < 78 → N 104 k = M 104 k := fun k hk => h.2 k (by omega)
  · have a : ∀ k, k < 12 → N (p + k) = M (p + k) := fun k hk => e _ (by omega) (by omega)
    have a0 : N p = M p := a 0 (by decide)
    unfold PlOK ClOK
    simp only [a0, a 3 (by decide), a 4 (by decide), a 5 (by decide), a 6 (by decide), a 8 (by decide), a 9 (by decide), a 10 (by decide), a 11 (by decide), f 30 (by decide), f 31 (by decide), e 121 (by decide) (by decide), e 122 (by decide) (by decide), e 123 (by decide) (by decide), e 124 (by decide) (by decide), e 125 (by decide) (by decide), e 126 (by decide) (by decide), e 127 (by decide) (by decide), e 128 (by decide) (by decide)]
    exact q.1
  · unfold BcOK
    rw [e 48 (by decide) (by decide), f 59 (by decide), f 60 (by decide), f 61 (by decide), f 62 (by decide)]
    exact q.2.1
  · unfold RowOK
    rw [e 48 (by decide) (by decide), e 144 (by decide) (by decide), e 145 (by decide) (by decide), e 146 (by decide) (by decide), e 147 (by decide) (by decide), e 148 (by decide) (by decide), e 49 (by decide) (by decide), e 50 (by decide) (by decide), e 51 (by decide) (by decide)]
    exact q.2.2.1
  · unfold EvOK
    rw [e 48 (by decide) (by decide), e 149 (by decide) (by decide), e 150 (by decide) (by decide), e 151 (by decide) (by decide), e 152 (by decide) (by decide), e 153 (by decide) (by decide), e 52 (by decide) (by decide), e 53 (by decide) (by decide), e 54 (by decide) (by decide), e 55 (by decide) (by decide), e 56 (by decide) (by decide), e p (by omega) (by omega), e (p + 3) (by omega) (by omega)]
    exact q.2.2.2.1
  · rw [e 154 (by decide) (by decide), e 57 (by decide) (by decide)]
    exact q.2.2.2.2
theorem FrK.wl {p : Nat} (hp : p + 11 < 48) {M N : xM} {xk xh : Nat → Int} (h : FrK M N) : wld p N xk xh = wld p M xk xh := wld_cg (fun k hk => h.1 _ (by omega)) (fun x _ hx => h.1 x (by omega)) (fun k _ => by rw [h.1 48 (by decide)])
theorem FrK.trans {M N P : xM} (h : FrK M N) (k : FrK N P) : FrK M P := ⟨fun x hx => (k.1 x hx).trans (h.1 x hx), fun j hj => (k.2 j hj).trans (h.2 j hj)⟩
theorem knocks_F203 {R : xR} {pn ps ln ls : Nat} (hR : RG R pn ps ln ls) {c0 m T t : Nat} {n : Int} (ht : t < 4) (hm : m ≤ 6) (hT : T < 48) {hr : Nat → Int} (hb : ∀ j, j < m → 0 ≤ hr j ∧ hr j < 48) (Q : Int → Int → xM → Option (Int × xM)) : ∀ (k f v : Nat) (s : Int × Int × Int) (M : xM), k < f → v + k = 2 ^ m → WB pn M → M 104 74 = -1 → M 104 77 = (c0 : Int) → (∀ j, j < m → M 107 (60 * t + j) = hr j) → (s.1 = -1 ∨ ∃ b : Nat, b < 64 ∧ s.1 = (b : Int) ∧ s.2.2 = bcn b) →
    ∃ M', M_knocks_F203 R 104 (t : Int) (m : Int) n (T : Int) Q f s.1 s.2.1 (v : Int) M = Q (kfd (upK pn c0 T m hr M) n k v s).1 (kfd (upK pn c0 T m hr M) n k v s).2.1 M' ∧ FrK M M' := by
  have hpn := hR.pnn
  have hp48 : pn + 11 < 48 := by omega
  have hp2 : 2 ≤ pn := by omega
  have hpow : 2 ^ m ≤ 64 := Nat.le_trans (Nat.pow_le_pow_right (by decide) hm) (by decide)
  intro k
  induction k with
  | zero =>
    intro f v s M hf hv _ _ _ _ _
    obtain ⟨f, rfl⟩ : ∃ g, f = g + 1 := ⟨f - 1, by omega⟩
    refine ⟨M, ?_, ⟨fun _ _ => rfl, fun _ _ => rfl⟩⟩
    rw [M_knocks_F203, xshl_pow m hm, if_neg (by omega)]
    rfl
  | succ k ih =>
    intro f v s M hf hv hW h74 h77 h7 hs
    obtain ⟨f, rfl⟩ : ∃ g, f = g + 1 := ⟨f - 1, by omega⟩
    have hv64 : v < 64 := by omega
    have J : ∀ a b X, M_knocks_J369 R 104 (t : Int) (m : Int) n (T : Int) (M_knocks_F203 R 104 (t : Int) (m : Int) n (T : Int) Q f) Q a b (v : Int) X = M_knocks_F203 R 104 (t : Int) (m : Int) n (T : Int) Q f a b ((v + 1 : Nat) : Int) X := by
      intro a b X
      unfold M_knocks_J369
      rw [xl_eq, w32_of (x := (v : Int) + 1) (by omega) (by omega)]
      rfl
    have J2 : ∀ b X, M_knocks_J361 R 104 (t : Int) (m : Int) n (T : Int) (M_knocks_F203 R 104 (t : Int) (m : Int) n (T : Int) Q f) Q (v : Int) b X = M_knocks_F203 R 104 (t : Int) (m : Int) n (T : Int) Q f (v : Int) b ((v + 1 : Nat) : Int) X := by
      intro b X
      unfold M_knocks_J361
      rw [J]
    obtain ⟨U, hU⟩ : ∃ U, U = upK pn c0 T m hr M := ⟨_, rfl⟩
    rw [← hU]
    have go : ∀ (s' : Int × Int × Int) (X : xM), kst U n s v = s' → FrK M X → (s'.1 = -1 ∨ ∃ b : Nat, b < 64 ∧ s'.1 = (b : Int) ∧ s'.2.2 = bcn b) → ∃ M', M_knocks_F203 R 104 (t : Int) (m : Int) n (T : Int) Q f s'.1 s'.2.1 ((v + 1 : Nat) : Int) X = Q (kfd U n (k + 1) v s).1 (kfd U n (k + 1) v s).2.1 M' ∧ FrK M M' := by
      intro s' X e hX hs'
      have eU : upK pn c0 T m hr X = U := by
        rw [hU]
        funext y
        unfold upK
        rw [hX.wl hp48]
      obtain ⟨M', m1, m2⟩ := ih f (v + 1) s' X (by omega) (by omega) (hX.wb hp48 hp2 hW) (by rw [hX.2 74 (by decide)]; exact h74) (by rw [hX.2 77 (by decide)]; exact h77) (by rw [hX.1 107 (by decide)]; exact h7) hs'
      rw [eU] at m1
      have er : kfd U n (k + 1) v s = kfd U n k (v + 1) s' := by
        show kfd U n k (v + 1) (kst U n s v) = _
        rw [e]
      rw [er]
      exact ⟨M', m1, hX.trans m2⟩
    rw [M_knocks_F203, xshl_pow m hm, if_pos (by omega), bits_eq v hv64, xb1_some, J]
    by_cases z : n < bcn v
    · rw [if_pos z]
      refine go s M ?_ ⟨fun _ _ => rfl, fun _ _ => rfl⟩ hs
      unfold kst
      rw [if_neg (fun q => by have := q.1; omega)]
    · rw [if_neg z, xl_eq]
      obtain ⟨A, hA⟩ : ∃ A, A = xu M 104 78 0 := ⟨_, rfl⟩
      rw [← hA]
      have fA : FrK M A := ⟨fun x hx => by rw [hA, xu_cell _ _ _ (by omega)], fun k hk => by rw [hA, xu_at, if_neg hk]⟩
      have e0 := knocks_F232 hR ht hm hv64 n (T : Int) s.1 s.2.1 (fun (v6_86 : Int) (v7_87 : Int) (v8_88 : Int) (M_89 : xM) =>
            xb1 (f_M_steps R 104 (T : Int) M_89) fun M_90 =>
            M_knocks_F301 R 104 (t : Int) (m : Int) n (T : Int)
              (fun (v6_97 : Int) (v7_98 : Int) (v8_99 : Int) (v9_100 : Int) (M_101 : xM) =>
                if v6_97 = -1 then
                  M_knocks_J361 R 104 (t : Int) (m : Int) n (T : Int) (M_knocks_F203 R 104 (t : Int) (m : Int) n (T : Int) Q f) Q v8_99 v9_100 M_101
                else
                  if v7_98 < v9_100 then
                    M_knocks_J369 R 104 (t : Int) (m : Int) n (T : Int) (M_knocks_F203 R 104 (t : Int) (m : Int) n (T : Int) Q f) Q v6_97 v7_98 v8_99 M_101
                  else
                    if v9_100 = v7_98 then
                      xb1 (f_M_bits v8_99) fun r_105 =>
                      xb1 (f_M_bits v6_97) fun r_107 =>
                      if r_105 < r_107 then
                        M_knocks_J361 R 104 (t : Int) (m : Int) n (T : Int) (M_knocks_F203 R 104 (t : Int) (m : Int) n (T : Int) Q f) Q v8_99 v9_100 M_101
                      else
                        M_knocks_J369 R 104 (t : Int) (m : Int) n (T : Int) (M_knocks_F203 R 104 (t : Int) (m : Int) n (T : Int) Q f) Q v6_97 v7_98 v8_99 M_101
                    else
                      M_knocks_J361 R 104 (t : Int) (m : Int) n (T : Int) (M_knocks_F203 R 104 (t : Int) (m : Int) n (T : Int) Q f) Q v8_99 v9_100 M_101)
              xfu v6_86 v7_87 v8_88 0 0 M_90) hb m xfu 0 A (by have : xfu = 1000000 := rfl; omega) (by omega) (by rw [fA.1 107 (by decide)]; exact h7) ⟨0, by omega, by rw [hA, xu_at, if_pos rfl]; rfl, fun h => ⟨fun ⟨i, i1, _⟩ => by omega, fun ⟨i, i1, _⟩ => by omega⟩⟩
      obtain ⟨B, b1, b2, b3, b4⟩ := e0
      have fB : FrK M B := ⟨fun x hx => by rw [b2 x (by simp only [List.mem_cons, List.not_mem_nil, or_false, not_or]; omega), fA.1 x hx], fun k hk => by rw [b3 k hk, fA.2 k hk]⟩
      obtain ⟨u, u1, u2⟩ := ex_u v hb m (Nat.le_refl m)
      have wB := fB.wb hp48 hp2 hW
      obtain ⟨C, c1, c2, c3⟩ := ksteps hR wB (by rw [fB.2 74 (by decide)]; exact h74) (by rw [fB.2 77 (by decide)]; exact h77) b4 hm u2 hT
      have fC : FrK M C := ⟨fun x hx => by rw [c2 x (by omega), fB.1 x hx], fun k hk => by rw [c2 104 (by decide), fB.2 k hk]⟩
      have eW : wld pn B (xkS c0 u) z0 = wld pn M (xkS c0 u) z0 := fB.wl hp48
      rw [eW] at c3
      have f3 := knocks_F301 hR hT (W := wld pn M (xkS c0 u) z0) (M := C) (fun j hj => WH_kn hW c0 u hj) c3 (t : Int) (m : Int) n s.1 s.2.1 (v : Int) (fun (v6_97 : Int) (v7_98 : Int) (v8_99 : Int) (v9_100 : Int) (M_101 : xM) =>
                if v6_97 = -1 then
                  M_knocks_J361 R 104 (t : Int) (m : Int) n (T : Int) (M_knocks_F203 R 104 (t : Int) (m : Int) n (T : Int) Q f) Q v8_99 v9_100 M_101
                else
                  if v7_98 < v9_100 then
                    M_knocks_J369 R 104 (t : Int) (m : Int) n (T : Int) (M_knocks_F203 R 104 (t : Int) (m : Int) n (T : Int) Q f) Q v6_97 v7_98 v8_99 M_101
                  else
                    if v9_100 = v7_98 then
                      xb1 (f_M_bits v8_99) fun r_105 =>
                      xb1 (f_M_bits v6_97) fun r_107 =>
                      if r_105 < r_107 then
                        M_knocks_J361 R 104 (t : Int) (m : Int) n (T : Int) (M_knocks_F203 R 104 (t : Int) (m : Int) n (T : Int) Q f) Q v8_99 v9_100 M_101
                      else
                        M_knocks_J369 R 104 (t : Int) (m : Int) n (T : Int) (M_knocks_F203 R 104 (t : Int) (m : Int) n (T : Int) Q f) Q v6_97 v7_98 v8_99 M_101
                    else
                      M_knocks_J361 R 104 (t : Int) (m : Int) n (T : Int) (M_knocks_F203 R 104 (t : Int) (m : Int) n (T : Int) Q f) Q v8_99 v9_100 M_101) (T + 1) xfu 0 (by have : xfu = 1000000 := rfl; omega) (by omega)
      have eV : tU (wld pn M (xkS c0 u) z0) (T + 1) = U v := by rw [hU]; unfold upK; rw [xkS_P u2]
      rw [eV] at f3
      have tot3 : ∃ M', (if s.1 = -1 then M_knocks_F203 R 104 (t : Int) (m : Int) n (T : Int) Q f (v : Int) (U v) ((v + 1 : Nat) : Int) C else if s.2.1 < U v then M_knocks_F203 R 104 (t : Int) (m : Int) n (T : Int) Q f s.1 s.2.1 ((v + 1 : Nat) : Int) C else if U v = s.2.1 then xb1 (f_M_bits (v : Int)) fun r_105 => xb1 (f_M_bits s.1) fun r_107 => if r_105 < r_107 then M_knocks_F203 R 104 (t : Int) (m : Int) n (T : Int) Q f (v : Int) (U v) ((v + 1 : Nat) : Int) C else M_knocks_F203 R 104 (t : Int) (m : Int) n (T : Int) Q f s.1 s.2.1 ((v + 1 : Nat) : Int) C else M_knocks_F203 R 104 (t : Int) (m : Int) n (T : Int) Q f (v : Int) (U v) ((v + 1 : Nat) : Int) C) = Q (kfd U n (k + 1) v s).1 (kfd U n (k + 1) v s).2.1 M' ∧ FrK M M' := by
        have take : (s.1 = -1 ∨ U v < s.2.1 ∨ (U v = s.2.1 ∧ bcn v < s.2.2)) → ∃ M', M_knocks_F203 R 104 (t : Int) (m : Int) n (T : Int) Q f (v : Int) (U v) ((v + 1 : Nat) : Int) C = Q (kfd U n (k + 1) v s).1 (kfd U n (k + 1) v s).2.1 M' ∧ FrK M M' := fun hc => go ((v : Int), U v, bcn v) C (by unfold kst; rw [if_pos ⟨by omega, hc⟩]) fC (Or.inr ⟨v, hv64, rfl, rfl⟩)
        have skip : ¬ (s.1 = -1 ∨ U v < s.2.1 ∨ (U v = s.2.1 ∧ bcn v < s.2.2)) → ∃ M', M_knocks_F203 R 104 (t : Int) (m : Int) n (T : Int) Q f s.1 s.2.1 ((v + 1 : Nat) : Int) C = Q (kfd U n (k + 1) v s).1 (kfd U n (k + 1) v s).2.1 M' ∧ FrK M M' := fun hc => go s C (by unfold kst; rw [if_neg (fun q => hc q.2)]) fC hs
        by_cases y : s.1 = -1
        · rw [if_pos y]
          exact take (Or.inl y)
        · rw [if_neg y]
          obtain ⟨b, hb1, hb2, hb3⟩ := hs.elim (fun q => absurd q y) id
          by_cases y2 : s.2.1 < U v
          · rw [if_pos y2]
            exact skip (fun q => by omega)
          · rw [if_neg y2]
            by_cases y3 : U v = s.2.1
            · have eb : f_M_bits s.1 = some (bcn b) := by rw [hb2]; exact bits_eq b hb1
              rw [if_pos y3, bits_eq v hv64, xb1_some, eb, xb1_some, ← hb3]
              by_cases y4 : bcn v < s.2.2
              · rw [if_pos y4]
                exact take (Or.inr (Or.inr ⟨y3, y4⟩))
              · rw [if_neg y4]
                exact skip (fun q => by omega)
            · rw [if_neg y3]
              exact take (Or.inr (Or.inl (by omega)))
      obtain ⟨M', m1, m2⟩ := tot3
      refine ⟨M', ?_, m2⟩
      rw [show ((0 : Nat) : Int) = 0 from rfl] at b1 f3
      have key : xb1 (f_M_steps R 104 (T : Int) B) (fun M_90 =>
            M_knocks_F301 R 104 (t : Int) (m : Int) n (T : Int)
              (fun (v6_97 : Int) (v7_98 : Int) (v8_99 : Int) (v9_100 : Int) (M_101 : xM) =>
                if v6_97 = -1 then
                  M_knocks_J361 R 104 (t : Int) (m : Int) n (T : Int) (M_knocks_F203 R 104 (t : Int) (m : Int) n (T : Int) Q f) Q v8_99 v9_100 M_101
                else
                  if v7_98 < v9_100 then
                    M_knocks_J369 R 104 (t : Int) (m : Int) n (T : Int) (M_knocks_F203 R 104 (t : Int) (m : Int) n (T : Int) Q f) Q v6_97 v7_98 v8_99 M_101
                  else
                    if v9_100 = v7_98 then
                      xb1 (f_M_bits v8_99) fun r_105 =>
                      xb1 (f_M_bits v6_97) fun r_107 =>
                      if r_105 < r_107 then
                        M_knocks_J361 R 104 (t : Int) (m : Int) n (T : Int) (M_knocks_F203 R 104 (t : Int) (m : Int) n (T : Int) Q f) Q v8_99 v9_100 M_101
                      else
                        M_knocks_J369 R 104 (t : Int) (m : Int) n (T : Int) (M_knocks_F203 R 104 (t : Int) (m : Int) n (T : Int) Q f) Q v6_97 v7_98 v8_99 M_101
                    else
                      M_knocks_J361 R 104 (t : Int) (m : Int) n (T : Int) (M_knocks_F203 R 104 (t : Int) (m : Int) n (T : Int) Q f) Q v8_99 v9_100 M_101)
              xfu s.1 s.2.1 (v : Int) 0 0 M_90) = Q (kfd U n (k + 1) v s).1 (kfd U n (k + 1) v s).2.1 M' := by
        rw [c1, xb1_some]
        refine Eq.trans f3 ?_
        simp only [J, J2]
        exact m1
      exact b1.trans key
