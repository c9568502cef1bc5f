/-! ===== laws ===== -/
theorem lw_F114 {S : xR} (hS : MS S) {c : Nat} (hc : c ≤ 600) (Q : xM → Option (Int × xM)) : ∀ (k f i : Nat) (Y : xM), k < f → i + k = c → Y 104 42 = (c : Int) → ∃ Y', M_laws_F114 S 104 Q f (i : Int) Y = Q Y' ∧ (∀ x, x ≠ 138 → x ≠ 139 → Y' x = Y x) ∧ ∀ j, j < c → Y' 138 j = (if i ≤ j then Y 140 j else Y 138 j) ∧ Y' 139 j = if i ≤ j then Y 141 j else Y 139 j := by
  have s53 : S 104 53 = 138 := hS 53 (by decide) (by decide)
  have s54 : S 104 54 = 139 := hS 54 (by decide) (by decide)
  have s55 : S 104 55 = 140 := hS 55 (by decide) (by decide)
  have s56 : S 104 56 = 141 := hS 56 (by decide) (by decide)
  intro k
  induction k with
  | zero =>
    intro f i Y hf hi h42
    obtain ⟨f, rfl⟩ : ∃ g, f = g + 1 := ⟨f - 1, by omega⟩
    refine ⟨Y, ?_, fun _ _ _ => rfl, fun j hj => by rw [if_neg (by omega), if_neg (by omega)]; exact ⟨rfl, rfl⟩⟩
    rw [M_laws_F114, h42, if_neg (by omega)]
  | succ k ih =>
    intro f i Y hf hi h42
    obtain ⟨f, rfl⟩ : ∃ g, f = g + 1 := ⟨f - 1, by omega⟩
    obtain ⟨N, hN⟩ : ∃ N, N = xu (xu Y 138 i (Y 140 i)) 139 i (Y 141 i) := ⟨_, rfl⟩
    have nO : ∀ x, x ≠ 138 → x ≠ 139 → N x = Y x := fun x h1 h2 => by rw [hN, xu_cell _ _ _ h2, xu_cell _ _ _ h1]
    obtain ⟨Y', y1, y2, y3⟩ := ih f (i + 1) N (by omega) (by omega) (by rw [nO 104 (by decide) (by decide)]; exact h42)
    refine ⟨Y', ?_, fun x h1 h2 => by rw [y2 x h1 h2, nO x h1 h2], fun j hj => ?_⟩
    · rw [M_laws_F114, h42, if_pos (by omega), xch_pos (by omega), xl_eq, xl_eq, xl_eq, s53, s54, s55, s56, Int.toNat_natCast, w32_of (x := (i : Int) + 1) (by omega) (by omega), xu_cell _ _ _ (show 141 ≠ 138 by decide), ← hN]
      exact y1
    · have n8 : N 138 j = if j = i then Y 140 i else Y 138 j := by rw [hN, xu_cell _ _ _ (by decide), xu_at]
      have n9 : N 139 j = if j = i then Y 141 i else Y 139 j := by rw [hN, xu_at, xu_cell _ _ _ (by decide)]
      rw [(y3 j hj).1, (y3 j hj).2, n8, n9, nO 140 (by decide) (by decide), nO 141 (by decide) (by decide)]
      by_cases z : j = i
      · have u1 : ¬ i + 1 ≤ j := by omega
        have u2 : i ≤ j := by omega
        rw [if_neg u1, if_neg u1, if_pos z, if_pos z, if_pos u2, if_pos u2, z]
        exact ⟨rfl, rfl⟩
      · by_cases y : i + 1 ≤ j
        · have u2 : i ≤ j := by omega
          rw [if_pos y, if_pos y, if_pos u2, if_pos u2]
          exact ⟨rfl, rfl⟩
        · have u2 : ¬ i ≤ j := by omega
          rw [if_neg y, if_neg y, if_neg z, if_neg z, if_neg u2, if_neg u2]
          exact ⟨rfl, rfl⟩
theorem lw_F154 {S : xR} (hS : MS S) {m : Nat} (hm : m ≤ 8) : ∀ (k f i : Nat) (Y : xM), k < f → i + k = m → Y 104 40 = (m : Int) → ∃ Y', M_laws_F154 S 104 f (i : Int) Y = some ((m : Int), xu Y' 104 0 0) ∧ (∀ x, x < 130 ∨ 134 ≤ x → Y' x = Y x) ∧ ∀ j, j < m → Y' 130 j = (if i ≤ j then Y 134 j else Y 130 j) ∧ Y' 131 j = (if i ≤ j then Y 135 j else Y 131 j) ∧ Y' 132 j = (if i ≤ j then Y 136 j else Y 132 j) ∧ Y' 133 j = if i ≤ j then Y 137 j else Y 133 j := by
  have s45 : S 104 45 = 130 := hS 45 (by decide) (by decide)
  have s46 : S 104 46 = 131 := hS 46 (by decide) (by decide)
  have s47 : S 104 47 = 132 := hS 47 (by decide) (by decide)
  have s48 : S 104 48 = 133 := hS 48 (by decide) (by decide)
  have s49 : S 104 49 = 134 := hS 49 (by decide) (by decide)
  have s50 : S 104 50 = 135 := hS 50 (by decide) (by decide)
  have s51 : S 104 51 = 136 := hS 51 (by decide) (by decide)
  have s52 : S 104 52 = 137 := hS 52 (by decide) (by decide)
  intro k
  induction k with
  | zero =>
    intro f i Y hf hi h40
    obtain ⟨f, rfl⟩ : ∃ g, f = g + 1 := ⟨f - 1, by omega⟩
    refine ⟨Y, ?_, fun _ _ => rfl, fun j hj => ?_⟩
    · rw [M_laws_F154, h40, if_neg (by omega), gives_eq, xb2_some]
    · have u : ¬ i ≤ j := by omega
      rw [if_neg u, if_neg u, if_neg u, if_neg u]
      exact ⟨rfl, rfl, rfl, rfl⟩
  | succ k ih =>
    intro f i Y hf hi h40
    obtain ⟨f, rfl⟩ : ∃ g, f = g + 1 := ⟨f - 1, by omega⟩
    obtain ⟨N, hN⟩ : ∃ N, N = xu (xu (xu (xu Y 130 i (Y 134 i)) 131 i (Y 135 i)) 132 i (Y 136 i)) 133 i (Y 137 i) := ⟨_, rfl⟩
    have nO : ∀ x, x < 130 ∨ 134 ≤ x → N x = Y x := fun x h1 => by rw [hN, xu_cell _ _ _ (by omega), xu_cell _ _ _ (by omega), xu_cell _ _ _ (by omega), xu_cell _ _ _ (by omega)]
    obtain ⟨Y', y1, y2, y3⟩ := ih f (i + 1) N (by omega) (by omega) (by rw [nO 104 (by decide)]; exact h40)
    refine ⟨Y', ?_, fun x h1 => by rw [y2 x h1, nO x h1], fun j hj => ?_⟩
    · rw [M_laws_F154, h40, if_pos (by omega), xch_pos (by omega), xl_eq, xl_eq, xl_eq, xl_eq, xl_eq, s45, s46, s47, s48, s49, s50, s51, s52, Int.toNat_natCast, w32_of (x := (i : Int) + 1) (by omega) (by omega), xu_cell _ _ _ (show 135 ≠ 130 by decide), xu_cell _ _ _ (show 136 ≠ 131 by decide), xu_cell _ _ _ (show 136 ≠ 130 by decide), xu_cell _ _ _ (show 137 ≠ 132 by decide), xu_cell _ _ _ (show 137 ≠ 131 by decide), xu_cell _ _ _ (show 137 ≠ 130 by decide), ← hN]
      exact y1
    · have n0 : N 130 j = if j = i then Y 134 i else Y 130 j := by rw [hN, xu_cell _ _ _ (by decide), xu_cell _ _ _ (by decide), xu_cell _ _ _ (by decide), xu_at]
      have n1 : N 131 j = if j = i then Y 135 i else Y 131 j := by rw [hN, xu_cell _ _ _ (by decide), xu_cell _ _ _ (by decide), xu_at, xu_cell _ _ _ (by decide)]
      have n2 : N 132 j = if j = i then Y 136 i else Y 132 j := by rw [hN, xu_cell _ _ _ (by decide), xu_at, xu_cell _ _ _ (by decide), xu_cell _ _ _ (by decide)]
      have n3 : N 133 j = if j = i then Y 137 i else Y 133 j := by rw [hN, xu_at, xu_cell _ _ _ (by decide), xu_cell _ _ _ (by decide), xu_cell _ _ _ (by decide)]
      obtain ⟨p0, p1, p2, p3⟩ := y3 j hj
      rw [p0, p1, p2, p3, n0, n1, n2, n3, nO 134 (by decide), nO 135 (by decide), nO 136 (by decide), nO 137 (by decide)]
      by_cases z : j = i
      · have u1 : ¬ i + 1 ≤ j := by omega
        have u2 : i ≤ j := by omega
        simp only [if_neg u1, if_pos z, if_pos u2]
        rw [z]
        exact ⟨rfl, rfl, rfl, rfl⟩
      · by_cases y : i + 1 ≤ j
        · have u2 : i ≤ j := by omega
          simp only [if_pos y, if_pos u2]
          exact ⟨trivial, trivial, trivial, trivial⟩
        · have u2 : ¬ i ≤ j := by omega
          simp only [if_neg y, if_neg z, if_neg u2]
          exact ⟨trivial, trivial, trivial, trivial⟩
def lsQ (S : xR) (M_20 : xM) : Option (Int × xM) :=
      xl (xu M_20 104 13 (M_20 104 15)) fun M_21 =>
      if 0 < M_21 104 15 then
        xb2 (f_M_refuse 104 9 M_21) fun r_23 M_24 =>
        some (r_23, M_24)
      else
        xl (xu M_21 104 40 (M_21 104 41)) fun M_26 =>
        xl (xu M_26 104 42 (M_26 104 43)) fun M_27 =>
        M_laws_F114 S 104
          (fun (M_33 : xM) =>
            M_laws_F154 S 104
              xfu 0 M_33)
          xfu 0 M_27
/-- the laws as both hold them, q: the class's -/
def LwOK (q : Nat) (M : xM) : Prop := ∃ m c : Nat, m ≤ 8 ∧ c ≤ 600 ∧ M q 0 = (m : Int) ∧ M 104 40 = (m : Int) ∧ (∀ i, i < c → stR (M (q + 6) i) (M 138 i) (M 139 i)) ∧ ∀ l, l < m → (∃ s t : Nat, M (q + 2) l = (s : Int) ∧ M 130 l = (s : Int) ∧ M (q + 3) l = (t : Int) ∧ M 131 l = (t : Int) ∧ s ≤ t ∧ t ≤ c ∧ GD (M (q + 6)) s (t - s) ∧ dp (M (q + 6)) s (t - s) = 1) ∧ ((1 ≤ M (q + 4) l ∧ M (q + 4) l ≤ 24) ∧ M 132 l = M (q + 4) l) ∧ ((0 ≤ M (q + 5) l ∧ M (q + 5) l ≤ 9999) ∧ M 133 l = M (q + 5) l)
theorem RG.lsn {R : xR} {pn ps ln ls : Nat} (h : RG R pn ps ln ls) : ls = 32 ∨ ls = 40 := by
  rcases h.2.2.2.2 with ⟨-, e⟩ | ⟨-, e⟩ <;> omega
theorem laws_run {R S : xR} {pn ps ln ls : Nat} (hR : RG R pn ps ln ls) (hS : TR S) (hM : MS S) {M Y0 : xM} (hT : TpOK M) {n : Nat} (hn : (n : Int) ≤ M 2 1) (hy : Y0 108 = M 108) :
    ∃ X0 r X' Y', f_A_open R 2 (n : Int) 4 5 M = some (Rop true R, X0) ∧ f_L_readFrom (Rop true R) ls 2 X0 = some (r, X') ∧ (xb1 (f_M_begin S 104 (n : Int) 1 Y0) fun M_9 => xl (xu M_9 104 41 0) fun M_11 => xl (xu M_11 104 43 0) fun M_12 => if M_12 104 8 = 0 then M_laws_J46 S 104 0 M_12 else M_laws_J46 S 104 1 M_12) = lsQ S Y' ∧ (∀ x, x ≠ 2 → x < ls ∨ ls + 7 ≤ x → X' x = M x) ∧ X' 2 1 = 0 ∧ (∀ x, x ≠ 104 → x < 109 ∨ (110 ≤ x ∧ x < 129) ∨ (130 ≤ x ∧ x < 134) ∨ x = 138 ∨ x = 139 ∨ 144 ≤ x → Y' x = Y0 x) ∧ (∀ j, j < 6 ∨ j = 13 ∨ (17 ≤ j ∧ j ≠ 41 ∧ j ≠ 43) → Y' 104 j = Y0 104 j) ∧ Y' 104 6 = 0 ∧ ((r = 1 ∧ (X' 2 12 = 0 ∧ X' 2 13 = -1 ∧ Y' 104 15 = 0 ∧ Y' 104 14 = -1) ∧ ∃ m c, LwD ls m c X' Y' ∧ c ≤ 600) ∨ (r = 0 ∧ FT X' Y')) := by
  have xf : xfu = 1000000 := rfl
  have n10 : ¬ (1 : Int) = 0 := by decide
  have hps := hR.lsn
  obtain ⟨⟨t1, t2, t3⟩, t4, t5, t6, t7⟩ := hT
  have hB : TxB (M 3) n := ⟨by omega, t5⟩
  obtain ⟨X0, o1, o2, o3, o4⟩ := open_eq (R := R) true hR.2.2.1 hB (M := M) (fun i _ => rfl)
  obtain ⟨Y1, b1, b2, b3, b4, b5⟩ := begin_eq (S := S) true hS.2.1 hS.2.2 hB (Y := Y0) (fun i hi => by rw [hy]; exact t4 i (by omega))
  have b1' : f_M_begin S 104 (n : Int) 1 Y0 = some Y1 := b1
  have hL : LR (Rop true R) S true := ⟨Rop_LG true hR.2.2.1, hS.2.2⟩
  have hp : LwR (Rop true R) ls := (Rop_RG true hR).lsR
  obtain ⟨A, hA⟩ : ∃ A, A = xu (xu X0 ls 0 0) ls 7 0 := ⟨_, rfl⟩
  obtain ⟨B, hBd⟩ : ∃ B, B = xu (xu Y1 104 41 0) 104 43 0 := ⟨_, rfl⟩
  have aO : ∀ x, x ≠ ls → A x = X0 x := fun x hx => by rw [hA, xu_cell _ _ _ hx, xu_cell _ _ _ hx]
  have bO : ∀ x, x ≠ 104 → B x = Y1 x := fun x hx => by rw [hBd, xu_cell _ _ _ hx, xu_cell _ _ _ hx]
  have b104 : ∀ j, B 104 j = if j = 43 then 0 else if j = 41 then 0 else Y1 104 j := fun j => by rw [hBd, xu_at, xu_at]
  have h0 : SR true (M 3) n 0 X0 Y1 := ⟨o2, b2, by omega⟩
  have hAB : SR true (M 3) n 0 A B := (h0.ofX (fun j _ => by rw [aO 2 (by omega)]) (aO 3 (by omega))).ofY (fun j h1 h2 h3 h4 => by rw [b104, if_neg (by omega), if_neg (by omega)]) (bO 109 (by decide))
  have hD : LwD ls 0 0 A B := ⟨by omega, ⟨by rw [hA, xu_at, if_neg (by decide), xu_at, if_pos rfl]; rfl, by rw [b104, if_neg (by decide), if_pos rfl]; rfl⟩, ⟨by rw [hA, xu_at, if_pos rfl]; rfl, by rw [b104, if_pos rfl]; rfl⟩, fun i hi => by omega, fun l hl => by omega⟩
  have eX : f_L_readFrom (Rop true R) ls 2 X0 = L_readFrom_F14 (Rop true R) ls 2 xfu 1 0 A := by
    unfold f_L_readFrom
    rw [xl_eq, xl_eq, ← hA]
  have eY : (xb1 (f_M_begin S 104 (n : Int) 1 Y0) fun M_9 => xl (xu M_9 104 41 0) fun M_11 => xl (xu M_11 104 43 0) fun M_12 => if M_12 104 8 = 0 then M_laws_J46 S 104 0 M_12 else M_laws_J46 S 104 1 M_12) = if B 104 8 = 0 then M_laws_F47 S 104 (lsQ S) xfu 0 B else M_laws_F47 S 104 (lsQ S) xfu 1 B := by
    rw [b1', xb1_some, xl_eq, xl_eq, ← hBd]
    rfl
  have c0 : ∀ x, x ≠ 2 → x < ls ∨ ls + 7 ≤ x → A x = M x := fun x h1 h2 => by rw [aO x (by omega), o3 x h1]
  have c1 : A 2 1 = 0 := by rw [aO 2 (by omega)]; exact o4
  have d0 : ∀ x, x ≠ 104 → x ≠ 109 → B x = Y0 x := fun x h1 h2 => by rw [bO x h1, b3 x h1 h2]
  have d1 : ∀ j, j < 6 ∨ j = 13 ∨ (17 ≤ j ∧ j ≠ 41 ∧ j ≠ 43) → B 104 j = Y0 104 j := fun j hj => by rw [b104, if_neg (by omega), if_neg (by omega), b4 j (by omega)]
  have d6 : B 104 6 = 0 := by rw [b104, if_neg (by decide), if_neg (by decide)]; exact b5
  by_cases z : lxK true (M 3) n 0 = 0
  · refine ⟨X0, 1, A, B, o1, ?_, ?_, c0, c1, fun x h1 h2 => d0 x h1 (by omega), d1, d6, Or.inl ⟨rfl, ⟨hAB.1.2.2.1, hAB.1.2.2.2, hAB.2.1.2.2.2.1, hAB.2.1.2.2.2.2⟩, 0, 0, hD, by omega⟩⟩
    · rw [eX, show xfu = 999999 + 1 from rfl, L_readFrom_F14, if_neg n10, hAB.1.2.1.2.2.1, if_pos z, xch_01.2]
    · rw [eY, hAB.2.1.2.1.2.2.1, if_pos ((kmp_z hAB.2.2).2 z), show xfu = 999999 + 1 from rfl, M_laws_F47, if_pos rfl]
  · obtain ⟨X', Y', l1, l2, l3⟩ := laws_loop hL hp (by omega) (by omega) hM hB (lsQ S) n xfu xfu 0 0 0 0 A B (by omega) (by omega) (by omega) (by omega) hAB hD (by omega) z
    have cc : ∀ x, x ≠ 2 → x < ls ∨ ls + 7 ≤ x → X' x = M x := fun x h1 h2 => by rw [l1.1 x h1 h2, c0 x h1 h2]
    have c2 : X' 2 1 = 0 := by rw [l1.2 1 (by decide)]; exact c1
    have dd : ∀ x, x ≠ 104 → x < 109 ∨ (110 ≤ x ∧ x < 129) ∨ (130 ≤ x ∧ x < 134) ∨ x = 138 ∨ x = 139 ∨ 144 ≤ x → Y' x = Y0 x := fun x h1 h2 => by rw [l2.1 x h1 (by omega), d0 x h1 (by omega)]
    have d2 : ∀ j, j < 6 ∨ j = 13 ∨ (17 ≤ j ∧ j ≠ 41 ∧ j ≠ 43) → Y' 104 j = Y0 104 j := fun j hj => by rw [l2.2 j (by omega), d1 j hj]
    have d7 : Y' 104 6 = 0 := by rw [l2.2 6 (by decide)]; exact d6
    have eY2 : (if B 104 8 = 0 then M_laws_F47 S 104 (lsQ S) xfu 0 B else M_laws_F47 S 104 (lsQ S) xfu 1 B) = M_laws_F47 S 104 (lsQ S) xfu 1 B := by
      rw [hAB.2.1.2.1.2.2.1, if_neg (fun q => z ((kmp_z hAB.2.2).1 q))]
    rcases l3 with ⟨m, c, e', l3, l4, l5, l6, l7⟩ | ⟨l3, l4, l5⟩
    · have := l5.2.2
      exact ⟨X0, 1, X', Y', o1, eX.trans l3, eY.trans (eY2.trans l4), cc, c2, dd, d2, d7, Or.inl ⟨rfl, ⟨l5.1.2.2.1, l5.1.2.2.2, l5.2.1.2.2.2.1, l5.2.1.2.2.2.2⟩, m, c, l6, by omega⟩⟩
    · exact ⟨X0, 0, X', Y', o1, eX.trans l3, eY.trans (eY2.trans l4), cc, c2, dd, d2, d7, Or.inr ⟨rfl, l5⟩⟩
def FrLf (ls : Nat) (M N : xM) : Prop := (∀ x, x ≠ 1 → x ≠ 2 → x ≠ 104 → x < ls ∨ ls + 7 ≤ x → x < 109 ∨ (110 ≤ x ∧ x < 129) ∨ (130 ≤ x ∧ x < 134) ∨ x = 138 ∨ x = 139 ∨ 144 ≤ x → N x = M x) ∧ (∀ j, j ≠ 0 → N 1 j = M 1 j) ∧ (∀ j, 17 ≤ j → j ≠ 41 → j ≠ 43 → N 104 j = M 104 j) ∧ N 104 0 = N 1 0
def FrLg (ls : Nat) (M N : xM) : Prop := (∀ x, x ≠ 1 → x ≠ 2 → x ≠ 104 → x < ls ∨ ls + 7 ≤ x → x < 109 ∨ (110 ≤ x ∧ x < 129) ∨ 144 ≤ x → N x = M x) ∧ (∀ j, j ≠ 0 → N 1 j = M 1 j) ∧ (∀ j, 17 ≤ j → j < 40 ∨ 44 ≤ j → N 104 j = M 104 j) ∧ N 104 0 = N 1 0
theorem op_laws {R : xR} {M : xM} {pn ps ln ls : Nat} (hR : RG R pn ps ln ls) (hT : TpOK M) (a : Int) :
    ∃ (r : Int) (R1 : xR) (M1 M2 : xM), f_X_laws R 1 a M = some (r, R1, M1) ∧ f_M_laws R1 104 a M1 = some (r, M2) ∧ ((RG R1 pn ps ln ls ∧ ∃ w, M2 = den w M) ∨ (RG R1 pn ps ln ls ∧ TpOK M2 ∧ FrLf ls M M2) ∨ (RG R1 pn ps ls ln ∧ TpOK M2 ∧ FrLg ls M M2 ∧ LwOK ls M2)) := by
  have xf : xfu = 1000000 := rfl
  have n10 : ¬ (1 : Int) = 0 := by decide
  have hps := hR.lsn
  have hT' := hT
  obtain ⟨⟨t1, t2, t3⟩, t4, t5, t6, t7⟩ := hT'
  have r1 : R 1 1 = 2 := hR.2.1.1
  by_cases h1 : a < 0
  · refine ⟨-1, R, xu M 1 0 1, den 1 M, ?_, ?_, Or.inl ⟨hR, 1, rfl⟩⟩
    · unfold f_X_laws
      rw [if_pos h1, refuse_eq, xb2_some]
    · unfold f_M_laws
      rw [if_pos h1, refuseM_eq, xb2_some]
      rfl
  · by_cases h2 : M 2 1 < a
    · refine ⟨-1, R, xu M 1 0 1, den 1 M, ?_, ?_, Or.inl ⟨hR, 1, rfl⟩⟩
      · unfold f_X_laws
        rw [if_neg h1, r1, if_pos h2, refuse_eq, xb2_some]
      · unfold f_M_laws
        rw [if_neg h1, xu1_104, if_pos (by omega), refuseM_eq, xb2_some]
        rfl
    · obtain ⟨n, rfl⟩ : ∃ n : Nat, a = n := ⟨a.toNat, by omega⟩
      obtain ⟨X0, r, X', Yd, e1, e2, e3, e4, e5, e6, e7, e8, e9⟩ := laws_run hR hR.tr hR.ms hT (n := n) (by omega) (Y0 := M) rfl
      have hR9 := Rop_RG true hR
      have q16 : Rop true R 1 6 = ls := hR9.2.1.2.2.2.2.2.1
      have q15 : Rop true R 1 5 = ln := hR9.2.1.2.2.2.2.1
      have q11 : Rop true R 1 1 = 2 := hR9.2.1.1
      have again : ∀ (S : xR) (M1 : xM), TR S → MS S → M1 108 = M 108 → ∃ Y', (xb1 (f_M_begin S 104 (n : Int) 1 M1) fun M_9 => xl (xu M_9 104 41 0) fun M_11 => xl (xu M_11 104 43 0) fun M_12 => if M_12 104 8 = 0 then M_laws_J46 S 104 0 M_12 else M_laws_J46 S 104 1 M_12) = lsQ S Y' ∧ (∀ x, x ≠ 104 → x < 109 ∨ (110 ≤ x ∧ x < 129) ∨ (130 ≤ x ∧ x < 134) ∨ x = 138 ∨ x = 139 ∨ 144 ≤ x → Y' x = M1 x) ∧ (∀ j, j < 6 ∨ j = 13 ∨ (17 ≤ j ∧ j ≠ 41 ∧ j ≠ 43) → Y' 104 j = M1 104 j) ∧ Y' 104 6 = 0 ∧ ((r = 1 ∧ (X' 2 12 = 0 ∧ X' 2 13 = -1 ∧ Y' 104 15 = 0 ∧ Y' 104 14 = -1) ∧ ∃ m c, LwD ls m c X' Y' ∧ c ≤ 600) ∨ (r = 0 ∧ FT X' Y')) := by
        intro S M1 hS hM h8
        obtain ⟨X0', r', X'', Y', f1, f2, f3, f4, f5, f6, f7, f8, f9⟩ := laws_run hR hS hM hT (n := n) (by omega) (Y0 := M1) h8
        have g1 : X0' = X0 := by rw [e1] at f1; exact (Prod.mk.inj (Option.some.inj f1)).2.symm
        rw [g1, e2] at f2
        have g2 : r' = r := (Prod.mk.inj (Option.some.inj f2)).1.symm
        have g3 : X'' = X' := (Prod.mk.inj (Option.some.inj f2)).2.symm
        rw [g2, g3] at f9
        exact ⟨Y', f3, f6, f7, f8, f9⟩
      by_cases zr : r = 0
      · subst zr
        have cX : f_X_laws R 1 (n : Int) M = some (-1, Rop true R, xu X' 1 0 9) := by
          unfold f_X_laws
          rw [if_neg h1, r1, if_neg h2, e1, xb2_some, q16, q11, e2, xb2_some, if_pos rfl, refuse_eq, xb2_some]
        obtain ⟨Y', g1, g2, g3, g4, g5⟩ := again (Rop true R) (xu X' 1 0 9) hR9.tr hR9.ms (by rw [xu1_c _ _ (by decide), e4 108 (by decide) (by omega)])
        have ft : FT X' Y' := by
          rcases g5 with ⟨q, _⟩ | ⟨_, q⟩
          · exact absurd q (by decide)
          · exact q
        obtain ⟨Z, hZ⟩ : ∃ Z, Z = xu (xu Y' 104 13 (Y' 104 15)) 104 0 9 := ⟨_, rfl⟩
        have zO : ∀ x, x ≠ 104 → Z x = Y' x := fun x hx => by rw [hZ, xu_cell _ _ _ hx, xu_cell _ _ _ hx]
        have z4 : ∀ j, Z 104 j = if j = 0 then 9 else if j = 13 then Y' 104 15 else Y' 104 j := fun j => by rw [hZ, xu_at, xu_at]
        have zX : ∀ x, x ≠ 1 → x ≠ 104 → x < 109 ∨ (110 ≤ x ∧ x < 129) ∨ (130 ≤ x ∧ x < 134) ∨ x = 138 ∨ x = 139 ∨ 144 ≤ x → Z x = X' x := fun x h1 h2 h3 => by rw [zO x h2, g2 x h2 h3, xu1_c _ _ h1]
        refine ⟨-1, _, _, Z, cX, ?_, Or.inr (Or.inl ⟨hR9, ?_, ⟨fun x h1 h2 h3 h4 h5 => by rw [zX x h1 h3 h5, e4 x h2 h4], fun j hj => ?_, fun j h1 h2 h3 => ?_, ?_⟩⟩)⟩
        · have m6 : ¬ xu X' 1 0 9 104 6 < (n : Int) := by
            rw [xu1_104, e4 104 (by decide) (by omega)]
            omega
          unfold f_M_laws
          rw [if_neg h1, if_neg m6, g1]
          unfold lsQ
          have : xu Y' 104 13 (Y' 104 15) 104 15 = Y' 104 15 := by rw [xu_at, if_neg (by decide)]
          rw [xl_eq, this, if_pos (by rw [ft.2.1]; exact ft.1), refuseM_eq, xb2_some, hZ]
        · refine ⟨⟨?_, ?_, ?_⟩, fun i hi => ?_, ?_, ?_, ?_⟩
          · rw [zX 2 (by decide) (by decide) (by decide), e5]; decide
          · rw [zX 2 (by decide) (by decide) (by decide), e5]; decide
          · rw [zX 2 (by decide) (by decide) (by decide), e5, z4, if_neg (by decide), if_neg (by decide), g4]
          · rw [zX 2 (by decide) (by decide) (by decide), e5] at hi
            omega
          · rw [zX 3 (by decide) (by decide) (by decide), e4 3 (by decide) (by omega)]
            exact t5
          · rw [zX 2 (by decide) (by decide) (by decide), z4, if_neg (by decide), if_pos rfl]
            exact ft.2.1
          · rw [zX 2 (by decide) (by decide) (by decide), z4, if_neg (by decide), if_neg (by decide)]
            exact ft.2.2
        · rw [zO 1 (by decide), g2 1 (by decide) (by decide), xu_at, if_neg hj, e4 1 (by decide) (by omega)]
        · rw [z4, if_neg (by omega), if_neg (by omega), g3 j (by omega), xu1_104, e4 104 (by decide) (by omega)]
        · rw [z4, if_pos rfl, zO 1 (by decide), g2 1 (by decide) (by decide), xu_at, if_pos rfl]
      · have zr1 : r = 1 := by
          rcases e9 with ⟨q, _⟩ | ⟨q, _⟩
          · exact q
          · exact absurd q zr
        subst zr1
        clear e9 e3 e6 e7 e8
        obtain ⟨R2, hR2⟩ : ∃ R2, R2 = xu (xu (Rop true R) 1 5 ls) 1 6 ln := ⟨_, rfl⟩
        have hRG : RG R2 pn ps ls ln := by
          obtain ⟨u1, u2, u3, u4, u5⟩ := hR9
          have w1 : ∀ k, R2 1 k = if k = 6 then ln else if k = 5 then ls else Rop true R 1 k := fun k => by rw [hR2, xu_at, xu_at]
          refine ⟨fun i k i1 i2 => by rw [hR2, xu_cell _ _ _ i1, xu_cell _ _ _ i1]; exact u1 i k i1 i2, ?_, by rw [hR2, xu_cell _ _ _ (by decide), xu_cell _ _ _ (by decide)]; exact u3, u4, by omega⟩
          obtain ⟨v1, v2, v3, v4, v5, v6, v7, v8, v9, v10, v11⟩ := u2
          exact ⟨by rw [w1, if_neg (by decide), if_neg (by decide)]; exact v1, by rw [w1, if_neg (by decide), if_neg (by decide)]; exact v2, by rw [w1, if_neg (by decide), if_neg (by decide)]; exact v3, by rw [w1, if_neg (by decide), if_neg (by decide)]; exact v4, by rw [w1, if_neg (by decide), if_pos rfl], by rw [w1, if_pos rfl], by rw [w1, if_neg (by decide), if_neg (by decide)]; exact v7, by rw [w1, if_neg (by decide), if_neg (by decide)]; exact v8, by rw [w1, if_neg (by decide), if_neg (by decide)]; exact v9, by rw [w1, if_neg (by decide), if_neg (by decide)]; exact v10, by rw [w1, if_neg (by decide), if_neg (by decide)]; exact v11⟩
        obtain ⟨K, hK⟩ : ∃ K, K = xu X' 1 0 0 := ⟨_, rfl⟩
        have kO : ∀ x, x ≠ 1 → K x = X' x := fun x hx => by rw [hK, xu1_c _ _ hx]
        have cX : f_X_laws R 1 (n : Int) M = some (X' ls 0, R2, K) := by
          unfold f_X_laws
          rw [if_neg h1, r1, if_neg h2, e1, xb2_some, q16, q11, e2, xb2_some, if_neg n10, q15, xl_eq, xl_eq, ← hR2, hRG.2.1.2.2.2.2.1, answer_eq, xb2_some, ← hK]
        obtain ⟨Y', g1, g2, g3, g4, g5⟩ := again R2 K hRG.tr hRG.ms (by rw [kO 108 (by decide), e4 108 (by decide) (by omega)])
        have gd : (X' 2 12 = 0 ∧ X' 2 13 = -1 ∧ Y' 104 15 = 0 ∧ Y' 104 14 = -1) ∧ ∃ m c, LwD ls m c X' Y' ∧ c ≤ 600 := by
          rcases g5 with ⟨_, q1, q2⟩ | ⟨q, _⟩
          · exact ⟨q1, q2⟩
          · exact absurd q (by decide)
        clear g5
        obtain ⟨⟨x12, x13, y15, y14⟩, m, c, ⟨hm8, ⟨x0, y41⟩, ⟨x7, y43⟩, hst, hl⟩, hc6⟩ := gd
        have hM := hRG.ms
        obtain ⟨A, hA⟩ : ∃ A, A = xu (xu (xu Y' 104 13 0) 104 40 (m : Int)) 104 42 (c : Int) := ⟨_, rfl⟩
        have aO : ∀ x, x ≠ 104 → A x = Y' x := fun x hx => by rw [hA, xu_cell _ _ _ hx, xu_cell _ _ _ hx, xu_cell _ _ _ hx]
        have a4 : ∀ j, A 104 j = if j = 42 then (c : Int) else if j = 40 then (m : Int) else if j = 13 then 0 else Y' 104 j := fun j => by rw [hA, xu_at, xu_at, xu_at]
        obtain ⟨B, b1, b2, b3⟩ := lw_F114 hM hc6 (fun (M_33 : xM) => M_laws_F154 R2 104 xfu 0 M_33) c xfu 0 A (by omega) (by omega) (by rw [a4, if_pos rfl])
        obtain ⟨C, c1, c2, c3⟩ := lw_F154 hM hm8 m xfu 0 B (by omega) (by omega) (by rw [b2 104 (by decide) (by decide), a4, if_neg (by decide), if_pos rfl])
        obtain ⟨Z, hZ⟩ : ∃ Z, Z = xu C 104 0 0 := ⟨_, rfl⟩
        have zO : ∀ x, x ≠ 104 → Z x = C x := fun x hx => by rw [hZ, xu_cell _ _ _ hx]
        have c104 : C 104 = A 104 := by rw [c2 104 (by decide), b2 104 (by decide) (by decide)]
        have z4 : ∀ j, Z 104 j = if j = 0 then 0 else A 104 j := fun j => by rw [hZ, xu_at, c104]
        have zK : ∀ x, x ≠ 104 → x < 109 ∨ (110 ≤ x ∧ x < 129) ∨ 144 ≤ x → Z x = K x := fun x h1 h2 => by rw [zO x h1, c2 x (by omega), b2 x (by omega) (by omega), aO x h1, g2 x h1 (by omega)]
        have zX : ∀ x, x ≠ 1 → x ≠ 104 → x < 109 ∨ (110 ≤ x ∧ x < 129) ∨ 144 ≤ x → Z x = X' x := fun x h1 h3 h4 => by rw [zK x h3 h4, kO x h1]
        refine ⟨X' ls 0, R2, K, Z, cX, ?_, Or.inr (Or.inr ⟨hRG, ?_, ⟨fun x h1 h2 h4 h5 h6 => by rw [zX x h1 h4 h6, e4 x h2 h5], fun j hj => ?_, fun j h1 h2 => ?_, ?_⟩, ?_⟩)⟩
        · have m6 : ¬ K 104 6 < (n : Int) := by
            rw [kO 104 (by decide), e4 104 (by decide) (by omega)]
            omega
          unfold f_M_laws
          rw [if_neg h1, if_neg m6, g1]
          unfold lsQ
          have v1 : xu Y' 104 13 (Y' 104 15) 104 15 = 0 := by rw [xu_at, if_neg (by decide)]; exact y15
          have v2 : xu Y' 104 13 (Y' 104 15) 104 41 = (m : Int) := by rw [xu_at, if_neg (by decide)]; exact y41
          rw [xl_eq, v1, if_neg (by decide), xl_eq, v2, y15]
          have v3 : xu (xu Y' 104 13 0) 104 40 (m : Int) 104 43 = (c : Int) := by rw [xu_at, if_neg (by decide), xu_at, if_neg (by decide)]; exact y43
          rw [xl_eq, v3, ← hA]
          refine b1.trans (c1.trans ?_)
          rw [← hZ, x0]
        · refine ⟨⟨?_, ?_, ?_⟩, fun i hi => ?_, ?_, ?_, ?_⟩
          · rw [zX 2 (by decide) (by decide) (by decide), e5]; decide
          · rw [zX 2 (by decide) (by decide) (by decide), e5]; decide
          · rw [zX 2 (by decide) (by decide) (by decide), e5, z4, if_neg (by decide), a4, if_neg (by decide), if_neg (by decide), if_neg (by decide), g4]
          · rw [zX 2 (by decide) (by decide) (by decide), e5] at hi
            omega
          · rw [zX 3 (by decide) (by decide) (by decide), e4 3 (by decide) (by omega)]
            exact t5
          · rw [zX 2 (by decide) (by decide) (by decide), z4, if_neg (by decide), a4, if_neg (by decide), if_neg (by decide), if_pos rfl]
            exact x12.symm
          · rw [zX 2 (by decide) (by decide) (by decide), z4, if_neg (by decide), a4, if_neg (by decide), if_neg (by decide), if_neg (by decide), y14]
            exact x13.symm
        · rw [zK 1 (by decide) (by decide), hK, xu_at, if_neg hj, e4 1 (by decide) (by omega)]
        · rw [z4, if_neg (by omega), a4, if_neg (by omega), if_neg (by omega), if_neg (by omega), g3 j (by omega), kO 104 (by decide), e4 104 (by decide) (by omega)]
        · rw [z4, if_pos rfl, zK 1 (by decide) (by decide), hK, xu_at, if_pos rfl]
        · have zp : ∀ j, j < 7 → Z (ls + j) = X' (ls + j) := fun j hj => zX _ (by omega) (by omega) (by omega)
          have zp0 : Z ls = X' ls := zp 0 (by decide)
          have bY : ∀ x, x ≠ 104 → x ≠ 138 → x ≠ 139 → B x = Y' x := fun x h1 h2 h3 => by rw [b2 x h2 h3, aO x h1]
          refine ⟨m, c, hm8, hc6, by rw [zp0]; exact x0, by rw [z4, if_neg (by decide), a4, if_neg (by decide), if_pos rfl], fun i hi => ?_, fun l hl' => ?_⟩
          · rw [zp 6 (by decide), zO 138 (by decide), zO 139 (by decide), c2 138 (by decide), c2 139 (by decide), (b3 i hi).1, (b3 i hi).2, if_pos (Nat.zero_le i), if_pos (Nat.zero_le i), aO 140 (by decide), aO 141 (by decide)]
            exact hst i hi
          · obtain ⟨q1, ⟨s, t, q2, q3, q4, q5, q6, q7, q8, q9⟩, q10, q11'⟩ := hl l hl'
            obtain ⟨p0, p1, p2, p3⟩ := c3 l hl'
            rw [if_pos (Nat.zero_le l)] at p0 p1 p2 p3
            rw [zp 2 (by decide), zp 3 (by decide), zp 4 (by decide), zp 5 (by decide), zp 6 (by decide), zO 130 (by decide), zO 131 (by decide), zO 132 (by decide), zO 133 (by decide), p0, p1, p2, p3, bY 134 (by decide) (by decide) (by decide), bY 135 (by decide) (by decide) (by decide), bY 136 (by decide) (by decide) (by decide), bY 137 (by decide) (by decide) (by decide)]
            exact ⟨⟨s, t, q2, q3, q4, q5, q6, q7, q8, q9⟩, q10, q11'⟩
