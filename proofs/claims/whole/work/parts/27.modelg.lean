def M_inWords_F25 (R : xR) (M : xM) (l0 : Nat) (l1 : Nat) (q42 : Int → Int → Int → Option Int) : Nat → Int → Int → Int → Option Int
  | 0, _, _, _ => none
  | n + 1, v2, v3, v4 =>
    xb1 (f_S_charAt l1 v4) fun r_5 =>
    if r_5 = 32 then
      q42 v2 v3 v4
    else
      xl (w32 (v4 + 1)) fun v4_8 =>
      M_inWords_F25 R M l0 l1 q42 n v2 v3 v4_8
def M_inWords_J107 (R : xR) (M : xM) (l0 : Nat) (l1 : Nat) (rc : Int → Int → Int → Int → Int → Option Int) (q115 : Int → Int → Int → Option Int) (v2 : Int) (v3 : Int) (v4 : Int) (v6 : Int) (s0 : Int) : Option Int :=
  xl (w32 (v6 + 1)) fun v6_20 =>
  rc v2 v3 v4 s0 v6_20
def M_inWords_F68 (R : xR) (M : xM) (l0 : Nat) (l1 : Nat) (q115 : Int → Int → Int → Option Int) : Nat → Int → Int → Int → Int → Int → Option Int
  | 0, _, _, _, _, _ => none
  | n + 1, v2, v3, v4, v5, v6 =>
    if v6 < v4 then
      if v5 = 0 then
        q115 v2 v4 v5
      else
        xb1 (f_S_charAt l1 v6) fun r_15 =>
        xb1 (f_M_byteAt R l0 (w32 ((w32 ((M l0 9) + v6)) - v3)) M) fun r_17 =>
        if r_15 = r_17 then
          M_inWords_J107 R M l0 l1 (M_inWords_F68 R M l0 l1 q115 n) q115 v2 v3 v4 v6 1
        else
          M_inWords_J107 R M l0 l1 (M_inWords_F68 R M l0 l1 q115 n) q115 v2 v3 v4 v6 0
    else
      q115 v2 v4 v5
def M_inWords_J115 (R : xR) (M : xM) (l0 : Nat) (l1 : Nat) (rc : Int → Int → Option Int) (v2 : Int) (v4 : Int) (v5 : Int) : Option Int :=
  if v5 = 0 then
    xl (w32 (v2 + 1)) fun v2_25 =>
    xl (w32 (v4 + 1)) fun v3_26 =>
    rc v2_25 v3_26
  else
    some (v2)
def M_inWords_J63 (R : xR) (M : xM) (l0 : Nat) (l1 : Nat) (rc : Int → Int → Option Int) (v2 : Int) (v3 : Int) (v4 : Int) (s0 : Int) : Option Int :=
  M_inWords_F68 R M l0 l1
    (fun (v2_21 : Int) (v4_22 : Int) (v5_23 : Int) =>
      M_inWords_J115 R M l0 l1 rc v2_21 v4_22 v5_23)
    xfu v2 v3 v4 s0 v3
def M_inWords_F14 (R : xR) (M : xM) (l0 : Nat) (l1 : Nat) : Nat → Int → Int → Option Int
  | 0, _, _ => none
  | n + 1, v2, v3 =>
    xb1 (f_S_length l1) fun r_2 =>
    if v3 < r_2 then
      M_inWords_F25 R M l0 l1
        (fun (v2_9 : Int) (v3_10 : Int) (v4_11 : Int) =>
          if w32 (v4_11 - v3_10) = w32 ((M l0 10) - (M l0 9)) then
            M_inWords_J63 R M l0 l1 (M_inWords_F14 R M l0 l1  n) v2_9 v3_10 v4_11 1
          else
            M_inWords_J63 R M l0 l1 (M_inWords_F14 R M l0 l1  n) v2_9 v3_10 v4_11 0)
        xfu v2 v3 v3
    else
      some (-1)
def f_M_inWords (R : xR) (l0 : Nat) (l1 : Nat) (M : xM) : Option Int :=
  if M l0 8 = 2 then
    M_inWords_F14 R M l0 l1
      xfu 0 1
  else
    some (-1)
set_option maxRecDepth 100000 in
set_option maxHeartbeats 4000000 in
theorem s_M_inWords {d : Nat} {sc : List Int} {z z' : xS} {out : xO} (qs : List xI) {cs : List Prop} (hq : qs.all (xqb 10 false y_M_inWords.2.2.1 y_M_inWords.2.1) = true) (h : xN false sc qs z = some (z', cs)) (hc : xAll cs) (hE : z'.2.2.2.2.2 ≤ 174) (k : XR false d 174 sc y_M_inWords z' out) : XR false d 174 sc y_M_inWords z out := XR.seg 10 false rfl (fun q => by cases q) qs hq h hc hE k
set_option maxRecDepth 100000 in
set_option maxHeartbeats 4000000 in
theorem o_M_inWords_F25 {sc : List Int} {R : xR} {M : xM}  {l0 : Nat} {l1 : Nat}  {q42 : Int → Int → Int → Option Int} (hq42 : ∀ (w2 : Int) (w3 : Int) (w4 : Int) (out : Int), q42 w2 w3 w4 = some out → XR false 4 174 sc y_M_inWords (42, [(0, (vR 10 l0)), (1, (vR 99 l1)), (2, (vI w2)), (3, (vI w3)), (4, (vI w4))], [], R, M, 174) ((some (vI out)), R, M)) : ∀ (n : Nat) (v2 : Int) (v3 : Int) (v4 : Int) (out : Int), M_inWords_F25 R M l0 l1 q42 n v2 v3 v4 = some out → XR false 4 174 sc y_M_inWords (25, [(0, (vR 10 l0)), (1, (vR 99 l1)), (2, (vI v2)), (3, (vI v3)), (4, (vI v4))], [], R, M, 174) ((some (vI out)), R, M) := by
  intro n
  induction n with
  | zero => intro v2 v3 v4 out h; exact (xno h).elim
  | succ n ih =>
    intro v2 v3 v4 out h
    rw [M_inWords_F25] at h
    refine s_M_inWords [(25, .aload_n 1, 0, 0), (26, .iload 4, 0, 0)] (by decide +kernel) (z' := (28, [(0, (vR 10 l0)), (1, (vR 99 l1)), (2, (vI v2)), (3, (vI v3)), (4, (vI v4))], [(vI v4), (vR 99 l1)], R, M, 174)) (cs := []) (by rfl) trivial (Nat.le_refl _) ?_
    obtain ⟨r_5, e_6, h⟩ := xb1_ex h
    refine XR.callV 10 rfl (rest := []) m_S_charAt k_10_318 99 l1 (Or.inr ⟨rfl, rfl⟩) [(vI v4)] rfl rfl (c_S_charAt e_6) (by decide) (Nat.le_of_ble_eq_true rfl) (by decide +kernel) (Nat.le_refl _) (Nat.le_refl _) ?_
    show XR false 4 174 sc y_M_inWords (31, [(0, (vR 10 l0)), (1, (vR 99 l1)), (2, (vI v2)), (3, (vI v3)), (4, (vI v4))], [(vI r_5)], R, M, 174) _
    refine s_M_inWords [(31, .bipush 32, 0, 32)] (by decide +kernel) (z' := (33, [(0, (vR 10 l0)), (1, (vR 99 l1)), (2, (vI v2)), (3, (vI v3)), (4, (vI v4))], [(vI 32), (vI r_5)], R, M, 174)) (cs := []) (by rfl) trivial (Nat.le_refl _) ?_
    rcases xif_ex h with ⟨c_7, h⟩ | ⟨c_7, h⟩
    · skip
      refine s_M_inWords [(33, .if_icmp .eq 9, 0, 42)] (by decide +kernel) (z' := (42, [(0, (vR 10 l0)), (1, (vR 99 l1)), (2, (vI v2)), (3, (vI v3)), (4, (vI v4))], [], R, M, 174)) (cs := [r_5 = 32]) (by rfl) ⟨c_7, trivial⟩ (Nat.le_refl _) ?_
      exact hq42 v2 v3 v4 _ h
    · skip
      obtain ⟨v4_8, hv4_8, h⟩ := xl_ex h
      refine s_M_inWords [(33, .if_icmp .eq 9, 0, (-1)), (36, .iinc 4 1, 0, 0), (39, .goto (-14), 0, 25)] (by decide +kernel) (z' := (25, [(4, (vI v4_8)), (0, (vR 10 l0)), (1, (vR 99 l1)), (2, (vI v2)), (3, (vI v3))], [], R, M, 174)) (cs := [¬ (r_5 = 32)]) (by subst hv4_8; rfl) ⟨c_7, trivial⟩ (Nat.le_refl _) ?_
      refine XR.pick [1, 2, 3, 4, 0] (ls' := [(0, (vR 10 l0)), (1, (vR 99 l1)), (2, (vI v2)), (3, (vI v3)), (4, (vI v4_8))]) rfl ?_
      exact ih v2 v3 v4_8 _ h
set_option maxRecDepth 100000 in
set_option maxHeartbeats 4000000 in
theorem o_M_inWords_J107 {sc : List Int} {R : xR} {M : xM}  {l0 : Nat} {l1 : Nat}  {rc : Int → Int → Int → Int → Int → Option Int} {q115 : Int → Int → Int → Option Int} (hrc : ∀ (w2 : Int) (w3 : Int) (w4 : Int) (w5 : Int) (w6 : Int) (out : Int), rc w2 w3 w4 w5 w6 = some out → XR false 4 174 sc y_M_inWords (68, [(0, (vR 10 l0)), (1, (vR 99 l1)), (2, (vI w2)), (3, (vI w3)), (4, (vI w4)), (5, (vI w5)), (6, (vI w6))], [], R, M, 174) ((some (vI out)), R, M)) (hq115 : ∀ (w2 : Int) (w4 : Int) (w5 : Int) (out : Int), q115 w2 w4 w5 = some out → XR false 4 174 sc y_M_inWords (115, [(0, (vR 10 l0)), (1, (vR 99 l1)), (2, (vI w2)), (4, (vI w4)), (5, (vI w5))], [], R, M, 174) ((some (vI out)), R, M)) {v2 : Int} {v3 : Int} {v4 : Int} {v6 : Int} {s0 : Int} {out : Int} (h : M_inWords_J107 R M l0 l1 rc q115 v2 v3 v4 v6 s0 = some out) : XR false 4 174 sc y_M_inWords (107, [(0, (vR 10 l0)), (1, (vR 99 l1)), (2, (vI v2)), (3, (vI v3)), (4, (vI v4)), (6, (vI v6))], [(vI s0)], R, M, 174) ((some (vI out)), R, M) := by
  unfold M_inWords_J107 at h
  obtain ⟨v6_20, hv6_20, h⟩ := xl_ex h
  refine s_M_inWords [(107, .istore 5, 0, 0), (109, .iinc 6 1, 0, 0), (112, .goto (-44), 0, 68)] (by decide +kernel) (z' := (68, [(6, (vI v6_20)), (5, (vI s0)), (0, (vR 10 l0)), (1, (vR 99 l1)), (2, (vI v2)), (3, (vI v3)), (4, (vI v4))], [], R, M, 174)) (cs := []) (by subst hv6_20; rfl) trivial (Nat.le_refl _) ?_
  refine XR.pick [2, 3, 4, 5, 6, 1, 0] (ls' := [(0, (vR 10 l0)), (1, (vR 99 l1)), (2, (vI v2)), (3, (vI v3)), (4, (vI v4)), (5, (vI s0)), (6, (vI v6_20))]) rfl ?_
  exact hrc v2 v3 v4 s0 v6_20 _ h
set_option maxRecDepth 100000 in
set_option maxHeartbeats 4000000 in
theorem o_M_inWords_F68 {sc : List Int} {R : xR} {M : xM}  {l0 : Nat} {l1 : Nat}  {q115 : Int → Int → Int → Option Int} (hq115 : ∀ (w2 : Int) (w4 : Int) (w5 : Int) (out : Int), q115 w2 w4 w5 = some out → XR false 4 174 sc y_M_inWords (115, [(0, (vR 10 l0)), (1, (vR 99 l1)), (2, (vI w2)), (4, (vI w4)), (5, (vI w5))], [], R, M, 174) ((some (vI out)), R, M)) : ∀ (n : Nat) (v2 : Int) (v3 : Int) (v4 : Int) (v5 : Int) (v6 : Int) (out : Int), M_inWords_F68 R M l0 l1 q115 n v2 v3 v4 v5 v6 = some out → XR false 4 174 sc y_M_inWords (68, [(0, (vR 10 l0)), (1, (vR 99 l1)), (2, (vI v2)), (3, (vI v3)), (4, (vI v4)), (5, (vI v5)), (6, (vI v6))], [], R, M, 174) ((some (vI out)), R, M) := by
  intro n
  induction n with
  | zero => intro v2 v3 v4 v5 v6 out h; exact (xno h).elim
  | succ n ih =>
    intro v2 v3 v4 v5 v6 out h
    rw [M_inWords_F68] at h
    refine s_M_inWords [(68, .iload 6, 0, 0), (70, .iload 4, 0, 0)] (by decide +kernel) (z' := (72, [(0, (vR 10 l0)), (1, (vR 99 l1)), (2, (vI v2)), (3, (vI v3)), (4, (vI v4)), (5, (vI v5)), (6, (vI v6))], [(vI v4), (vI v6)], R, M, 174)) (cs := []) (by rfl) trivial (Nat.le_refl _) ?_
    rcases xif_ex h with ⟨c_13, h⟩ | ⟨c_13, h⟩
    · skip
      refine s_M_inWords [(72, .if_icmp .ge 43, 0, (-1)), (75, .iload 5, 0, 0)] (by decide +kernel) (z' := (77, [(0, (vR 10 l0)), (1, (vR 99 l1)), (2, (vI v2)), (3, (vI v3)), (4, (vI v4)), (5, (vI v5)), (6, (vI v6))], [(vI v5)], R, M, 174)) (cs := [¬ (v4 ≤ v6)]) (by rfl) ⟨Int.not_le.mpr c_13, trivial⟩ (Nat.le_refl _) ?_
      rcases xif_ex h with ⟨c_14, h⟩ | ⟨c_14, h⟩
      · skip
        refine s_M_inWords [(77, .ifCond .eq 38, 0, 115)] (by decide +kernel) (z' := (115, [(0, (vR 10 l0)), (1, (vR 99 l1)), (2, (vI v2)), (3, (vI v3)), (4, (vI v4)), (5, (vI v5)), (6, (vI v6))], [], R, M, 174)) (cs := [v5 = 0]) (by rfl) ⟨c_14, trivial⟩ (Nat.le_refl _) ?_
        refine XR.pick [0, 1, 2, 4, 5] (ls' := [(0, (vR 10 l0)), (1, (vR 99 l1)), (2, (vI v2)), (4, (vI v4)), (5, (vI v5))]) rfl ?_
        exact hq115 v2 v4 v5 _ h
      · skip
        refine s_M_inWords [(77, .ifCond .eq 38, 0, (-1)), (80, .aload_n 1, 0, 0), (81, .iload 6, 0, 0)] (by decide +kernel) (z' := (83, [(0, (vR 10 l0)), (1, (vR 99 l1)), (2, (vI v2)), (3, (vI v3)), (4, (vI v4)), (5, (vI v5)), (6, (vI v6))], [(vI v6), (vR 99 l1)], R, M, 174)) (cs := [¬ (v5 = 0)]) (by rfl) ⟨c_14, trivial⟩ (Nat.le_refl _) ?_
        obtain ⟨r_15, e_16, h⟩ := xb1_ex h
        refine XR.callV 10 rfl (rest := []) m_S_charAt k_10_318 99 l1 (Or.inr ⟨rfl, rfl⟩) [(vI v6)] rfl rfl (c_S_charAt e_16) (by decide) (Nat.le_of_ble_eq_true rfl) (by decide +kernel) (Nat.le_refl _) (Nat.le_refl _) ?_
        show XR false 4 174 sc y_M_inWords (86, [(0, (vR 10 l0)), (1, (vR 99 l1)), (2, (vI v2)), (3, (vI v3)), (4, (vI v4)), (5, (vI v5)), (6, (vI v6))], [(vI r_15)], R, M, 174) _
        refine s_M_inWords [(86, .aload_n 0, 0, 0), (87, .aload_n 0, 0, 0), (88, .getfield 284, 10, 9), (91, .iload 6, 0, 0), (93, .iadd, 0, 0), (94, .iload_n 3, 0, 0), (95, .isub, 0, 0)] (by decide +kernel) (z' := (96, [(0, (vR 10 l0)), (1, (vR 99 l1)), (2, (vI v2)), (3, (vI v3)), (4, (vI v4)), (5, (vI v5)), (6, (vI v6))], [(vI (w32 ((w32 ((M l0 9) + v6)) - v3))), (vR 10 l0), (vI r_15)], R, M, 174)) (cs := []) (by rfl) trivial (Nat.le_refl _) ?_
        obtain ⟨r_17, e_18, h⟩ := xb1_ex h
        refine XR.callV 10 rfl (rest := [(vI r_15)]) m_M_byteAt k_10_280 10 l0 (Or.inl ⟨by decide, rfl⟩) [(vI (w32 ((w32 ((M l0 9) + v6)) - v3)))] rfl rfl (c_M_byteAt e_18) (by decide) (Nat.le_of_ble_eq_true rfl) (by decide +kernel) (Nat.le_refl _) (Nat.le_refl _) ?_
        show XR false 4 174 sc y_M_inWords (99, [(0, (vR 10 l0)), (1, (vR 99 l1)), (2, (vI v2)), (3, (vI v3)), (4, (vI v4)), (5, (vI v5)), (6, (vI v6))], [(vI r_17), (vI r_15)], R, M, 174) _
        rcases xif_ex h with ⟨c_19, h⟩ | ⟨c_19, h⟩
        · skip
          refine s_M_inWords [(99, .if_icmp .ne 7, 0, (-1)), (102, .iconst 1, 0, 1), (103, .goto 4, 0, 107)] (by decide +kernel) (z' := (107, [(0, (vR 10 l0)), (1, (vR 99 l1)), (2, (vI v2)), (3, (vI v3)), (4, (vI v4)), (5, (vI v5)), (6, (vI v6))], [(vI 1)], R, M, 174)) (cs := [¬ (r_15 ≠ r_17)]) (by rfl) ⟨fun q => q c_19, trivial⟩ (Nat.le_refl _) ?_
          refine XR.pick [0, 1, 2, 3, 4, 6] (ls' := [(0, (vR 10 l0)), (1, (vR 99 l1)), (2, (vI v2)), (3, (vI v3)), (4, (vI v4)), (6, (vI v6))]) rfl ?_
          exact o_M_inWords_J107 ih hq115 h
        · skip
          refine s_M_inWords [(99, .if_icmp .ne 7, 0, 106), (106, .iconst 0, 0, 0)] (by decide +kernel) (z' := (107, [(0, (vR 10 l0)), (1, (vR 99 l1)), (2, (vI v2)), (3, (vI v3)), (4, (vI v4)), (5, (vI v5)), (6, (vI v6))], [(vI 0)], R, M, 174)) (cs := [r_15 ≠ r_17]) (by rfl) ⟨c_19, trivial⟩ (Nat.le_refl _) ?_
          refine XR.pick [0, 1, 2, 3, 4, 6] (ls' := [(0, (vR 10 l0)), (1, (vR 99 l1)), (2, (vI v2)), (3, (vI v3)), (4, (vI v4)), (6, (vI v6))]) rfl ?_
          exact o_M_inWords_J107 ih hq115 h
    · skip
      refine s_M_inWords [(72, .if_icmp .ge 43, 0, 115)] (by decide +kernel) (z' := (115, [(0, (vR 10 l0)), (1, (vR 99 l1)), (2, (vI v2)), (3, (vI v3)), (4, (vI v4)), (5, (vI v5)), (6, (vI v6))], [], R, M, 174)) (cs := [v4 ≤ v6]) (by rfl) ⟨Int.not_lt.mp c_13, trivial⟩ (Nat.le_refl _) ?_
      refine XR.pick [0, 1, 2, 4, 5] (ls' := [(0, (vR 10 l0)), (1, (vR 99 l1)), (2, (vI v2)), (4, (vI v4)), (5, (vI v5))]) rfl ?_
      exact hq115 v2 v4 v5 _ h
set_option maxRecDepth 100000 in
set_option maxHeartbeats 4000000 in
theorem o_M_inWords_J115 {sc : List Int} {R : xR} {M : xM}  {l0 : Nat} {l1 : Nat}  {rc : Int → Int → Option Int} (hrc : ∀ (w2 : Int) (w3 : Int) (out : Int), rc w2 w3 = some out → XR false 4 174 sc y_M_inWords (14, [(0, (vR 10 l0)), (1, (vR 99 l1)), (2, (vI w2)), (3, (vI w3))], [], R, M, 174) ((some (vI out)), R, M)) {v2 : Int} {v4 : Int} {v5 : Int} {out : Int} (h : M_inWords_J115 R M l0 l1 rc v2 v4 v5 = some out) : XR false 4 174 sc y_M_inWords (115, [(0, (vR 10 l0)), (1, (vR 99 l1)), (2, (vI v2)), (4, (vI v4)), (5, (vI v5))], [], R, M, 174) ((some (vI out)), R, M) := by
  unfold M_inWords_J115 at h
  refine s_M_inWords [(115, .iload 5, 0, 0)] (by decide +kernel) (z' := (117, [(0, (vR 10 l0)), (1, (vR 99 l1)), (2, (vI v2)), (4, (vI v4)), (5, (vI v5))], [(vI v5)], R, M, 174)) (cs := []) (by rfl) trivial (Nat.le_refl _) ?_
  rcases xif_ex h with ⟨c_24, h⟩ | ⟨c_24, h⟩
  · skip
    obtain ⟨v2_25, hv2_25, h⟩ := xl_ex h
    obtain ⟨v3_26, hv3_26, h⟩ := xl_ex h
    refine s_M_inWords [(117, .ifCond .eq 5, 0, 122), (122, .iinc 2 1, 0, 0), (125, .iload 4, 0, 0), (127, .iconst 1, 0, 1), (128, .iadd, 0, 0), (129, .istore_n 3, 0, 0), (130, .goto (-116), 0, 14)] (by decide +kernel) (z' := (14, [(3, (vI v3_26)), (2, (vI v2_25)), (0, (vR 10 l0)), (1, (vR 99 l1)), (4, (vI v4)), (5, (vI v5))], [], R, M, 174)) (cs := [v5 = 0]) (by subst hv2_25; subst hv3_26; rfl) ⟨c_24, trivial⟩ (Nat.le_refl _) ?_
    refine XR.pick [2, 3, 1, 0] (ls' := [(0, (vR 10 l0)), (1, (vR 99 l1)), (2, (vI v2_25)), (3, (vI v3_26))]) rfl ?_
    exact hrc v2_25 v3_26 _ h
  · skip
    refine s_M_inWords [(117, .ifCond .eq 5, 0, (-1)), (120, .iload_n 2, 0, 0)] (by decide +kernel) (z' := (121, [(0, (vR 10 l0)), (1, (vR 99 l1)), (2, (vI v2)), (4, (vI v4)), (5, (vI v5))], [(vI v2)], R, M, 174)) (cs := [¬ (v5 = 0)]) (by rfl) ⟨c_24, trivial⟩ (Nat.le_refl _) ?_
    obtain rfl := Option.some.inj h
    exact XR.retI .int rfl rfl (by decide +kernel)
set_option maxRecDepth 100000 in
set_option maxHeartbeats 4000000 in
theorem o_M_inWords_J63 {sc : List Int} {R : xR} {M : xM}  {l0 : Nat} {l1 : Nat}  {rc : Int → Int → Option Int} (hrc : ∀ (w2 : Int) (w3 : Int) (out : Int), rc w2 w3 = some out → XR false 4 174 sc y_M_inWords (14, [(0, (vR 10 l0)), (1, (vR 99 l1)), (2, (vI w2)), (3, (vI w3))], [], R, M, 174) ((some (vI out)), R, M)) {v2 : Int} {v3 : Int} {v4 : Int} {s0 : Int} {out : Int} (h : M_inWords_J63 R M l0 l1 rc v2 v3 v4 s0 = some out) : XR false 4 174 sc y_M_inWords (63, [(0, (vR 10 l0)), (1, (vR 99 l1)), (2, (vI v2)), (3, (vI v3)), (4, (vI v4))], [(vI s0)], R, M, 174) ((some (vI out)), R, M) := by
  unfold M_inWords_J63 at h
  refine s_M_inWords [(63, .istore 5, 0, 0), (65, .iload_n 3, 0, 0), (66, .istore 6, 0, 0)] (by decide +kernel) (z' := (68, [(6, (vI v3)), (5, (vI s0)), (0, (vR 10 l0)), (1, (vR 99 l1)), (2, (vI v2)), (3, (vI v3)), (4, (vI v4))], [], R, M, 174)) (cs := []) (by rfl) trivial (Nat.le_refl _) ?_
  refine XR.pick [2, 3, 4, 5, 6, 1, 0] (ls' := [(0, (vR 10 l0)), (1, (vR 99 l1)), (2, (vI v2)), (3, (vI v3)), (4, (vI v4)), (5, (vI s0)), (6, (vI v3))]) rfl ?_
  refine o_M_inWords_F68 ?_ xfu v2 v3 v4 s0 v3 _ h
  · intro v2_21 v4_22 v5_23 out h
    exact o_M_inWords_J115 hrc h
set_option maxRecDepth 100000 in
set_option maxHeartbeats 4000000 in
theorem o_M_inWords_F14 {sc : List Int} {R : xR} {M : xM}  {l0 : Nat} {l1 : Nat}  : ∀ (n : Nat) (v2 : Int) (v3 : Int) (out : Int), M_inWords_F14 R M l0 l1  n v2 v3 = some out → XR false 4 174 sc y_M_inWords (14, [(0, (vR 10 l0)), (1, (vR 99 l1)), (2, (vI v2)), (3, (vI v3))], [], R, M, 174) ((some (vI out)), R, M) := by
  intro n
  induction n with
  | zero => intro v2 v3 out h; exact (xno h).elim
  | succ n ih =>
    intro v2 v3 out h
    rw [M_inWords_F14] at h
    refine s_M_inWords [(14, .iload_n 3, 0, 0), (15, .aload_n 1, 0, 0)] (by decide +kernel) (z' := (16, [(0, (vR 10 l0)), (1, (vR 99 l1)), (2, (vI v2)), (3, (vI v3))], [(vR 99 l1), (vI v3)], R, M, 174)) (cs := []) (by rfl) trivial (Nat.le_refl _) ?_
    obtain ⟨r_2, e_3, h⟩ := xb1_ex h
    refine XR.callV 10 rfl (rest := [(vI v3)]) m_S_length k_10_312 99 l1 (Or.inr ⟨rfl, rfl⟩) [] rfl rfl (c_S_length e_3) (by decide) (Nat.le_of_ble_eq_true rfl) (by decide +kernel) (Nat.le_refl _) (Nat.le_refl _) ?_
    show XR false 4 174 sc y_M_inWords (19, [(0, (vR 10 l0)), (1, (vR 99 l1)), (2, (vI v2)), (3, (vI v3))], [(vI r_2), (vI v3)], R, M, 174) _
    rcases xif_ex h with ⟨c_4, h⟩ | ⟨c_4, h⟩
    · skip
      refine s_M_inWords [(19, .if_icmp .ge 114, 0, (-1)), (22, .iload_n 3, 0, 0), (23, .istore 4, 0, 0)] (by decide +kernel) (z' := (25, [(4, (vI v3)), (0, (vR 10 l0)), (1, (vR 99 l1)), (2, (vI v2)), (3, (vI v3))], [], R, M, 174)) (cs := [¬ (r_2 ≤ v3)]) (by rfl) ⟨Int.not_le.mpr c_4, trivial⟩ (Nat.le_refl _) ?_
      refine XR.pick [1, 2, 3, 4, 0] (ls' := [(0, (vR 10 l0)), (1, (vR 99 l1)), (2, (vI v2)), (3, (vI v3)), (4, (vI v3))]) rfl ?_
      refine o_M_inWords_F25 ?_ xfu v2 v3 v3 _ h
      · intro v2_9 v3_10 v4_11 out h
        refine s_M_inWords [(42, .iload 4, 0, 0), (44, .iload_n 3, 0, 0), (45, .isub, 0, 0), (46, .aload_n 0, 0, 0), (47, .getfield 277, 10, 10), (50, .aload_n 0, 0, 0), (51, .getfield 284, 10, 9), (54, .isub, 0, 0)] (by decide +kernel) (z' := (55, [(0, (vR 10 l0)), (1, (vR 99 l1)), (2, (vI v2_9)), (3, (vI v3_10)), (4, (vI v4_11))], [(vI (w32 ((M l0 10) - (M l0 9)))), (vI (w32 (v4_11 - v3_10)))], R, M, 174)) (cs := []) (by rfl) trivial (Nat.le_refl _) ?_
        rcases xif_ex h with ⟨c_12, h⟩ | ⟨c_12, h⟩
        · skip
          refine s_M_inWords [(55, .if_icmp .ne 7, 0, (-1)), (58, .iconst 1, 0, 1), (59, .goto 4, 0, 63)] (by decide +kernel) (z' := (63, [(0, (vR 10 l0)), (1, (vR 99 l1)), (2, (vI v2_9)), (3, (vI v3_10)), (4, (vI v4_11))], [(vI 1)], R, M, 174)) (cs := [¬ (w32 (v4_11 - v3_10) ≠ w32 ((M l0 10) - (M l0 9)))]) (by rfl) ⟨fun q => q c_12, trivial⟩ (Nat.le_refl _) ?_
          exact o_M_inWords_J63 ih h
        · skip
          refine s_M_inWords [(55, .if_icmp .ne 7, 0, 62), (62, .iconst 0, 0, 0)] (by decide +kernel) (z' := (63, [(0, (vR 10 l0)), (1, (vR 99 l1)), (2, (vI v2_9)), (3, (vI v3_10)), (4, (vI v4_11))], [(vI 0)], R, M, 174)) (cs := [w32 (v4_11 - v3_10) ≠ w32 ((M l0 10) - (M l0 9))]) (by rfl) ⟨c_12, trivial⟩ (Nat.le_refl _) ?_
          exact o_M_inWords_J63 ih h
    · skip
      refine s_M_inWords [(19, .if_icmp .ge 114, 0, 133), (133, .iconst (-1), 0, (-1))] (by decide +kernel) (z' := (134, [(0, (vR 10 l0)), (1, (vR 99 l1)), (2, (vI v2)), (3, (vI v3))], [(vI (-1))], R, M, 174)) (cs := [r_2 ≤ v3]) (by rfl) ⟨Int.not_lt.mp c_4, trivial⟩ (Nat.le_refl _) ?_
      obtain rfl := Option.some.inj h
      exact XR.retI .int rfl rfl (by decide +kernel)
set_option maxRecDepth 100000 in
set_option maxHeartbeats 4000000 in
theorem o_M_inWords {sc : List Int} {R : xR} {M : xM} {l0 : Nat} {l1 : Nat} {out : Int} (h : f_M_inWords R l0 l1 M = some out) : XR false 4 174 sc y_M_inWords (0, [(0, (vR 10 l0)), (1, (vR 99 l1))], [], R, M, 174) ((some (vI out)), R, M) := by
  unfold f_M_inWords at h
  refine s_M_inWords [(0, .aload_n 0, 0, 0), (1, .getfield 290, 10, 8), (4, .iconst 2, 0, 2)] (by decide +kernel) (z' := (5, [(0, (vR 10 l0)), (1, (vR 99 l1))], [(vI 2), (vI (M l0 8))], R, M, 174)) (cs := []) (by rfl) trivial (Nat.le_refl _) ?_
  rcases xif_ex h with ⟨c_1, h⟩ | ⟨c_1, h⟩
  · skip
    refine s_M_inWords [(5, .if_icmp .eq 5, 0, 10), (10, .iconst 0, 0, 0), (11, .istore_n 2, 0, 0), (12, .iconst 1, 0, 1), (13, .istore_n 3, 0, 0)] (by decide +kernel) (z' := (14, [(3, (vI 1)), (2, (vI 0)), (0, (vR 10 l0)), (1, (vR 99 l1))], [], R, M, 174)) (cs := [M l0 8 = 2]) (by rfl) ⟨c_1, trivial⟩ (Nat.le_refl _) ?_
    refine XR.pick [2, 3, 1, 0] (ls' := [(0, (vR 10 l0)), (1, (vR 99 l1)), (2, (vI 0)), (3, (vI 1))]) rfl ?_
    refine o_M_inWords_F14  xfu 0 1 _ h
  · skip
    refine s_M_inWords [(5, .if_icmp .eq 5, 0, (-1)), (8, .iconst (-1), 0, (-1))] (by decide +kernel) (z' := (9, [(0, (vR 10 l0)), (1, (vR 99 l1))], [(vI (-1))], R, M, 174)) (cs := [¬ (M l0 8 = 2)]) (by rfl) ⟨c_1, trivial⟩ (Nat.le_refl _) ?_
    obtain rfl := Option.some.inj h
    exact XR.retI .int rfl rfl (by decide +kernel)
set_option maxRecDepth 100000 in
set_option maxHeartbeats 4000000 in
theorem c_M_inWords {sc : List Int} {R : xR} {M : xM} {l0 : Nat} {l1 : Nat} {out : Int} (h : f_M_inWords R l0 l1 M = some out) : XC false 4 sc y_M_inWords [(vR 10 l0), (vR 99 l1)] R M 174 174 ((some (vI out)), R, M) := XC.of (by decide) (Nat.le_of_ble_eq_true rfl) (Nat.le_refl _) (Nat.le_refl _) (o_M_inWords h)
def f_M_isSign (l0 : Nat) (l1 : Int) (M : xM) : Option Int :=
  if M l0 8 = 4 then
    if M l0 11 = l1 then
      some (1)
    else
      some (0)
  else
    some (0)
set_option maxRecDepth 100000 in
set_option maxHeartbeats 4000000 in
theorem s_M_isSign {d : Nat} {sc : List Int} {z z' : xS} {out : xO} (qs : List xI) {cs : List Prop} (hq : qs.all (xqb 10 false y_M_isSign.2.2.1 y_M_isSign.2.1) = true) (h : xN false sc qs z = some (z', cs)) (hc : xAll cs) (hE : z'.2.2.2.2.2 ≤ 174) (k : XR false d 174 sc y_M_isSign z' out) : XR false d 174 sc y_M_isSign z out := XR.seg 10 false rfl (fun q => by cases q) qs hq h hc hE k
set_option maxRecDepth 100000 in
set_option maxHeartbeats 4000000 in
theorem o_M_isSign {sc : List Int} {R : xR} {M : xM} {l0 : Nat} {l1 : Int} {out : Int} (h : f_M_isSign l0 l1 M = some out) : XR false 0 174 sc y_M_isSign (0, [(0, (vR 10 l0)), (1, (vI l1))], [], R, M, 174) ((some (vI out)), R, M) := by
  unfold f_M_isSign at h
  refine s_M_isSign [(0, .aload_n 0, 0, 0), (1, .getfield 290, 10, 8), (4, .iconst 4, 0, 4)] (by decide +kernel) (z' := (5, [(0, (vR 10 l0)), (1, (vI l1))], [(vI 4), (vI (M l0 8))], R, M, 174)) (cs := []) (by rfl) trivial (Nat.le_refl _) ?_
  rcases xif_ex h with ⟨c_1, h⟩ | ⟨c_1, h⟩
  · skip
    refine s_M_isSign [(5, .if_icmp .ne 15, 0, (-1)), (8, .aload_n 0, 0, 0), (9, .getfield 287, 10, 11), (12, .iload_n 1, 0, 0)] (by decide +kernel) (z' := (13, [(0, (vR 10 l0)), (1, (vI l1))], [(vI l1), (vI (M l0 11))], R, M, 174)) (cs := [¬ (M l0 8 ≠ 4)]) (by rfl) ⟨fun q => q c_1, trivial⟩ (Nat.le_refl _) ?_
    rcases xif_ex h with ⟨c_2, h⟩ | ⟨c_2, h⟩
    · skip
      refine s_M_isSign [(13, .if_icmp .ne 7, 0, (-1)), (16, .iconst 1, 0, 1), (17, .goto 4, 0, 21)] (by decide +kernel) (z' := (21, [(0, (vR 10 l0)), (1, (vI l1))], [(vI 1)], R, M, 174)) (cs := [¬ (M l0 11 ≠ l1)]) (by rfl) ⟨fun q => q c_2, trivial⟩ (Nat.le_refl _) ?_
      obtain rfl := Option.some.inj h
      exact XR.retI .boolean rfl (xnar_z (by decide)) (by decide +kernel)
    · skip
      refine s_M_isSign [(13, .if_icmp .ne 7, 0, 20), (20, .iconst 0, 0, 0)] (by decide +kernel) (z' := (21, [(0, (vR 10 l0)), (1, (vI l1))], [(vI 0)], R, M, 174)) (cs := [M l0 11 ≠ l1]) (by rfl) ⟨c_2, trivial⟩ (Nat.le_refl _) ?_
      obtain rfl := Option.some.inj h
      exact XR.retI .boolean rfl (xnar_z (by decide)) (by decide +kernel)
  · skip
    refine s_M_isSign [(5, .if_icmp .ne 15, 0, 20), (20, .iconst 0, 0, 0)] (by decide +kernel) (z' := (21, [(0, (vR 10 l0)), (1, (vI l1))], [(vI 0)], R, M, 174)) (cs := [M l0 8 ≠ 4]) (by rfl) ⟨c_1, trivial⟩ (Nat.le_refl _) ?_
    obtain rfl := Option.some.inj h
    exact XR.retI .boolean rfl (xnar_z (by decide)) (by decide +kernel)
set_option maxRecDepth 100000 in
set_option maxHeartbeats 4000000 in
theorem c_M_isSign {sc : List Int} {R : xR} {M : xM} {l0 : Nat} {l1 : Int} {out : Int} (h : f_M_isSign l0 l1 M = some out) : XC false 0 sc y_M_isSign [(vR 10 l0), (vI l1)] R M 174 174 ((some (vI out)), R, M) := XC.of (by decide) (Nat.le_of_ble_eq_true rfl) (Nat.le_refl _) (Nat.le_refl _) (o_M_isSign h)
def M_isThere_F2 (R : xR) (M : xM) (l0 : Nat) (l1 : Int) (q29 : Option Int) : Nat → Int → Option Int
  | 0, _ => none
  | n + 1, v3 =>
    if v3 < M l0 29 then
      xch (0 ≤ v3 ∧ v3 < 4) <|
      if M (R l0 18) (Int.toNat v3) = l1 then
        some (1)
      else
        xl (w32 (v3 + 1)) fun v3_4 =>
        M_isThere_F2 R M l0 l1 q29 n v3_4
    else
      q29 
def f_M_isThere (R : xR) (l0 : Nat) (l1 : Int) (M : xM) : Option Int :=
  M_isThere_F2 R M l0 l1
    (
      xb1 (f_M_cleanerOf R l0 l1 M) fun r_5 =>
      if r_5 = -1 then
        some (0)
      else
        some (1))
    xfu 0
set_option maxRecDepth 100000 in
set_option maxHeartbeats 4000000 in
theorem s_M_isThere {d : Nat} {sc : List Int} {z z' : xS} {out : xO} (qs : List xI) {cs : List Prop} (hq : qs.all (xqb 10 false y_M_isThere.2.2.1 y_M_isThere.2.1) = true) (h : xN false sc qs z = some (z', cs)) (hc : xAll cs) (hE : z'.2.2.2.2.2 ≤ 174) (k : XR false d 174 sc y_M_isThere z' out) : XR false d 174 sc y_M_isThere z out := XR.seg 10 false rfl (fun q => by cases q) qs hq h hc hE k
set_option maxRecDepth 100000 in
set_option maxHeartbeats 4000000 in
theorem o_M_isThere_F2 {sc : List Int} {R : xR} {M : xM}  {l0 : Nat} {l1 : Int}  {q29 : Option Int} (hq29 : ∀  (out : Int), q29  = some out → XR false 1 174 sc y_M_isThere (29, [(0, (vR 10 l0)), (1, (vL l1))], [], R, M, 174) ((some (vI out)), R, M)) : ∀ (n : Nat) (v3 : Int) (out : Int), M_isThere_F2 R M l0 l1 q29 n v3 = some out → XR false 1 174 sc y_M_isThere (2, [(0, (vR 10 l0)), (1, (vL l1)), (3, (vI v3))], [], R, M, 174) ((some (vI out)), R, M) := by
  intro n
  induction n with
  | zero => intro v3 out h; exact (xno h).elim
  | succ n ih =>
    intro v3 out h
    rw [M_isThere_F2] at h
    refine s_M_isThere [(2, .iload_n 3, 0, 0), (3, .aload_n 0, 0, 0), (4, .getfield 348, 10, 29)] (by decide +kernel) (z' := (7, [(0, (vR 10 l0)), (1, (vL l1)), (3, (vI v3))], [(vI (M l0 29)), (vI v3)], R, M, 174)) (cs := []) (by rfl) trivial (Nat.le_refl _) ?_
    rcases xif_ex h with ⟨c_1, h⟩ | ⟨c_1, h⟩
    · skip
      obtain ⟨c_2, h⟩ := xch_ex h
      refine s_M_isThere [(7, .if_icmp .ge 22, 0, (-1)), (10, .aload_n 0, 0, 0), (11, .getfield 37, 10, 18), (14, .iload_n 3, 0, 0), (15, .laload, 0, 0), (16, .lload_n 1, 0, 0), (17, .lcmp, 0, 0)] (by decide +kernel) (z' := (18, [(0, (vR 10 l0)), (1, (vL l1)), (3, (vI v3))], [(vI (xcmp (M (R l0 18) (Int.toNat v3)) l1))], R, M, 174)) (cs := [¬ (M l0 29 ≤ v3), xar 36 1, xidx v3 (xan 36)]) (by rfl) ⟨Int.not_le.mpr c_1, xar_36, xix_36 c_2, trivial⟩ (Nat.le_refl _) ?_
      rcases xif_ex h with ⟨c_3, h⟩ | ⟨c_3, h⟩
      · skip
        refine s_M_isThere [(18, .ifCond .ne 5, 0, (-1)), (21, .iconst 1, 0, 1)] (by decide +kernel) (z' := (22, [(0, (vR 10 l0)), (1, (vL l1)), (3, (vI v3))], [(vI 1)], R, M, 174)) (cs := [¬ (xcmp (M (R l0 18) (Int.toNat v3)) l1 ≠ 0)]) (by rfl) ⟨fun q => q (xcmp_eq.mpr c_3), trivial⟩ (Nat.le_refl _) ?_
        obtain rfl := Option.some.inj h
        exact XR.retI .boolean rfl (xnar_z (by decide)) (by decide +kernel)
      · skip
        obtain ⟨v3_4, hv3_4, h⟩ := xl_ex h
        refine s_M_isThere [(18, .ifCond .ne 5, 0, 23), (23, .iinc 3 1, 0, 0), (26, .goto (-24), 0, 2)] (by decide +kernel) (z' := (2, [(3, (vI v3_4)), (0, (vR 10 l0)), (1, (vL l1))], [], R, M, 174)) (cs := [xcmp (M (R l0 18) (Int.toNat v3)) l1 ≠ 0]) (by subst hv3_4; rfl) ⟨fun q => c_3 (xcmp_eq.mp q), trivial⟩ (Nat.le_refl _) ?_
        refine XR.pick [1, 2, 0] (ls' := [(0, (vR 10 l0)), (1, (vL l1)), (3, (vI v3_4))]) rfl ?_
        exact ih v3_4 _ h
    · skip
      refine s_M_isThere [(7, .if_icmp .ge 22, 0, 29)] (by decide +kernel) (z' := (29, [(0, (vR 10 l0)), (1, (vL l1)), (3, (vI v3))], [], R, M, 174)) (cs := [M l0 29 ≤ v3]) (by rfl) ⟨Int.not_lt.mp c_1, trivial⟩ (Nat.le_refl _) ?_
      refine XR.pick [0, 1] (ls' := [(0, (vR 10 l0)), (1, (vL l1))]) rfl ?_
      exact hq29  _ h
set_option maxRecDepth 100000 in
set_option maxHeartbeats 4000000 in
theorem o_M_isThere {sc : List Int} {R : xR} {M : xM} {l0 : Nat} {l1 : Int} {out : Int} (h : f_M_isThere R l0 l1 M = some out) : XR false 1 174 sc y_M_isThere (0, [(0, (vR 10 l0)), (1, (vL l1))], [], R, M, 174) ((some (vI out)), R, M) := by
  unfold f_M_isThere at h
  refine s_M_isThere [(0, .iconst 0, 0, 0), (1, .istore_n 3, 0, 0)] (by decide +kernel) (z' := (2, [(3, (vI 0)), (0, (vR 10 l0)), (1, (vL l1))], [], R, M, 174)) (cs := []) (by rfl) trivial (Nat.le_refl _) ?_
  refine XR.pick [1, 2, 0] (ls' := [(0, (vR 10 l0)), (1, (vL l1)), (3, (vI 0))]) rfl ?_
  refine o_M_isThere_F2 ?_ xfu 0 _ h
  · intro  out h
    refine s_M_isThere [(29, .aload_n 0, 0, 0), (30, .lload_n 1, 0, 0)] (by decide +kernel) (z' := (31, [(0, (vR 10 l0)), (1, (vL l1))], [(vL l1), (vR 10 l0)], R, M, 174)) (cs := []) (by rfl) trivial (Nat.le_refl _) ?_
    obtain ⟨r_5, e_6, h⟩ := xb1_ex h
    refine XR.callV 10 rfl (rest := []) m_M_cleanerOf k_10_351 10 l0 (Or.inl ⟨by decide, rfl⟩) [(vL l1)] rfl rfl (c_M_cleanerOf e_6) (by decide) (Nat.le_of_ble_eq_true rfl) (by decide +kernel) (Nat.le_refl _) (Nat.le_refl _) ?_
    show XR false 1 174 sc y_M_isThere (34, [(0, (vR 10 l0)), (1, (vL l1))], [(vI r_5)], R, M, 174) _
    refine s_M_isThere [(34, .iconst (-1), 0, (-1))] (by decide +kernel) (z' := (35, [(0, (vR 10 l0)), (1, (vL l1))], [(vI (-1)), (vI r_5)], R, M, 174)) (cs := []) (by rfl) trivial (Nat.le_refl _) ?_
    rcases xif_ex h with ⟨c_7, h⟩ | ⟨c_7, h⟩
    · skip
      refine s_M_isThere [(35, .if_icmp .eq 7, 0, 42), (42, .iconst 0, 0, 0)] (by decide +kernel) (z' := (43, [(0, (vR 10 l0)), (1, (vL l1))], [(vI 0)], R, M, 174)) (cs := [r_5 = -1]) (by rfl) ⟨c_7, trivial⟩ (Nat.le_refl _) ?_
      obtain rfl := Option.some.inj h
      exact XR.retI .boolean rfl (xnar_z (by decide)) (by decide +kernel)
    · skip
      refine s_M_isThere [(35, .if_icmp .eq 7, 0, (-1)), (38, .iconst 1, 0, 1), (39, .goto 4, 0, 43)] (by decide +kernel) (z' := (43, [(0, (vR 10 l0)), (1, (vL l1))], [(vI 1)], R, M, 174)) (cs := [¬ (r_5 = -1)]) (by rfl) ⟨c_7, trivial⟩ (Nat.le_refl _) ?_
      obtain rfl := Option.some.inj h
      exact XR.retI .boolean rfl (xnar_z (by decide)) (by decide +kernel)
set_option maxRecDepth 100000 in
set_option maxHeartbeats 4000000 in
theorem c_M_isThere {sc : List Int} {R : xR} {M : xM} {l0 : Nat} {l1 : Int} {out : Int} (h : f_M_isThere R l0 l1 M = some out) : XC false 1 sc y_M_isThere [(vR 10 l0), (vL l1)] R M 174 174 ((some (vI out)), R, M) := XC.of (by decide) (Nat.le_of_ble_eq_true rfl) (Nat.le_refl _) (Nat.le_refl _) (o_M_isThere h)
def f_M_isWorks (l0 : Nat) (l1 : Int) (M : xM) : Option Int :=
  if l1 < 0 then
    some (0)
  else
    if l1 < M l0 31 then
      some (1)
    else
      some (0)
set_option maxRecDepth 100000 in
set_option maxHeartbeats 4000000 in
theorem s_M_isWorks {d : Nat} {sc : List Int} {z z' : xS} {out : xO} (qs : List xI) {cs : List Prop} (hq : qs.all (xqb 10 false y_M_isWorks.2.2.1 y_M_isWorks.2.1) = true) (h : xN false sc qs z = some (z', cs)) (hc : xAll cs) (hE : z'.2.2.2.2.2 ≤ 174) (k : XR false d 174 sc y_M_isWorks z' out) : XR false d 174 sc y_M_isWorks z out := XR.seg 10 false rfl (fun q => by cases q) qs hq h hc hE k
set_option maxRecDepth 100000 in
set_option maxHeartbeats 4000000 in
theorem o_M_isWorks {sc : List Int} {R : xR} {M : xM} {l0 : Nat} {l1 : Int} {out : Int} (h : f_M_isWorks l0 l1 M = some out) : XR false 0 174 sc y_M_isWorks (0, [(0, (vR 10 l0)), (1, (vI l1))], [], R, M, 174) ((some (vI out)), R, M) := by
  unfold f_M_isWorks at h
  refine s_M_isWorks [(0, .iload_n 1, 0, 0)] (by decide +kernel) (z' := (1, [(0, (vR 10 l0)), (1, (vI l1))], [(vI l1)], R, M, 174)) (cs := []) (by rfl) trivial (Nat.le_refl _) ?_
  rcases xif_ex h with ⟨c_1, h⟩ | ⟨c_1, h⟩
  · skip
    refine s_M_isWorks [(1, .ifCond .lt 15, 0, 16), (16, .iconst 0, 0, 0)] (by decide +kernel) (z' := (17, [(0, (vR 10 l0)), (1, (vI l1))], [(vI 0)], R, M, 174)) (cs := [l1 < 0]) (by rfl) ⟨c_1, trivial⟩ (Nat.le_refl _) ?_
    obtain rfl := Option.some.inj h
    exact XR.retI .boolean rfl (xnar_z (by decide)) (by decide +kernel)
  · skip
    refine s_M_isWorks [(1, .ifCond .lt 15, 0, (-1)), (4, .iload_n 1, 0, 0), (5, .aload_n 0, 0, 0), (6, .getfield 396, 10, 31)] (by decide +kernel) (z' := (9, [(0, (vR 10 l0)), (1, (vI l1))], [(vI (M l0 31)), (vI l1)], R, M, 174)) (cs := [¬ (l1 < 0)]) (by rfl) ⟨c_1, trivial⟩ (Nat.le_refl _) ?_
    rcases xif_ex h with ⟨c_2, h⟩ | ⟨c_2, h⟩
    · skip
      refine s_M_isWorks [(9, .if_icmp .ge 7, 0, (-1)), (12, .iconst 1, 0, 1), (13, .goto 4, 0, 17)] (by decide +kernel) (z' := (17, [(0, (vR 10 l0)), (1, (vI l1))], [(vI 1)], R, M, 174)) (cs := [¬ (M l0 31 ≤ l1)]) (by rfl) ⟨Int.not_le.mpr c_2, trivial⟩ (Nat.le_refl _) ?_
      obtain rfl := Option.some.inj h
      exact XR.retI .boolean rfl (xnar_z (by decide)) (by decide +kernel)
    · skip
      refine s_M_isWorks [(9, .if_icmp .ge 7, 0, 16), (16, .iconst 0, 0, 0)] (by decide +kernel) (z' := (17, [(0, (vR 10 l0)), (1, (vI l1))], [(vI 0)], R, M, 174)) (cs := [M l0 31 ≤ l1]) (by rfl) ⟨Int.not_lt.mp c_2, trivial⟩ (Nat.le_refl _) ?_
      obtain rfl := Option.some.inj h
      exact XR.retI .boolean rfl (xnar_z (by decide)) (by decide +kernel)
set_option maxRecDepth 100000 in
set_option maxHeartbeats 4000000 in
theorem c_M_isWorks {sc : List Int} {R : xR} {M : xM} {l0 : Nat} {l1 : Int} {out : Int} (h : f_M_isWorks l0 l1 M = some out) : XC false 0 sc y_M_isWorks [(vR 10 l0), (vI l1)] R M 174 174 ((some (vI out)), R, M) := XC.of (by decide) (Nat.le_of_ble_eq_true rfl) (Nat.le_refl _) (Nat.le_refl _) (o_M_isWorks h)
def M_nameHere_F57 (R : xR) (M : xM) (l0 : Nat) : Nat → Int → Int → Option Int
  | 0, _, _ => none
  | n + 1, v1, v3 =>
    if v3 < M l0 10 then
      xb1 (f_M_byteAt R l0 v3 M) fun r_9 =>
      xl (yor (yshl v1 8) r_9) fun v1_11 =>
      xl (w32 (v3 + 1)) fun v3_12 =>
      M_nameHere_F57 R M l0  n v1_11 v3_12
    else
      some (v1)
def M_nameHere_J39 (R : xR) (M : xM) (l0 : Nat) (s0 : Nat) (s1 : Nat) : Option Int :=
  xb1 (f_M_inWords R s1 s0 M) fun r_4 =>
  if r_4 = -1 then
    xl (M l0 9) fun v3_7 =>
    M_nameHere_F57 R M l0
      xfu 0 v3_7
  else
    some (-1)
def f_M_nameHere (R : xR) (l0 : Nat) (M : xM) : Option Int :=
  if M l0 8 = 2 then
    if 8 < w32 ((M l0 10) - (M l0 9)) then
      some (-1)
    else
      if M l0 16 = 0 then
        M_nameHere_J39 R M l0 6 l0
      else
        M_nameHere_J39 R M l0 7 l0
  else
    some (-1)
set_option maxRecDepth 100000 in
set_option maxHeartbeats 4000000 in
theorem s_M_nameHere {d : Nat} {sc : List Int} {z z' : xS} {out : xO} (qs : List xI) {cs : List Prop} (hq : qs.all (xqb 10 false y_M_nameHere.2.2.1 y_M_nameHere.2.1) = true) (h : xN false sc qs z = some (z', cs)) (hc : xAll cs) (hE : z'.2.2.2.2.2 ≤ 174) (k : XR false d 174 sc y_M_nameHere z' out) : XR false d 174 sc y_M_nameHere z out := XR.seg 10 false rfl (fun q => by cases q) qs hq h hc hE k
set_option maxRecDepth 100000 in
set_option maxHeartbeats 4000000 in
theorem o_M_nameHere_F57 {sc : List Int} {R : xR} {M : xM}  {l0 : Nat}  : ∀ (n : Nat) (v1 : Int) (v3 : Int) (out : Int), M_nameHere_F57 R M l0  n v1 v3 = some out → XR false 5 174 sc y_M_nameHere (57, [(0, (vR 10 l0)), (1, (vL v1)), (3, (vI v3))], [], R, M, 174) ((some (vL out)), R, M) := by
  intro n
  induction n with
  | zero => intro v1 v3 out h; exact (xno h).elim
  | succ n ih =>
    intro v1 v3 out h
    rw [M_nameHere_F57] at h
    refine s_M_nameHere [(57, .iload_n 3, 0, 0), (58, .aload_n 0, 0, 0), (59, .getfield 277, 10, 10)] (by decide +kernel) (z' := (62, [(0, (vR 10 l0)), (1, (vL v1)), (3, (vI v3))], [(vI (M l0 10)), (vI v3)], R, M, 174)) (cs := []) (by rfl) trivial (Nat.le_refl _) ?_
    rcases xif_ex h with ⟨c_8, h⟩ | ⟨c_8, h⟩
    · skip
      refine s_M_nameHere [(62, .if_icmp .ge 21, 0, (-1)), (65, .lload_n 1, 0, 0), (66, .bipush 8, 0, 8), (68, .lshl, 0, 0), (69, .aload_n 0, 0, 0), (70, .iload_n 3, 0, 0)] (by decide +kernel) (z' := (71, [(0, (vR 10 l0)), (1, (vL v1)), (3, (vI v3))], [(vI v3), (vR 10 l0), (vL (yshl v1 8))], R, M, 174)) (cs := [¬ (M l0 10 ≤ v3)]) (by rfl) ⟨Int.not_le.mpr c_8, trivial⟩ (Nat.le_refl _) ?_
      obtain ⟨r_9, e_10, h⟩ := xb1_ex h
      refine XR.callV 10 rfl (rest := [(vL (yshl v1 8))]) m_M_byteAt k_10_280 10 l0 (Or.inl ⟨by decide, rfl⟩) [(vI v3)] rfl rfl (c_M_byteAt e_10) (by decide) (Nat.le_of_ble_eq_true rfl) (by decide +kernel) (Nat.le_refl _) (Nat.le_refl _) ?_
      show XR false 5 174 sc y_M_nameHere (74, [(0, (vR 10 l0)), (1, (vL v1)), (3, (vI v3))], [(vI r_9), (vL (yshl v1 8))], R, M, 174) _
      obtain ⟨v1_11, hv1_11, h⟩ := xl_ex h
      obtain ⟨v3_12, hv3_12, h⟩ := xl_ex h
      refine s_M_nameHere [(74, .i2l, 0, 0), (75, .lor, 0, 0), (76, .lstore_n 1, 0, 0), (77, .iinc 3 1, 0, 0), (80, .goto (-23), 0, 57)] (by decide +kernel) (z' := (57, [(3, (vI v3_12)), (1, (vL v1_11)), (0, (vR 10 l0))], [], R, M, 174)) (cs := []) (by subst hv1_11; subst hv3_12; rfl) trivial (Nat.le_refl _) ?_
      refine XR.pick [2, 1, 0] (ls' := [(0, (vR 10 l0)), (1, (vL v1_11)), (3, (vI v3_12))]) rfl ?_
      exact ih v1_11 v3_12 _ h
    · skip
      refine s_M_nameHere [(62, .if_icmp .ge 21, 0, 83), (83, .lload_n 1, 0, 0)] (by decide +kernel) (z' := (84, [(0, (vR 10 l0)), (1, (vL v1)), (3, (vI v3))], [(vL v1)], R, M, 174)) (cs := [M l0 10 ≤ v3]) (by rfl) ⟨Int.not_lt.mp c_8, trivial⟩ (Nat.le_refl _) ?_
      obtain rfl := Option.some.inj h
      exact XR.retL rfl (by decide +kernel)
set_option maxRecDepth 100000 in
set_option maxHeartbeats 4000000 in
theorem o_M_nameHere_J39 {sc : List Int} {R : xR} {M : xM}  {l0 : Nat}  {s0 : Nat} {s1 : Nat} {out : Int} (h : M_nameHere_J39 R M l0  s0 s1 = some out) : XR false 5 174 sc y_M_nameHere (39, [(0, (vR 10 l0))], [(vR 99 s0), (vR 10 s1)], R, M, 174) ((some (vL out)), R, M) := by
  unfold M_nameHere_J39 at h
  obtain ⟨r_4, e_5, h⟩ := xb1_ex h
  refine XR.callV 10 rfl (rest := []) m_M_inWords k_10_327 10 s1 (Or.inl ⟨by decide, rfl⟩) [(vR 99 s0)] rfl rfl (c_M_inWords e_5) (by decide) (Nat.le_of_ble_eq_true rfl) (by decide +kernel) (Nat.le_refl _) (Nat.le_refl _) ?_
  show XR false 5 174 sc y_M_nameHere (42, [(0, (vR 10 l0))], [(vI r_4)], R, M, 174) _
  refine s_M_nameHere [(42, .iconst (-1), 0, (-1))] (by decide +kernel) (z' := (43, [(0, (vR 10 l0))], [(vI (-1)), (vI r_4)], R, M, 174)) (cs := []) (by rfl) trivial (Nat.le_refl _) ?_
  rcases xif_ex h with ⟨c_6, h⟩ | ⟨c_6, h⟩
  · skip
    obtain ⟨v3_7, hv3_7, h⟩ := xl_ex h
    refine s_M_nameHere [(43, .if_icmp .eq 7, 0, 50), (50, .lconst 0, 0, 0), (51, .lstore_n 1, 0, 0), (52, .aload_n 0, 0, 0), (53, .getfield 284, 10, 9), (56, .istore_n 3, 0, 0)] (by decide +kernel) (z' := (57, [(3, (vI v3_7)), (1, (vL 0)), (0, (vR 10 l0))], [], R, M, 174)) (cs := [r_4 = -1]) (by subst hv3_7; rfl) ⟨c_6, trivial⟩ (Nat.le_refl _) ?_
    refine XR.pick [2, 1, 0] (ls' := [(0, (vR 10 l0)), (1, (vL 0)), (3, (vI v3_7))]) rfl ?_
    refine o_M_nameHere_F57  xfu 0 v3_7 _ h
  · skip
    refine s_M_nameHere [(43, .if_icmp .eq 7, 0, (-1)), (46, .ldc2_w 265, 0, (-1))] (by decide +kernel) (z' := (49, [(0, (vR 10 l0))], [(vL (-1))], R, M, 174)) (cs := [¬ (r_4 = -1)]) (by rfl) ⟨c_6, trivial⟩ (Nat.le_refl _) ?_
    obtain rfl := Option.some.inj h
    exact XR.retL rfl (by decide +kernel)
set_option maxRecDepth 100000 in
set_option maxHeartbeats 4000000 in
theorem o_M_nameHere {sc : List Int} {R : xR} {M : xM} {l0 : Nat} {out : Int} (h : f_M_nameHere R l0 M = some out) : XR false 5 174 sc y_M_nameHere (0, [(0, (vR 10 l0))], [], R, M, 174) ((some (vL out)), R, M) := by
  unfold f_M_nameHere at h
  refine s_M_nameHere [(0, .aload_n 0, 0, 0), (1, .getfield 290, 10, 8), (4, .iconst 2, 0, 2)] (by decide +kernel) (z' := (5, [(0, (vR 10 l0))], [(vI 2), (vI (M l0 8))], R, M, 174)) (cs := []) (by rfl) trivial (Nat.le_refl _) ?_
  rcases xif_ex h with ⟨c_1, h⟩ | ⟨c_1, h⟩
  · skip
    refine s_M_nameHere [(5, .if_icmp .ne 41, 0, (-1)), (8, .aload_n 0, 0, 0), (9, .getfield 277, 10, 10), (12, .aload_n 0, 0, 0), (13, .getfield 284, 10, 9), (16, .isub, 0, 0), (17, .bipush 8, 0, 8)] (by decide +kernel) (z' := (19, [(0, (vR 10 l0))], [(vI 8), (vI (w32 ((M l0 10) - (M l0 9))))], R, M, 174)) (cs := [¬ (M l0 8 ≠ 2)]) (by rfl) ⟨fun q => q c_1, trivial⟩ (Nat.le_refl _) ?_
    rcases xif_ex h with ⟨c_2, h⟩ | ⟨c_2, h⟩
    · skip
      refine s_M_nameHere [(19, .if_icmp .gt 27, 0, 46), (46, .ldc2_w 265, 0, (-1))] (by decide +kernel) (z' := (49, [(0, (vR 10 l0))], [(vL (-1))], R, M, 174)) (cs := [8 < w32 ((M l0 10) - (M l0 9))]) (by rfl) ⟨c_2, trivial⟩ (Nat.le_refl _) ?_
      obtain rfl := Option.some.inj h
      exact XR.retL rfl (by decide +kernel)
    · skip
      refine s_M_nameHere [(19, .if_icmp .gt 27, 0, (-1)), (22, .aload_n 0, 0, 0), (23, .aload_n 0, 0, 0), (24, .getfield 305, 10, 16)] (by decide +kernel) (z' := (27, [(0, (vR 10 l0))], [(vI (M l0 16)), (vR 10 l0)], R, M, 174)) (cs := [¬ (8 < w32 ((M l0 10) - (M l0 9)))]) (by rfl) ⟨c_2, trivial⟩ (Nat.le_refl _) ?_
      rcases xif_ex h with ⟨c_3, h⟩ | ⟨c_3, h⟩
      · skip
        refine s_M_nameHere [(27, .ifCond .eq 9, 0, 36), (36, .ldc_w 325, 6, 0)] (by decide +kernel) (z' := (39, [(0, (vR 10 l0))], [(vR 99 6), (vR 10 l0)], R, M, 174)) (cs := [M l0 16 = 0]) (by rfl) ⟨c_3, trivial⟩ (Nat.le_refl _) ?_
        exact o_M_nameHere_J39  h
      · skip
        refine s_M_nameHere [(27, .ifCond .eq 9, 0, (-1)), (30, .ldc_w 343, 7, 0), (33, .goto 6, 0, 39)] (by decide +kernel) (z' := (39, [(0, (vR 10 l0))], [(vR 99 7), (vR 10 l0)], R, M, 174)) (cs := [¬ (M l0 16 = 0)]) (by rfl) ⟨c_3, trivial⟩ (Nat.le_refl _) ?_
        exact o_M_nameHere_J39  h
  · skip
    refine s_M_nameHere [(5, .if_icmp .ne 41, 0, 46), (46, .ldc2_w 265, 0, (-1))] (by decide +kernel) (z' := (49, [(0, (vR 10 l0))], [(vL (-1))], R, M, 174)) (cs := [M l0 8 ≠ 2]) (by rfl) ⟨c_1, trivial⟩ (Nat.le_refl _) ?_
    obtain rfl := Option.some.inj h
    exact XR.retL rfl (by decide +kernel)
set_option maxRecDepth 100000 in
set_option maxHeartbeats 4000000 in
theorem c_M_nameHere {sc : List Int} {R : xR} {M : xM} {l0 : Nat} {out : Int} (h : f_M_nameHere R l0 M = some out) : XC false 5 sc y_M_nameHere [(vR 10 l0)] R M 174 174 ((some (vL out)), R, M) := XC.of (by decide) (Nat.le_of_ble_eq_true rfl) (Nat.le_refl _) (Nat.le_refl _) (o_M_nameHere h)
def f_M_known (R : xR) (l0 : Nat) (M : xM) : Option (Int × xM) :=
  xb1 (f_M_nameHere R l0 M) fun r_1 =>
  if r_1 = -1 then
    xb2 (f_M_fails l0 2 M) fun r_4 M_5 =>
    xch (r_4 = 0 ∨ r_4 = 1) <|
    some (r_4, M_5)
  else
    xb1 (f_M_cleanerOf R l0 r_1 M) fun r_8 =>
    xl (xu M l0 12 r_8) fun M_10 =>
    if M_10 l0 12 = -1 then
      xb2 (f_M_fails l0 3 M_10) fun r_12 M_13 =>
      if r_12 = 0 then
        some (0, M_13)
      else
        some (1, M_13)
    else
      some (1, M_10)
set_option maxRecDepth 100000 in
set_option maxHeartbeats 4000000 in
theorem s_M_known {d : Nat} {sc : List Int} {z z' : xS} {out : xO} (qs : List xI) {cs : List Prop} (hq : qs.all (xqb 10 false y_M_known.2.2.1 y_M_known.2.1) = true) (h : xN false sc qs z = some (z', cs)) (hc : xAll cs) (hE : z'.2.2.2.2.2 ≤ 174) (k : XR false d 174 sc y_M_known z' out) : XR false d 174 sc y_M_known z out := XR.seg 10 false rfl (fun q => by cases q) qs hq h hc hE k
set_option maxRecDepth 100000 in
set_option maxHeartbeats 4000000 in
theorem o_M_known {sc : List Int} {R : xR} {M : xM} {l0 : Nat} {out : Int × xM} (h : f_M_known R l0 M = some out) : XR false 6 174 sc y_M_known (0, [(0, (vR 10 l0))], [], R, M, 174) ((some (vI out.1)), R, out.2) := by
  unfold f_M_known at h
  refine s_M_known [(0, .aload_n 0, 0, 0)] (by decide +kernel) (z' := (1, [(0, (vR 10 l0))], [(vR 10 l0)], R, M, 174)) (cs := []) (by rfl) trivial (Nat.le_refl _) ?_
  obtain ⟨r_1, e_2, h⟩ := xb1_ex h
  refine XR.callV 10 rfl (rest := []) m_M_nameHere k_10_355 10 l0 (Or.inl ⟨by decide, rfl⟩) [] rfl rfl (c_M_nameHere e_2) (by decide) (Nat.le_of_ble_eq_true rfl) (by decide +kernel) (Nat.le_refl _) (Nat.le_refl _) ?_
  show XR false 6 174 sc y_M_known (4, [(0, (vR 10 l0))], [(vL r_1)], R, M, 174) _
  refine s_M_known [(4, .lstore_n 1, 0, 0), (5, .lload_n 1, 0, 0), (6, .ldc2_w 265, 0, (-1)), (9, .lcmp, 0, 0)] (by decide +kernel) (z' := (10, [(1, (vL r_1)), (0, (vR 10 l0))], [(vI (xcmp r_1 (-1)))], R, M, 174)) (cs := []) (by rfl) trivial (Nat.le_refl _) ?_
  rcases xif_ex h with ⟨c_3, h⟩ | ⟨c_3, h⟩
  · skip
    refine s_M_known [(10, .ifCond .ne 9, 0, (-1)), (13, .aload_n 0, 0, 0), (14, .iconst 2, 0, 2)] (by decide +kernel) (z' := (15, [(1, (vL r_1)), (0, (vR 10 l0))], [(vI 2), (vR 10 l0)], R, M, 174)) (cs := [¬ (xcmp r_1 (-1) ≠ 0)]) (by rfl) ⟨fun q => q (xcmp_eq.mpr c_3), trivial⟩ (Nat.le_refl _) ?_
    obtain ⟨r_4, M_5, e_6, h⟩ := xb2_ex h
    refine XR.callV 10 rfl (rest := []) m_M_fails k_10_331 10 l0 (Or.inl ⟨by decide, rfl⟩) [(vI 2)] rfl rfl (c_M_fails e_6) (by decide) (Nat.le_of_ble_eq_true rfl) (by decide +kernel) (Nat.le_refl _) (Nat.le_refl _) ?_
    show XR false 6 174 sc y_M_known (18, [(1, (vL r_1)), (0, (vR 10 l0))], [(vI r_4)], R, M_5, 174) _
    obtain ⟨c_7, h⟩ := xch_ex h
    obtain rfl := Option.some.inj h
    exact XR.retI .boolean rfl (xnar_z c_7) (by decide +kernel)
  · skip
    refine s_M_known [(10, .ifCond .ne 9, 0, 19), (19, .aload_n 0, 0, 0), (20, .aload_n 0, 0, 0), (21, .lload_n 1, 0, 0)] (by decide +kernel) (z' := (22, [(1, (vL r_1)), (0, (vR 10 l0))], [(vL r_1), (vR 10 l0), (vR 10 l0)], R, M, 174)) (cs := [xcmp r_1 (-1) ≠ 0]) (by rfl) ⟨fun q => c_3 (xcmp_eq.mp q), trivial⟩ (Nat.le_refl _) ?_
    obtain ⟨r_8, e_9, h⟩ := xb1_ex h
    refine XR.callV 10 rfl (rest := [(vR 10 l0)]) m_M_cleanerOf k_10_351 10 l0 (Or.inl ⟨by decide, rfl⟩) [(vL r_1)] rfl rfl (c_M_cleanerOf e_9) (by decide) (Nat.le_of_ble_eq_true rfl) (by decide +kernel) (Nat.le_refl _) (Nat.le_refl _) ?_
    show XR false 6 174 sc y_M_known (25, [(1, (vL r_1)), (0, (vR 10 l0))], [(vI r_8), (vR 10 l0)], R, M, 174) _
    obtain ⟨M_10, hM_10, h⟩ := xl_ex h
    refine s_M_known [(25, .putfield 340, 10, 12), (28, .aload_n 0, 0, 0), (29, .getfield 340, 10, 12), (32, .iconst (-1), 0, (-1))] (by decide +kernel) (z' := (33, [(1, (vL r_1)), (0, (vR 10 l0))], [(vI (-1)), (vI (M_10 l0 12))], R, M_10, 174)) (cs := []) (by subst hM_10; rfl) trivial (Nat.le_refl _) ?_
    rcases xif_ex h with ⟨c_11, h⟩ | ⟨c_11, h⟩
    · skip
      refine s_M_known [(33, .if_icmp .ne 11, 0, (-1)), (36, .aload_n 0, 0, 0), (37, .iconst 3, 0, 3)] (by decide +kernel) (z' := (38, [(1, (vL r_1)), (0, (vR 10 l0))], [(vI 3), (vR 10 l0)], R, M_10, 174)) (cs := [¬ (M_10 l0 12 ≠ -1)]) (by rfl) ⟨fun q => q c_11, trivial⟩ (Nat.le_refl _) ?_
      obtain ⟨r_12, M_13, e_14, h⟩ := xb2_ex h
      refine XR.callV 10 rfl (rest := []) m_M_fails k_10_331 10 l0 (Or.inl ⟨by decide, rfl⟩) [(vI 3)] rfl rfl (c_M_fails e_14) (by decide) (Nat.le_of_ble_eq_true rfl) (by decide +kernel) (Nat.le_refl _) (Nat.le_refl _) ?_
      show XR false 6 174 sc y_M_known (41, [(1, (vL r_1)), (0, (vR 10 l0))], [(vI r_12)], R, M_13, 174) _
      rcases xif_ex h with ⟨c_15, h⟩ | ⟨c_15, h⟩
      · skip
        refine s_M_known [(41, .ifCond .eq 7, 0, 48), (48, .iconst 0, 0, 0)] (by decide +kernel) (z' := (49, [(1, (vL r_1)), (0, (vR 10 l0))], [(vI 0)], R, M_13, 174)) (cs := [r_12 = 0]) (by rfl) ⟨c_15, trivial⟩ (Nat.le_refl _) ?_
        obtain rfl := Option.some.inj h
        exact XR.retI .boolean rfl (xnar_z (by decide)) (by decide +kernel)
      · skip
        refine s_M_known [(41, .ifCond .eq 7, 0, (-1)), (44, .iconst 1, 0, 1), (45, .goto 4, 0, 49)] (by decide +kernel) (z' := (49, [(1, (vL r_1)), (0, (vR 10 l0))], [(vI 1)], R, M_13, 174)) (cs := [¬ (r_12 = 0)]) (by rfl) ⟨c_15, trivial⟩ (Nat.le_refl _) ?_
        obtain rfl := Option.some.inj h
        exact XR.retI .boolean rfl (xnar_z (by decide)) (by decide +kernel)
    · skip
      refine s_M_known [(33, .if_icmp .ne 11, 0, 44), (44, .iconst 1, 0, 1), (45, .goto 4, 0, 49)] (by decide +kernel) (z' := (49, [(1, (vL r_1)), (0, (vR 10 l0))], [(vI 1)], R, M_10, 174)) (cs := [M_10 l0 12 ≠ -1]) (by rfl) ⟨c_11, trivial⟩ (Nat.le_refl _) ?_
      obtain rfl := Option.some.inj h
      exact XR.retI .boolean rfl (xnar_z (by decide)) (by decide +kernel)
set_option maxRecDepth 100000 in
set_option maxHeartbeats 4000000 in
theorem c_M_known {sc : List Int} {R : xR} {M : xM} {l0 : Nat} {out : Int × xM} (h : f_M_known R l0 M = some out) : XC false 6 sc y_M_known [(vR 10 l0)] R M 174 174 ((some (vI out.1)), R, out.2) := XC.of (by decide) (Nat.le_of_ble_eq_true rfl) (Nat.le_refl _) (Nat.le_refl _) (o_M_known h)
def f_M_wantKey (R : xR) (l0 : Nat) (l1 : Int) (M : xM) : Option (Int × xM) :=
  xb1 (f_M_inWords R l0 6 M) fun r_1 =>
  if r_1 = l1 then
    xb1 (f_M_next R l0 M) fun M_4 =>
    some (1, M_4)
  else
    xb2 (f_M_fails l0 2 M) fun r_6 M_7 =>
    xch (r_6 = 0 ∨ r_6 = 1) <|
    some (r_6, M_7)
set_option maxRecDepth 100000 in
set_option maxHeartbeats 4000000 in
theorem s_M_wantKey {d : Nat} {sc : List Int} {z z' : xS} {out : xO} (qs : List xI) {cs : List Prop} (hq : qs.all (xqb 10 false y_M_wantKey.2.2.1 y_M_wantKey.2.1) = true) (h : xN false sc qs z = some (z', cs)) (hc : xAll cs) (hE : z'.2.2.2.2.2 ≤ 174) (k : XR false d 174 sc y_M_wantKey z' out) : XR false d 174 sc y_M_wantKey z out := XR.seg 10 false rfl (fun q => by cases q) qs hq h hc hE k
set_option maxRecDepth 100000 in
set_option maxHeartbeats 4000000 in
theorem o_M_wantKey {sc : List Int} {R : xR} {M : xM} {l0 : Nat} {l1 : Int} {out : Int × xM} (h : f_M_wantKey R l0 l1 M = some out) : XR false 5 174 sc y_M_wantKey (0, [(0, (vR 10 l0)), (1, (vI l1))], [], R, M, 174) ((some (vI out.1)), R, out.2) := by
  unfold f_M_wantKey at h
  refine s_M_wantKey [(0, .aload_n 0, 0, 0), (1, .ldc_w 325, 6, 0)] (by decide +kernel) (z' := (4, [(0, (vR 10 l0)), (1, (vI l1))], [(vR 99 6), (vR 10 l0)], R, M, 174)) (cs := []) (by rfl) trivial (Nat.le_refl _) ?_
  obtain ⟨r_1, e_2, h⟩ := xb1_ex h
  refine XR.callV 10 rfl (rest := []) m_M_inWords k_10_327 10 l0 (Or.inl ⟨by decide, rfl⟩) [(vR 99 6)] rfl rfl (c_M_inWords e_2) (by decide) (Nat.le_of_ble_eq_true rfl) (by decide +kernel) (Nat.le_refl _) (Nat.le_refl _) ?_
  show XR false 5 174 sc y_M_wantKey (7, [(0, (vR 10 l0)), (1, (vI l1))], [(vI r_1)], R, M, 174) _
  refine s_M_wantKey [(7, .iload_n 1, 0, 0)] (by decide +kernel) (z' := (8, [(0, (vR 10 l0)), (1, (vI l1))], [(vI l1), (vI r_1)], R, M, 174)) (cs := []) (by rfl) trivial (Nat.le_refl _) ?_
  rcases xif_ex h with ⟨c_3, h⟩ | ⟨c_3, h⟩
  · skip
    refine s_M_wantKey [(8, .if_icmp .eq 9, 0, 17), (17, .aload_n 0, 0, 0)] (by decide +kernel) (z' := (18, [(0, (vR 10 l0)), (1, (vI l1))], [(vR 10 l0)], R, M, 174)) (cs := [r_1 = l1]) (by rfl) ⟨c_3, trivial⟩ (Nat.le_refl _) ?_
    obtain ⟨M_4, e_5, h⟩ := xb1_ex h
    refine XR.callV 10 rfl (rest := []) m_M_next k_10_334 10 l0 (Or.inl ⟨by decide, rfl⟩) [] rfl rfl (c_M_next e_5) (by decide) (Nat.le_of_ble_eq_true rfl) (by decide +kernel) (Nat.le_refl _) (Nat.le_refl _) ?_
    show XR false 5 174 sc y_M_wantKey (21, [(0, (vR 10 l0)), (1, (vI l1))], [], R, M_4, 174) _
    refine s_M_wantKey [(21, .iconst 1, 0, 1)] (by decide +kernel) (z' := (22, [(0, (vR 10 l0)), (1, (vI l1))], [(vI 1)], R, M_4, 174)) (cs := []) (by rfl) trivial (Nat.le_refl _) ?_
    obtain rfl := Option.some.inj h
    exact XR.retI .boolean rfl (xnar_z (by decide)) (by decide +kernel)
  · skip
    refine s_M_wantKey [(8, .if_icmp .eq 9, 0, (-1)), (11, .aload_n 0, 0, 0), (12, .iconst 2, 0, 2)] (by decide +kernel) (z' := (13, [(0, (vR 10 l0)), (1, (vI l1))], [(vI 2), (vR 10 l0)], R, M, 174)) (cs := [¬ (r_1 = l1)]) (by rfl) ⟨c_3, trivial⟩ (Nat.le_refl _) ?_
    obtain ⟨r_6, M_7, e_8, h⟩ := xb2_ex h
    refine XR.callV 10 rfl (rest := []) m_M_fails k_10_331 10 l0 (Or.inl ⟨by decide, rfl⟩) [(vI 2)] rfl rfl (c_M_fails e_8) (by decide) (Nat.le_of_ble_eq_true rfl) (by decide +kernel) (Nat.le_refl _) (Nat.le_refl _) ?_
    show XR false 5 174 sc y_M_wantKey (16, [(0, (vR 10 l0)), (1, (vI l1))], [(vI r_6)], R, M_7, 174) _
    obtain ⟨c_9, h⟩ := xch_ex h
    obtain rfl := Option.some.inj h
    exact XR.retI .boolean rfl (xnar_z c_9) (by decide +kernel)
set_option maxRecDepth 100000 in
set_option maxHeartbeats 4000000 in
theorem c_M_wantKey {sc : List Int} {R : xR} {M : xM} {l0 : Nat} {l1 : Int} {out : Int × xM} (h : f_M_wantKey R l0 l1 M = some out) : XC false 5 sc y_M_wantKey [(vR 10 l0), (vI l1)] R M 174 174 ((some (vI out.1)), R, out.2) := XC.of (by decide) (Nat.le_of_ble_eq_true rfl) (Nat.le_refl _) (Nat.le_refl _) (o_M_wantKey h)
def f_M_number (R : xR) (l0 : Nat) (l1 : Int) (l2 : Int) (l3 : Int) (M : xM) : Option (Int × xM) :=
  if M l0 8 = 3 then
    if M l0 11 < l1 then
      xb2 (f_M_fails l0 l3 M) fun r_3 M_4 =>
      xch (r_3 = 0 ∨ r_3 = 1) <|
      some (r_3, M_4)
    else
      if l2 < M l0 11 then
        xb2 (f_M_fails l0 l3 M) fun r_8 M_9 =>
        xch (r_8 = 0 ∨ r_8 = 1) <|
        some (r_8, M_9)
      else
        xl (xu M l0 12 (M l0 11)) fun M_12 =>
        xb1 (f_M_next R l0 M_12) fun M_13 =>
        some (1, M_13)
  else
    xb2 (f_M_fails l0 2 M) fun r_15 M_16 =>
    xch (r_15 = 0 ∨ r_15 = 1) <|
    some (r_15, M_16)
set_option maxRecDepth 100000 in
set_option maxHeartbeats 4000000 in
theorem s_M_number {d : Nat} {sc : List Int} {z z' : xS} {out : xO} (qs : List xI) {cs : List Prop} (hq : qs.all (xqb 10 false y_M_number.2.2.1 y_M_number.2.1) = true) (h : xN false sc qs z = some (z', cs)) (hc : xAll cs) (hE : z'.2.2.2.2.2 ≤ 174) (k : XR false d 174 sc y_M_number z' out) : XR false d 174 sc y_M_number z out := XR.seg 10 false rfl (fun q => by cases q) qs hq h hc hE k
set_option maxRecDepth 100000 in
set_option maxHeartbeats 4000000 in
theorem o_M_number {sc : List Int} {R : xR} {M : xM} {l0 : Nat} {l1 : Int} {l2 : Int} {l3 : Int} {out : Int × xM} (h : f_M_number R l0 l1 l2 l3 M = some out) : XR false 2 174 sc y_M_number (0, [(0, (vR 10 l0)), (1, (vI l1)), (2, (vI l2)), (3, (vI l3))], [], R, M, 174) ((some (vI out.1)), R, out.2) := by
  unfold f_M_number at h
  refine s_M_number [(0, .aload_n 0, 0, 0), (1, .getfield 290, 10, 8), (4, .iconst 3, 0, 3)] (by decide +kernel) (z' := (5, [(0, (vR 10 l0)), (1, (vI l1)), (2, (vI l2)), (3, (vI l3))], [(vI 3), (vI (M l0 8))], R, M, 174)) (cs := []) (by rfl) trivial (Nat.le_refl _) ?_
  rcases xif_ex h with ⟨c_1, h⟩ | ⟨c_1, h⟩
  · skip
    refine s_M_number [(5, .if_icmp .eq 9, 0, 14), (14, .aload_n 0, 0, 0), (15, .getfield 287, 10, 11), (18, .iload_n 1, 0, 0)] (by decide +kernel) (z' := (19, [(0, (vR 10 l0)), (1, (vI l1)), (2, (vI l2)), (3, (vI l3))], [(vI l1), (vI (M l0 11))], R, M, 174)) (cs := [M l0 8 = 3]) (by rfl) ⟨c_1, trivial⟩ (Nat.le_refl _) ?_
    rcases xif_ex h with ⟨c_2, h⟩ | ⟨c_2, h⟩
    · skip
      refine s_M_number [(19, .if_icmp .lt 11, 0, 30), (30, .aload_n 0, 0, 0), (31, .iload_n 3, 0, 0)] (by decide +kernel) (z' := (32, [(0, (vR 10 l0)), (1, (vI l1)), (2, (vI l2)), (3, (vI l3))], [(vI l3), (vR 10 l0)], R, M, 174)) (cs := [M l0 11 < l1]) (by rfl) ⟨c_2, trivial⟩ (Nat.le_refl _) ?_
      obtain ⟨r_3, M_4, e_5, h⟩ := xb2_ex h
      refine XR.callV 10 rfl (rest := []) m_M_fails k_10_331 10 l0 (Or.inl ⟨by decide, rfl⟩) [(vI l3)] rfl rfl (c_M_fails e_5) (by decide) (Nat.le_of_ble_eq_true rfl) (by decide +kernel) (Nat.le_refl _) (Nat.le_refl _) ?_
      show XR false 2 174 sc y_M_number (35, [(0, (vR 10 l0)), (1, (vI l1)), (2, (vI l2)), (3, (vI l3))], [(vI r_3)], R, M_4, 174) _
      obtain ⟨c_6, h⟩ := xch_ex h
      obtain rfl := Option.some.inj h
      exact XR.retI .boolean rfl (xnar_z c_6) (by decide +kernel)
    · skip
      refine s_M_number [(19, .if_icmp .lt 11, 0, (-1)), (22, .aload_n 0, 0, 0), (23, .getfield 287, 10, 11), (26, .iload_n 2, 0, 0)] (by decide +kernel) (z' := (27, [(0, (vR 10 l0)), (1, (vI l1)), (2, (vI l2)), (3, (vI l3))], [(vI l2), (vI (M l0 11))], R, M, 174)) (cs := [¬ (M l0 11 < l1)]) (by rfl) ⟨c_2, trivial⟩ (Nat.le_refl _) ?_
      rcases xif_ex h with ⟨c_7, h⟩ | ⟨c_7, h⟩
      · skip
        refine s_M_number [(27, .if_icmp .le 9, 0, (-1)), (30, .aload_n 0, 0, 0), (31, .iload_n 3, 0, 0)] (by decide +kernel) (z' := (32, [(0, (vR 10 l0)), (1, (vI l1)), (2, (vI l2)), (3, (vI l3))], [(vI l3), (vR 10 l0)], R, M, 174)) (cs := [¬ (M l0 11 ≤ l2)]) (by rfl) ⟨Int.not_le.mpr c_7, trivial⟩ (Nat.le_refl _) ?_
        obtain ⟨r_8, M_9, e_10, h⟩ := xb2_ex h
        refine XR.callV 10 rfl (rest := []) m_M_fails k_10_331 10 l0 (Or.inl ⟨by decide, rfl⟩) [(vI l3)] rfl rfl (c_M_fails e_10) (by decide) (Nat.le_of_ble_eq_true rfl) (by decide +kernel) (Nat.le_refl _) (Nat.le_refl _) ?_
        show XR false 2 174 sc y_M_number (35, [(0, (vR 10 l0)), (1, (vI l1)), (2, (vI l2)), (3, (vI l3))], [(vI r_8)], R, M_9, 174) _
        obtain ⟨c_11, h⟩ := xch_ex h
        obtain rfl := Option.some.inj h
        exact XR.retI .boolean rfl (xnar_z c_11) (by decide +kernel)
      · skip
        obtain ⟨M_12, hM_12, h⟩ := xl_ex h
        refine s_M_number [(27, .if_icmp .le 9, 0, 36), (36, .aload_n 0, 0, 0), (37, .aload_n 0, 0, 0), (38, .getfield 287, 10, 11), (41, .putfield 340, 10, 12), (44, .aload_n 0, 0, 0)] (by decide +kernel) (z' := (45, [(0, (vR 10 l0)), (1, (vI l1)), (2, (vI l2)), (3, (vI l3))], [(vR 10 l0)], R, M_12, 174)) (cs := [M l0 11 ≤ l2]) (by subst hM_12; rfl) ⟨Int.not_lt.mp c_7, trivial⟩ (Nat.le_refl _) ?_
        obtain ⟨M_13, e_14, h⟩ := xb1_ex h
        refine XR.callV 10 rfl (rest := []) m_M_next k_10_334 10 l0 (Or.inl ⟨by decide, rfl⟩) [] rfl rfl (c_M_next e_14) (by decide) (Nat.le_of_ble_eq_true rfl) (by decide +kernel) (Nat.le_refl _) (Nat.le_refl _) ?_
        show XR false 2 174 sc y_M_number (48, [(0, (vR 10 l0)), (1, (vI l1)), (2, (vI l2)), (3, (vI l3))], [], R, M_13, 174) _
        refine s_M_number [(48, .iconst 1, 0, 1)] (by decide +kernel) (z' := (49, [(0, (vR 10 l0)), (1, (vI l1)), (2, (vI l2)), (3, (vI l3))], [(vI 1)], R, M_13, 174)) (cs := []) (by rfl) trivial (Nat.le_refl _) ?_
        obtain rfl := Option.some.inj h
        exact XR.retI .boolean rfl (xnar_z (by decide)) (by decide +kernel)
  · skip
    refine s_M_number [(5, .if_icmp .eq 9, 0, (-1)), (8, .aload_n 0, 0, 0), (9, .iconst 2, 0, 2)] (by decide +kernel) (z' := (10, [(0, (vR 10 l0)), (1, (vI l1)), (2, (vI l2)), (3, (vI l3))], [(vI 2), (vR 10 l0)], R, M, 174)) (cs := [¬ (M l0 8 = 3)]) (by rfl) ⟨c_1, trivial⟩ (Nat.le_refl _) ?_
    obtain ⟨r_15, M_16, e_17, h⟩ := xb2_ex h
    refine XR.callV 10 rfl (rest := []) m_M_fails k_10_331 10 l0 (Or.inl ⟨by decide, rfl⟩) [(vI 2)] rfl rfl (c_M_fails e_17) (by decide) (Nat.le_of_ble_eq_true rfl) (by decide +kernel) (Nat.le_refl _) (Nat.le_refl _) ?_
    show XR false 2 174 sc y_M_number (13, [(0, (vR 10 l0)), (1, (vI l1)), (2, (vI l2)), (3, (vI l3))], [(vI r_15)], R, M_16, 174) _
    obtain ⟨c_18, h⟩ := xch_ex h
    obtain rfl := Option.some.inj h
    exact XR.retI .boolean rfl (xnar_z c_18) (by decide +kernel)
set_option maxRecDepth 100000 in
set_option maxHeartbeats 4000000 in
theorem c_M_number {sc : List Int} {R : xR} {M : xM} {l0 : Nat} {l1 : Int} {l2 : Int} {l3 : Int} {out : Int × xM} (h : f_M_number R l0 l1 l2 l3 M = some out) : XC false 2 sc y_M_number [(vR 10 l0), (vI l1), (vI l2), (vI l3)] R M 174 174 ((some (vI out.1)), R, out.2) := XC.of (by decide) (Nat.le_of_ble_eq_true rfl) (Nat.le_refl _) (Nat.le_refl _) (o_M_number h)
def M_joins_J130 (R : xR) (l0 : Nat) (rc : Int → Int → Int → Int → Int → Int → xM → Option (Int × xM)) (q138 : Int → Int → Int → Int → Int → xM → Option (Int × xM)) (v1 : Int) (v2 : Int) (v3 : Int) (v5 : Int) (v7 : Int) (s0 : Int) (M : xM) : Option (Int × xM) :=
  xl (w32 (v7 + 1)) fun v7_28 =>
  rc v1 v2 v3 v5 s0 v7_28 M
def M_joins_F97 (R : xR) (l0 : Nat) (q138 : Int → Int → Int → Int → Int → xM → Option (Int × xM)) : Nat → Int → Int → Int → Int → Int → Int → xM → Option (Int × xM)
  | 0, _, _, _, _, _, _, _ => none
  | n + 1, v1, v2, v3, v5, v6, v7, M =>
    if v7 < v3 then
      if v6 = 0 then
        xch (0 ≤ w32 ((w32 (8 * v1)) + v7) ∧ w32 ((w32 (8 * v1)) + v7) < 64) <|
        if M (R l0 24) (Int.toNat (w32 ((w32 (8 * v1)) + v7))) = v5 then
          M_joins_J130 R l0 (M_joins_F97 R l0 q138 n) q138 v1 v2 v3 v5 v7 1 M
        else
          M_joins_J130 R l0 (M_joins_F97 R l0 q138 n) q138 v1 v2 v3 v5 v7 0 M
      else
        M_joins_J130 R l0 (M_joins_F97 R l0 q138 n) q138 v1 v2 v3 v5 v7 1 M
    else
      q138 v1 v2 v3 v5 v6 M
def M_joins_J236 (R : xR) (l0 : Nat) (rc : Int → Int → Int → Int → xM → Option (Int × xM)) (q239 : Int → Int → Int → xM → Option (Int × xM)) (v1 : Int) (v2 : Int) (v3 : Int) (v4 : Int) (M : xM) : Option (Int × xM) :=
  rc v1 v2 v3 v4 M
def M_joins_J91 (R : xR) (l0 : Nat) (rc : Int → Int → Int → Int → xM → Option (Int × xM)) (q239 : Int → Int → Int → xM → Option (Int × xM)) (v1 : Int) (v2 : Int) (v3 : Int) (v5 : Int) (M : xM) : Option (Int × xM) :=
  M_joins_F97 R l0
    (fun (v1_29 : Int) (v2_30 : Int) (v3_31 : Int) (v5_32 : Int) (v6_33 : Int) (M_34 : xM) =>
      if v1_29 < v5_32 then
        if v6_33 = 0 then
          xb1 (f_M_next R l0 M_34) fun M_37 =>
          xb2 (f_M_wantKey R l0 12 M_37) fun r_39 M_40 =>
          if r_39 = 0 then
            some (0, M_40)
          else
            xb2 (f_M_number R l0 0 100 4 M_40) fun r_43 M_44 =>
            if r_43 = 0 then
              some (0, M_44)
            else
              xch (0 ≤ w32 ((w32 (8 * v1_29)) + v3_31) ∧ w32 ((w32 (8 * v1_29)) + v3_31) < 64) <|
              xl (xu M_44 (R l0 24) (Int.toNat (w32 ((w32 (8 * v1_29)) + v3_31))) v5_32) fun M_48 =>
              xl (xu M_48 (R l0 25) (Int.toNat (w32 ((w32 (8 * v1_29)) + v3_31))) (M_48 l0 12)) fun M_49 =>
              xl (w32 (v2_30 + (M_49 l0 12))) fun v2_50 =>
              xl (w32 (v3_31 + 1)) fun v3_51 =>
              xb1 (f_M_isSign l0 44 M_49) fun r_52 =>
              if r_52 = 0 then
                M_joins_J236 R l0 rc q239 v1_29 v2_50 v3_51 r_52 M_49
              else
                xb1 (f_M_next R l0 M_49) fun M_55 =>
                M_joins_J236 R l0 rc q239 v1_29 v2_50 v3_51 r_52 M_55
        else
          xb2 (f_M_fails l0 5 M_34) fun r_57 M_58 =>
          xch (r_57 = 0 ∨ r_57 = 1) <|
          some (r_57, M_58)
      else
        xb2 (f_M_fails l0 5 M_34) fun r_61 M_62 =>
        xch (r_61 = 0 ∨ r_61 = 1) <|
        some (r_61, M_62))
    xfu v1 v2 v3 v5 0 0 M
def M_joins_F55 (R : xR) (l0 : Nat) (q239 : Int → Int → Int → xM → Option (Int × xM)) : Nat → Int → Int → Int → Int → xM → Option (Int × xM)
  | 0, _, _, _, _, _ => none
  | n + 1, v1, v2, v3, v4, M =>
    if v4 = 0 then
      q239 v1 v2 v3 M
    else
      xb1 (f_M_inWords R l0 6 M) fun r_21 =>
      if r_21 = 13 then
        M_joins_J91 R l0 (M_joins_F55 R l0 q239 n) q239 v1 v2 v3 8 M
      else
        xb2 (f_M_known R l0 M) fun r_65 M_66 =>
        if r_65 = 0 then
          some (0, M_66)
        else
          xl (M_66 l0 12) fun v5_69 =>
          M_joins_J91 R l0 (M_joins_F55 R l0 q239 n) q239 v1 v2 v3 v5_69 M_66
def f_M_joins (R : xR) (l0 : Nat) (M : xM) : Option (Int × xM) :=
  xb1 (f_M_next R l0 M) fun M_1 =>
  xb2 (f_M_known R l0 M_1) fun r_3 M_4 =>
  if r_3 = 0 then
    some (0, M_4)
  else
    xl (M_4 l0 12) fun v1_7 =>
    xch (0 ≤ v1_7 ∧ v1_7 < 8) <|
    if 0 < M_4 (R l0 23) (Int.toNat v1_7) then
      xb2 (f_M_fails l0 5 M_4) fun r_10 M_11 =>
      xch (r_10 = 0 ∨ r_10 = 1) <|
      some (r_10, M_11)
    else
      xb1 (f_M_next R l0 M_4) fun M_14 =>
      xb2 (f_M_wantKey R l0 11 M_14) fun r_16 M_17 =>
      if r_16 = 0 then
        some (0, M_17)
      else
        M_joins_F55 R l0
          (fun (v1_70 : Int) (v2_71 : Int) (v3_72 : Int) (M_73 : xM) =>
            xb1 (f_M_isSign l0 59 M_73) fun r_74 =>
            if r_74 = 0 then
              xb2 (f_M_fails l0 2 M_73) fun r_77 M_78 =>
              xch (r_77 = 0 ∨ r_77 = 1) <|
              some (r_77, M_78)
            else
              if v2_71 = 100 then
                xch (0 ≤ v1_70 ∧ v1_70 < 8) <|
                xl (xu M_73 (R l0 23) (Int.toNat v1_70) v3_72) fun M_83 =>
                xb1 (f_M_next R l0 M_83) fun M_84 =>
                some (1, M_84)
              else
                xb2 (f_M_fails l0 7 M_73) fun r_86 M_87 =>
                xch (r_86 = 0 ∨ r_86 = 1) <|
                some (r_86, M_87))
          xfu v1_7 0 0 1 M_17
set_option maxRecDepth 100000 in
set_option maxHeartbeats 4000000 in
theorem s_M_joins {d : Nat} {sc : List Int} {z z' : xS} {out : xO} (qs : List xI) {cs : List Prop} (hq : qs.all (xqb 10 false y_M_joins.2.2.1 y_M_joins.2.1) = true) (h : xN false sc qs z = some (z', cs)) (hc : xAll cs) (hE : z'.2.2.2.2.2 ≤ 174) (k : XR false d 174 sc y_M_joins z' out) : XR false d 174 sc y_M_joins z out := XR.seg 10 false rfl (fun q => by cases q) qs hq h hc hE k
set_option maxRecDepth 100000 in
set_option maxHeartbeats 4000000 in
theorem o_M_joins_J130 {sc : List Int} {R : xR}   {l0 : Nat}  {rc : Int → Int → Int → Int → Int → Int → xM → Option (Int × xM)} {q138 : Int → Int → Int → Int → Int → xM → Option (Int × xM)} (hrc : ∀ (w1 : Int) (w2 : Int) (w3 : Int) (w5 : Int) (w6 : Int) (w7 : Int) (M : xM) (out : Int × xM), rc w1 w2 w3 w5 w6 w7 M = some out → XR false 7 174 sc y_M_joins (97, [(0, (vR 10 l0)), (1, (vI w1)), (2, (vI w2)), (3, (vI w3)), (5, (vI w5)), (6, (vI w6)), (7, (vI w7))], [], R, M, 174) ((some (vI out.1)), R, out.2)) (hq138 : ∀ (w1 : Int) (w2 : Int) (w3 : Int) (w5 : Int) (w6 : Int) (M : xM) (out : Int × xM), q138 w1 w2 w3 w5 w6 M = some out → XR false 7 174 sc y_M_joins (138, [(0, (vR 10 l0)), (1, (vI w1)), (2, (vI w2)), (3, (vI w3)), (5, (vI w5)), (6, (vI w6))], [], R, M, 174) ((some (vI out.1)), R, out.2)) {v1 : Int} {v2 : Int} {v3 : Int} {v5 : Int} {v7 : Int} {s0 : Int} {M : xM} {out : Int × xM} (h : M_joins_J130 R l0 rc q138 v1 v2 v3 v5 v7 s0 M = some out) : XR false 7 174 sc y_M_joins (130, [(0, (vR 10 l0)), (1, (vI v1)), (2, (vI v2)), (3, (vI v3)), (5, (vI v5)), (7, (vI v7))], [(vI s0)], R, M, 174) ((some (vI out.1)), R, out.2) := by
  unfold M_joins_J130 at h
  obtain ⟨v7_28, hv7_28, h⟩ := xl_ex h
  refine s_M_joins [(130, .istore 6, 0, 0), (132, .iinc 7 1, 0, 0), (135, .goto (-38), 0, 97)] (by decide +kernel) (z' := (97, [(7, (vI v7_28)), (6, (vI s0)), (0, (vR 10 l0)), (1, (vI v1)), (2, (vI v2)), (3, (vI v3)), (5, (vI v5))], [], R, M, 174)) (cs := []) (by subst hv7_28; rfl) trivial (Nat.le_refl _) ?_
  refine XR.pick [2, 3, 4, 5, 6, 1, 0] (ls' := [(0, (vR 10 l0)), (1, (vI v1)), (2, (vI v2)), (3, (vI v3)), (5, (vI v5)), (6, (vI s0)), (7, (vI v7_28))]) rfl ?_
  exact hrc v1 v2 v3 v5 s0 v7_28 M _ h
set_option maxRecDepth 100000 in
set_option maxHeartbeats 4000000 in
theorem o_M_joins_F97 {sc : List Int} {R : xR}   {l0 : Nat}  {q138 : Int → Int → Int → Int → Int → xM → Option (Int × xM)} (hq138 : ∀ (w1 : Int) (w2 : Int) (w3 : Int) (w5 : Int) (w6 : Int) (M : xM) (out : Int × xM), q138 w1 w2 w3 w5 w6 M = some out → XR false 7 174 sc y_M_joins (138, [(0, (vR 10 l0)), (1, (vI w1)), (2, (vI w2)), (3, (vI w3)), (5, (vI w5)), (6, (vI w6))], [], R, M, 174) ((some (vI out.1)), R, out.2)) : ∀ (n : Nat) (v1 : Int) (v2 : Int) (v3 : Int) (v5 : Int) (v6 : Int) (v7 : Int) (M : xM) (out : Int × xM), M_joins_F97 R l0 q138 n v1 v2 v3 v5 v6 v7 M = some out → XR false 7 174 sc y_M_joins (97, [(0, (vR 10 l0)), (1, (vI v1)), (2, (vI v2)), (3, (vI v3)), (5, (vI v5)), (6, (vI v6)), (7, (vI v7))], [], R, M, 174) ((some (vI out.1)), R, out.2) := by
  intro n
  induction n with
  | zero => intro v1 v2 v3 v5 v6 v7 M out h; exact (xno h).elim
  | succ n ih =>
    intro v1 v2 v3 v5 v6 v7 M out h
    rw [M_joins_F97] at h
    refine s_M_joins [(97, .iload 7, 0, 0), (99, .iload_n 3, 0, 0)] (by decide +kernel) (z' := (100, [(0, (vR 10 l0)), (1, (vI v1)), (2, (vI v2)), (3, (vI v3)), (5, (vI v5)), (6, (vI v6)), (7, (vI v7))], [(vI v3), (vI v7)], R, M, 174)) (cs := []) (by rfl) trivial (Nat.le_refl _) ?_
    rcases xif_ex h with ⟨c_24, h⟩ | ⟨c_24, h⟩
    · skip
      refine s_M_joins [(100, .if_icmp .ge 38, 0, (-1)), (103, .iload 6, 0, 0)] (by decide +kernel) (z' := (105, [(0, (vR 10 l0)), (1, (vI v1)), (2, (vI v2)), (3, (vI v3)), (5, (vI v5)), (6, (vI v6)), (7, (vI v7))], [(vI v6)], R, M, 174)) (cs := [¬ (v3 ≤ v7)]) (by rfl) ⟨Int.not_le.mpr c_24, trivial⟩ (Nat.le_refl _) ?_
      rcases xif_ex h with ⟨c_25, h⟩ | ⟨c_25, h⟩
      · skip
        obtain ⟨c_26, h⟩ := xch_ex h
        refine s_M_joins [(105, .ifCond .ne 20, 0, (-1)), (108, .aload_n 0, 0, 0), (109, .getfield 55, 10, 24), (112, .bipush 8, 0, 8), (114, .iload_n 1, 0, 0), (115, .imul, 0, 0), (116, .iload 7, 0, 0), (118, .iadd, 0, 0), (119, .iaload, 0, 0), (120, .iload 5, 0, 0)] (by decide +kernel) (z' := (122, [(0, (vR 10 l0)), (1, (vI v1)), (2, (vI v2)), (3, (vI v3)), (5, (vI v5)), (6, (vI v6)), (7, (vI v7))], [(vI v5), (vI (M (R l0 24) (Int.toNat (w32 ((w32 (8 * v1)) + v7)))))], R, M, 174)) (cs := [¬ (v6 ≠ 0), xar 38 0, xidx (w32 ((w32 (8 * v1)) + v7)) (xan 38)]) (by rfl) ⟨fun q => q c_25, xar_38, xix_38 c_26, trivial⟩ (Nat.le_refl _) ?_
        rcases xif_ex h with ⟨c_27, h⟩ | ⟨c_27, h⟩
        · skip
          refine s_M_joins [(122, .if_icmp .ne 7, 0, (-1)), (125, .iconst 1, 0, 1), (126, .goto 4, 0, 130)] (by decide +kernel) (z' := (130, [(0, (vR 10 l0)), (1, (vI v1)), (2, (vI v2)), (3, (vI v3)), (5, (vI v5)), (6, (vI v6)), (7, (vI v7))], [(vI 1)], R, M, 174)) (cs := [¬ (M (R l0 24) (Int.toNat (w32 ((w32 (8 * v1)) + v7))) ≠ v5)]) (by rfl) ⟨fun q => q c_27, trivial⟩ (Nat.le_refl _) ?_
          refine XR.pick [0, 1, 2, 3, 4, 6] (ls' := [(0, (vR 10 l0)), (1, (vI v1)), (2, (vI v2)), (3, (vI v3)), (5, (vI v5)), (7, (vI v7))]) rfl ?_
          exact o_M_joins_J130 ih hq138 h
        · skip
          refine s_M_joins [(122, .if_icmp .ne 7, 0, 129), (129, .iconst 0, 0, 0)] (by decide +kernel) (z' := (130, [(0, (vR 10 l0)), (1, (vI v1)), (2, (vI v2)), (3, (vI v3)), (5, (vI v5)), (6, (vI v6)), (7, (vI v7))], [(vI 0)], R, M, 174)) (cs := [M (R l0 24) (Int.toNat (w32 ((w32 (8 * v1)) + v7))) ≠ v5]) (by rfl) ⟨c_27, trivial⟩ (Nat.le_refl _) ?_
          refine XR.pick [0, 1, 2, 3, 4, 6] (ls' := [(0, (vR 10 l0)), (1, (vI v1)), (2, (vI v2)), (3, (vI v3)), (5, (vI v5)), (7, (vI v7))]) rfl ?_
          exact o_M_joins_J130 ih hq138 h
      · skip
        refine s_M_joins [(105, .ifCond .ne 20, 0, 125), (125, .iconst 1, 0, 1), (126, .goto 4, 0, 130)] (by decide +kernel) (z' := (130, [(0, (vR 10 l0)), (1, (vI v1)), (2, (vI v2)), (3, (vI v3)), (5, (vI v5)), (6, (vI v6)), (7, (vI v7))], [(vI 1)], R, M, 174)) (cs := [v6 ≠ 0]) (by rfl) ⟨c_25, trivial⟩ (Nat.le_refl _) ?_
        refine XR.pick [0, 1, 2, 3, 4, 6] (ls' := [(0, (vR 10 l0)), (1, (vI v1)), (2, (vI v2)), (3, (vI v3)), (5, (vI v5)), (7, (vI v7))]) rfl ?_
        exact o_M_joins_J130 ih hq138 h
    · skip
      refine s_M_joins [(100, .if_icmp .ge 38, 0, 138)] (by decide +kernel) (z' := (138, [(0, (vR 10 l0)), (1, (vI v1)), (2, (vI v2)), (3, (vI v3)), (5, (vI v5)), (6, (vI v6)), (7, (vI v7))], [], R, M, 174)) (cs := [v3 ≤ v7]) (by rfl) ⟨Int.not_lt.mp c_24, trivial⟩ (Nat.le_refl _) ?_
      refine XR.pick [0, 1, 2, 3, 4, 5] (ls' := [(0, (vR 10 l0)), (1, (vI v1)), (2, (vI v2)), (3, (vI v3)), (5, (vI v5)), (6, (vI v6))]) rfl ?_
      exact hq138 v1 v2 v3 v5 v6 M _ h
set_option maxRecDepth 100000 in
set_option maxHeartbeats 4000000 in
theorem o_M_joins_J236 {sc : List Int} {R : xR}   {l0 : Nat}  {rc : Int → Int → Int → Int → xM → Option (Int × xM)} {q239 : Int → Int → Int → xM → Option (Int × xM)} (hrc : ∀ (w1 : Int) (w2 : Int) (w3 : Int) (w4 : Int) (M : xM) (out : Int × xM), rc w1 w2 w3 w4 M = some out → XR false 7 174 sc y_M_joins (55, [(0, (vR 10 l0)), (1, (vI w1)), (2, (vI w2)), (3, (vI w3)), (4, (vI w4))], [], R, M, 174) ((some (vI out.1)), R, out.2)) (hq239 : ∀ (w1 : Int) (w2 : Int) (w3 : Int) (M : xM) (out : Int × xM), q239 w1 w2 w3 M = some out → XR false 7 174 sc y_M_joins (239, [(0, (vR 10 l0)), (1, (vI w1)), (2, (vI w2)), (3, (vI w3))], [], R, M, 174) ((some (vI out.1)), R, out.2)) {v1 : Int} {v2 : Int} {v3 : Int} {v4 : Int} {M : xM} {out : Int × xM} (h : M_joins_J236 R l0 rc q239 v1 v2 v3 v4 M = some out) : XR false 7 174 sc y_M_joins (236, [(0, (vR 10 l0)), (1, (vI v1)), (2, (vI v2)), (3, (vI v3)), (4, (vI v4))], [], R, M, 174) ((some (vI out.1)), R, out.2) := by
  unfold M_joins_J236 at h
  refine s_M_joins [(236, .goto (-181), 0, 55)] (by decide +kernel) (z' := (55, [(0, (vR 10 l0)), (1, (vI v1)), (2, (vI v2)), (3, (vI v3)), (4, (vI v4))], [], R, M, 174)) (cs := []) (by rfl) trivial (Nat.le_refl _) ?_
  exact hrc v1 v2 v3 v4 M _ h
set_option maxRecDepth 100000 in
set_option maxHeartbeats 4000000 in
theorem o_M_joins_J91 {sc : List Int} {R : xR}   {l0 : Nat}  {rc : Int → Int → Int → Int → xM → Option (Int × xM)} {q239 : Int → Int → Int → xM → Option (Int × xM)} (hrc : ∀ (w1 : Int) (w2 : Int) (w3 : Int) (w4 : Int) (M : xM) (out : Int × xM), rc w1 w2 w3 w4 M = some out → XR false 7 174 sc y_M_joins (55, [(0, (vR 10 l0)), (1, (vI w1)), (2, (vI w2)), (3, (vI w3)), (4, (vI w4))], [], R, M, 174) ((some (vI out.1)), R, out.2)) (hq239 : ∀ (w1 : Int) (w2 : Int) (w3 : Int) (M : xM) (out : Int × xM), q239 w1 w2 w3 M = some out → XR false 7 174 sc y_M_joins (239, [(0, (vR 10 l0)), (1, (vI w1)), (2, (vI w2)), (3, (vI w3))], [], R, M, 174) ((some (vI out.1)), R, out.2)) {v1 : Int} {v2 : Int} {v3 : Int} {v5 : Int} {M : xM} {out : Int × xM} (h : M_joins_J91 R l0 rc q239 v1 v2 v3 v5 M = some out) : XR false 7 174 sc y_M_joins (91, [(0, (vR 10 l0)), (1, (vI v1)), (2, (vI v2)), (3, (vI v3)), (5, (vI v5))], [], R, M, 174) ((some (vI out.1)), R, out.2) := by
  unfold M_joins_J91 at h
  refine s_M_joins [(91, .iconst 0, 0, 0), (92, .istore 6, 0, 0), (94, .iconst 0, 0, 0), (95, .istore 7, 0, 0)] (by decide +kernel) (z' := (97, [(7, (vI 0)), (6, (vI 0)), (0, (vR 10 l0)), (1, (vI v1)), (2, (vI v2)), (3, (vI v3)), (5, (vI v5))], [], R, M, 174)) (cs := []) (by rfl) trivial (Nat.le_refl _) ?_
  refine XR.pick [2, 3, 4, 5, 6, 1, 0] (ls' := [(0, (vR 10 l0)), (1, (vI v1)), (2, (vI v2)), (3, (vI v3)), (5, (vI v5)), (6, (vI 0)), (7, (vI 0))]) rfl ?_
  refine o_M_joins_F97 ?_ xfu v1 v2 v3 v5 0 0 M _ h
  · intro v1_29 v2_30 v3_31 v5_32 v6_33 M_34 out h
    refine s_M_joins [(138, .iload 5, 0, 0), (140, .iload_n 1, 0, 0)] (by decide +kernel) (z' := (141, [(0, (vR 10 l0)), (1, (vI v1_29)), (2, (vI v2_30)), (3, (vI v3_31)), (5, (vI v5_32)), (6, (vI v6_33))], [(vI v1_29), (vI v5_32)], R, M_34, 174)) (cs := []) (by rfl) trivial (Nat.le_refl _) ?_
    rcases xif_ex h with ⟨c_35, h⟩ | ⟨c_35, h⟩
    · skip
      refine s_M_joins [(141, .if_icmp .le 8, 0, (-1)), (144, .iload 6, 0, 0)] (by decide +kernel) (z' := (146, [(0, (vR 10 l0)), (1, (vI v1_29)), (2, (vI v2_30)), (3, (vI v3_31)), (5, (vI v5_32)), (6, (vI v6_33))], [(vI v6_33)], R, M_34, 174)) (cs := [¬ (v5_32 ≤ v1_29)]) (by rfl) ⟨Int.not_le.mpr c_35, trivial⟩ (Nat.le_refl _) ?_
      rcases xif_ex h with ⟨c_36, h⟩ | ⟨c_36, h⟩
      · skip
        refine s_M_joins [(146, .ifCond .eq 9, 0, 155), (155, .aload_n 0, 0, 0)] (by decide +kernel) (z' := (156, [(0, (vR 10 l0)), (1, (vI v1_29)), (2, (vI v2_30)), (3, (vI v3_31)), (5, (vI v5_32)), (6, (vI v6_33))], [(vR 10 l0)], R, M_34, 174)) (cs := [v6_33 = 0]) (by rfl) ⟨c_36, trivial⟩ (Nat.le_refl _) ?_
        obtain ⟨M_37, e_38, h⟩ := xb1_ex h
        refine XR.callV 10 rfl (rest := []) m_M_next k_10_334 10 l0 (Or.inl ⟨by decide, rfl⟩) [] rfl rfl (c_M_next e_38) (by decide) (Nat.le_of_ble_eq_true rfl) (by decide +kernel) (Nat.le_refl _) (Nat.le_refl _) ?_
        show XR false 7 174 sc y_M_joins (159, [(0, (vR 10 l0)), (1, (vI v1_29)), (2, (vI v2_30)), (3, (vI v3_31)), (5, (vI v5_32)), (6, (vI v6_33))], [], R, M_37, 174) _
        refine s_M_joins [(159, .aload_n 0, 0, 0), (160, .bipush 12, 0, 12)] (by decide +kernel) (z' := (162, [(0, (vR 10 l0)), (1, (vI v1_29)), (2, (vI v2_30)), (3, (vI v3_31)), (5, (vI v5_32)), (6, (vI v6_33))], [(vI 12), (vR 10 l0)], R, M_37, 174)) (cs := []) (by rfl) trivial (Nat.le_refl _) ?_
        obtain ⟨r_39, M_40, e_41, h⟩ := xb2_ex h
        refine XR.callV 10 rfl (rest := []) m_M_wantKey k_10_363 10 l0 (Or.inl ⟨by decide, rfl⟩) [(vI 12)] rfl rfl (c_M_wantKey e_41) (by decide) (Nat.le_of_ble_eq_true rfl) (by decide +kernel) (Nat.le_refl _) (Nat.le_refl _) ?_
        show XR false 7 174 sc y_M_joins (165, [(0, (vR 10 l0)), (1, (vI v1_29)), (2, (vI v2_30)), (3, (vI v3_31)), (5, (vI v5_32)), (6, (vI v6_33))], [(vI r_39)], R, M_40, 174) _
        rcases xif_ex h with ⟨c_42, h⟩ | ⟨c_42, h⟩
        · skip
          refine s_M_joins [(165, .ifCond .eq 14, 0, 179), (179, .iconst 0, 0, 0)] (by decide +kernel) (z' := (180, [(0, (vR 10 l0)), (1, (vI v1_29)), (2, (vI v2_30)), (3, (vI v3_31)), (5, (vI v5_32)), (6, (vI v6_33))], [(vI 0)], R, M_40, 174)) (cs := [r_39 = 0]) (by rfl) ⟨c_42, trivial⟩ (Nat.le_refl _) ?_
          obtain rfl := Option.some.inj h
          exact XR.retI .boolean rfl (xnar_z (by decide)) (by decide +kernel)
        · skip
          refine s_M_joins [(165, .ifCond .eq 14, 0, (-1)), (168, .aload_n 0, 0, 0), (169, .iconst 0, 0, 0), (170, .bipush 100, 0, 100), (172, .iconst 4, 0, 4)] (by decide +kernel) (z' := (173, [(0, (vR 10 l0)), (1, (vI v1_29)), (2, (vI v2_30)), (3, (vI v3_31)), (5, (vI v5_32)), (6, (vI v6_33))], [(vI 4), (vI 100), (vI 0), (vR 10 l0)], R, M_40, 174)) (cs := [¬ (r_39 = 0)]) (by rfl) ⟨c_42, trivial⟩ (Nat.le_refl _) ?_
          obtain ⟨r_43, M_44, e_45, h⟩ := xb2_ex h
          refine XR.callV 10 rfl (rest := []) m_M_number k_10_369 10 l0 (Or.inl ⟨by decide, rfl⟩) [(vI 0), (vI 100), (vI 4)] rfl rfl (c_M_number e_45) (by decide) (Nat.le_of_ble_eq_true rfl) (by decide +kernel) (Nat.le_refl _) (Nat.le_refl _) ?_
          show XR false 7 174 sc y_M_joins (176, [(0, (vR 10 l0)), (1, (vI v1_29)), (2, (vI v2_30)), (3, (vI v3_31)), (5, (vI v5_32)), (6, (vI v6_33))], [(vI r_43)], R, M_44, 174) _
          rcases xif_ex h with ⟨c_46, h⟩ | ⟨c_46, h⟩
          · skip
            refine s_M_joins [(176, .ifCond .ne 5, 0, (-1)), (179, .iconst 0, 0, 0)] (by decide +kernel) (z' := (180, [(0, (vR 10 l0)), (1, (vI v1_29)), (2, (vI v2_30)), (3, (vI v3_31)), (5, (vI v5_32)), (6, (vI v6_33))], [(vI 0)], R, M_44, 174)) (cs := [¬ (r_43 ≠ 0)]) (by rfl) ⟨fun q => q c_46, trivial⟩ (Nat.le_refl _) ?_
            obtain rfl := Option.some.inj h
            exact XR.retI .boolean rfl (xnar_z (by decide)) (by decide +kernel)
          · skip
            obtain ⟨c_47, h⟩ := xch_ex h
            obtain ⟨M_48, hM_48, h⟩ := xl_ex h
            obtain ⟨M_49, hM_49, h⟩ := xl_ex h
            obtain ⟨v2_50, hv2_50, h⟩ := xl_ex h
            obtain ⟨v3_51, hv3_51, h⟩ := xl_ex h
            refine s_M_joins [(176, .ifCond .ne 5, 0, 181), (181, .aload_n 0, 0, 0), (182, .getfield 55, 10, 24), (185, .bipush 8, 0, 8), (187, .iload_n 1, 0, 0), (188, .imul, 0, 0), (189, .iload_n 3, 0, 0), (190, .iadd, 0, 0), (191, .iload 5, 0, 0), (193, .iastore, 0, 0), (194, .aload_n 0, 0, 0), (195, .getfield 58, 10, 25), (198, .bipush 8, 0, 8), (200, .iload_n 1, 0, 0), (201, .imul, 0, 0), (202, .iload_n 3, 0, 0), (203, .iadd, 0, 0), (204, .aload_n 0, 0, 0), (205, .getfield 340, 10, 12), (208, .iastore, 0, 0), (209, .iload_n 2, 0, 0), (210, .aload_n 0, 0, 0), (211, .getfield 340, 10, 12), (214, .iadd, 0, 0), (215, .istore_n 2, 0, 0), (216, .iinc 3 1, 0, 0), (219, .aload_n 0, 0, 0), (220, .bipush 44, 0, 44)] (by decide +kernel) (z' := (222, [(3, (vI v3_51)), (2, (vI v2_50)), (0, (vR 10 l0)), (1, (vI v1_29)), (5, (vI v5_32)), (6, (vI v6_33))], [(vI 44), (vR 10 l0)], R, M_49, 174)) (cs := [r_43 ≠ 0, xar 38 0, xidx (w32 ((w32 (8 * v1_29)) + v3_31)) (xan 38), xar 38 0, xidx (w32 ((w32 (8 * v1_29)) + v3_31)) (xan 38)]) (by subst hM_48; subst hM_49; subst hv2_50; subst hv3_51; rfl) ⟨c_46, xar_38, xix_38 c_47, xar_38, xix_38 c_47, trivial⟩ (Nat.le_refl _) ?_
            obtain ⟨r_52, e_53, h⟩ := xb1_ex h
            refine XR.callV 10 rfl (rest := []) m_M_isSign k_10_337 10 l0 (Or.inl ⟨by decide, rfl⟩) [(vI 44)] rfl rfl (c_M_isSign e_53) (by decide) (Nat.le_of_ble_eq_true rfl) (by decide +kernel) (Nat.le_refl _) (Nat.le_refl _) ?_
            show XR false 7 174 sc y_M_joins (225, [(3, (vI v3_51)), (2, (vI v2_50)), (0, (vR 10 l0)), (1, (vI v1_29)), (5, (vI v5_32)), (6, (vI v6_33))], [(vI r_52)], R, M_49, 174) _
            refine s_M_joins [(225, .istore 4, 0, 0), (227, .iload 4, 0, 0)] (by decide +kernel) (z' := (229, [(4, (vI r_52)), (3, (vI v3_51)), (2, (vI v2_50)), (0, (vR 10 l0)), (1, (vI v1_29)), (5, (vI v5_32)), (6, (vI v6_33))], [(vI r_52)], R, M_49, 174)) (cs := []) (by rfl) trivial (Nat.le_refl _) ?_
            rcases xif_ex h with ⟨c_54, h⟩ | ⟨c_54, h⟩
            · skip
              refine s_M_joins [(229, .ifCond .eq 7, 0, 236)] (by decide +kernel) (z' := (236, [(4, (vI r_52)), (3, (vI v3_51)), (2, (vI v2_50)), (0, (vR 10 l0)), (1, (vI v1_29)), (5, (vI v5_32)), (6, (vI v6_33))], [], R, M_49, 174)) (cs := [r_52 = 0]) (by rfl) ⟨c_54, trivial⟩ (Nat.le_refl _) ?_
              refine XR.pick [3, 4, 2, 1, 0] (ls' := [(0, (vR 10 l0)), (1, (vI v1_29)), (2, (vI v2_50)), (3, (vI v3_51)), (4, (vI r_52))]) rfl ?_
              exact o_M_joins_J236 hrc hq239 h
            · skip
              refine s_M_joins [(229, .ifCond .eq 7, 0, (-1)), (232, .aload_n 0, 0, 0)] (by decide +kernel) (z' := (233, [(4, (vI r_52)), (3, (vI v3_51)), (2, (vI v2_50)), (0, (vR 10 l0)), (1, (vI v1_29)), (5, (vI v5_32)), (6, (vI v6_33))], [(vR 10 l0)], R, M_49, 174)) (cs := [¬ (r_52 = 0)]) (by rfl) ⟨c_54, trivial⟩ (Nat.le_refl _) ?_
              obtain ⟨M_55, e_56, h⟩ := xb1_ex h
              refine XR.callV 10 rfl (rest := []) m_M_next k_10_334 10 l0 (Or.inl ⟨by decide, rfl⟩) [] rfl rfl (c_M_next e_56) (by decide) (Nat.le_of_ble_eq_true rfl) (by decide +kernel) (Nat.le_refl _) (Nat.le_refl _) ?_
              show XR false 7 174 sc y_M_joins (236, [(4, (vI r_52)), (3, (vI v3_51)), (2, (vI v2_50)), (0, (vR 10 l0)), (1, (vI v1_29)), (5, (vI v5_32)), (6, (vI v6_33))], [], R, M_55, 174) _
              refine XR.pick [3, 4, 2, 1, 0] (ls' := [(0, (vR 10 l0)), (1, (vI v1_29)), (2, (vI v2_50)), (3, (vI v3_51)), (4, (vI r_52))]) rfl ?_
              exact o_M_joins_J236 hrc hq239 h
      · skip
        refine s_M_joins [(146, .ifCond .eq 9, 0, (-1)), (149, .aload_n 0, 0, 0), (150, .iconst 5, 0, 5)] (by decide +kernel) (z' := (151, [(0, (vR 10 l0)), (1, (vI v1_29)), (2, (vI v2_30)), (3, (vI v3_31)), (5, (vI v5_32)), (6, (vI v6_33))], [(vI 5), (vR 10 l0)], R, M_34, 174)) (cs := [¬ (v6_33 = 0)]) (by rfl) ⟨c_36, trivial⟩ (Nat.le_refl _) ?_
        obtain ⟨r_57, M_58, e_59, h⟩ := xb2_ex h
        refine XR.callV 10 rfl (rest := []) m_M_fails k_10_331 10 l0 (Or.inl ⟨by decide, rfl⟩) [(vI 5)] rfl rfl (c_M_fails e_59) (by decide) (Nat.le_of_ble_eq_true rfl) (by decide +kernel) (Nat.le_refl _) (Nat.le_refl _) ?_
        show XR false 7 174 sc y_M_joins (154, [(0, (vR 10 l0)), (1, (vI v1_29)), (2, (vI v2_30)), (3, (vI v3_31)), (5, (vI v5_32)), (6, (vI v6_33))], [(vI r_57)], R, M_58, 174) _
        obtain ⟨c_60, h⟩ := xch_ex h
        obtain rfl := Option.some.inj h
        exact XR.retI .boolean rfl (xnar_z c_60) (by decide +kernel)
    · skip
      refine s_M_joins [(141, .if_icmp .le 8, 0, 149), (149, .aload_n 0, 0, 0), (150, .iconst 5, 0, 5)] (by decide +kernel) (z' := (151, [(0, (vR 10 l0)), (1, (vI v1_29)), (2, (vI v2_30)), (3, (vI v3_31)), (5, (vI v5_32)), (6, (vI v6_33))], [(vI 5), (vR 10 l0)], R, M_34, 174)) (cs := [v5_32 ≤ v1_29]) (by rfl) ⟨Int.not_lt.mp c_35, trivial⟩ (Nat.le_refl _) ?_
      obtain ⟨r_61, M_62, e_63, h⟩ := xb2_ex h
      refine XR.callV 10 rfl (rest := []) m_M_fails k_10_331 10 l0 (Or.inl ⟨by decide, rfl⟩) [(vI 5)] rfl rfl (c_M_fails e_63) (by decide) (Nat.le_of_ble_eq_true rfl) (by decide +kernel) (Nat.le_refl _) (Nat.le_refl _) ?_
      show XR false 7 174 sc y_M_joins (154, [(0, (vR 10 l0)), (1, (vI v1_29)), (2, (vI v2_30)), (3, (vI v3_31)), (5, (vI v5_32)), (6, (vI v6_33))], [(vI r_61)], R, M_62, 174) _
      obtain ⟨c_64, h⟩ := xch_ex h
      obtain rfl := Option.some.inj h
      exact XR.retI .boolean rfl (xnar_z c_64) (by decide +kernel)
set_option maxRecDepth 100000 in
set_option maxHeartbeats 4000000 in
theorem o_M_joins_F55 {sc : List Int} {R : xR}   {l0 : Nat}  {q239 : Int → Int → Int → xM → Option (Int × xM)} (hq239 : ∀ (w1 : Int) (w2 : Int) (w3 : Int) (M : xM) (out : Int × xM), q239 w1 w2 w3 M = some out → XR false 7 174 sc y_M_joins (239, [(0, (vR 10 l0)), (1, (vI w1)), (2, (vI w2)), (3, (vI w3))], [], R, M, 174) ((some (vI out.1)), R, out.2)) : ∀ (n : Nat) (v1 : Int) (v2 : Int) (v3 : Int) (v4 : Int) (M : xM) (out : Int × xM), M_joins_F55 R l0 q239 n v1 v2 v3 v4 M = some out → XR false 7 174 sc y_M_joins (55, [(0, (vR 10 l0)), (1, (vI v1)), (2, (vI v2)), (3, (vI v3)), (4, (vI v4))], [], R, M, 174) ((some (vI out.1)), R, out.2) := by
  intro n
  induction n with
  | zero => intro v1 v2 v3 v4 M out h; exact (xno h).elim
  | succ n ih =>
    intro v1 v2 v3 v4 M out h
    rw [M_joins_F55] at h
    refine s_M_joins [(55, .iload 4, 0, 0)] (by decide +kernel) (z' := (57, [(0, (vR 10 l0)), (1, (vI v1)), (2, (vI v2)), (3, (vI v3)), (4, (vI v4))], [(vI v4)], R, M, 174)) (cs := []) (by rfl) trivial (Nat.le_refl _) ?_
    rcases xif_ex h with ⟨c_20, h⟩ | ⟨c_20, h⟩
    · skip
      refine s_M_joins [(57, .ifCond .eq 182, 0, 239)] (by decide +kernel) (z' := (239, [(0, (vR 10 l0)), (1, (vI v1)), (2, (vI v2)), (3, (vI v3)), (4, (vI v4))], [], R, M, 174)) (cs := [v4 = 0]) (by rfl) ⟨c_20, trivial⟩ (Nat.le_refl _) ?_
      refine XR.pick [0, 1, 2, 3] (ls' := [(0, (vR 10 l0)), (1, (vI v1)), (2, (vI v2)), (3, (vI v3))]) rfl ?_
      exact hq239 v1 v2 v3 M _ h
    · skip
      refine s_M_joins [(57, .ifCond .eq 182, 0, (-1)), (60, .bipush 8, 0, 8), (62, .istore 5, 0, 0), (64, .aload_n 0, 0, 0), (65, .ldc_w 325, 6, 0)] (by decide +kernel) (z' := (68, [(5, (vI 8)), (0, (vR 10 l0)), (1, (vI v1)), (2, (vI v2)), (3, (vI v3)), (4, (vI v4))], [(vR 99 6), (vR 10 l0)], R, M, 174)) (cs := [¬ (v4 = 0)]) (by rfl) ⟨c_20, trivial⟩ (Nat.le_refl _) ?_
      obtain ⟨r_21, e_22, h⟩ := xb1_ex h
      refine XR.callV 10 rfl (rest := []) m_M_inWords k_10_327 10 l0 (Or.inl ⟨by decide, rfl⟩) [(vR 99 6)] rfl rfl (c_M_inWords e_22) (by decide) (Nat.le_of_ble_eq_true rfl) (by decide +kernel) (Nat.le_refl _) (Nat.le_refl _) ?_
      show XR false 7 174 sc y_M_joins (71, [(5, (vI 8)), (0, (vR 10 l0)), (1, (vI v1)), (2, (vI v2)), (3, (vI v3)), (4, (vI v4))], [(vI r_21)], R, M, 174) _
      refine s_M_joins [(71, .bipush 13, 0, 13)] (by decide +kernel) (z' := (73, [(5, (vI 8)), (0, (vR 10 l0)), (1, (vI v1)), (2, (vI v2)), (3, (vI v3)), (4, (vI v4))], [(vI 13), (vI r_21)], R, M, 174)) (cs := []) (by rfl) trivial (Nat.le_refl _) ?_
      rcases xif_ex h with ⟨c_23, h⟩ | ⟨c_23, h⟩
      · skip
        refine s_M_joins [(73, .if_icmp .eq 18, 0, 91)] (by decide +kernel) (z' := (91, [(5, (vI 8)), (0, (vR 10 l0)), (1, (vI v1)), (2, (vI v2)), (3, (vI v3)), (4, (vI v4))], [], R, M, 174)) (cs := [r_21 = 13]) (by rfl) ⟨c_23, trivial⟩ (Nat.le_refl _) ?_
        refine XR.pick [1, 2, 3, 4, 0] (ls' := [(0, (vR 10 l0)), (1, (vI v1)), (2, (vI v2)), (3, (vI v3)), (5, (vI 8))]) rfl ?_
        exact o_M_joins_J91 ih hq239 h
      · skip
        refine s_M_joins [(73, .if_icmp .eq 18, 0, (-1)), (76, .aload_n 0, 0, 0)] (by decide +kernel) (z' := (77, [(5, (vI 8)), (0, (vR 10 l0)), (1, (vI v1)), (2, (vI v2)), (3, (vI v3)), (4, (vI v4))], [(vR 10 l0)], R, M, 174)) (cs := [¬ (r_21 = 13)]) (by rfl) ⟨c_23, trivial⟩ (Nat.le_refl _) ?_
        obtain ⟨r_65, M_66, e_67, h⟩ := xb2_ex h
        refine XR.callV 10 rfl (rest := []) m_M_known k_10_373 10 l0 (Or.inl ⟨by decide, rfl⟩) [] rfl rfl (c_M_known e_67) (by decide) (Nat.le_of_ble_eq_true rfl) (by decide +kernel) (Nat.le_refl _) (Nat.le_refl _) ?_
        show XR false 7 174 sc y_M_joins (80, [(5, (vI 8)), (0, (vR 10 l0)), (1, (vI v1)), (2, (vI v2)), (3, (vI v3)), (4, (vI v4))], [(vI r_65)], R, M_66, 174) _
        rcases xif_ex h with ⟨c_68, h⟩ | ⟨c_68, h⟩
        · skip
          refine s_M_joins [(80, .ifCond .ne 5, 0, (-1)), (83, .iconst 0, 0, 0)] (by decide +kernel) (z' := (84, [(5, (vI 8)), (0, (vR 10 l0)), (1, (vI v1)), (2, (vI v2)), (3, (vI v3)), (4, (vI v4))], [(vI 0)], R, M_66, 174)) (cs := [¬ (r_65 ≠ 0)]) (by rfl) ⟨fun q => q c_68, trivial⟩ (Nat.le_refl _) ?_
          obtain rfl := Option.some.inj h
          exact XR.retI .boolean rfl (xnar_z (by decide)) (by decide +kernel)
        · skip
          obtain ⟨v5_69, hv5_69, h⟩ := xl_ex h
          refine s_M_joins [(80, .ifCond .ne 5, 0, 85), (85, .aload_n 0, 0, 0), (86, .getfield 340, 10, 12), (89, .istore 5, 0, 0)] (by decide +kernel) (z' := (91, [(5, (vI v5_69)), (0, (vR 10 l0)), (1, (vI v1)), (2, (vI v2)), (3, (vI v3)), (4, (vI v4))], [], R, M_66, 174)) (cs := [r_65 ≠ 0]) (by subst hv5_69; rfl) ⟨c_68, trivial⟩ (Nat.le_refl _) ?_
          refine XR.pick [1, 2, 3, 4, 0] (ls' := [(0, (vR 10 l0)), (1, (vI v1)), (2, (vI v2)), (3, (vI v3)), (5, (vI v5_69))]) rfl ?_
          exact o_M_joins_J91 ih hq239 h
set_option maxRecDepth 100000 in
set_option maxHeartbeats 4000000 in
theorem o_M_joins {sc : List Int} {R : xR} {M : xM} {l0 : Nat} {out : Int × xM} (h : f_M_joins R l0 M = some out) : XR false 7 174 sc y_M_joins (0, [(0, (vR 10 l0))], [], R, M, 174) ((some (vI out.1)), R, out.2) := by
  unfold f_M_joins at h
  refine s_M_joins [(0, .aload_n 0, 0, 0)] (by decide +kernel) (z' := (1, [(0, (vR 10 l0))], [(vR 10 l0)], R, M, 174)) (cs := []) (by rfl) trivial (Nat.le_refl _) ?_
  obtain ⟨M_1, e_2, h⟩ := xb1_ex h
  refine XR.callV 10 rfl (rest := []) m_M_next k_10_334 10 l0 (Or.inl ⟨by decide, rfl⟩) [] rfl rfl (c_M_next e_2) (by decide) (Nat.le_of_ble_eq_true rfl) (by decide +kernel) (Nat.le_refl _) (Nat.le_refl _) ?_
  show XR false 7 174 sc y_M_joins (4, [(0, (vR 10 l0))], [], R, M_1, 174) _
  refine s_M_joins [(4, .aload_n 0, 0, 0)] (by decide +kernel) (z' := (5, [(0, (vR 10 l0))], [(vR 10 l0)], R, M_1, 174)) (cs := []) (by rfl) trivial (Nat.le_refl _) ?_
  obtain ⟨r_3, M_4, e_5, h⟩ := xb2_ex h
  refine XR.callV 10 rfl (rest := []) m_M_known k_10_373 10 l0 (Or.inl ⟨by decide, rfl⟩) [] rfl rfl (c_M_known e_5) (by decide) (Nat.le_of_ble_eq_true rfl) (by decide +kernel) (Nat.le_refl _) (Nat.le_refl _) ?_
  show XR false 7 174 sc y_M_joins (8, [(0, (vR 10 l0))], [(vI r_3)], R, M_4, 174) _
  rcases xif_ex h with ⟨c_6, h⟩ | ⟨c_6, h⟩
  · skip
    refine s_M_joins [(8, .ifCond .ne 5, 0, (-1)), (11, .iconst 0, 0, 0)] (by decide +kernel) (z' := (12, [(0, (vR 10 l0))], [(vI 0)], R, M_4, 174)) (cs := [¬ (r_3 ≠ 0)]) (by rfl) ⟨fun q => q c_6, trivial⟩ (Nat.le_refl _) ?_
    obtain rfl := Option.some.inj h
    exact XR.retI .boolean rfl (xnar_z (by decide)) (by decide +kernel)
  · skip
    obtain ⟨v1_7, hv1_7, h⟩ := xl_ex h
    obtain ⟨c_8, h⟩ := xch_ex h
    refine s_M_joins [(8, .ifCond .ne 5, 0, 13), (13, .aload_n 0, 0, 0), (14, .getfield 340, 10, 12), (17, .istore_n 1, 0, 0), (18, .aload_n 0, 0, 0), (19, .getfield 52, 10, 23), (22, .iload_n 1, 0, 0), (23, .iaload, 0, 0)] (by decide +kernel) (z' := (24, [(1, (vI v1_7)), (0, (vR 10 l0))], [(vI (M_4 (R l0 23) (Int.toNat v1_7)))], R, M_4, 174)) (cs := [r_3 ≠ 0, xar 30 0, xidx v1_7 (xan 30)]) (by subst hv1_7; rfl) ⟨c_6, xar_30, xix_30 c_8, trivial⟩ (Nat.le_refl _) ?_
    rcases xif_ex h with ⟨c_9, h⟩ | ⟨c_9, h⟩
    · skip
      refine s_M_joins [(24, .ifCond .le 9, 0, (-1)), (27, .aload_n 0, 0, 0), (28, .iconst 5, 0, 5)] (by decide +kernel) (z' := (29, [(1, (vI v1_7)), (0, (vR 10 l0))], [(vI 5), (vR 10 l0)], R, M_4, 174)) (cs := [¬ (M_4 (R l0 23) (Int.toNat v1_7) ≤ 0)]) (by rfl) ⟨Int.not_le.mpr c_9, trivial⟩ (Nat.le_refl _) ?_
      obtain ⟨r_10, M_11, e_12, h⟩ := xb2_ex h
      refine XR.callV 10 rfl (rest := []) m_M_fails k_10_331 10 l0 (Or.inl ⟨by decide, rfl⟩) [(vI 5)] rfl rfl (c_M_fails e_12) (by decide) (Nat.le_of_ble_eq_true rfl) (by decide +kernel) (Nat.le_refl _) (Nat.le_refl _) ?_
      show XR false 7 174 sc y_M_joins (32, [(1, (vI v1_7)), (0, (vR 10 l0))], [(vI r_10)], R, M_11, 174) _
      obtain ⟨c_13, h⟩ := xch_ex h
      obtain rfl := Option.some.inj h
      exact XR.retI .boolean rfl (xnar_z c_13) (by decide +kernel)
    · skip
      refine s_M_joins [(24, .ifCond .le 9, 0, 33), (33, .aload_n 0, 0, 0)] (by decide +kernel) (z' := (34, [(1, (vI v1_7)), (0, (vR 10 l0))], [(vR 10 l0)], R, M_4, 174)) (cs := [M_4 (R l0 23) (Int.toNat v1_7) ≤ 0]) (by rfl) ⟨Int.not_lt.mp c_9, trivial⟩ (Nat.le_refl _) ?_
      obtain ⟨M_14, e_15, h⟩ := xb1_ex h
      refine XR.callV 10 rfl (rest := []) m_M_next k_10_334 10 l0 (Or.inl ⟨by decide, rfl⟩) [] rfl rfl (c_M_next e_15) (by decide) (Nat.le_of_ble_eq_true rfl) (by decide +kernel) (Nat.le_refl _) (Nat.le_refl _) ?_
      show XR false 7 174 sc y_M_joins (37, [(1, (vI v1_7)), (0, (vR 10 l0))], [], R, M_14, 174) _
      refine s_M_joins [(37, .aload_n 0, 0, 0), (38, .bipush 11, 0, 11)] (by decide +kernel) (z' := (40, [(1, (vI v1_7)), (0, (vR 10 l0))], [(vI 11), (vR 10 l0)], R, M_14, 174)) (cs := []) (by rfl) trivial (Nat.le_refl _) ?_
      obtain ⟨r_16, M_17, e_18, h⟩ := xb2_ex h
      refine XR.callV 10 rfl (rest := []) m_M_wantKey k_10_363 10 l0 (Or.inl ⟨by decide, rfl⟩) [(vI 11)] rfl rfl (c_M_wantKey e_18) (by decide) (Nat.le_of_ble_eq_true rfl) (by decide +kernel) (Nat.le_refl _) (Nat.le_refl _) ?_
      show XR false 7 174 sc y_M_joins (43, [(1, (vI v1_7)), (0, (vR 10 l0))], [(vI r_16)], R, M_17, 174) _
      rcases xif_ex h with ⟨c_19, h⟩ | ⟨c_19, h⟩
      · skip
        refine s_M_joins [(43, .ifCond .ne 5, 0, (-1)), (46, .iconst 0, 0, 0)] (by decide +kernel) (z' := (47, [(1, (vI v1_7)), (0, (vR 10 l0))], [(vI 0)], R, M_17, 174)) (cs := [¬ (r_16 ≠ 0)]) (by rfl) ⟨fun q => q c_19, trivial⟩ (Nat.le_refl _) ?_
        obtain rfl := Option.some.inj h
        exact XR.retI .boolean rfl (xnar_z (by decide)) (by decide +kernel)
      · skip
        refine s_M_joins [(43, .ifCond .ne 5, 0, 48), (48, .iconst 0, 0, 0), (49, .istore_n 2, 0, 0), (50, .iconst 0, 0, 0), (51, .istore_n 3, 0, 0), (52, .iconst 1, 0, 1), (53, .istore 4, 0, 0)] (by decide +kernel) (z' := (55, [(4, (vI 1)), (3, (vI 0)), (2, (vI 0)), (1, (vI v1_7)), (0, (vR 10 l0))], [], R, M_17, 174)) (cs := [r_16 ≠ 0]) (by rfl) ⟨c_19, trivial⟩ (Nat.le_refl _) ?_
        refine XR.pick [4, 3, 2, 1, 0] (ls' := [(0, (vR 10 l0)), (1, (vI v1_7)), (2, (vI 0)), (3, (vI 0)), (4, (vI 1))]) rfl ?_
        refine o_M_joins_F55 ?_ xfu v1_7 0 0 1 M_17 _ h
        · intro v1_70 v2_71 v3_72 M_73 out h
          refine s_M_joins [(239, .aload_n 0, 0, 0), (240, .bipush 59, 0, 59)] (by decide +kernel) (z' := (242, [(0, (vR 10 l0)), (1, (vI v1_70)), (2, (vI v2_71)), (3, (vI v3_72))], [(vI 59), (vR 10 l0)], R, M_73, 174)) (cs := []) (by rfl) trivial (Nat.le_refl _) ?_
          obtain ⟨r_74, e_75, h⟩ := xb1_ex h
          refine XR.callV 10 rfl (rest := []) m_M_isSign k_10_337 10 l0 (Or.inl ⟨by decide, rfl⟩) [(vI 59)] rfl rfl (c_M_isSign e_75) (by decide) (Nat.le_of_ble_eq_true rfl) (by decide +kernel) (Nat.le_refl _) (Nat.le_refl _) ?_
          show XR false 7 174 sc y_M_joins (245, [(0, (vR 10 l0)), (1, (vI v1_70)), (2, (vI v2_71)), (3, (vI v3_72))], [(vI r_74)], R, M_73, 174) _
          rcases xif_ex h with ⟨c_76, h⟩ | ⟨c_76, h⟩
          · skip
            refine s_M_joins [(245, .ifCond .ne 9, 0, (-1)), (248, .aload_n 0, 0, 0), (249, .iconst 2, 0, 2)] (by decide +kernel) (z' := (250, [(0, (vR 10 l0)), (1, (vI v1_70)), (2, (vI v2_71)), (3, (vI v3_72))], [(vI 2), (vR 10 l0)], R, M_73, 174)) (cs := [¬ (r_74 ≠ 0)]) (by rfl) ⟨fun q => q c_76, trivial⟩ (Nat.le_refl _) ?_
            obtain ⟨r_77, M_78, e_79, h⟩ := xb2_ex h
            refine XR.callV 10 rfl (rest := []) m_M_fails k_10_331 10 l0 (Or.inl ⟨by decide, rfl⟩) [(vI 2)] rfl rfl (c_M_fails e_79) (by decide) (Nat.le_of_ble_eq_true rfl) (by decide +kernel) (Nat.le_refl _) (Nat.le_refl _) ?_
            show XR false 7 174 sc y_M_joins (253, [(0, (vR 10 l0)), (1, (vI v1_70)), (2, (vI v2_71)), (3, (vI v3_72))], [(vI r_77)], R, M_78, 174) _
            obtain ⟨c_80, h⟩ := xch_ex h
            obtain rfl := Option.some.inj h
            exact XR.retI .boolean rfl (xnar_z c_80) (by decide +kernel)
          · skip
            refine s_M_joins [(245, .ifCond .ne 9, 0, 254), (254, .iload_n 2, 0, 0), (255, .bipush 100, 0, 100)] (by decide +kernel) (z' := (257, [(0, (vR 10 l0)), (1, (vI v1_70)), (2, (vI v2_71)), (3, (vI v3_72))], [(vI 100), (vI v2_71)], R, M_73, 174)) (cs := [r_74 ≠ 0]) (by rfl) ⟨c_76, trivial⟩ (Nat.le_refl _) ?_
            rcases xif_ex h with ⟨c_81, h⟩ | ⟨c_81, h⟩
            · skip
              obtain ⟨c_82, h⟩ := xch_ex h
              obtain ⟨M_83, hM_83, h⟩ := xl_ex h
              refine s_M_joins [(257, .if_icmp .eq 10, 0, 267), (267, .aload_n 0, 0, 0), (268, .getfield 52, 10, 23), (271, .iload_n 1, 0, 0), (272, .iload_n 3, 0, 0), (273, .iastore, 0, 0), (274, .aload_n 0, 0, 0)] (by decide +kernel) (z' := (275, [(0, (vR 10 l0)), (1, (vI v1_70)), (2, (vI v2_71)), (3, (vI v3_72))], [(vR 10 l0)], R, M_83, 174)) (cs := [v2_71 = 100, xar 30 0, xidx v1_70 (xan 30)]) (by subst hM_83; rfl) ⟨c_81, xar_30, xix_30 c_82, trivial⟩ (Nat.le_refl _) ?_
              obtain ⟨M_84, e_85, h⟩ := xb1_ex h
              refine XR.callV 10 rfl (rest := []) m_M_next k_10_334 10 l0 (Or.inl ⟨by decide, rfl⟩) [] rfl rfl (c_M_next e_85) (by decide) (Nat.le_of_ble_eq_true rfl) (by decide +kernel) (Nat.le_refl _) (Nat.le_refl _) ?_
              show XR false 7 174 sc y_M_joins (278, [(0, (vR 10 l0)), (1, (vI v1_70)), (2, (vI v2_71)), (3, (vI v3_72))], [], R, M_84, 174) _
              refine s_M_joins [(278, .iconst 1, 0, 1)] (by decide +kernel) (z' := (279, [(0, (vR 10 l0)), (1, (vI v1_70)), (2, (vI v2_71)), (3, (vI v3_72))], [(vI 1)], R, M_84, 174)) (cs := []) (by rfl) trivial (Nat.le_refl _) ?_
              obtain rfl := Option.some.inj h
              exact XR.retI .boolean rfl (xnar_z (by decide)) (by decide +kernel)
            · skip
              refine s_M_joins [(257, .if_icmp .eq 10, 0, (-1)), (260, .aload_n 0, 0, 0), (261, .bipush 7, 0, 7)] (by decide +kernel) (z' := (263, [(0, (vR 10 l0)), (1, (vI v1_70)), (2, (vI v2_71)), (3, (vI v3_72))], [(vI 7), (vR 10 l0)], R, M_73, 174)) (cs := [¬ (v2_71 = 100)]) (by rfl) ⟨c_81, trivial⟩ (Nat.le_refl _) ?_
              obtain ⟨r_86, M_87, e_88, h⟩ := xb2_ex h
              refine XR.callV 10 rfl (rest := []) m_M_fails k_10_331 10 l0 (Or.inl ⟨by decide, rfl⟩) [(vI 7)] rfl rfl (c_M_fails e_88) (by decide) (Nat.le_of_ble_eq_true rfl) (by decide +kernel) (Nat.le_refl _) (Nat.le_refl _) ?_
              show XR false 7 174 sc y_M_joins (266, [(0, (vR 10 l0)), (1, (vI v1_70)), (2, (vI v2_71)), (3, (vI v3_72))], [(vI r_86)], R, M_87, 174) _
              obtain ⟨c_89, h⟩ := xch_ex h
              obtain rfl := Option.some.inj h
              exact XR.retI .boolean rfl (xnar_z c_89) (by decide +kernel)
set_option maxRecDepth 100000 in
set_option maxHeartbeats 4000000 in
theorem c_M_joins {sc : List Int} {R : xR} {M : xM} {l0 : Nat} {out : Int × xM} (h : f_M_joins R l0 M = some out) : XC false 7 sc y_M_joins [(vR 10 l0)] R M 174 174 ((some (vI out.1)), R, out.2) := XC.of (by decide) (Nat.le_of_ble_eq_true rfl) (Nat.le_refl _) (Nat.le_refl _) (o_M_joins h)
