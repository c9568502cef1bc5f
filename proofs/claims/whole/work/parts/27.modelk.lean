def M_passes_F20 (R : xR) (M : xM) (l0 : Nat) (l1 : Int) (q59 : Int → Int → Int → Option Int) : Nat → Int → Int → Int → Int → Option Int
  | 0, _, _, _, _ => none
  | n + 1, v2, v3, v4, v5 =>
    if v5 < l1 then
      xch (0 ≤ v5 ∧ v5 < 4) <|
      xch (0 ≤ w32 ((w32 (5 * (M (R l0 97) (Int.toNat v5)))) + v3) ∧ w32 ((w32 (5 * (M (R l0 97) (Int.toNat v5)))) + v3) < 35) <|
      xl (w32 (v4 - (w32 (Int.tdiv (w32 (v4 * (M (R l0 95) (Int.toNat (w32 ((w32 (5 * (M (R l0 97) (Int.toNat v5)))) + v3)))))) 100)))) fun v4_7 =>
      xl (w32 (v5 + 1)) fun v5_8 =>
      M_passes_F20 R M l0 l1 q59 n v2 v3 v4_7 v5_8
    else
      q59 v2 v3 v4
def M_passes_F4 (R : xR) (M : xM) (l0 : Nat) (l1 : Int) : Nat → Int → Int → Option Int
  | 0, _, _ => none
  | n + 1, v2, v3 =>
    if v3 < 4 then
      xch (0 ≤ v3 ∧ v3 < 4) <|
      xl (M (R l0 96) (Int.toNat v3)) fun v4_3 =>
      M_passes_F20 R M l0 l1
        (fun (v2_9 : Int) (v3_10 : Int) (v4_11 : Int) =>
          xl (w32 (v2_9 + v4_11)) fun v2_12 =>
          xl (w32 (v3_10 + 1)) fun v3_13 =>
          M_passes_F4 R M l0 l1  n v2_12 v3_13)
        xfu v2 v3 v4_3 0
    else
      some (v2)
def f_M_passes (R : xR) (l0 : Nat) (l1 : Int) (M : xM) : Option Int :=
  M_passes_F4 R M l0 l1
    xfu 0 0
set_option maxRecDepth 100000 in
set_option maxHeartbeats 4000000 in
theorem s_M_passes {d : Nat} {sc : List Int} {z z' : xS} {out : xO} (qs : List xI) {cs : List Prop} (hq : qs.all (xqb 10 false y_M_passes.2.2.1 y_M_passes.2.1) = true) (h : xN false sc qs z = some (z', cs)) (hc : xAll cs) (hE : z'.2.2.2.2.2 ≤ 174) (k : XR false d 174 sc y_M_passes z' out) : XR false d 174 sc y_M_passes z out := XR.seg 10 false rfl (fun q => by cases q) qs hq h hc hE k
set_option maxRecDepth 100000 in
set_option maxHeartbeats 4000000 in
theorem o_M_passes_F20 {sc : List Int} {R : xR} {M : xM}  {l0 : Nat} {l1 : Int}  {q59 : Int → Int → Int → Option Int} (hq59 : ∀ (w2 : Int) (w3 : Int) (w4 : Int) (out : Int), q59 w2 w3 w4 = some out → XR false 0 174 sc y_M_passes (59, [(0, (vR 10 l0)), (1, (vI l1)), (2, (vI w2)), (3, (vI w3)), (4, (vI w4))], [], R, M, 174) ((some (vI out)), R, M)) : ∀ (n : Nat) (v2 : Int) (v3 : Int) (v4 : Int) (v5 : Int) (out : Int), M_passes_F20 R M l0 l1 q59 n v2 v3 v4 v5 = some out → XR false 0 174 sc y_M_passes (20, [(0, (vR 10 l0)), (1, (vI l1)), (2, (vI v2)), (3, (vI v3)), (4, (vI v4)), (5, (vI v5))], [], R, M, 174) ((some (vI out)), R, M) := by
  intro n
  induction n with
  | zero => intro v2 v3 v4 v5 out h; exact (xno h).elim
  | succ n ih =>
    intro v2 v3 v4 v5 out h
    rw [M_passes_F20] at h
    refine s_M_passes [(20, .iload 5, 0, 0), (22, .iload_n 1, 0, 0)] (by decide +kernel) (z' := (23, [(0, (vR 10 l0)), (1, (vI l1)), (2, (vI v2)), (3, (vI v3)), (4, (vI v4)), (5, (vI v5))], [(vI l1), (vI v5)], R, M, 174)) (cs := []) (by rfl) trivial (Nat.le_refl _) ?_
    rcases xif_ex h with ⟨c_4, h⟩ | ⟨c_4, h⟩
    · skip
      obtain ⟨c_5, h⟩ := xch_ex h
      obtain ⟨c_6, h⟩ := xch_ex h
      obtain ⟨v4_7, hv4_7, h⟩ := xl_ex h
      obtain ⟨v5_8, hv5_8, h⟩ := xl_ex h
      refine s_M_passes [(23, .if_icmp .ge 36, 0, (-1)), (26, .iload 4, 0, 0), (28, .iload 4, 0, 0), (30, .aload_n 0, 0, 0), (31, .getfield 217, 10, 95), (34, .iconst 5, 0, 5), (35, .aload_n 0, 0, 0), (36, .getfield 223, 10, 97), (39, .iload 5, 0, 0), (41, .iaload, 0, 0), (42, .imul, 0, 0), (43, .iload_n 3, 0, 0), (44, .iadd, 0, 0), (45, .iaload, 0, 0), (46, .imul, 0, 0), (47, .bipush 100, 0, 100), (49, .idiv, 0, 0), (50, .isub, 0, 0), (51, .istore 4, 0, 0), (53, .iinc 5 1, 0, 0), (56, .goto (-36), 0, 20)] (by decide +kernel) (z' := (20, [(5, (vI v5_8)), (4, (vI v4_7)), (0, (vR 10 l0)), (1, (vI l1)), (2, (vI v2)), (3, (vI v3))], [], R, M, 174)) (cs := [¬ (l1 ≤ v5), xar 34 0, xidx v5 (xan 34), xar 33 0, xidx (w32 ((w32 (5 * (M (R l0 97) (Int.toNat v5)))) + v3)) (xan 33), (100 : Int) ≠ 0]) (by subst hv4_7; subst hv5_8; rfl) ⟨Int.not_le.mpr c_4, xar_34, xix_34 c_5, xar_33, xix_33 c_6, by decide, trivial⟩ (Nat.le_refl _) ?_
      refine XR.pick [2, 3, 4, 5, 1, 0] (ls' := [(0, (vR 10 l0)), (1, (vI l1)), (2, (vI v2)), (3, (vI v3)), (4, (vI v4_7)), (5, (vI v5_8))]) rfl ?_
      exact ih v2 v3 v4_7 v5_8 _ h
    · skip
      refine s_M_passes [(23, .if_icmp .ge 36, 0, 59)] (by decide +kernel) (z' := (59, [(0, (vR 10 l0)), (1, (vI l1)), (2, (vI v2)), (3, (vI v3)), (4, (vI v4)), (5, (vI v5))], [], R, M, 174)) (cs := [l1 ≤ v5]) (by rfl) ⟨Int.not_lt.mp c_4, trivial⟩ (Nat.le_refl _) ?_
      refine XR.pick [0, 1, 2, 3, 4] (ls' := [(0, (vR 10 l0)), (1, (vI l1)), (2, (vI v2)), (3, (vI v3)), (4, (vI v4))]) rfl ?_
      exact hq59 v2 v3 v4 _ h
set_option maxRecDepth 100000 in
set_option maxHeartbeats 4000000 in
theorem o_M_passes_F4 {sc : List Int} {R : xR} {M : xM}  {l0 : Nat} {l1 : Int}  : ∀ (n : Nat) (v2 : Int) (v3 : Int) (out : Int), M_passes_F4 R M l0 l1  n v2 v3 = some out → XR false 0 174 sc y_M_passes (4, [(0, (vR 10 l0)), (1, (vI l1)), (2, (vI v2)), (3, (vI v3))], [], R, M, 174) ((some (vI out)), R, M) := by
  intro n
  induction n with
  | zero => intro v2 v3 out h; exact (xno h).elim
  | succ n ih =>
    intro v2 v3 out h
    rw [M_passes_F4] at h
    refine s_M_passes [(4, .iload_n 3, 0, 0), (5, .iconst 4, 0, 4)] (by decide +kernel) (z' := (6, [(0, (vR 10 l0)), (1, (vI l1)), (2, (vI v2)), (3, (vI v3))], [(vI 4), (vI v3)], R, M, 174)) (cs := []) (by rfl) trivial (Nat.le_refl _) ?_
    rcases xif_ex h with ⟨c_1, h⟩ | ⟨c_1, h⟩
    · skip
      obtain ⟨c_2, h⟩ := xch_ex h
      obtain ⟨v4_3, hv4_3, h⟩ := xl_ex h
      refine s_M_passes [(6, .if_icmp .ge 64, 0, (-1)), (9, .aload_n 0, 0, 0), (10, .getfield 220, 10, 96), (13, .iload_n 3, 0, 0), (14, .iaload, 0, 0), (15, .istore 4, 0, 0), (17, .iconst 0, 0, 0), (18, .istore 5, 0, 0)] (by decide +kernel) (z' := (20, [(5, (vI 0)), (4, (vI v4_3)), (0, (vR 10 l0)), (1, (vI l1)), (2, (vI v2)), (3, (vI v3))], [], R, M, 174)) (cs := [¬ (4 ≤ v3), xar 34 0, xidx v3 (xan 34)]) (by subst hv4_3; rfl) ⟨Int.not_le.mpr c_1, xar_34, xix_34 c_2, trivial⟩ (Nat.le_refl _) ?_
      refine XR.pick [2, 3, 4, 5, 1, 0] (ls' := [(0, (vR 10 l0)), (1, (vI l1)), (2, (vI v2)), (3, (vI v3)), (4, (vI v4_3)), (5, (vI 0))]) rfl ?_
      refine o_M_passes_F20 ?_ xfu v2 v3 v4_3 0 _ h
      · intro v2_9 v3_10 v4_11 out h
        obtain ⟨v2_12, hv2_12, h⟩ := xl_ex h
        obtain ⟨v3_13, hv3_13, h⟩ := xl_ex h
        refine s_M_passes [(59, .iload_n 2, 0, 0), (60, .iload 4, 0, 0), (62, .iadd, 0, 0), (63, .istore_n 2, 0, 0), (64, .iinc 3 1, 0, 0), (67, .goto (-63), 0, 4)] (by decide +kernel) (z' := (4, [(3, (vI v3_13)), (2, (vI v2_12)), (0, (vR 10 l0)), (1, (vI l1)), (4, (vI v4_11))], [], R, M, 174)) (cs := []) (by subst hv2_12; subst hv3_13; rfl) trivial (Nat.le_refl _) ?_
        refine XR.pick [2, 3, 1, 0] (ls' := [(0, (vR 10 l0)), (1, (vI l1)), (2, (vI v2_12)), (3, (vI v3_13))]) rfl ?_
        exact ih v2_12 v3_13 _ h
    · skip
      refine s_M_passes [(6, .if_icmp .ge 64, 0, 70), (70, .iload_n 2, 0, 0)] (by decide +kernel) (z' := (71, [(0, (vR 10 l0)), (1, (vI l1)), (2, (vI v2)), (3, (vI v3))], [(vI v2)], R, M, 174)) (cs := [4 ≤ v3]) (by rfl) ⟨Int.not_lt.mp c_1, trivial⟩ (Nat.le_refl _) ?_
      obtain rfl := Option.some.inj h
      exact XR.retI .int rfl rfl (by decide +kernel)
set_option maxRecDepth 100000 in
set_option maxHeartbeats 4000000 in
theorem o_M_passes {sc : List Int} {R : xR} {M : xM} {l0 : Nat} {l1 : Int} {out : Int} (h : f_M_passes R l0 l1 M = some out) : XR false 0 174 sc y_M_passes (0, [(0, (vR 10 l0)), (1, (vI l1))], [], R, M, 174) ((some (vI out)), R, M) := by
  unfold f_M_passes at h
  refine s_M_passes [(0, .iconst 0, 0, 0), (1, .istore_n 2, 0, 0), (2, .iconst 0, 0, 0), (3, .istore_n 3, 0, 0)] (by decide +kernel) (z' := (4, [(3, (vI 0)), (2, (vI 0)), (0, (vR 10 l0)), (1, (vI l1))], [], R, M, 174)) (cs := []) (by rfl) trivial (Nat.le_refl _) ?_
  refine XR.pick [2, 3, 1, 0] (ls' := [(0, (vR 10 l0)), (1, (vI l1)), (2, (vI 0)), (3, (vI 0))]) rfl ?_
  refine o_M_passes_F4  xfu 0 0 _ h
set_option maxRecDepth 100000 in
set_option maxHeartbeats 4000000 in
theorem c_M_passes {sc : List Int} {R : xR} {M : xM} {l0 : Nat} {l1 : Int} {out : Int} (h : f_M_passes R l0 l1 M = some out) : XC false 0 sc y_M_passes [(vR 10 l0), (vI l1)] R M 174 174 ((some (vI out)), R, M) := XC.of (by decide) (Nat.le_of_ble_eq_true rfl) (Nat.le_refl _) (Nat.le_refl _) (o_M_passes h)
def f_M_worksAt (R : xR) (l0 : Nat) (M : xM) : Option (Int × xM) :=
  xb1 (f_M_next R l0 M) fun M_1 =>
  xb1 (f_M_nameHere R l0 M_1) fun r_3 =>
  if r_3 = -1 then
    xb2 (f_M_fails l0 2 M_1) fun r_6 M_7 =>
    xch (r_6 = 0 ∨ r_6 = 1) <|
    some (r_6, M_7)
  else
    xb1 (f_M_isThere R l0 r_3 M_1) fun r_10 =>
    if r_10 = 0 then
      if M_1 l0 29 = 4 then
        xb2 (f_M_fails l0 6 M_1) fun r_14 M_15 =>
        xch (r_14 = 0 ∨ r_14 = 1) <|
        some (r_14, M_15)
      else
        xb1 (f_M_next R l0 M_1) fun M_18 =>
        xb2 (f_M_wantKey R l0 14 M_18) fun r_20 M_21 =>
        if r_20 = 0 then
          some (0, M_21)
        else
          xb2 (f_M_known R l0 M_21) fun r_24 M_25 =>
          if r_24 = 0 then
            some (0, M_25)
          else
            xl (M_25 l0 12) fun v3_28 =>
            xb1 (f_M_next R l0 M_25) fun M_29 =>
            xb1 (f_M_isSign l0 59 M_29) fun r_31 =>
            if r_31 = 0 then
              xb2 (f_M_fails l0 2 M_29) fun r_34 M_35 =>
              xch (r_34 = 0 ∨ r_34 = 1) <|
              some (r_34, M_35)
            else
              xch (0 ≤ M_29 l0 29 ∧ M_29 l0 29 < 4) <|
              xl (xu M_29 (R l0 18) (Int.toNat (M_29 l0 29)) r_3) fun M_39 =>
              xch (0 ≤ M_39 l0 29 ∧ M_39 l0 29 < 4) <|
              xl (xu M_39 (R l0 26) (Int.toNat (M_39 l0 29)) v3_28) fun M_41 =>
              xl (xu M_41 l0 29 (w32 ((M_41 l0 29) + 1))) fun M_42 =>
              xb1 (f_M_next R l0 M_42) fun M_43 =>
              some (1, M_43)
    else
      xb2 (f_M_fails l0 3 M_1) fun r_45 M_46 =>
      xch (r_45 = 0 ∨ r_45 = 1) <|
      some (r_45, M_46)
set_option maxRecDepth 100000 in
set_option maxHeartbeats 4000000 in
theorem s_M_worksAt {d : Nat} {sc : List Int} {z z' : xS} {out : xO} (qs : List xI) {cs : List Prop} (hq : qs.all (xqb 10 false y_M_worksAt.2.2.1 y_M_worksAt.2.1) = true) (h : xN false sc qs z = some (z', cs)) (hc : xAll cs) (hE : z'.2.2.2.2.2 ≤ 174) (k : XR false d 174 sc y_M_worksAt z' out) : XR false d 174 sc y_M_worksAt z out := XR.seg 10 false rfl (fun q => by cases q) qs hq h hc hE k
set_option maxRecDepth 100000 in
set_option maxHeartbeats 4000000 in
theorem o_M_worksAt {sc : List Int} {R : xR} {M : xM} {l0 : Nat} {out : Int × xM} (h : f_M_worksAt R l0 M = some out) : XR false 7 174 sc y_M_worksAt (0, [(0, (vR 10 l0))], [], R, M, 174) ((some (vI out.1)), R, out.2) := by
  unfold f_M_worksAt at h
  refine s_M_worksAt [(0, .aload_n 0, 0, 0)] (by decide +kernel) (z' := (1, [(0, (vR 10 l0))], [(vR 10 l0)], R, M, 174)) (cs := []) (by rfl) trivial (Nat.le_refl _) ?_
  obtain ⟨M_1, e_2, h⟩ := xb1_ex h
  refine XR.callV 10 rfl (rest := []) m_M_next k_10_334 10 l0 (Or.inl ⟨by decide, rfl⟩) [] rfl rfl (c_M_next e_2) (by decide) (Nat.le_of_ble_eq_true rfl) (by decide +kernel) (Nat.le_refl _) (Nat.le_refl _) ?_
  show XR false 7 174 sc y_M_worksAt (4, [(0, (vR 10 l0))], [], R, M_1, 174) _
  refine s_M_worksAt [(4, .aload_n 0, 0, 0)] (by decide +kernel) (z' := (5, [(0, (vR 10 l0))], [(vR 10 l0)], R, M_1, 174)) (cs := []) (by rfl) trivial (Nat.le_refl _) ?_
  obtain ⟨r_3, e_4, h⟩ := xb1_ex h
  refine XR.callV 10 rfl (rest := []) m_M_nameHere k_10_355 10 l0 (Or.inl ⟨by decide, rfl⟩) [] rfl rfl (c_M_nameHere e_4) (by decide) (Nat.le_of_ble_eq_true rfl) (by decide +kernel) (Nat.le_refl _) (Nat.le_refl _) ?_
  show XR false 7 174 sc y_M_worksAt (8, [(0, (vR 10 l0))], [(vL r_3)], R, M_1, 174) _
  refine s_M_worksAt [(8, .lstore_n 1, 0, 0), (9, .lload_n 1, 0, 0), (10, .ldc2_w 265, 0, (-1)), (13, .lcmp, 0, 0)] (by decide +kernel) (z' := (14, [(1, (vL r_3)), (0, (vR 10 l0))], [(vI (xcmp r_3 (-1)))], R, M_1, 174)) (cs := []) (by rfl) trivial (Nat.le_refl _) ?_
  rcases xif_ex h with ⟨c_5, h⟩ | ⟨c_5, h⟩
  · skip
    refine s_M_worksAt [(14, .ifCond .ne 9, 0, (-1)), (17, .aload_n 0, 0, 0), (18, .iconst 2, 0, 2)] (by decide +kernel) (z' := (19, [(1, (vL r_3)), (0, (vR 10 l0))], [(vI 2), (vR 10 l0)], R, M_1, 174)) (cs := [¬ (xcmp r_3 (-1) ≠ 0)]) (by rfl) ⟨fun q => q (xcmp_eq.mpr c_5), trivial⟩ (Nat.le_refl _) ?_
    obtain ⟨r_6, M_7, e_8, h⟩ := xb2_ex h
    refine XR.callV 10 rfl (rest := []) m_M_fails k_10_331 10 l0 (Or.inl ⟨by decide, rfl⟩) [(vI 2)] rfl rfl (c_M_fails e_8) (by decide) (Nat.le_of_ble_eq_true rfl) (by decide +kernel) (Nat.le_refl _) (Nat.le_refl _) ?_
    show XR false 7 174 sc y_M_worksAt (22, [(1, (vL r_3)), (0, (vR 10 l0))], [(vI r_6)], R, M_7, 174) _
    obtain ⟨c_9, h⟩ := xch_ex h
    obtain rfl := Option.some.inj h
    exact XR.retI .boolean rfl (xnar_z c_9) (by decide +kernel)
  · skip
    refine s_M_worksAt [(14, .ifCond .ne 9, 0, 23), (23, .aload_n 0, 0, 0), (24, .lload_n 1, 0, 0)] (by decide +kernel) (z' := (25, [(1, (vL r_3)), (0, (vR 10 l0))], [(vL r_3), (vR 10 l0)], R, M_1, 174)) (cs := [xcmp r_3 (-1) ≠ 0]) (by rfl) ⟨fun q => c_5 (xcmp_eq.mp q), trivial⟩ (Nat.le_refl _) ?_
    obtain ⟨r_10, e_11, h⟩ := xb1_ex h
    refine XR.callV 10 rfl (rest := []) m_M_isThere k_10_359 10 l0 (Or.inl ⟨by decide, rfl⟩) [(vL r_3)] rfl rfl (c_M_isThere e_11) (by decide) (Nat.le_of_ble_eq_true rfl) (by decide +kernel) (Nat.le_refl _) (Nat.le_refl _) ?_
    show XR false 7 174 sc y_M_worksAt (28, [(1, (vL r_3)), (0, (vR 10 l0))], [(vI r_10)], R, M_1, 174) _
    rcases xif_ex h with ⟨c_12, h⟩ | ⟨c_12, h⟩
    · skip
      refine s_M_worksAt [(28, .ifCond .eq 9, 0, 37), (37, .aload_n 0, 0, 0), (38, .getfield 348, 10, 29), (41, .iconst 4, 0, 4)] (by decide +kernel) (z' := (42, [(1, (vL r_3)), (0, (vR 10 l0))], [(vI 4), (vI (M_1 l0 29))], R, M_1, 174)) (cs := [r_10 = 0]) (by rfl) ⟨c_12, trivial⟩ (Nat.le_refl _) ?_
      rcases xif_ex h with ⟨c_13, h⟩ | ⟨c_13, h⟩
      · skip
        refine s_M_worksAt [(42, .if_icmp .ne 10, 0, (-1)), (45, .aload_n 0, 0, 0), (46, .bipush 6, 0, 6)] (by decide +kernel) (z' := (48, [(1, (vL r_3)), (0, (vR 10 l0))], [(vI 6), (vR 10 l0)], R, M_1, 174)) (cs := [¬ (M_1 l0 29 ≠ 4)]) (by rfl) ⟨fun q => q c_13, trivial⟩ (Nat.le_refl _) ?_
        obtain ⟨r_14, M_15, e_16, h⟩ := xb2_ex h
        refine XR.callV 10 rfl (rest := []) m_M_fails k_10_331 10 l0 (Or.inl ⟨by decide, rfl⟩) [(vI 6)] rfl rfl (c_M_fails e_16) (by decide) (Nat.le_of_ble_eq_true rfl) (by decide +kernel) (Nat.le_refl _) (Nat.le_refl _) ?_
        show XR false 7 174 sc y_M_worksAt (51, [(1, (vL r_3)), (0, (vR 10 l0))], [(vI r_14)], R, M_15, 174) _
        obtain ⟨c_17, h⟩ := xch_ex h
        obtain rfl := Option.some.inj h
        exact XR.retI .boolean rfl (xnar_z c_17) (by decide +kernel)
      · skip
        refine s_M_worksAt [(42, .if_icmp .ne 10, 0, 52), (52, .aload_n 0, 0, 0)] (by decide +kernel) (z' := (53, [(1, (vL r_3)), (0, (vR 10 l0))], [(vR 10 l0)], R, M_1, 174)) (cs := [M_1 l0 29 ≠ 4]) (by rfl) ⟨c_13, trivial⟩ (Nat.le_refl _) ?_
        obtain ⟨M_18, e_19, h⟩ := xb1_ex h
        refine XR.callV 10 rfl (rest := []) m_M_next k_10_334 10 l0 (Or.inl ⟨by decide, rfl⟩) [] rfl rfl (c_M_next e_19) (by decide) (Nat.le_of_ble_eq_true rfl) (by decide +kernel) (Nat.le_refl _) (Nat.le_refl _) ?_
        show XR false 7 174 sc y_M_worksAt (56, [(1, (vL r_3)), (0, (vR 10 l0))], [], R, M_18, 174) _
        refine s_M_worksAt [(56, .aload_n 0, 0, 0), (57, .bipush 14, 0, 14)] (by decide +kernel) (z' := (59, [(1, (vL r_3)), (0, (vR 10 l0))], [(vI 14), (vR 10 l0)], R, M_18, 174)) (cs := []) (by rfl) trivial (Nat.le_refl _) ?_
        obtain ⟨r_20, M_21, e_22, h⟩ := xb2_ex h
        refine XR.callV 10 rfl (rest := []) m_M_wantKey k_10_363 10 l0 (Or.inl ⟨by decide, rfl⟩) [(vI 14)] rfl rfl (c_M_wantKey e_22) (by decide) (Nat.le_of_ble_eq_true rfl) (by decide +kernel) (Nat.le_refl _) (Nat.le_refl _) ?_
        show XR false 7 174 sc y_M_worksAt (62, [(1, (vL r_3)), (0, (vR 10 l0))], [(vI r_20)], R, M_21, 174) _
        rcases xif_ex h with ⟨c_23, h⟩ | ⟨c_23, h⟩
        · skip
          refine s_M_worksAt [(62, .ifCond .eq 10, 0, 72), (72, .iconst 0, 0, 0)] (by decide +kernel) (z' := (73, [(1, (vL r_3)), (0, (vR 10 l0))], [(vI 0)], R, M_21, 174)) (cs := [r_20 = 0]) (by rfl) ⟨c_23, trivial⟩ (Nat.le_refl _) ?_
          obtain rfl := Option.some.inj h
          exact XR.retI .boolean rfl (xnar_z (by decide)) (by decide +kernel)
        · skip
          refine s_M_worksAt [(62, .ifCond .eq 10, 0, (-1)), (65, .aload_n 0, 0, 0)] (by decide +kernel) (z' := (66, [(1, (vL r_3)), (0, (vR 10 l0))], [(vR 10 l0)], R, M_21, 174)) (cs := [¬ (r_20 = 0)]) (by rfl) ⟨c_23, trivial⟩ (Nat.le_refl _) ?_
          obtain ⟨r_24, M_25, e_26, h⟩ := xb2_ex h
          refine XR.callV 10 rfl (rest := []) m_M_known k_10_373 10 l0 (Or.inl ⟨by decide, rfl⟩) [] rfl rfl (c_M_known e_26) (by decide) (Nat.le_of_ble_eq_true rfl) (by decide +kernel) (Nat.le_refl _) (Nat.le_refl _) ?_
          show XR false 7 174 sc y_M_worksAt (69, [(1, (vL r_3)), (0, (vR 10 l0))], [(vI r_24)], R, M_25, 174) _
          rcases xif_ex h with ⟨c_27, h⟩ | ⟨c_27, h⟩
          · skip
            refine s_M_worksAt [(69, .ifCond .ne 5, 0, (-1)), (72, .iconst 0, 0, 0)] (by decide +kernel) (z' := (73, [(1, (vL r_3)), (0, (vR 10 l0))], [(vI 0)], R, M_25, 174)) (cs := [¬ (r_24 ≠ 0)]) (by rfl) ⟨fun q => q c_27, trivial⟩ (Nat.le_refl _) ?_
            obtain rfl := Option.some.inj h
            exact XR.retI .boolean rfl (xnar_z (by decide)) (by decide +kernel)
          · skip
            obtain ⟨v3_28, hv3_28, h⟩ := xl_ex h
            refine s_M_worksAt [(69, .ifCond .ne 5, 0, 74), (74, .aload_n 0, 0, 0), (75, .getfield 340, 10, 12), (78, .istore_n 3, 0, 0), (79, .aload_n 0, 0, 0)] (by decide +kernel) (z' := (80, [(3, (vI v3_28)), (1, (vL r_3)), (0, (vR 10 l0))], [(vR 10 l0)], R, M_25, 174)) (cs := [r_24 ≠ 0]) (by subst hv3_28; rfl) ⟨c_27, trivial⟩ (Nat.le_refl _) ?_
            obtain ⟨M_29, e_30, h⟩ := xb1_ex h
            refine XR.callV 10 rfl (rest := []) m_M_next k_10_334 10 l0 (Or.inl ⟨by decide, rfl⟩) [] rfl rfl (c_M_next e_30) (by decide) (Nat.le_of_ble_eq_true rfl) (by decide +kernel) (Nat.le_refl _) (Nat.le_refl _) ?_
            show XR false 7 174 sc y_M_worksAt (83, [(3, (vI v3_28)), (1, (vL r_3)), (0, (vR 10 l0))], [], R, M_29, 174) _
            refine s_M_worksAt [(83, .aload_n 0, 0, 0), (84, .bipush 59, 0, 59)] (by decide +kernel) (z' := (86, [(3, (vI v3_28)), (1, (vL r_3)), (0, (vR 10 l0))], [(vI 59), (vR 10 l0)], R, M_29, 174)) (cs := []) (by rfl) trivial (Nat.le_refl _) ?_
            obtain ⟨r_31, e_32, h⟩ := xb1_ex h
            refine XR.callV 10 rfl (rest := []) m_M_isSign k_10_337 10 l0 (Or.inl ⟨by decide, rfl⟩) [(vI 59)] rfl rfl (c_M_isSign e_32) (by decide) (Nat.le_of_ble_eq_true rfl) (by decide +kernel) (Nat.le_refl _) (Nat.le_refl _) ?_
            show XR false 7 174 sc y_M_worksAt (89, [(3, (vI v3_28)), (1, (vL r_3)), (0, (vR 10 l0))], [(vI r_31)], R, M_29, 174) _
            rcases xif_ex h with ⟨c_33, h⟩ | ⟨c_33, h⟩
            · skip
              refine s_M_worksAt [(89, .ifCond .ne 9, 0, (-1)), (92, .aload_n 0, 0, 0), (93, .iconst 2, 0, 2)] (by decide +kernel) (z' := (94, [(3, (vI v3_28)), (1, (vL r_3)), (0, (vR 10 l0))], [(vI 2), (vR 10 l0)], R, M_29, 174)) (cs := [¬ (r_31 ≠ 0)]) (by rfl) ⟨fun q => q c_33, trivial⟩ (Nat.le_refl _) ?_
              obtain ⟨r_34, M_35, e_36, h⟩ := xb2_ex h
              refine XR.callV 10 rfl (rest := []) m_M_fails k_10_331 10 l0 (Or.inl ⟨by decide, rfl⟩) [(vI 2)] rfl rfl (c_M_fails e_36) (by decide) (Nat.le_of_ble_eq_true rfl) (by decide +kernel) (Nat.le_refl _) (Nat.le_refl _) ?_
              show XR false 7 174 sc y_M_worksAt (97, [(3, (vI v3_28)), (1, (vL r_3)), (0, (vR 10 l0))], [(vI r_34)], R, M_35, 174) _
              obtain ⟨c_37, h⟩ := xch_ex h
              obtain rfl := Option.some.inj h
              exact XR.retI .boolean rfl (xnar_z c_37) (by decide +kernel)
            · skip
              obtain ⟨c_38, h⟩ := xch_ex h
              obtain ⟨M_39, hM_39, h⟩ := xl_ex h
              obtain ⟨c_40, h⟩ := xch_ex h
              obtain ⟨M_41, hM_41, h⟩ := xl_ex h
              obtain ⟨M_42, hM_42, h⟩ := xl_ex h
              refine s_M_worksAt [(89, .ifCond .ne 9, 0, 98), (98, .aload_n 0, 0, 0), (99, .getfield 37, 10, 18), (102, .aload_n 0, 0, 0), (103, .getfield 348, 10, 29), (106, .lload_n 1, 0, 0), (107, .lastore, 0, 0), (108, .aload_n 0, 0, 0), (109, .getfield 61, 10, 26), (112, .aload_n 0, 0, 0), (113, .getfield 348, 10, 29), (116, .iload_n 3, 0, 0), (117, .iastore, 0, 0), (118, .aload_n 0, 0, 0), (119, .dup, 0, 0), (120, .getfield 348, 10, 29), (123, .iconst 1, 0, 1), (124, .iadd, 0, 0), (125, .putfield 348, 10, 29), (128, .aload_n 0, 0, 0)] (by decide +kernel) (z' := (129, [(3, (vI v3_28)), (1, (vL r_3)), (0, (vR 10 l0))], [(vR 10 l0)], R, M_42, 174)) (cs := [r_31 ≠ 0, xar 36 1, xidx (M_29 l0 29) (xan 36), xar 34 0, xidx (M_39 l0 29) (xan 34)]) (by subst hM_39; subst hM_41; subst hM_42; rfl) ⟨c_33, xar_36, xix_36 c_38, xar_34, xix_34 c_40, trivial⟩ (Nat.le_refl _) ?_
              obtain ⟨M_43, e_44, h⟩ := xb1_ex h
              refine XR.callV 10 rfl (rest := []) m_M_next k_10_334 10 l0 (Or.inl ⟨by decide, rfl⟩) [] rfl rfl (c_M_next e_44) (by decide) (Nat.le_of_ble_eq_true rfl) (by decide +kernel) (Nat.le_refl _) (Nat.le_refl _) ?_
              show XR false 7 174 sc y_M_worksAt (132, [(3, (vI v3_28)), (1, (vL r_3)), (0, (vR 10 l0))], [], R, M_43, 174) _
              refine s_M_worksAt [(132, .iconst 1, 0, 1)] (by decide +kernel) (z' := (133, [(3, (vI v3_28)), (1, (vL r_3)), (0, (vR 10 l0))], [(vI 1)], R, M_43, 174)) (cs := []) (by rfl) trivial (Nat.le_refl _) ?_
              obtain rfl := Option.some.inj h
              exact XR.retI .boolean rfl (xnar_z (by decide)) (by decide +kernel)
    · skip
      refine s_M_worksAt [(28, .ifCond .eq 9, 0, (-1)), (31, .aload_n 0, 0, 0), (32, .iconst 3, 0, 3)] (by decide +kernel) (z' := (33, [(1, (vL r_3)), (0, (vR 10 l0))], [(vI 3), (vR 10 l0)], R, M_1, 174)) (cs := [¬ (r_10 = 0)]) (by rfl) ⟨c_12, trivial⟩ (Nat.le_refl _) ?_
      obtain ⟨r_45, M_46, e_47, h⟩ := xb2_ex h
      refine XR.callV 10 rfl (rest := []) m_M_fails k_10_331 10 l0 (Or.inl ⟨by decide, rfl⟩) [(vI 3)] rfl rfl (c_M_fails e_47) (by decide) (Nat.le_of_ble_eq_true rfl) (by decide +kernel) (Nat.le_refl _) (Nat.le_refl _) ?_
      show XR false 7 174 sc y_M_worksAt (36, [(1, (vL r_3)), (0, (vR 10 l0))], [(vI r_45)], R, M_46, 174) _
      obtain ⟨c_48, h⟩ := xch_ex h
      obtain rfl := Option.some.inj h
      exact XR.retI .boolean rfl (xnar_z c_48) (by decide +kernel)
set_option maxRecDepth 100000 in
set_option maxHeartbeats 4000000 in
theorem c_M_worksAt {sc : List Int} {R : xR} {M : xM} {l0 : Nat} {out : Int × xM} (h : f_M_worksAt R l0 M = some out) : XC false 7 sc y_M_worksAt [(vR 10 l0)] R M 174 174 ((some (vI out.1)), R, out.2) := XC.of (by decide) (Nat.le_of_ble_eq_true rfl) (Nat.le_refl _) (Nat.le_refl _) (o_M_worksAt h)
def M_plant_J125 (R : xR) (l0 : Nat) (rc : Int → xM → Option (Int × xM)) (q129 : xM → Option (Int × xM)) (s0 : Int) (M : xM) : Option (Int × xM) :=
  rc s0 M
def M_plant_J106 (R : xR) (l0 : Nat) (rc : Int → xM → Option (Int × xM)) (q129 : xM → Option (Int × xM)) (s0 : Int) (M : xM) : Option (Int × xM) :=
  if s0 = 0 then
    M_plant_J125 R l0 rc q129 0 M
  else
    if M l0 8 = 0 then
      M_plant_J125 R l0 rc q129 0 M
    else
      M_plant_J125 R l0 rc q129 1 M
def M_plant_J69 (R : xR) (l0 : Nat) (rc : Int → xM → Option (Int × xM)) (q129 : xM → Option (Int × xM)) (M : xM) : Option (Int × xM) :=
  xb2 (f_M_fails l0 2 M) fun r_18 M_19 =>
  M_plant_J106 R l0 rc q129 r_18 M_19
def M_plant_F47 (R : xR) (l0 : Nat) (q129 : xM → Option (Int × xM)) : Nat → Int → xM → Option (Int × xM)
  | 0, _, _ => none
  | n + 1, v2, M =>
    if v2 = 0 then
      q129 M
    else
      xb1 (f_M_inWords R l0 6 M) fun r_15 =>
      if r_15 = -1 then
        M_plant_J69 R l0 (M_plant_F47 R l0 q129 n) q129 M
      else
        if 5 < r_15 then
          M_plant_J69 R l0 (M_plant_F47 R l0 q129 n) q129 M
        else
          if r_15 < 4 then
            xb2 (f_M_makes R l0 r_15 M) fun r_25 M_26 =>
            M_plant_J106 R l0 (M_plant_F47 R l0 q129 n) q129 r_25 M_26
          else
            if r_15 = 4 then
              xb2 (f_M_joins R l0 M) fun r_29 M_30 =>
              M_plant_J106 R l0 (M_plant_F47 R l0 q129 n) q129 r_29 M_30
            else
              xb2 (f_M_worksAt R l0 M) fun r_32 M_33 =>
              M_plant_J106 R l0 (M_plant_F47 R l0 q129 n) q129 r_32 M_33
def M_plant_F169 (R : xR) (l0 : Nat) (q193 : xM → Option (Int × xM)) : Nat → Int → xM → Option (Int × xM)
  | 0, _, _ => none
  | n + 1, v3, M =>
    if v3 < 32 then
      xch (0 ≤ v3 ∧ v3 < 32) <|
      xl (xu M (R l0 33) (Int.toNat v3) (M (R l0 20) (Int.toNat v3))) fun M_45 =>
      xl (w32 (v3 + 1)) fun v3_46 =>
      M_plant_F169 R l0 q193 n v3_46 M_45
    else
      q193 M
def M_plant_F195 (R : xR) (l0 : Nat) (q218 : xM → Option (Int × xM)) : Nat → Int → xM → Option (Int × xM)
  | 0, _, _ => none
  | n + 1, v3, M =>
    if v3 < 4 then
      xch (0 ≤ v3 ∧ v3 < 4) <|
      xl (xu M (R l0 39) (Int.toNat v3) (M (R l0 26) (Int.toNat v3))) fun M_50 =>
      xl (w32 (v3 + 1)) fun v3_51 =>
      M_plant_F195 R l0 q218 n v3_51 M_50
    else
      q218 M
def M_plant_F279 (R : xR) (l0 : Nat) (q344 : Int → xM → Option (Int × xM)) : Nat → Int → Int → xM → Option (Int × xM)
  | 0, _, _, _ => none
  | n + 1, v3, v4, M =>
    xch (0 ≤ v3 ∧ v3 < 8) <|
    if v4 < M (R l0 36) (Int.toNat v3) then
      xch (0 ≤ w32 ((w32 (8 * v3)) + v4) ∧ w32 ((w32 (8 * v3)) + v4) < 64) <|
      xl (xu M (R l0 37) (Int.toNat (w32 ((w32 (8 * v3)) + v4))) (M (R l0 24) (Int.toNat (w32 ((w32 (8 * v3)) + v4))))) fun M_62 =>
      xl (xu M_62 (R l0 38) (Int.toNat (w32 ((w32 (8 * v3)) + v4))) (M_62 (R l0 25) (Int.toNat (w32 ((w32 (8 * v3)) + v4))))) fun M_63 =>
      xl (w32 (v4 + 1)) fun v4_64 =>
      M_plant_F279 R l0 q344 n v3 v4_64 M_63
    else
      q344 v3 M
def M_plant_J385 (R : xR) (l0 : Nat) (rc : Int → xM → Option (Int × xM)) (q391 : xM → Option (Int × xM)) (v3 : Int) (M : xM) : Option (Int × xM) :=
  xl (w32 (v3 + 1)) fun v3_69 =>
  rc v3_69 M
def M_plant_F220 (R : xR) (l0 : Nat) (q391 : xM → Option (Int × xM)) : Nat → Int → xM → Option (Int × xM)
  | 0, _, _ => none
  | n + 1, v3, M =>
    if v3 < M l0 30 then
      xch (0 ≤ v3 ∧ v3 < 8) <|
      xl (xu M (R l0 32) (Int.toNat v3) (M (R l0 19) (Int.toNat v3))) fun M_55 =>
      xl (xu M_55 (R l0 34) (Int.toNat v3) (M_55 (R l0 21) (Int.toNat v3))) fun M_56 =>
      xl (xu M_56 (R l0 35) (Int.toNat v3) (M_56 (R l0 22) (Int.toNat v3))) fun M_57 =>
      xl (xu M_57 (R l0 36) (Int.toNat v3) (M_57 (R l0 23) (Int.toNat v3))) fun M_58 =>
      M_plant_F279 R l0
        (fun (v3_65 : Int) (M_66 : xM) =>
          xch (0 ≤ v3_65 ∧ v3_65 < 8) <|
          if 0 < M_66 (R l0 36) (Int.toNat v3_65) then
            M_plant_J385 R l0 (M_plant_F220 R l0 q391 n) q391 v3_65 M_66
          else
            xl (xu M_66 (R l0 36) (Int.toNat v3_65) 1) fun M_70 =>
            xch (0 ≤ w32 (8 * v3_65) ∧ w32 (8 * v3_65) < 64) <|
            xl (xu M_70 (R l0 37) (Int.toNat (w32 (8 * v3_65))) 8) fun M_72 =>
            xl (xu M_72 (R l0 38) (Int.toNat (w32 (8 * v3_65))) 100) fun M_73 =>
            M_plant_J385 R l0 (M_plant_F220 R l0 q391 n) q391 v3_65 M_73)
        xfu v3 0 M_58
    else
      q391 M
def M_plant_J46 (R : xR) (l0 : Nat) (s0 : Int) (M : xM) : Option (Int × xM) :=
  M_plant_F47 R l0
    (fun (M_35 : xM) =>
      xl (xu M_35 l0 13 (M_35 l0 15)) fun M_36 =>
      if 0 < M_36 l0 15 then
        xb2 (f_M_refuse l0 9 M_36) fun r_38 M_39 =>
        some (r_38, M_39)
      else
        xl (xu M_36 l0 30 (M_36 l0 28)) fun M_41 =>
        xl (xu M_41 l0 31 (M_41 l0 29)) fun M_42 =>
        M_plant_F169 R l0
          (fun (M_47 : xM) =>
            M_plant_F195 R l0
              (fun (M_52 : xM) =>
                M_plant_F220 R l0
                  (fun (M_74 : xM) =>
                    xl (xu M_74 l0 59 0) fun M_75 =>
                    xl (xu M_75 l0 60 0) fun M_76 =>
                    xb2 (f_M_gives l0 (M_76 l0 30) M_76) fun r_77 M_78 =>
                    some (r_77, M_78))
                  xfu 0 M_52)
              xfu 0 M_47)
          xfu 0 M_42)
    xfu s0 M
def f_M_plant (R : xR) (l0 : Nat) (l1 : Int) (M : xM) : Option (Int × xM) :=
  if l1 < 0 then
    xb2 (f_M_refuse l0 1 M) fun r_2 M_3 =>
    some (r_2, M_3)
  else
    if M l0 6 < l1 then
      xb2 (f_M_refuse l0 1 M) fun r_6 M_7 =>
      some (r_6, M_7)
    else
      xb1 (f_M_begin R l0 l1 0 M) fun M_9 =>
      xl (xu M_9 l0 28 0) fun M_11 =>
      xl (xu M_11 l0 29 0) fun M_12 =>
      if M_12 l0 8 = 0 then
        M_plant_J46 R l0 0 M_12
      else
        M_plant_J46 R l0 1 M_12
set_option maxRecDepth 100000 in
set_option maxHeartbeats 4000000 in
theorem s_M_plant {d : Nat} {sc : List Int} {z z' : xS} {out : xO} (qs : List xI) {cs : List Prop} (hq : qs.all (xqb 10 false y_M_plant.2.2.1 y_M_plant.2.1) = true) (h : xN false sc qs z = some (z', cs)) (hc : xAll cs) (hE : z'.2.2.2.2.2 ≤ 174) (k : XR false d 174 sc y_M_plant z' out) : XR false d 174 sc y_M_plant z out := XR.seg 10 false rfl (fun q => by cases q) qs hq h hc hE k
set_option maxRecDepth 100000 in
set_option maxHeartbeats 4000000 in
theorem o_M_plant_J125 {sc : List Int} {R : xR}   {l0 : Nat}  {rc : Int → xM → Option (Int × xM)} {q129 : xM → Option (Int × xM)} (hrc : ∀ (w2 : Int) (M : xM) (out : Int × xM), rc w2 M = some out → XR false 8 174 sc y_M_plant (47, [(0, (vR 10 l0)), (2, (vI w2))], [], R, M, 174) ((some (vI out.1)), R, out.2)) (hq129 : ∀ (M : xM) (out : Int × xM), q129 M = some out → XR false 8 174 sc y_M_plant (129, [(0, (vR 10 l0))], [], R, M, 174) ((some (vI out.1)), R, out.2)) {s0 : Int} {M : xM} {out : Int × xM} (h : M_plant_J125 R l0 rc q129 s0 M = some out) : XR false 8 174 sc y_M_plant (125, [(0, (vR 10 l0))], [(vI s0)], R, M, 174) ((some (vI out.1)), R, out.2) := by
  unfold M_plant_J125 at h
  refine s_M_plant [(125, .istore_n 2, 0, 0), (126, .goto (-79), 0, 47)] (by decide +kernel) (z' := (47, [(2, (vI s0)), (0, (vR 10 l0))], [], R, M, 174)) (cs := []) (by rfl) trivial (Nat.le_refl _) ?_
  refine XR.pick [1, 0] (ls' := [(0, (vR 10 l0)), (2, (vI s0))]) rfl ?_
  exact hrc s0 M _ h
set_option maxRecDepth 100000 in
set_option maxHeartbeats 4000000 in
theorem o_M_plant_J106 {sc : List Int} {R : xR}   {l0 : Nat}  {rc : Int → xM → Option (Int × xM)} {q129 : xM → Option (Int × xM)} (hrc : ∀ (w2 : Int) (M : xM) (out : Int × xM), rc w2 M = some out → XR false 8 174 sc y_M_plant (47, [(0, (vR 10 l0)), (2, (vI w2))], [], R, M, 174) ((some (vI out.1)), R, out.2)) (hq129 : ∀ (M : xM) (out : Int × xM), q129 M = some out → XR false 8 174 sc y_M_plant (129, [(0, (vR 10 l0))], [], R, M, 174) ((some (vI out.1)), R, out.2)) {s0 : Int} {M : xM} {out : Int × xM} (h : M_plant_J106 R l0 rc q129 s0 M = some out) : XR false 8 174 sc y_M_plant (106, [(0, (vR 10 l0))], [(vI s0)], R, M, 174) ((some (vI out.1)), R, out.2) := by
  unfold M_plant_J106 at h
  refine s_M_plant [(106, .istore 4, 0, 0), (108, .iload 4, 0, 0)] (by decide +kernel) (z' := (110, [(4, (vI s0)), (0, (vR 10 l0))], [(vI s0)], R, M, 174)) (cs := []) (by rfl) trivial (Nat.le_refl _) ?_
  rcases xif_ex h with ⟨c_21, h⟩ | ⟨c_21, h⟩
  · skip
    refine s_M_plant [(110, .ifCond .eq 14, 0, 124), (124, .iconst 0, 0, 0)] (by decide +kernel) (z' := (125, [(4, (vI s0)), (0, (vR 10 l0))], [(vI 0)], R, M, 174)) (cs := [s0 = 0]) (by rfl) ⟨c_21, trivial⟩ (Nat.le_refl _) ?_
    refine XR.pick [1] (ls' := [(0, (vR 10 l0))]) rfl ?_
    exact o_M_plant_J125 hrc hq129 h
  · skip
    refine s_M_plant [(110, .ifCond .eq 14, 0, (-1)), (113, .aload_n 0, 0, 0), (114, .getfield 290, 10, 8)] (by decide +kernel) (z' := (117, [(4, (vI s0)), (0, (vR 10 l0))], [(vI (M l0 8))], R, M, 174)) (cs := [¬ (s0 = 0)]) (by rfl) ⟨c_21, trivial⟩ (Nat.le_refl _) ?_
    rcases xif_ex h with ⟨c_22, h⟩ | ⟨c_22, h⟩
    · skip
      refine s_M_plant [(117, .ifCond .eq 7, 0, 124), (124, .iconst 0, 0, 0)] (by decide +kernel) (z' := (125, [(4, (vI s0)), (0, (vR 10 l0))], [(vI 0)], R, M, 174)) (cs := [M l0 8 = 0]) (by rfl) ⟨c_22, trivial⟩ (Nat.le_refl _) ?_
      refine XR.pick [1] (ls' := [(0, (vR 10 l0))]) rfl ?_
      exact o_M_plant_J125 hrc hq129 h
    · skip
      refine s_M_plant [(117, .ifCond .eq 7, 0, (-1)), (120, .iconst 1, 0, 1), (121, .goto 4, 0, 125)] (by decide +kernel) (z' := (125, [(4, (vI s0)), (0, (vR 10 l0))], [(vI 1)], R, M, 174)) (cs := [¬ (M l0 8 = 0)]) (by rfl) ⟨c_22, trivial⟩ (Nat.le_refl _) ?_
      refine XR.pick [1] (ls' := [(0, (vR 10 l0))]) rfl ?_
      exact o_M_plant_J125 hrc hq129 h
set_option maxRecDepth 100000 in
set_option maxHeartbeats 4000000 in
theorem o_M_plant_J69 {sc : List Int} {R : xR}   {l0 : Nat}  {rc : Int → xM → Option (Int × xM)} {q129 : xM → Option (Int × xM)} (hrc : ∀ (w2 : Int) (M : xM) (out : Int × xM), rc w2 M = some out → XR false 8 174 sc y_M_plant (47, [(0, (vR 10 l0)), (2, (vI w2))], [], R, M, 174) ((some (vI out.1)), R, out.2)) (hq129 : ∀ (M : xM) (out : Int × xM), q129 M = some out → XR false 8 174 sc y_M_plant (129, [(0, (vR 10 l0))], [], R, M, 174) ((some (vI out.1)), R, out.2)) {M : xM} {out : Int × xM} (h : M_plant_J69 R l0 rc q129 M = some out) : XR false 8 174 sc y_M_plant (69, [(0, (vR 10 l0))], [], R, M, 174) ((some (vI out.1)), R, out.2) := by
  unfold M_plant_J69 at h
  refine s_M_plant [(69, .aload_n 0, 0, 0), (70, .iconst 2, 0, 2)] (by decide +kernel) (z' := (71, [(0, (vR 10 l0))], [(vI 2), (vR 10 l0)], R, M, 174)) (cs := []) (by rfl) trivial (Nat.le_refl _) ?_
  obtain ⟨r_18, M_19, e_20, h⟩ := xb2_ex h
  refine XR.callV 10 rfl (rest := []) m_M_fails k_10_331 10 l0 (Or.inl ⟨by decide, rfl⟩) [(vI 2)] rfl rfl (c_M_fails e_20) (by decide) (Nat.le_of_ble_eq_true rfl) (by decide +kernel) (Nat.le_refl _) (Nat.le_refl _) ?_
  show XR false 8 174 sc y_M_plant (74, [(0, (vR 10 l0))], [(vI r_18)], R, M_19, 174) _
  refine s_M_plant [(74, .goto 32, 0, 106)] (by decide +kernel) (z' := (106, [(0, (vR 10 l0))], [(vI r_18)], R, M_19, 174)) (cs := []) (by rfl) trivial (Nat.le_refl _) ?_
  exact o_M_plant_J106 hrc hq129 h
set_option maxRecDepth 100000 in
set_option maxHeartbeats 4000000 in
theorem o_M_plant_F47 {sc : List Int} {R : xR}   {l0 : Nat}  {q129 : xM → Option (Int × xM)} (hq129 : ∀ (M : xM) (out : Int × xM), q129 M = some out → XR false 8 174 sc y_M_plant (129, [(0, (vR 10 l0))], [], R, M, 174) ((some (vI out.1)), R, out.2)) : ∀ (n : Nat) (v2 : Int) (M : xM) (out : Int × xM), M_plant_F47 R l0 q129 n v2 M = some out → XR false 8 174 sc y_M_plant (47, [(0, (vR 10 l0)), (2, (vI v2))], [], R, M, 174) ((some (vI out.1)), R, out.2) := by
  intro n
  induction n with
  | zero => intro v2 M out h; exact (xno h).elim
  | succ n ih =>
    intro v2 M out h
    rw [M_plant_F47] at h
    refine s_M_plant [(47, .iload_n 2, 0, 0)] (by decide +kernel) (z' := (48, [(0, (vR 10 l0)), (2, (vI v2))], [(vI v2)], R, M, 174)) (cs := []) (by rfl) trivial (Nat.le_refl _) ?_
    rcases xif_ex h with ⟨c_14, h⟩ | ⟨c_14, h⟩
    · skip
      refine s_M_plant [(48, .ifCond .eq 81, 0, 129)] (by decide +kernel) (z' := (129, [(0, (vR 10 l0)), (2, (vI v2))], [], R, M, 174)) (cs := [v2 = 0]) (by rfl) ⟨c_14, trivial⟩ (Nat.le_refl _) ?_
      refine XR.pick [0] (ls' := [(0, (vR 10 l0))]) rfl ?_
      exact hq129 M _ h
    · skip
      refine s_M_plant [(48, .ifCond .eq 81, 0, (-1)), (51, .aload_n 0, 0, 0), (52, .ldc_w 325, 6, 0)] (by decide +kernel) (z' := (55, [(0, (vR 10 l0)), (2, (vI v2))], [(vR 99 6), (vR 10 l0)], R, M, 174)) (cs := [¬ (v2 = 0)]) (by rfl) ⟨c_14, trivial⟩ (Nat.le_refl _) ?_
      obtain ⟨r_15, e_16, h⟩ := xb1_ex h
      refine XR.callV 10 rfl (rest := []) m_M_inWords k_10_327 10 l0 (Or.inl ⟨by decide, rfl⟩) [(vR 99 6)] rfl rfl (c_M_inWords e_16) (by decide) (Nat.le_of_ble_eq_true rfl) (by decide +kernel) (Nat.le_refl _) (Nat.le_refl _) ?_
      show XR false 8 174 sc y_M_plant (58, [(0, (vR 10 l0)), (2, (vI v2))], [(vI r_15)], R, M, 174) _
      refine s_M_plant [(58, .istore_n 3, 0, 0), (59, .iload_n 3, 0, 0), (60, .iconst (-1), 0, (-1))] (by decide +kernel) (z' := (61, [(3, (vI r_15)), (0, (vR 10 l0)), (2, (vI v2))], [(vI (-1)), (vI r_15)], R, M, 174)) (cs := []) (by rfl) trivial (Nat.le_refl _) ?_
      rcases xif_ex h with ⟨c_17, h⟩ | ⟨c_17, h⟩
      · skip
        refine s_M_plant [(61, .if_icmp .eq 8, 0, 69)] (by decide +kernel) (z' := (69, [(3, (vI r_15)), (0, (vR 10 l0)), (2, (vI v2))], [], R, M, 174)) (cs := [r_15 = -1]) (by rfl) ⟨c_17, trivial⟩ (Nat.le_refl _) ?_
        refine XR.pick [1] (ls' := [(0, (vR 10 l0))]) rfl ?_
        exact o_M_plant_J69 ih hq129 h
      · skip
        refine s_M_plant [(61, .if_icmp .eq 8, 0, (-1)), (64, .iload_n 3, 0, 0), (65, .iconst 5, 0, 5)] (by decide +kernel) (z' := (66, [(3, (vI r_15)), (0, (vR 10 l0)), (2, (vI v2))], [(vI 5), (vI r_15)], R, M, 174)) (cs := [¬ (r_15 = -1)]) (by rfl) ⟨c_17, trivial⟩ (Nat.le_refl _) ?_
        rcases xif_ex h with ⟨c_23, h⟩ | ⟨c_23, h⟩
        · skip
          refine s_M_plant [(66, .if_icmp .le 11, 0, (-1))] (by decide +kernel) (z' := (69, [(3, (vI r_15)), (0, (vR 10 l0)), (2, (vI v2))], [], R, M, 174)) (cs := [¬ (r_15 ≤ 5)]) (by rfl) ⟨Int.not_le.mpr c_23, trivial⟩ (Nat.le_refl _) ?_
          refine XR.pick [1] (ls' := [(0, (vR 10 l0))]) rfl ?_
          exact o_M_plant_J69 ih hq129 h
        · skip
          refine s_M_plant [(66, .if_icmp .le 11, 0, 77), (77, .iload_n 3, 0, 0), (78, .iconst 4, 0, 4)] (by decide +kernel) (z' := (79, [(3, (vI r_15)), (0, (vR 10 l0)), (2, (vI v2))], [(vI 4), (vI r_15)], R, M, 174)) (cs := [r_15 ≤ 5]) (by rfl) ⟨Int.not_lt.mp c_23, trivial⟩ (Nat.le_refl _) ?_
          rcases xif_ex h with ⟨c_24, h⟩ | ⟨c_24, h⟩
          · skip
            refine s_M_plant [(79, .if_icmp .ge 11, 0, (-1)), (82, .aload_n 0, 0, 0), (83, .iload_n 3, 0, 0)] (by decide +kernel) (z' := (84, [(3, (vI r_15)), (0, (vR 10 l0)), (2, (vI v2))], [(vI r_15), (vR 10 l0)], R, M, 174)) (cs := [¬ (4 ≤ r_15)]) (by rfl) ⟨Int.not_le.mpr c_24, trivial⟩ (Nat.le_refl _) ?_
            obtain ⟨r_25, M_26, e_27, h⟩ := xb2_ex h
            refine XR.callV 10 rfl (rest := []) m_M_makes k_10_384 10 l0 (Or.inl ⟨by decide, rfl⟩) [(vI r_15)] rfl rfl (c_M_makes e_27) (by decide) (Nat.le_of_ble_eq_true rfl) (by decide +kernel) (Nat.le_refl _) (Nat.le_refl _) ?_
            show XR false 8 174 sc y_M_plant (87, [(3, (vI r_15)), (0, (vR 10 l0)), (2, (vI v2))], [(vI r_25)], R, M_26, 174) _
            refine s_M_plant [(87, .goto 19, 0, 106)] (by decide +kernel) (z' := (106, [(3, (vI r_15)), (0, (vR 10 l0)), (2, (vI v2))], [(vI r_25)], R, M_26, 174)) (cs := []) (by rfl) trivial (Nat.le_refl _) ?_
            refine XR.pick [1] (ls' := [(0, (vR 10 l0))]) rfl ?_
            exact o_M_plant_J106 ih hq129 h
          · skip
            refine s_M_plant [(79, .if_icmp .ge 11, 0, 90), (90, .iload_n 3, 0, 0), (91, .iconst 4, 0, 4)] (by decide +kernel) (z' := (92, [(3, (vI r_15)), (0, (vR 10 l0)), (2, (vI v2))], [(vI 4), (vI r_15)], R, M, 174)) (cs := [4 ≤ r_15]) (by rfl) ⟨Int.not_lt.mp c_24, trivial⟩ (Nat.le_refl _) ?_
            rcases xif_ex h with ⟨c_28, h⟩ | ⟨c_28, h⟩
            · skip
              refine s_M_plant [(92, .if_icmp .ne 10, 0, (-1)), (95, .aload_n 0, 0, 0)] (by decide +kernel) (z' := (96, [(3, (vI r_15)), (0, (vR 10 l0)), (2, (vI v2))], [(vR 10 l0)], R, M, 174)) (cs := [¬ (r_15 ≠ 4)]) (by rfl) ⟨fun q => q c_28, trivial⟩ (Nat.le_refl _) ?_
              obtain ⟨r_29, M_30, e_31, h⟩ := xb2_ex h
              refine XR.callV 10 rfl (rest := []) m_M_joins k_10_387 10 l0 (Or.inl ⟨by decide, rfl⟩) [] rfl rfl (c_M_joins e_31) (by decide) (Nat.le_of_ble_eq_true rfl) (by decide +kernel) (Nat.le_refl _) (Nat.le_refl _) ?_
              show XR false 8 174 sc y_M_plant (99, [(3, (vI r_15)), (0, (vR 10 l0)), (2, (vI v2))], [(vI r_29)], R, M_30, 174) _
              refine s_M_plant [(99, .goto 7, 0, 106)] (by decide +kernel) (z' := (106, [(3, (vI r_15)), (0, (vR 10 l0)), (2, (vI v2))], [(vI r_29)], R, M_30, 174)) (cs := []) (by rfl) trivial (Nat.le_refl _) ?_
              refine XR.pick [1] (ls' := [(0, (vR 10 l0))]) rfl ?_
              exact o_M_plant_J106 ih hq129 h
            · skip
              refine s_M_plant [(92, .if_icmp .ne 10, 0, 102), (102, .aload_n 0, 0, 0)] (by decide +kernel) (z' := (103, [(3, (vI r_15)), (0, (vR 10 l0)), (2, (vI v2))], [(vR 10 l0)], R, M, 174)) (cs := [r_15 ≠ 4]) (by rfl) ⟨c_28, trivial⟩ (Nat.le_refl _) ?_
              obtain ⟨r_32, M_33, e_34, h⟩ := xb2_ex h
              refine XR.callV 10 rfl (rest := []) m_M_worksAt k_10_390 10 l0 (Or.inl ⟨by decide, rfl⟩) [] rfl rfl (c_M_worksAt e_34) (by decide) (Nat.le_of_ble_eq_true rfl) (by decide +kernel) (Nat.le_refl _) (Nat.le_refl _) ?_
              show XR false 8 174 sc y_M_plant (106, [(3, (vI r_15)), (0, (vR 10 l0)), (2, (vI v2))], [(vI r_32)], R, M_33, 174) _
              refine XR.pick [1] (ls' := [(0, (vR 10 l0))]) rfl ?_
              exact o_M_plant_J106 ih hq129 h
set_option maxRecDepth 100000 in
set_option maxHeartbeats 4000000 in
theorem o_M_plant_F169 {sc : List Int} {R : xR}   {l0 : Nat}  {q193 : xM → Option (Int × xM)} (hq193 : ∀ (M : xM) (out : Int × xM), q193 M = some out → XR false 8 174 sc y_M_plant (193, [(0, (vR 10 l0))], [], R, M, 174) ((some (vI out.1)), R, out.2)) : ∀ (n : Nat) (v3 : Int) (M : xM) (out : Int × xM), M_plant_F169 R l0 q193 n v3 M = some out → XR false 8 174 sc y_M_plant (169, [(0, (vR 10 l0)), (3, (vI v3))], [], R, M, 174) ((some (vI out.1)), R, out.2) := by
  intro n
  induction n with
  | zero => intro v3 M out h; exact (xno h).elim
  | succ n ih =>
    intro v3 M out h
    rw [M_plant_F169] at h
    refine s_M_plant [(169, .iload_n 3, 0, 0), (170, .bipush 32, 0, 32)] (by decide +kernel) (z' := (172, [(0, (vR 10 l0)), (3, (vI v3))], [(vI 32), (vI v3)], R, M, 174)) (cs := []) (by rfl) trivial (Nat.le_refl _) ?_
    rcases xif_ex h with ⟨c_43, h⟩ | ⟨c_43, h⟩
    · skip
      obtain ⟨c_44, h⟩ := xch_ex h
      obtain ⟨M_45, hM_45, h⟩ := xl_ex h
      obtain ⟨v3_46, hv3_46, h⟩ := xl_ex h
      refine s_M_plant [(172, .if_icmp .ge 21, 0, (-1)), (175, .aload_n 0, 0, 0), (176, .getfield 70, 10, 33), (179, .iload_n 3, 0, 0), (180, .aload_n 0, 0, 0), (181, .getfield 43, 10, 20), (184, .iload_n 3, 0, 0), (185, .iaload, 0, 0), (186, .iastore, 0, 0), (187, .iinc 3 1, 0, 0), (190, .goto (-21), 0, 169)] (by decide +kernel) (z' := (169, [(3, (vI v3_46)), (0, (vR 10 l0))], [], R, M_45, 174)) (cs := [¬ (32 ≤ v3), xar 27 0, xidx v3 (xan 27), xar 27 0, xidx v3 (xan 27)]) (by subst hM_45; subst hv3_46; rfl) ⟨Int.not_le.mpr c_43, xar_27, xix_27 c_44, xar_27, xix_27 c_44, trivial⟩ (Nat.le_refl _) ?_
      refine XR.pick [1, 0] (ls' := [(0, (vR 10 l0)), (3, (vI v3_46))]) rfl ?_
      exact ih v3_46 M_45 _ h
    · skip
      refine s_M_plant [(172, .if_icmp .ge 21, 0, 193)] (by decide +kernel) (z' := (193, [(0, (vR 10 l0)), (3, (vI v3))], [], R, M, 174)) (cs := [32 ≤ v3]) (by rfl) ⟨Int.not_lt.mp c_43, trivial⟩ (Nat.le_refl _) ?_
      refine XR.pick [0] (ls' := [(0, (vR 10 l0))]) rfl ?_
      exact hq193 M _ h
set_option maxRecDepth 100000 in
set_option maxHeartbeats 4000000 in
theorem o_M_plant_F195 {sc : List Int} {R : xR}   {l0 : Nat}  {q218 : xM → Option (Int × xM)} (hq218 : ∀ (M : xM) (out : Int × xM), q218 M = some out → XR false 8 174 sc y_M_plant (218, [(0, (vR 10 l0))], [], R, M, 174) ((some (vI out.1)), R, out.2)) : ∀ (n : Nat) (v3 : Int) (M : xM) (out : Int × xM), M_plant_F195 R l0 q218 n v3 M = some out → XR false 8 174 sc y_M_plant (195, [(0, (vR 10 l0)), (3, (vI v3))], [], R, M, 174) ((some (vI out.1)), R, out.2) := by
  intro n
  induction n with
  | zero => intro v3 M out h; exact (xno h).elim
  | succ n ih =>
    intro v3 M out h
    rw [M_plant_F195] at h
    refine s_M_plant [(195, .iload_n 3, 0, 0), (196, .iconst 4, 0, 4)] (by decide +kernel) (z' := (197, [(0, (vR 10 l0)), (3, (vI v3))], [(vI 4), (vI v3)], R, M, 174)) (cs := []) (by rfl) trivial (Nat.le_refl _) ?_
    rcases xif_ex h with ⟨c_48, h⟩ | ⟨c_48, h⟩
    · skip
      obtain ⟨c_49, h⟩ := xch_ex h
      obtain ⟨M_50, hM_50, h⟩ := xl_ex h
      obtain ⟨v3_51, hv3_51, h⟩ := xl_ex h
      refine s_M_plant [(197, .if_icmp .ge 21, 0, (-1)), (200, .aload_n 0, 0, 0), (201, .getfield 88, 10, 39), (204, .iload_n 3, 0, 0), (205, .aload_n 0, 0, 0), (206, .getfield 61, 10, 26), (209, .iload_n 3, 0, 0), (210, .iaload, 0, 0), (211, .iastore, 0, 0), (212, .iinc 3 1, 0, 0), (215, .goto (-20), 0, 195)] (by decide +kernel) (z' := (195, [(3, (vI v3_51)), (0, (vR 10 l0))], [], R, M_50, 174)) (cs := [¬ (4 ≤ v3), xar 34 0, xidx v3 (xan 34), xar 34 0, xidx v3 (xan 34)]) (by subst hM_50; subst hv3_51; rfl) ⟨Int.not_le.mpr c_48, xar_34, xix_34 c_49, xar_34, xix_34 c_49, trivial⟩ (Nat.le_refl _) ?_
      refine XR.pick [1, 0] (ls' := [(0, (vR 10 l0)), (3, (vI v3_51))]) rfl ?_
      exact ih v3_51 M_50 _ h
    · skip
      refine s_M_plant [(197, .if_icmp .ge 21, 0, 218)] (by decide +kernel) (z' := (218, [(0, (vR 10 l0)), (3, (vI v3))], [], R, M, 174)) (cs := [4 ≤ v3]) (by rfl) ⟨Int.not_lt.mp c_48, trivial⟩ (Nat.le_refl _) ?_
      refine XR.pick [0] (ls' := [(0, (vR 10 l0))]) rfl ?_
      exact hq218 M _ h
set_option maxRecDepth 100000 in
set_option maxHeartbeats 4000000 in
theorem o_M_plant_F279 {sc : List Int} {R : xR}   {l0 : Nat}  {q344 : Int → xM → Option (Int × xM)} (hq344 : ∀ (w3 : Int) (M : xM) (out : Int × xM), q344 w3 M = some out → XR false 8 174 sc y_M_plant (344, [(0, (vR 10 l0)), (3, (vI w3))], [], R, M, 174) ((some (vI out.1)), R, out.2)) : ∀ (n : Nat) (v3 : Int) (v4 : Int) (M : xM) (out : Int × xM), M_plant_F279 R l0 q344 n v3 v4 M = some out → XR false 8 174 sc y_M_plant (279, [(0, (vR 10 l0)), (3, (vI v3)), (4, (vI v4))], [], R, M, 174) ((some (vI out.1)), R, out.2) := by
  intro n
  induction n with
  | zero => intro v3 v4 M out h; exact (xno h).elim
  | succ n ih =>
    intro v3 v4 M out h
    rw [M_plant_F279] at h
    obtain ⟨c_59, h⟩ := xch_ex h
    refine s_M_plant [(279, .iload 4, 0, 0), (281, .aload_n 0, 0, 0), (282, .getfield 79, 10, 36), (285, .iload_n 3, 0, 0), (286, .iaload, 0, 0)] (by decide +kernel) (z' := (287, [(0, (vR 10 l0)), (3, (vI v3)), (4, (vI v4))], [(vI (M (R l0 36) (Int.toNat v3))), (vI v4)], R, M, 174)) (cs := [xar 30 0, xidx v3 (xan 30)]) (by rfl) ⟨xar_30, xix_30 c_59, trivial⟩ (Nat.le_refl _) ?_
    rcases xif_ex h with ⟨c_60, h⟩ | ⟨c_60, h⟩
    · skip
      obtain ⟨c_61, h⟩ := xch_ex h
      obtain ⟨M_62, hM_62, h⟩ := xl_ex h
      obtain ⟨M_63, hM_63, h⟩ := xl_ex h
      obtain ⟨v4_64, hv4_64, h⟩ := xl_ex h
      refine s_M_plant [(287, .if_icmp .ge 57, 0, (-1)), (290, .aload_n 0, 0, 0), (291, .getfield 82, 10, 37), (294, .bipush 8, 0, 8), (296, .iload_n 3, 0, 0), (297, .imul, 0, 0), (298, .iload 4, 0, 0), (300, .iadd, 0, 0), (301, .aload_n 0, 0, 0), (302, .getfield 55, 10, 24), (305, .bipush 8, 0, 8), (307, .iload_n 3, 0, 0), (308, .imul, 0, 0), (309, .iload 4, 0, 0), (311, .iadd, 0, 0), (312, .iaload, 0, 0), (313, .iastore, 0, 0), (314, .aload_n 0, 0, 0), (315, .getfield 85, 10, 38), (318, .bipush 8, 0, 8), (320, .iload_n 3, 0, 0), (321, .imul, 0, 0), (322, .iload 4, 0, 0), (324, .iadd, 0, 0), (325, .aload_n 0, 0, 0), (326, .getfield 58, 10, 25), (329, .bipush 8, 0, 8), (331, .iload_n 3, 0, 0), (332, .imul, 0, 0), (333, .iload 4, 0, 0), (335, .iadd, 0, 0), (336, .iaload, 0, 0), (337, .iastore, 0, 0), (338, .iinc 4 1, 0, 0), (341, .goto (-62), 0, 279)] (by decide +kernel) (z' := (279, [(4, (vI v4_64)), (0, (vR 10 l0)), (3, (vI v3))], [], R, M_63, 174)) (cs := [¬ (M (R l0 36) (Int.toNat v3) ≤ v4), xar 38 0, xidx (w32 ((w32 (8 * v3)) + v4)) (xan 38), xar 38 0, xidx (w32 ((w32 (8 * v3)) + v4)) (xan 38), xar 38 0, xidx (w32 ((w32 (8 * v3)) + v4)) (xan 38), xar 38 0, xidx (w32 ((w32 (8 * v3)) + v4)) (xan 38)]) (by subst hM_62; subst hM_63; subst hv4_64; rfl) ⟨Int.not_le.mpr c_60, xar_38, xix_38 c_61, xar_38, xix_38 c_61, xar_38, xix_38 c_61, xar_38, xix_38 c_61, trivial⟩ (Nat.le_refl _) ?_
      refine XR.pick [1, 2, 0] (ls' := [(0, (vR 10 l0)), (3, (vI v3)), (4, (vI v4_64))]) rfl ?_
      exact ih v3 v4_64 M_63 _ h
    · skip
      refine s_M_plant [(287, .if_icmp .ge 57, 0, 344)] (by decide +kernel) (z' := (344, [(0, (vR 10 l0)), (3, (vI v3)), (4, (vI v4))], [], R, M, 174)) (cs := [M (R l0 36) (Int.toNat v3) ≤ v4]) (by rfl) ⟨Int.not_lt.mp c_60, trivial⟩ (Nat.le_refl _) ?_
      refine XR.pick [0, 1] (ls' := [(0, (vR 10 l0)), (3, (vI v3))]) rfl ?_
      exact hq344 v3 M _ h
set_option maxRecDepth 100000 in
set_option maxHeartbeats 4000000 in
theorem o_M_plant_J385 {sc : List Int} {R : xR}   {l0 : Nat}  {rc : Int → xM → Option (Int × xM)} {q391 : xM → Option (Int × xM)} (hrc : ∀ (w3 : Int) (M : xM) (out : Int × xM), rc w3 M = some out → XR false 8 174 sc y_M_plant (220, [(0, (vR 10 l0)), (3, (vI w3))], [], R, M, 174) ((some (vI out.1)), R, out.2)) (hq391 : ∀ (M : xM) (out : Int × xM), q391 M = some out → XR false 8 174 sc y_M_plant (391, [(0, (vR 10 l0))], [], R, M, 174) ((some (vI out.1)), R, out.2)) {v3 : Int} {M : xM} {out : Int × xM} (h : M_plant_J385 R l0 rc q391 v3 M = some out) : XR false 8 174 sc y_M_plant (385, [(0, (vR 10 l0)), (3, (vI v3))], [], R, M, 174) ((some (vI out.1)), R, out.2) := by
  unfold M_plant_J385 at h
  obtain ⟨v3_69, hv3_69, h⟩ := xl_ex h
  refine s_M_plant [(385, .iinc 3 1, 0, 0), (388, .goto (-168), 0, 220)] (by decide +kernel) (z' := (220, [(3, (vI v3_69)), (0, (vR 10 l0))], [], R, M, 174)) (cs := []) (by subst hv3_69; rfl) trivial (Nat.le_refl _) ?_
  refine XR.pick [1, 0] (ls' := [(0, (vR 10 l0)), (3, (vI v3_69))]) rfl ?_
  exact hrc v3_69 M _ h
set_option maxRecDepth 100000 in
set_option maxHeartbeats 4000000 in
theorem o_M_plant_F220 {sc : List Int} {R : xR}   {l0 : Nat}  {q391 : xM → Option (Int × xM)} (hq391 : ∀ (M : xM) (out : Int × xM), q391 M = some out → XR false 8 174 sc y_M_plant (391, [(0, (vR 10 l0))], [], R, M, 174) ((some (vI out.1)), R, out.2)) : ∀ (n : Nat) (v3 : Int) (M : xM) (out : Int × xM), M_plant_F220 R l0 q391 n v3 M = some out → XR false 8 174 sc y_M_plant (220, [(0, (vR 10 l0)), (3, (vI v3))], [], R, M, 174) ((some (vI out.1)), R, out.2) := by
  intro n
  induction n with
  | zero => intro v3 M out h; exact (xno h).elim
  | succ n ih =>
    intro v3 M out h
    rw [M_plant_F220] at h
    refine s_M_plant [(220, .iload_n 3, 0, 0), (221, .aload_n 0, 0, 0), (222, .getfield 393, 10, 30)] (by decide +kernel) (z' := (225, [(0, (vR 10 l0)), (3, (vI v3))], [(vI (M l0 30)), (vI v3)], R, M, 174)) (cs := []) (by rfl) trivial (Nat.le_refl _) ?_
    rcases xif_ex h with ⟨c_53, h⟩ | ⟨c_53, h⟩
    · skip
      obtain ⟨c_54, h⟩ := xch_ex h
      obtain ⟨M_55, hM_55, h⟩ := xl_ex h
      obtain ⟨M_56, hM_56, h⟩ := xl_ex h
      obtain ⟨M_57, hM_57, h⟩ := xl_ex h
      obtain ⟨M_58, hM_58, h⟩ := xl_ex h
      refine s_M_plant [(225, .if_icmp .ge 166, 0, (-1)), (228, .aload_n 0, 0, 0), (229, .getfield 67, 10, 32), (232, .iload_n 3, 0, 0), (233, .aload_n 0, 0, 0), (234, .getfield 40, 10, 19), (237, .iload_n 3, 0, 0), (238, .iaload, 0, 0), (239, .iastore, 0, 0), (240, .aload_n 0, 0, 0), (241, .getfield 73, 10, 34), (244, .iload_n 3, 0, 0), (245, .aload_n 0, 0, 0), (246, .getfield 46, 10, 21), (249, .iload_n 3, 0, 0), (250, .iaload, 0, 0), (251, .iastore, 0, 0), (252, .aload_n 0, 0, 0), (253, .getfield 76, 10, 35), (256, .iload_n 3, 0, 0), (257, .aload_n 0, 0, 0), (258, .getfield 49, 10, 22), (261, .iload_n 3, 0, 0), (262, .iaload, 0, 0), (263, .iastore, 0, 0), (264, .aload_n 0, 0, 0), (265, .getfield 79, 10, 36), (268, .iload_n 3, 0, 0), (269, .aload_n 0, 0, 0), (270, .getfield 52, 10, 23), (273, .iload_n 3, 0, 0), (274, .iaload, 0, 0), (275, .iastore, 0, 0), (276, .iconst 0, 0, 0), (277, .istore 4, 0, 0)] (by decide +kernel) (z' := (279, [(4, (vI 0)), (0, (vR 10 l0)), (3, (vI v3))], [], R, M_58, 174)) (cs := [¬ (M l0 30 ≤ v3), xar 30 0, xidx v3 (xan 30), xar 30 0, xidx v3 (xan 30), xar 30 0, xidx v3 (xan 30), xar 30 0, xidx v3 (xan 30), xar 30 0, xidx v3 (xan 30), xar 30 0, xidx v3 (xan 30), xar 30 0, xidx v3 (xan 30), xar 30 0, xidx v3 (xan 30)]) (by subst hM_55; subst hM_56; subst hM_57; subst hM_58; rfl) ⟨Int.not_le.mpr c_53, xar_30, xix_30 c_54, xar_30, xix_30 c_54, xar_30, xix_30 c_54, xar_30, xix_30 c_54, xar_30, xix_30 c_54, xar_30, xix_30 c_54, xar_30, xix_30 c_54, xar_30, xix_30 c_54, trivial⟩ (Nat.le_refl _) ?_
      refine XR.pick [1, 2, 0] (ls' := [(0, (vR 10 l0)), (3, (vI v3)), (4, (vI 0))]) rfl ?_
      refine o_M_plant_F279 ?_ xfu v3 0 M_58 _ h
      · intro v3_65 M_66 out h
        obtain ⟨c_67, h⟩ := xch_ex h
        refine s_M_plant [(344, .aload_n 0, 0, 0), (345, .getfield 79, 10, 36), (348, .iload_n 3, 0, 0), (349, .iaload, 0, 0)] (by decide +kernel) (z' := (350, [(0, (vR 10 l0)), (3, (vI v3_65))], [(vI (M_66 (R l0 36) (Int.toNat v3_65)))], R, M_66, 174)) (cs := [xar 30 0, xidx v3_65 (xan 30)]) (by rfl) ⟨xar_30, xix_30 c_67, trivial⟩ (Nat.le_refl _) ?_
        rcases xif_ex h with ⟨c_68, h⟩ | ⟨c_68, h⟩
        · skip
          refine s_M_plant [(350, .ifCond .le 6, 0, (-1)), (353, .goto 32, 0, 385)] (by decide +kernel) (z' := (385, [(0, (vR 10 l0)), (3, (vI v3_65))], [], R, M_66, 174)) (cs := [¬ (M_66 (R l0 36) (Int.toNat v3_65) ≤ 0)]) (by rfl) ⟨Int.not_le.mpr c_68, trivial⟩ (Nat.le_refl _) ?_
          exact o_M_plant_J385 ih hq391 h
        · skip
          obtain ⟨M_70, hM_70, h⟩ := xl_ex h
          obtain ⟨c_71, h⟩ := xch_ex h
          obtain ⟨M_72, hM_72, h⟩ := xl_ex h
          obtain ⟨M_73, hM_73, h⟩ := xl_ex h
          refine s_M_plant [(350, .ifCond .le 6, 0, 356), (356, .aload_n 0, 0, 0), (357, .getfield 79, 10, 36), (360, .iload_n 3, 0, 0), (361, .iconst 1, 0, 1), (362, .iastore, 0, 0), (363, .aload_n 0, 0, 0), (364, .getfield 82, 10, 37), (367, .bipush 8, 0, 8), (369, .iload_n 3, 0, 0), (370, .imul, 0, 0), (371, .bipush 8, 0, 8), (373, .iastore, 0, 0), (374, .aload_n 0, 0, 0), (375, .getfield 85, 10, 38), (378, .bipush 8, 0, 8), (380, .iload_n 3, 0, 0), (381, .imul, 0, 0), (382, .bipush 100, 0, 100), (384, .iastore, 0, 0)] (by decide +kernel) (z' := (385, [(0, (vR 10 l0)), (3, (vI v3_65))], [], R, M_73, 174)) (cs := [M_66 (R l0 36) (Int.toNat v3_65) ≤ 0, xar 30 0, xidx v3_65 (xan 30), xar 38 0, xidx (w32 (8 * v3_65)) (xan 38), xar 38 0, xidx (w32 (8 * v3_65)) (xan 38)]) (by subst hM_70; subst hM_72; subst hM_73; rfl) ⟨Int.not_lt.mp c_68, xar_30, xix_30 c_67, xar_38, xix_38 c_71, xar_38, xix_38 c_71, trivial⟩ (Nat.le_refl _) ?_
          exact o_M_plant_J385 ih hq391 h
    · skip
      refine s_M_plant [(225, .if_icmp .ge 166, 0, 391)] (by decide +kernel) (z' := (391, [(0, (vR 10 l0)), (3, (vI v3))], [], R, M, 174)) (cs := [M l0 30 ≤ v3]) (by rfl) ⟨Int.not_lt.mp c_53, trivial⟩ (Nat.le_refl _) ?_
      refine XR.pick [0] (ls' := [(0, (vR 10 l0))]) rfl ?_
      exact hq391 M _ h
set_option maxRecDepth 100000 in
set_option maxHeartbeats 4000000 in
theorem o_M_plant_J46 {sc : List Int} {R : xR}   {l0 : Nat}  {s0 : Int} {M : xM} {out : Int × xM} (h : M_plant_J46 R l0  s0 M = some out) : XR false 8 174 sc y_M_plant (46, [(0, (vR 10 l0))], [(vI s0)], R, M, 174) ((some (vI out.1)), R, out.2) := by
  unfold M_plant_J46 at h
  refine s_M_plant [(46, .istore_n 2, 0, 0)] (by decide +kernel) (z' := (47, [(2, (vI s0)), (0, (vR 10 l0))], [], R, M, 174)) (cs := []) (by rfl) trivial (Nat.le_refl _) ?_
  refine XR.pick [1, 0] (ls' := [(0, (vR 10 l0)), (2, (vI s0))]) rfl ?_
  refine o_M_plant_F47 ?_ xfu s0 M _ h
  · intro M_35 out h
    obtain ⟨M_36, hM_36, h⟩ := xl_ex h
    refine s_M_plant [(129, .aload_n 0, 0, 0), (130, .aload_n 0, 0, 0), (131, .getfield 322, 10, 15), (134, .putfield 27, 10, 13), (137, .aload_n 0, 0, 0), (138, .getfield 322, 10, 15)] (by decide +kernel) (z' := (141, [(0, (vR 10 l0))], [(vI (M_36 l0 15))], R, M_36, 174)) (cs := []) (by subst hM_36; rfl) trivial (Nat.le_refl _) ?_
    rcases xif_ex h with ⟨c_37, h⟩ | ⟨c_37, h⟩
    · skip
      refine s_M_plant [(141, .ifCond .le 10, 0, (-1)), (144, .aload_n 0, 0, 0), (145, .bipush 9, 0, 9)] (by decide +kernel) (z' := (147, [(0, (vR 10 l0))], [(vI 9), (vR 10 l0)], R, M_36, 174)) (cs := [¬ (M_36 l0 15 ≤ 0)]) (by rfl) ⟨Int.not_le.mpr c_37, trivial⟩ (Nat.le_refl _) ?_
      obtain ⟨r_38, M_39, e_40, h⟩ := xb2_ex h
      refine XR.callV 10 rfl (rest := []) m_M_refuse k_10_377 10 l0 (Or.inl ⟨by decide, rfl⟩) [(vI 9)] rfl rfl (c_M_refuse e_40) (by decide) (Nat.le_of_ble_eq_true rfl) (by decide +kernel) (Nat.le_refl _) (Nat.le_refl _) ?_
      show XR false 8 174 sc y_M_plant (150, [(0, (vR 10 l0))], [(vI r_38)], R, M_39, 174) _
      obtain rfl := Option.some.inj h
      exact XR.retI .int rfl rfl (by decide +kernel)
    · skip
      obtain ⟨M_41, hM_41, h⟩ := xl_ex h
      obtain ⟨M_42, hM_42, h⟩ := xl_ex h
      refine s_M_plant [(141, .ifCond .le 10, 0, 151), (151, .aload_n 0, 0, 0), (152, .aload_n 0, 0, 0), (153, .getfield 345, 10, 28), (156, .putfield 393, 10, 30), (159, .aload_n 0, 0, 0), (160, .aload_n 0, 0, 0), (161, .getfield 348, 10, 29), (164, .putfield 396, 10, 31), (167, .iconst 0, 0, 0), (168, .istore_n 3, 0, 0)] (by decide +kernel) (z' := (169, [(3, (vI 0)), (0, (vR 10 l0))], [], R, M_42, 174)) (cs := [M_36 l0 15 ≤ 0]) (by subst hM_41; subst hM_42; rfl) ⟨Int.not_lt.mp c_37, trivial⟩ (Nat.le_refl _) ?_
      refine XR.pick [1, 0] (ls' := [(0, (vR 10 l0)), (3, (vI 0))]) rfl ?_
      refine o_M_plant_F169 ?_ xfu 0 M_42 _ h
      · intro M_47 out h
        refine s_M_plant [(193, .iconst 0, 0, 0), (194, .istore_n 3, 0, 0)] (by decide +kernel) (z' := (195, [(3, (vI 0)), (0, (vR 10 l0))], [], R, M_47, 174)) (cs := []) (by rfl) trivial (Nat.le_refl _) ?_
        refine XR.pick [1, 0] (ls' := [(0, (vR 10 l0)), (3, (vI 0))]) rfl ?_
        refine o_M_plant_F195 ?_ xfu 0 M_47 _ h
        · intro M_52 out h
          refine s_M_plant [(218, .iconst 0, 0, 0), (219, .istore_n 3, 0, 0)] (by decide +kernel) (z' := (220, [(3, (vI 0)), (0, (vR 10 l0))], [], R, M_52, 174)) (cs := []) (by rfl) trivial (Nat.le_refl _) ?_
          refine XR.pick [1, 0] (ls' := [(0, (vR 10 l0)), (3, (vI 0))]) rfl ?_
          refine o_M_plant_F220 ?_ xfu 0 M_52 _ h
          · intro M_74 out h
            obtain ⟨M_75, hM_75, h⟩ := xl_ex h
            obtain ⟨M_76, hM_76, h⟩ := xl_ex h
            refine s_M_plant [(391, .aload_n 0, 0, 0), (392, .iconst 0, 0, 0), (393, .putfield 399, 10, 59), (396, .aload_n 0, 0, 0), (397, .iconst 0, 0, 0), (398, .putfield 402, 10, 60), (401, .aload_n 0, 0, 0), (402, .aload_n 0, 0, 0), (403, .getfield 393, 10, 30)] (by decide +kernel) (z' := (406, [(0, (vR 10 l0))], [(vI (M_76 l0 30)), (vR 10 l0)], R, M_76, 174)) (cs := []) (by subst hM_75; subst hM_76; rfl) trivial (Nat.le_refl _) ?_
            obtain ⟨r_77, M_78, e_79, h⟩ := xb2_ex h
            refine XR.callV 10 rfl (rest := []) m_M_gives k_10_405 10 l0 (Or.inl ⟨by decide, rfl⟩) [(vI (M_76 l0 30))] rfl rfl (c_M_gives e_79) (by decide) (Nat.le_of_ble_eq_true rfl) (by decide +kernel) (Nat.le_refl _) (Nat.le_refl _) ?_
            show XR false 8 174 sc y_M_plant (409, [(0, (vR 10 l0))], [(vI r_77)], R, M_78, 174) _
            obtain rfl := Option.some.inj h
            exact XR.retI .int rfl rfl (by decide +kernel)
set_option maxRecDepth 100000 in
set_option maxHeartbeats 4000000 in
theorem o_M_plant {sc : List Int} {R : xR} {M : xM} {l0 : Nat} {l1 : Int} {out : Int × xM} (h : f_M_plant R l0 l1 M = some out) : XR false 8 174 sc y_M_plant (0, [(0, (vR 10 l0)), (1, (vI l1))], [], R, M, 174) ((some (vI out.1)), R, out.2) := by
  unfold f_M_plant at h
  refine s_M_plant [(0, .iload_n 1, 0, 0)] (by decide +kernel) (z' := (1, [(0, (vR 10 l0)), (1, (vI l1))], [(vI l1)], R, M, 174)) (cs := []) (by rfl) trivial (Nat.le_refl _) ?_
  rcases xif_ex h with ⟨c_1, h⟩ | ⟨c_1, h⟩
  · skip
    refine s_M_plant [(1, .ifCond .lt 11, 0, 12), (12, .aload_n 0, 0, 0), (13, .iconst 1, 0, 1)] (by decide +kernel) (z' := (14, [(0, (vR 10 l0)), (1, (vI l1))], [(vI 1), (vR 10 l0)], R, M, 174)) (cs := [l1 < 0]) (by rfl) ⟨c_1, trivial⟩ (Nat.le_refl _) ?_
    obtain ⟨r_2, M_3, e_4, h⟩ := xb2_ex h
    refine XR.callV 10 rfl (rest := []) m_M_refuse k_10_377 10 l0 (Or.inl ⟨by decide, rfl⟩) [(vI 1)] rfl rfl (c_M_refuse e_4) (by decide) (Nat.le_of_ble_eq_true rfl) (by decide +kernel) (Nat.le_refl _) (Nat.le_refl _) ?_
    show XR false 8 174 sc y_M_plant (17, [(0, (vR 10 l0)), (1, (vI l1))], [(vI r_2)], R, M_3, 174) _
    obtain rfl := Option.some.inj h
    exact XR.retI .int rfl rfl (by decide +kernel)
  · skip
    refine s_M_plant [(1, .ifCond .lt 11, 0, (-1)), (4, .iload_n 1, 0, 0), (5, .aload_n 0, 0, 0), (6, .getfield 267, 10, 6)] (by decide +kernel) (z' := (9, [(0, (vR 10 l0)), (1, (vI l1))], [(vI (M l0 6)), (vI l1)], R, M, 174)) (cs := [¬ (l1 < 0)]) (by rfl) ⟨c_1, trivial⟩ (Nat.le_refl _) ?_
    rcases xif_ex h with ⟨c_5, h⟩ | ⟨c_5, h⟩
    · skip
      refine s_M_plant [(9, .if_icmp .le 9, 0, (-1)), (12, .aload_n 0, 0, 0), (13, .iconst 1, 0, 1)] (by decide +kernel) (z' := (14, [(0, (vR 10 l0)), (1, (vI l1))], [(vI 1), (vR 10 l0)], R, M, 174)) (cs := [¬ (l1 ≤ M l0 6)]) (by rfl) ⟨Int.not_le.mpr c_5, trivial⟩ (Nat.le_refl _) ?_
      obtain ⟨r_6, M_7, e_8, h⟩ := xb2_ex h
      refine XR.callV 10 rfl (rest := []) m_M_refuse k_10_377 10 l0 (Or.inl ⟨by decide, rfl⟩) [(vI 1)] rfl rfl (c_M_refuse e_8) (by decide) (Nat.le_of_ble_eq_true rfl) (by decide +kernel) (Nat.le_refl _) (Nat.le_refl _) ?_
      show XR false 8 174 sc y_M_plant (17, [(0, (vR 10 l0)), (1, (vI l1))], [(vI r_6)], R, M_7, 174) _
      obtain rfl := Option.some.inj h
      exact XR.retI .int rfl rfl (by decide +kernel)
    · skip
      refine s_M_plant [(9, .if_icmp .le 9, 0, 18), (18, .aload_n 0, 0, 0), (19, .iload_n 1, 0, 0), (20, .iconst 0, 0, 0)] (by decide +kernel) (z' := (21, [(0, (vR 10 l0)), (1, (vI l1))], [(vI 0), (vI l1), (vR 10 l0)], R, M, 174)) (cs := [l1 ≤ M l0 6]) (by rfl) ⟨Int.not_lt.mp c_5, trivial⟩ (Nat.le_refl _) ?_
      obtain ⟨M_9, e_10, h⟩ := xb1_ex h
      refine XR.callV 10 rfl (rest := []) m_M_begin k_10_380 10 l0 (Or.inl ⟨by decide, rfl⟩) [(vI l1), (vI 0)] rfl rfl (c_M_begin e_10) (by decide) (Nat.le_of_ble_eq_true rfl) (by decide +kernel) (Nat.le_refl _) (Nat.le_refl _) ?_
      show XR false 8 174 sc y_M_plant (24, [(0, (vR 10 l0)), (1, (vI l1))], [], R, M_9, 174) _
      obtain ⟨M_11, hM_11, h⟩ := xl_ex h
      obtain ⟨M_12, hM_12, h⟩ := xl_ex h
      refine s_M_plant [(24, .aload_n 0, 0, 0), (25, .iconst 0, 0, 0), (26, .putfield 345, 10, 28), (29, .aload_n 0, 0, 0), (30, .iconst 0, 0, 0), (31, .putfield 348, 10, 29), (34, .aload_n 0, 0, 0), (35, .getfield 290, 10, 8)] (by decide +kernel) (z' := (38, [(0, (vR 10 l0)), (1, (vI l1))], [(vI (M_12 l0 8))], R, M_12, 174)) (cs := []) (by subst hM_11; subst hM_12; rfl) trivial (Nat.le_refl _) ?_
      rcases xif_ex h with ⟨c_13, h⟩ | ⟨c_13, h⟩
      · skip
        refine s_M_plant [(38, .ifCond .eq 7, 0, 45), (45, .iconst 0, 0, 0)] (by decide +kernel) (z' := (46, [(0, (vR 10 l0)), (1, (vI l1))], [(vI 0)], R, M_12, 174)) (cs := [M_12 l0 8 = 0]) (by rfl) ⟨c_13, trivial⟩ (Nat.le_refl _) ?_
        refine XR.pick [0] (ls' := [(0, (vR 10 l0))]) rfl ?_
        exact o_M_plant_J46  h
      · skip
        refine s_M_plant [(38, .ifCond .eq 7, 0, (-1)), (41, .iconst 1, 0, 1), (42, .goto 4, 0, 46)] (by decide +kernel) (z' := (46, [(0, (vR 10 l0)), (1, (vI l1))], [(vI 1)], R, M_12, 174)) (cs := [¬ (M_12 l0 8 = 0)]) (by rfl) ⟨c_13, trivial⟩ (Nat.le_refl _) ?_
        refine XR.pick [0] (ls' := [(0, (vR 10 l0))]) rfl ?_
        exact o_M_plant_J46  h
set_option maxRecDepth 100000 in
set_option maxHeartbeats 4000000 in
theorem c_M_plant {sc : List Int} {R : xR} {M : xM} {l0 : Nat} {l1 : Int} {out : Int × xM} (h : f_M_plant R l0 l1 M = some out) : XC false 8 sc y_M_plant [(vR 10 l0), (vI l1)] R M 174 174 ((some (vI out.1)), R, out.2) := XC.of (by decide) (Nat.le_of_ble_eq_true rfl) (Nat.le_refl _) (Nat.le_refl _) (o_M_plant h)
