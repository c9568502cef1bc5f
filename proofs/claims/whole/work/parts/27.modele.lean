def f_M_broken (R : xR) (l0 : Nat) (l1 : Int) (l2 : Int) (M : xM) : Option (Int × xM) :=
  if l1 < 0 then
    xb2 (f_M_refuse l0 1 M) fun r_2 M_3 =>
    some (r_2, M_3)
  else
    if l1 < M l0 40 then
      xb1 (f_M_isHour l2) fun r_6 =>
      if r_6 = 0 then
        xb2 (f_M_refuse l0 1 M) fun r_9 M_10 =>
        some (r_9, M_10)
      else
        xb1 (f_M_steps R l0 l2 M) fun M_12 =>
        xb2 (f_M_breaks R l0 l1 l2 M_12) fun r_14 M_15 =>
        if r_14 = 0 then
          xb2 (f_M_gives l0 0 M_15) fun r_18 M_19 =>
          some (r_18, M_19)
        else
          xb2 (f_M_gives l0 1 M_15) fun r_21 M_22 =>
          some (r_21, M_22)
    else
      xb2 (f_M_refuse l0 1 M) fun r_24 M_25 =>
      some (r_24, M_25)
set_option maxRecDepth 100000 in
set_option maxHeartbeats 4000000 in
theorem s_M_broken {d : Nat} {sc : List Int} {z z' : xS} {out : xO} (qs : List xI) {cs : List Prop} (hq : qs.all (xqb 10 false y_M_broken.2.2.1 y_M_broken.2.1) = true) (h : xN false sc qs z = some (z', cs)) (hc : xAll cs) (hE : z'.2.2.2.2.2 ≤ 174) (k : XR false d 174 sc y_M_broken z' out) : XR false d 174 sc y_M_broken z out := XR.seg 10 false rfl (fun q => by cases q) qs hq h hc hE k
set_option maxRecDepth 100000 in
set_option maxHeartbeats 4000000 in
theorem o_M_broken {sc : List Int} {R : xR} {M : xM} {l0 : Nat} {l1 : Int} {l2 : Int} {out : Int × xM} (h : f_M_broken R l0 l1 l2 M = some out) : XR false 4 174 sc y_M_broken (0, [(0, (vR 10 l0)), (1, (vI l1)), (2, (vI l2))], [], R, M, 174) ((some (vI out.1)), R, out.2) := by
  unfold f_M_broken at h
  refine s_M_broken [(0, .iload_n 1, 0, 0)] (by decide +kernel) (z' := (1, [(0, (vR 10 l0)), (1, (vI l1)), (2, (vI l2))], [(vI l1)], R, M, 174)) (cs := []) (by rfl) trivial (Nat.le_refl _) ?_
  rcases xif_ex h with ⟨c_1, h⟩ | ⟨c_1, h⟩
  · skip
    refine s_M_broken [(1, .ifCond .lt 18, 0, 19), (19, .aload_n 0, 0, 0), (20, .iconst 1, 0, 1)] (by decide +kernel) (z' := (21, [(0, (vR 10 l0)), (1, (vI l1)), (2, (vI l2))], [(vI 1), (vR 10 l0)], R, M, 174)) (cs := [l1 < 0]) (by rfl) ⟨c_1, trivial⟩ (Nat.le_refl _) ?_
    obtain ⟨r_2, M_3, e_4, h⟩ := xb2_ex h
    refine XR.callV 10 rfl (rest := []) m_M_refuse k_10_377 10 l0 (Or.inl ⟨by decide, rfl⟩) [(vI 1)] rfl rfl (c_M_refuse e_4) (by decide) (Nat.le_of_ble_eq_true rfl) (by decide +kernel) (Nat.le_refl _) (Nat.le_refl _) ?_
    show XR false 4 174 sc y_M_broken (24, [(0, (vR 10 l0)), (1, (vI l1)), (2, (vI l2))], [(vI r_2)], R, M_3, 174) _
    obtain rfl := Option.some.inj h
    exact XR.retI .int rfl rfl (by decide +kernel)
  · skip
    refine s_M_broken [(1, .ifCond .lt 18, 0, (-1)), (4, .iload_n 1, 0, 0), (5, .aload_n 0, 0, 0), (6, .getfield 424, 10, 40)] (by decide +kernel) (z' := (9, [(0, (vR 10 l0)), (1, (vI l1)), (2, (vI l2))], [(vI (M l0 40)), (vI l1)], R, M, 174)) (cs := [¬ (l1 < 0)]) (by rfl) ⟨c_1, trivial⟩ (Nat.le_refl _) ?_
    rcases xif_ex h with ⟨c_5, h⟩ | ⟨c_5, h⟩
    · skip
      refine s_M_broken [(9, .if_icmp .ge 10, 0, (-1)), (12, .iload_n 2, 0, 0)] (by decide +kernel) (z' := (13, [(0, (vR 10 l0)), (1, (vI l1)), (2, (vI l2))], [(vI l2)], R, M, 174)) (cs := [¬ (M l0 40 ≤ l1)]) (by rfl) ⟨Int.not_le.mpr c_5, trivial⟩ (Nat.le_refl _) ?_
      obtain ⟨r_6, e_7, h⟩ := xb1_ex h
      refine XR.callS 10 rfl (rest := []) m_M_isHour k_10_436 [(vI l2)] rfl rfl (c_M_isHour e_7) (by decide) (Nat.le_of_ble_eq_true rfl) (by decide +kernel) (Nat.le_refl _) (Nat.le_refl _) ?_
      show XR false 4 174 sc y_M_broken (16, [(0, (vR 10 l0)), (1, (vI l1)), (2, (vI l2))], [(vI r_6)], R, M, 174) _
      rcases xif_ex h with ⟨c_8, h⟩ | ⟨c_8, h⟩
      · skip
        refine s_M_broken [(16, .ifCond .ne 9, 0, (-1)), (19, .aload_n 0, 0, 0), (20, .iconst 1, 0, 1)] (by decide +kernel) (z' := (21, [(0, (vR 10 l0)), (1, (vI l1)), (2, (vI l2))], [(vI 1), (vR 10 l0)], R, M, 174)) (cs := [¬ (r_6 ≠ 0)]) (by rfl) ⟨fun q => q c_8, trivial⟩ (Nat.le_refl _) ?_
        obtain ⟨r_9, M_10, e_11, h⟩ := xb2_ex h
        refine XR.callV 10 rfl (rest := []) m_M_refuse k_10_377 10 l0 (Or.inl ⟨by decide, rfl⟩) [(vI 1)] rfl rfl (c_M_refuse e_11) (by decide) (Nat.le_of_ble_eq_true rfl) (by decide +kernel) (Nat.le_refl _) (Nat.le_refl _) ?_
        show XR false 4 174 sc y_M_broken (24, [(0, (vR 10 l0)), (1, (vI l1)), (2, (vI l2))], [(vI r_9)], R, M_10, 174) _
        obtain rfl := Option.some.inj h
        exact XR.retI .int rfl rfl (by decide +kernel)
      · skip
        refine s_M_broken [(16, .ifCond .ne 9, 0, 25), (25, .aload_n 0, 0, 0), (26, .iload_n 2, 0, 0)] (by decide +kernel) (z' := (27, [(0, (vR 10 l0)), (1, (vI l1)), (2, (vI l2))], [(vI l2), (vR 10 l0)], R, M, 174)) (cs := [r_6 ≠ 0]) (by rfl) ⟨c_8, trivial⟩ (Nat.le_refl _) ?_
        obtain ⟨M_12, e_13, h⟩ := xb1_ex h
        refine XR.callV 10 rfl (rest := []) m_M_steps k_10_498 10 l0 (Or.inl ⟨by decide, rfl⟩) [(vI l2)] rfl rfl (c_M_steps e_13) (by decide) (Nat.le_of_ble_eq_true rfl) (by decide +kernel) (Nat.le_refl _) (Nat.le_refl _) ?_
        show XR false 4 174 sc y_M_broken (30, [(0, (vR 10 l0)), (1, (vI l1)), (2, (vI l2))], [], R, M_12, 174) _
        refine s_M_broken [(30, .aload_n 0, 0, 0), (31, .aload_n 0, 0, 0), (32, .iload_n 1, 0, 0), (33, .iload_n 2, 0, 0)] (by decide +kernel) (z' := (34, [(0, (vR 10 l0)), (1, (vI l1)), (2, (vI l2))], [(vI l2), (vI l1), (vR 10 l0), (vR 10 l0)], R, M_12, 174)) (cs := []) (by rfl) trivial (Nat.le_refl _) ?_
        obtain ⟨r_14, M_15, e_16, h⟩ := xb2_ex h
        refine XR.callV 10 rfl (rest := [(vR 10 l0)]) m_M_breaks k_10_508 10 l0 (Or.inl ⟨by decide, rfl⟩) [(vI l1), (vI l2)] rfl rfl (c_M_breaks e_16) (by decide) (Nat.le_of_ble_eq_true rfl) (by decide +kernel) (Nat.le_refl _) (Nat.le_refl _) ?_
        show XR false 4 174 sc y_M_broken (37, [(0, (vR 10 l0)), (1, (vI l1)), (2, (vI l2))], [(vI r_14), (vR 10 l0)], R, M_15, 174) _
        rcases xif_ex h with ⟨c_17, h⟩ | ⟨c_17, h⟩
        · skip
          refine s_M_broken [(37, .ifCond .eq 7, 0, 44), (44, .iconst 0, 0, 0)] (by decide +kernel) (z' := (45, [(0, (vR 10 l0)), (1, (vI l1)), (2, (vI l2))], [(vI 0), (vR 10 l0)], R, M_15, 174)) (cs := [r_14 = 0]) (by rfl) ⟨c_17, trivial⟩ (Nat.le_refl _) ?_
          obtain ⟨r_18, M_19, e_20, h⟩ := xb2_ex h
          refine XR.callV 10 rfl (rest := []) m_M_gives k_10_405 10 l0 (Or.inl ⟨by decide, rfl⟩) [(vI 0)] rfl rfl (c_M_gives e_20) (by decide) (Nat.le_of_ble_eq_true rfl) (by decide +kernel) (Nat.le_refl _) (Nat.le_refl _) ?_
          show XR false 4 174 sc y_M_broken (48, [(0, (vR 10 l0)), (1, (vI l1)), (2, (vI l2))], [(vI r_18)], R, M_19, 174) _
          obtain rfl := Option.some.inj h
          exact XR.retI .int rfl rfl (by decide +kernel)
        · skip
          refine s_M_broken [(37, .ifCond .eq 7, 0, (-1)), (40, .iconst 1, 0, 1), (41, .goto 4, 0, 45)] (by decide +kernel) (z' := (45, [(0, (vR 10 l0)), (1, (vI l1)), (2, (vI l2))], [(vI 1), (vR 10 l0)], R, M_15, 174)) (cs := [¬ (r_14 = 0)]) (by rfl) ⟨c_17, trivial⟩ (Nat.le_refl _) ?_
          obtain ⟨r_21, M_22, e_23, h⟩ := xb2_ex h
          refine XR.callV 10 rfl (rest := []) m_M_gives k_10_405 10 l0 (Or.inl ⟨by decide, rfl⟩) [(vI 1)] rfl rfl (c_M_gives e_23) (by decide) (Nat.le_of_ble_eq_true rfl) (by decide +kernel) (Nat.le_refl _) (Nat.le_refl _) ?_
          show XR false 4 174 sc y_M_broken (48, [(0, (vR 10 l0)), (1, (vI l1)), (2, (vI l2))], [(vI r_21)], R, M_22, 174) _
          obtain rfl := Option.some.inj h
          exact XR.retI .int rfl rfl (by decide +kernel)
    · skip
      refine s_M_broken [(9, .if_icmp .ge 10, 0, 19), (19, .aload_n 0, 0, 0), (20, .iconst 1, 0, 1)] (by decide +kernel) (z' := (21, [(0, (vR 10 l0)), (1, (vI l1)), (2, (vI l2))], [(vI 1), (vR 10 l0)], R, M, 174)) (cs := [M l0 40 ≤ l1]) (by rfl) ⟨Int.not_lt.mp c_5, trivial⟩ (Nat.le_refl _) ?_
      obtain ⟨r_24, M_25, e_26, h⟩ := xb2_ex h
      refine XR.callV 10 rfl (rest := []) m_M_refuse k_10_377 10 l0 (Or.inl ⟨by decide, rfl⟩) [(vI 1)] rfl rfl (c_M_refuse e_26) (by decide) (Nat.le_of_ble_eq_true rfl) (by decide +kernel) (Nat.le_refl _) (Nat.le_refl _) ?_
      show XR false 4 174 sc y_M_broken (24, [(0, (vR 10 l0)), (1, (vI l1)), (2, (vI l2))], [(vI r_24)], R, M_25, 174) _
      obtain rfl := Option.some.inj h
      exact XR.retI .int rfl rfl (by decide +kernel)
set_option maxRecDepth 100000 in
set_option maxHeartbeats 4000000 in
theorem c_M_broken {sc : List Int} {R : xR} {M : xM} {l0 : Nat} {l1 : Int} {l2 : Int} {out : Int × xM} (h : f_M_broken R l0 l1 l2 M = some out) : XC false 4 sc y_M_broken [(vR 10 l0), (vI l1), (vI l2)] R M 174 174 ((some (vI out.1)), R, out.2) := XC.of (by decide) (Nat.le_of_ble_eq_true rfl) (Nat.le_refl _) (Nat.le_refl _) (o_M_broken h)
def f_M_cleaner (R : xR) (l0 : Nat) (l1 : Int) (l2 : Int) (M : xM) : Option (Int × xM) :=
  xb1 (f_M_isCleaner l0 l1 M) fun r_1 =>
  if r_1 = 0 then
    xb2 (f_M_refuse l0 1 M) fun r_4 M_5 =>
    some (r_4, M_5)
  else
    if l2 < 0 then
      xb2 (f_M_refuse l0 1 M) fun r_8 M_9 =>
      some (r_8, M_9)
    else
      if 5 < l2 then
        xb2 (f_M_refuse l0 1 M) fun r_12 M_13 =>
        some (r_12, M_13)
      else
        if l2 = 0 then
          xch (0 ≤ l1 ∧ l1 < 8) <|
          xb2 (f_M_gives l0 (M (R l0 32) (Int.toNat l1)) M) fun r_17 M_18 =>
          some (r_17, M_18)
        else
          if l2 = 1 then
            xch (0 ≤ l1 ∧ l1 < 8) <|
            xb2 (f_M_gives l0 (M (R l0 36) (Int.toNat l1)) M) fun r_22 M_23 =>
            some (r_22, M_23)
          else
            xch (0 ≤ w32 ((w32 ((w32 (4 * l1)) + l2)) - 2) ∧ w32 ((w32 ((w32 (4 * l1)) + l2)) - 2) < 32) <|
            xb2 (f_M_gives l0 (M (R l0 33) (Int.toNat (w32 ((w32 ((w32 (4 * l1)) + l2)) - 2)))) M) fun r_26 M_27 =>
            some (r_26, M_27)
set_option maxRecDepth 100000 in
set_option maxHeartbeats 4000000 in
theorem s_M_cleaner {d : Nat} {sc : List Int} {z z' : xS} {out : xO} (qs : List xI) {cs : List Prop} (hq : qs.all (xqb 10 false y_M_cleaner.2.2.1 y_M_cleaner.2.1) = true) (h : xN false sc qs z = some (z', cs)) (hc : xAll cs) (hE : z'.2.2.2.2.2 ≤ 174) (k : XR false d 174 sc y_M_cleaner z' out) : XR false d 174 sc y_M_cleaner z out := XR.seg 10 false rfl (fun q => by cases q) qs hq h hc hE k
set_option maxRecDepth 100000 in
set_option maxHeartbeats 4000000 in
theorem o_M_cleaner {sc : List Int} {R : xR} {M : xM} {l0 : Nat} {l1 : Int} {l2 : Int} {out : Int × xM} (h : f_M_cleaner R l0 l1 l2 M = some out) : XR false 1 174 sc y_M_cleaner (0, [(0, (vR 10 l0)), (1, (vI l1)), (2, (vI l2))], [], R, M, 174) ((some (vI out.1)), R, out.2) := by
  unfold f_M_cleaner at h
  refine s_M_cleaner [(0, .aload_n 0, 0, 0), (1, .iload_n 1, 0, 0)] (by decide +kernel) (z' := (2, [(0, (vR 10 l0)), (1, (vI l1)), (2, (vI l2))], [(vI l1), (vR 10 l0)], R, M, 174)) (cs := []) (by rfl) trivial (Nat.le_refl _) ?_
  obtain ⟨r_1, e_2, h⟩ := xb1_ex h
  refine XR.callV 10 rfl (rest := []) m_M_isCleaner k_10_430 10 l0 (Or.inl ⟨by decide, rfl⟩) [(vI l1)] rfl rfl (c_M_isCleaner e_2) (by decide) (Nat.le_of_ble_eq_true rfl) (by decide +kernel) (Nat.le_refl _) (Nat.le_refl _) ?_
  show XR false 1 174 sc y_M_cleaner (5, [(0, (vR 10 l0)), (1, (vI l1)), (2, (vI l2))], [(vI r_1)], R, M, 174) _
  rcases xif_ex h with ⟨c_3, h⟩ | ⟨c_3, h⟩
  · skip
    refine s_M_cleaner [(5, .ifCond .eq 12, 0, 17), (17, .aload_n 0, 0, 0), (18, .iconst 1, 0, 1)] (by decide +kernel) (z' := (19, [(0, (vR 10 l0)), (1, (vI l1)), (2, (vI l2))], [(vI 1), (vR 10 l0)], R, M, 174)) (cs := [r_1 = 0]) (by rfl) ⟨c_3, trivial⟩ (Nat.le_refl _) ?_
    obtain ⟨r_4, M_5, e_6, h⟩ := xb2_ex h
    refine XR.callV 10 rfl (rest := []) m_M_refuse k_10_377 10 l0 (Or.inl ⟨by decide, rfl⟩) [(vI 1)] rfl rfl (c_M_refuse e_6) (by decide) (Nat.le_of_ble_eq_true rfl) (by decide +kernel) (Nat.le_refl _) (Nat.le_refl _) ?_
    show XR false 1 174 sc y_M_cleaner (22, [(0, (vR 10 l0)), (1, (vI l1)), (2, (vI l2))], [(vI r_4)], R, M_5, 174) _
    obtain rfl := Option.some.inj h
    exact XR.retI .int rfl rfl (by decide +kernel)
  · skip
    refine s_M_cleaner [(5, .ifCond .eq 12, 0, (-1)), (8, .iload_n 2, 0, 0)] (by decide +kernel) (z' := (9, [(0, (vR 10 l0)), (1, (vI l1)), (2, (vI l2))], [(vI l2)], R, M, 174)) (cs := [¬ (r_1 = 0)]) (by rfl) ⟨c_3, trivial⟩ (Nat.le_refl _) ?_
    rcases xif_ex h with ⟨c_7, h⟩ | ⟨c_7, h⟩
    · skip
      refine s_M_cleaner [(9, .ifCond .lt 8, 0, 17), (17, .aload_n 0, 0, 0), (18, .iconst 1, 0, 1)] (by decide +kernel) (z' := (19, [(0, (vR 10 l0)), (1, (vI l1)), (2, (vI l2))], [(vI 1), (vR 10 l0)], R, M, 174)) (cs := [l2 < 0]) (by rfl) ⟨c_7, trivial⟩ (Nat.le_refl _) ?_
      obtain ⟨r_8, M_9, e_10, h⟩ := xb2_ex h
      refine XR.callV 10 rfl (rest := []) m_M_refuse k_10_377 10 l0 (Or.inl ⟨by decide, rfl⟩) [(vI 1)] rfl rfl (c_M_refuse e_10) (by decide) (Nat.le_of_ble_eq_true rfl) (by decide +kernel) (Nat.le_refl _) (Nat.le_refl _) ?_
      show XR false 1 174 sc y_M_cleaner (22, [(0, (vR 10 l0)), (1, (vI l1)), (2, (vI l2))], [(vI r_8)], R, M_9, 174) _
      obtain rfl := Option.some.inj h
      exact XR.retI .int rfl rfl (by decide +kernel)
    · skip
      refine s_M_cleaner [(9, .ifCond .lt 8, 0, (-1)), (12, .iload_n 2, 0, 0), (13, .iconst 5, 0, 5)] (by decide +kernel) (z' := (14, [(0, (vR 10 l0)), (1, (vI l1)), (2, (vI l2))], [(vI 5), (vI l2)], R, M, 174)) (cs := [¬ (l2 < 0)]) (by rfl) ⟨c_7, trivial⟩ (Nat.le_refl _) ?_
      rcases xif_ex h with ⟨c_11, h⟩ | ⟨c_11, h⟩
      · skip
        refine s_M_cleaner [(14, .if_icmp .le 9, 0, (-1)), (17, .aload_n 0, 0, 0), (18, .iconst 1, 0, 1)] (by decide +kernel) (z' := (19, [(0, (vR 10 l0)), (1, (vI l1)), (2, (vI l2))], [(vI 1), (vR 10 l0)], R, M, 174)) (cs := [¬ (l2 ≤ 5)]) (by rfl) ⟨Int.not_le.mpr c_11, trivial⟩ (Nat.le_refl _) ?_
        obtain ⟨r_12, M_13, e_14, h⟩ := xb2_ex h
        refine XR.callV 10 rfl (rest := []) m_M_refuse k_10_377 10 l0 (Or.inl ⟨by decide, rfl⟩) [(vI 1)] rfl rfl (c_M_refuse e_14) (by decide) (Nat.le_of_ble_eq_true rfl) (by decide +kernel) (Nat.le_refl _) (Nat.le_refl _) ?_
        show XR false 1 174 sc y_M_cleaner (22, [(0, (vR 10 l0)), (1, (vI l1)), (2, (vI l2))], [(vI r_12)], R, M_13, 174) _
        obtain rfl := Option.some.inj h
        exact XR.retI .int rfl rfl (by decide +kernel)
      · skip
        refine s_M_cleaner [(14, .if_icmp .le 9, 0, 23), (23, .aload_n 0, 0, 0), (24, .iload_n 2, 0, 0)] (by decide +kernel) (z' := (25, [(0, (vR 10 l0)), (1, (vI l1)), (2, (vI l2))], [(vI l2), (vR 10 l0)], R, M, 174)) (cs := [l2 ≤ 5]) (by rfl) ⟨Int.not_lt.mp c_11, trivial⟩ (Nat.le_refl _) ?_
        rcases xif_ex h with ⟨c_15, h⟩ | ⟨c_15, h⟩
        · skip
          obtain ⟨c_16, h⟩ := xch_ex h
          refine s_M_cleaner [(25, .ifCond .ne 12, 0, (-1)), (28, .aload_n 0, 0, 0), (29, .getfield 67, 10, 32), (32, .iload_n 1, 0, 0), (33, .iaload, 0, 0), (34, .goto 29, 0, 63)] (by decide +kernel) (z' := (63, [(0, (vR 10 l0)), (1, (vI l1)), (2, (vI l2))], [(vI (M (R l0 32) (Int.toNat l1))), (vR 10 l0)], R, M, 174)) (cs := [¬ (l2 ≠ 0), xar 30 0, xidx l1 (xan 30)]) (by rfl) ⟨fun q => q c_15, xar_30, xix_30 c_16, trivial⟩ (Nat.le_refl _) ?_
          obtain ⟨r_17, M_18, e_19, h⟩ := xb2_ex h
          refine XR.callV 10 rfl (rest := []) m_M_gives k_10_405 10 l0 (Or.inl ⟨by decide, rfl⟩) [(vI (M (R l0 32) (Int.toNat l1)))] rfl rfl (c_M_gives e_19) (by decide) (Nat.le_of_ble_eq_true rfl) (by decide +kernel) (Nat.le_refl _) (Nat.le_refl _) ?_
          show XR false 1 174 sc y_M_cleaner (66, [(0, (vR 10 l0)), (1, (vI l1)), (2, (vI l2))], [(vI r_17)], R, M_18, 174) _
          obtain rfl := Option.some.inj h
          exact XR.retI .int rfl rfl (by decide +kernel)
        · skip
          refine s_M_cleaner [(25, .ifCond .ne 12, 0, 37), (37, .iload_n 2, 0, 0), (38, .iconst 1, 0, 1)] (by decide +kernel) (z' := (39, [(0, (vR 10 l0)), (1, (vI l1)), (2, (vI l2))], [(vI 1), (vI l2), (vR 10 l0)], R, M, 174)) (cs := [l2 ≠ 0]) (by rfl) ⟨c_15, trivial⟩ (Nat.le_refl _) ?_
          rcases xif_ex h with ⟨c_20, h⟩ | ⟨c_20, h⟩
          · skip
            obtain ⟨c_21, h⟩ := xch_ex h
            refine s_M_cleaner [(39, .if_icmp .ne 12, 0, (-1)), (42, .aload_n 0, 0, 0), (43, .getfield 79, 10, 36), (46, .iload_n 1, 0, 0), (47, .iaload, 0, 0), (48, .goto 15, 0, 63)] (by decide +kernel) (z' := (63, [(0, (vR 10 l0)), (1, (vI l1)), (2, (vI l2))], [(vI (M (R l0 36) (Int.toNat l1))), (vR 10 l0)], R, M, 174)) (cs := [¬ (l2 ≠ 1), xar 30 0, xidx l1 (xan 30)]) (by rfl) ⟨fun q => q c_20, xar_30, xix_30 c_21, trivial⟩ (Nat.le_refl _) ?_
            obtain ⟨r_22, M_23, e_24, h⟩ := xb2_ex h
            refine XR.callV 10 rfl (rest := []) m_M_gives k_10_405 10 l0 (Or.inl ⟨by decide, rfl⟩) [(vI (M (R l0 36) (Int.toNat l1)))] rfl rfl (c_M_gives e_24) (by decide) (Nat.le_of_ble_eq_true rfl) (by decide +kernel) (Nat.le_refl _) (Nat.le_refl _) ?_
            show XR false 1 174 sc y_M_cleaner (66, [(0, (vR 10 l0)), (1, (vI l1)), (2, (vI l2))], [(vI r_22)], R, M_23, 174) _
            obtain rfl := Option.some.inj h
            exact XR.retI .int rfl rfl (by decide +kernel)
          · skip
            obtain ⟨c_25, h⟩ := xch_ex h
            refine s_M_cleaner [(39, .if_icmp .ne 12, 0, 51), (51, .aload_n 0, 0, 0), (52, .getfield 70, 10, 33), (55, .iconst 4, 0, 4), (56, .iload_n 1, 0, 0), (57, .imul, 0, 0), (58, .iload_n 2, 0, 0), (59, .iadd, 0, 0), (60, .iconst 2, 0, 2), (61, .isub, 0, 0), (62, .iaload, 0, 0)] (by decide +kernel) (z' := (63, [(0, (vR 10 l0)), (1, (vI l1)), (2, (vI l2))], [(vI (M (R l0 33) (Int.toNat (w32 ((w32 ((w32 (4 * l1)) + l2)) - 2))))), (vR 10 l0)], R, M, 174)) (cs := [l2 ≠ 1, xar 27 0, xidx (w32 ((w32 ((w32 (4 * l1)) + l2)) - 2)) (xan 27)]) (by rfl) ⟨c_20, xar_27, xix_27 c_25, trivial⟩ (Nat.le_refl _) ?_
            obtain ⟨r_26, M_27, e_28, h⟩ := xb2_ex h
            refine XR.callV 10 rfl (rest := []) m_M_gives k_10_405 10 l0 (Or.inl ⟨by decide, rfl⟩) [(vI (M (R l0 33) (Int.toNat (w32 ((w32 ((w32 (4 * l1)) + l2)) - 2)))))] rfl rfl (c_M_gives e_28) (by decide) (Nat.le_of_ble_eq_true rfl) (by decide +kernel) (Nat.le_refl _) (Nat.le_refl _) ?_
            show XR false 1 174 sc y_M_cleaner (66, [(0, (vR 10 l0)), (1, (vI l1)), (2, (vI l2))], [(vI r_26)], R, M_27, 174) _
            obtain rfl := Option.some.inj h
            exact XR.retI .int rfl rfl (by decide +kernel)
set_option maxRecDepth 100000 in
set_option maxHeartbeats 4000000 in
theorem c_M_cleaner {sc : List Int} {R : xR} {M : xM} {l0 : Nat} {l1 : Int} {l2 : Int} {out : Int × xM} (h : f_M_cleaner R l0 l1 l2 M = some out) : XC false 1 sc y_M_cleaner [(vR 10 l0), (vI l1), (vI l2)] R M 174 174 ((some (vI out.1)), R, out.2) := XC.of (by decide) (Nat.le_of_ble_eq_true rfl) (Nat.le_refl _) (Nat.le_refl _) (o_M_cleaner h)
def M_cleanerOf_F2 (R : xR) (M : xM) (l0 : Nat) (l1 : Int) : Nat → Int → Option Int
  | 0, _ => none
  | n + 1, v3 =>
    if v3 < M l0 28 then
      xch (0 ≤ v3 ∧ v3 < 8) <|
      if M (R l0 17) (Int.toNat v3) = l1 then
        some (v3)
      else
        xl (w32 (v3 + 1)) fun v3_4 =>
        M_cleanerOf_F2 R M l0 l1  n v3_4
    else
      some (-1)
def f_M_cleanerOf (R : xR) (l0 : Nat) (l1 : Int) (M : xM) : Option Int :=
  M_cleanerOf_F2 R M l0 l1
    xfu 0
set_option maxRecDepth 100000 in
set_option maxHeartbeats 4000000 in
theorem s_M_cleanerOf {d : Nat} {sc : List Int} {z z' : xS} {out : xO} (qs : List xI) {cs : List Prop} (hq : qs.all (xqb 10 false y_M_cleanerOf.2.2.1 y_M_cleanerOf.2.1) = true) (h : xN false sc qs z = some (z', cs)) (hc : xAll cs) (hE : z'.2.2.2.2.2 ≤ 174) (k : XR false d 174 sc y_M_cleanerOf z' out) : XR false d 174 sc y_M_cleanerOf z out := XR.seg 10 false rfl (fun q => by cases q) qs hq h hc hE k
set_option maxRecDepth 100000 in
set_option maxHeartbeats 4000000 in
theorem o_M_cleanerOf_F2 {sc : List Int} {R : xR} {M : xM}  {l0 : Nat} {l1 : Int}  : ∀ (n : Nat) (v3 : Int) (out : Int), M_cleanerOf_F2 R M l0 l1  n v3 = some out → XR false 0 174 sc y_M_cleanerOf (2, [(0, (vR 10 l0)), (1, (vL l1)), (3, (vI v3))], [], R, M, 174) ((some (vI out)), R, M) := by
  intro n
  induction n with
  | zero => intro v3 out h; exact (xno h).elim
  | succ n ih =>
    intro v3 out h
    rw [M_cleanerOf_F2] at h
    refine s_M_cleanerOf [(2, .iload_n 3, 0, 0), (3, .aload_n 0, 0, 0), (4, .getfield 345, 10, 28)] (by decide +kernel) (z' := (7, [(0, (vR 10 l0)), (1, (vL l1)), (3, (vI v3))], [(vI (M l0 28)), (vI v3)], R, M, 174)) (cs := []) (by rfl) trivial (Nat.le_refl _) ?_
    rcases xif_ex h with ⟨c_1, h⟩ | ⟨c_1, h⟩
    · skip
      obtain ⟨c_2, h⟩ := xch_ex h
      refine s_M_cleanerOf [(7, .if_icmp .ge 22, 0, (-1)), (10, .aload_n 0, 0, 0), (11, .getfield 34, 10, 17), (14, .iload_n 3, 0, 0), (15, .laload, 0, 0), (16, .lload_n 1, 0, 0), (17, .lcmp, 0, 0)] (by decide +kernel) (z' := (18, [(0, (vR 10 l0)), (1, (vL l1)), (3, (vI v3))], [(vI (xcmp (M (R l0 17) (Int.toNat v3)) l1))], R, M, 174)) (cs := [¬ (M l0 28 ≤ v3), xar 24 1, xidx v3 (xan 24)]) (by rfl) ⟨Int.not_le.mpr c_1, xar_24, xix_24 c_2, trivial⟩ (Nat.le_refl _) ?_
      rcases xif_ex h with ⟨c_3, h⟩ | ⟨c_3, h⟩
      · skip
        refine s_M_cleanerOf [(18, .ifCond .ne 5, 0, (-1)), (21, .iload_n 3, 0, 0)] (by decide +kernel) (z' := (22, [(0, (vR 10 l0)), (1, (vL l1)), (3, (vI v3))], [(vI v3)], R, M, 174)) (cs := [¬ (xcmp (M (R l0 17) (Int.toNat v3)) l1 ≠ 0)]) (by rfl) ⟨fun q => q (xcmp_eq.mpr c_3), trivial⟩ (Nat.le_refl _) ?_
        obtain rfl := Option.some.inj h
        exact XR.retI .int rfl rfl (by decide +kernel)
      · skip
        obtain ⟨v3_4, hv3_4, h⟩ := xl_ex h
        refine s_M_cleanerOf [(18, .ifCond .ne 5, 0, 23), (23, .iinc 3 1, 0, 0), (26, .goto (-24), 0, 2)] (by decide +kernel) (z' := (2, [(3, (vI v3_4)), (0, (vR 10 l0)), (1, (vL l1))], [], R, M, 174)) (cs := [xcmp (M (R l0 17) (Int.toNat v3)) l1 ≠ 0]) (by subst hv3_4; rfl) ⟨fun q => c_3 (xcmp_eq.mp q), trivial⟩ (Nat.le_refl _) ?_
        refine XR.pick [1, 2, 0] (ls' := [(0, (vR 10 l0)), (1, (vL l1)), (3, (vI v3_4))]) rfl ?_
        exact ih v3_4 _ h
    · skip
      refine s_M_cleanerOf [(7, .if_icmp .ge 22, 0, 29), (29, .iconst (-1), 0, (-1))] (by decide +kernel) (z' := (30, [(0, (vR 10 l0)), (1, (vL l1)), (3, (vI v3))], [(vI (-1))], R, M, 174)) (cs := [M l0 28 ≤ v3]) (by rfl) ⟨Int.not_lt.mp c_1, trivial⟩ (Nat.le_refl _) ?_
      obtain rfl := Option.some.inj h
      exact XR.retI .int rfl rfl (by decide +kernel)
set_option maxRecDepth 100000 in
set_option maxHeartbeats 4000000 in
theorem o_M_cleanerOf {sc : List Int} {R : xR} {M : xM} {l0 : Nat} {l1 : Int} {out : Int} (h : f_M_cleanerOf R l0 l1 M = some out) : XR false 0 174 sc y_M_cleanerOf (0, [(0, (vR 10 l0)), (1, (vL l1))], [], R, M, 174) ((some (vI out)), R, M) := by
  unfold f_M_cleanerOf at h
  refine s_M_cleanerOf [(0, .iconst 0, 0, 0), (1, .istore_n 3, 0, 0)] (by decide +kernel) (z' := (2, [(3, (vI 0)), (0, (vR 10 l0)), (1, (vL l1))], [], R, M, 174)) (cs := []) (by rfl) trivial (Nat.le_refl _) ?_
  refine XR.pick [1, 2, 0] (ls' := [(0, (vR 10 l0)), (1, (vL l1)), (3, (vI 0))]) rfl ?_
  refine o_M_cleanerOf_F2  xfu 0 _ h
set_option maxRecDepth 100000 in
set_option maxHeartbeats 4000000 in
theorem c_M_cleanerOf {sc : List Int} {R : xR} {M : xM} {l0 : Nat} {l1 : Int} {out : Int} (h : f_M_cleanerOf R l0 l1 M = some out) : XC false 0 sc y_M_cleanerOf [(vR 10 l0), (vL l1)] R M 174 174 ((some (vI out)), R, M) := XC.of (by decide) (Nat.le_of_ble_eq_true rfl) (Nat.le_refl _) (Nat.le_refl _) (o_M_cleanerOf h)
def f_M_cut (l0 : Int) (l2 : Int) : Option Int :=
  if l2 = 0 then
    some (w8 (w32 l0))
  else
    if l2 = 1 then
      some (w16 (w32 l0))
    else
      if l2 = 2 then
        some (w32 l0)
      else
        some (l0)
set_option maxRecDepth 100000 in
set_option maxHeartbeats 4000000 in
theorem s_M_cut {d : Nat} {sc : List Int} {z z' : xS} {out : xO} (qs : List xI) {cs : List Prop} (hq : qs.all (xqb 10 false y_M_cut.2.2.1 y_M_cut.2.1) = true) (h : xN false sc qs z = some (z', cs)) (hc : xAll cs) (hE : z'.2.2.2.2.2 ≤ 174) (k : XR false d 174 sc y_M_cut z' out) : XR false d 174 sc y_M_cut z out := XR.seg 10 false rfl (fun q => by cases q) qs hq h hc hE k
set_option maxRecDepth 100000 in
set_option maxHeartbeats 4000000 in
theorem o_M_cut {sc : List Int} {R : xR} {M : xM} {l0 : Int} {l2 : Int} {out : Int} (h : f_M_cut l0 l2 = some out) : XR false 0 174 sc y_M_cut (0, [(0, (vL l0)), (2, (vI l2))], [], R, M, 174) ((some (vL out)), R, M) := by
  unfold f_M_cut at h
  refine s_M_cut [(0, .iload_n 2, 0, 0)] (by decide +kernel) (z' := (1, [(0, (vL l0)), (2, (vI l2))], [(vI l2)], R, M, 174)) (cs := []) (by rfl) trivial (Nat.le_refl _) ?_
  rcases xif_ex h with ⟨c_1, h⟩ | ⟨c_1, h⟩
  · skip
    refine s_M_cut [(1, .ifCond .ne 10, 0, (-1)), (4, .lload_n 0, 0, 0), (5, .l2i, 0, 0), (6, .i2b, 0, 0), (7, .i2l, 0, 0), (8, .goto 27, 0, 35)] (by decide +kernel) (z' := (35, [(0, (vL l0)), (2, (vI l2))], [(vL (w8 (w32 l0)))], R, M, 174)) (cs := [¬ (l2 ≠ 0)]) (by rfl) ⟨fun q => q c_1, trivial⟩ (Nat.le_refl _) ?_
    obtain rfl := Option.some.inj h
    exact XR.retL rfl (by decide +kernel)
  · skip
    refine s_M_cut [(1, .ifCond .ne 10, 0, 11), (11, .iload_n 2, 0, 0), (12, .iconst 1, 0, 1)] (by decide +kernel) (z' := (13, [(0, (vL l0)), (2, (vI l2))], [(vI 1), (vI l2)], R, M, 174)) (cs := [l2 ≠ 0]) (by rfl) ⟨c_1, trivial⟩ (Nat.le_refl _) ?_
    rcases xif_ex h with ⟨c_2, h⟩ | ⟨c_2, h⟩
    · skip
      refine s_M_cut [(13, .if_icmp .ne 10, 0, (-1)), (16, .lload_n 0, 0, 0), (17, .l2i, 0, 0), (18, .i2s, 0, 0), (19, .i2l, 0, 0), (20, .goto 15, 0, 35)] (by decide +kernel) (z' := (35, [(0, (vL l0)), (2, (vI l2))], [(vL (w16 (w32 l0)))], R, M, 174)) (cs := [¬ (l2 ≠ 1)]) (by rfl) ⟨fun q => q c_2, trivial⟩ (Nat.le_refl _) ?_
      obtain rfl := Option.some.inj h
      exact XR.retL rfl (by decide +kernel)
    · skip
      refine s_M_cut [(13, .if_icmp .ne 10, 0, 23), (23, .iload_n 2, 0, 0), (24, .iconst 2, 0, 2)] (by decide +kernel) (z' := (25, [(0, (vL l0)), (2, (vI l2))], [(vI 2), (vI l2)], R, M, 174)) (cs := [l2 ≠ 1]) (by rfl) ⟨c_2, trivial⟩ (Nat.le_refl _) ?_
      rcases xif_ex h with ⟨c_3, h⟩ | ⟨c_3, h⟩
      · skip
        refine s_M_cut [(25, .if_icmp .ne 9, 0, (-1)), (28, .lload_n 0, 0, 0), (29, .l2i, 0, 0), (30, .i2l, 0, 0), (31, .goto 4, 0, 35)] (by decide +kernel) (z' := (35, [(0, (vL l0)), (2, (vI l2))], [(vL (w32 l0))], R, M, 174)) (cs := [¬ (l2 ≠ 2)]) (by rfl) ⟨fun q => q c_3, trivial⟩ (Nat.le_refl _) ?_
        obtain rfl := Option.some.inj h
        exact XR.retL rfl (by decide +kernel)
      · skip
        refine s_M_cut [(25, .if_icmp .ne 9, 0, 34), (34, .lload_n 0, 0, 0)] (by decide +kernel) (z' := (35, [(0, (vL l0)), (2, (vI l2))], [(vL l0)], R, M, 174)) (cs := [l2 ≠ 2]) (by rfl) ⟨c_3, trivial⟩ (Nat.le_refl _) ?_
        obtain rfl := Option.some.inj h
        exact XR.retL rfl (by decide +kernel)
set_option maxRecDepth 100000 in
set_option maxHeartbeats 4000000 in
theorem c_M_cut {sc : List Int} {R : xR} {M : xM} {l0 : Int} {l2 : Int} {out : Int} (h : f_M_cut l0 l2 = some out) : XC false 0 sc y_M_cut [(vL l0), (vI l2)] R M 174 174 ((some (vL out)), R, M) := XC.of (by decide) (Nat.le_of_ble_eq_true rfl) (Nat.le_refl _) (Nat.le_refl _) (o_M_cut h)
def f_M_upIn (R : xR) (l0 : Nat) (l1 : Int) (M : xM) : Option Int :=
  xch (0 ≤ w32 (4 * l1) ∧ w32 (4 * l1) < 192) <|
  xch (0 ≤ w32 ((w32 (4 * l1)) + 1) ∧ w32 ((w32 (4 * l1)) + 1) < 192) <|
  xch (0 ≤ w32 ((w32 (4 * l1)) + 2) ∧ w32 ((w32 (4 * l1)) + 2) < 192) <|
  xch (0 ≤ w32 ((w32 (4 * l1)) + 3) ∧ w32 ((w32 (4 * l1)) + 3) < 192) <|
  some (w32 ((w32 ((w32 ((M (R l0 80) (Int.toNat (w32 (4 * l1)))) + (M (R l0 80) (Int.toNat (w32 ((w32 (4 * l1)) + 1)))))) + (M (R l0 80) (Int.toNat (w32 ((w32 (4 * l1)) + 2)))))) + (M (R l0 80) (Int.toNat (w32 ((w32 (4 * l1)) + 3))))))
set_option maxRecDepth 100000 in
set_option maxHeartbeats 4000000 in
theorem s_M_upIn {d : Nat} {sc : List Int} {z z' : xS} {out : xO} (qs : List xI) {cs : List Prop} (hq : qs.all (xqb 10 false y_M_upIn.2.2.1 y_M_upIn.2.1) = true) (h : xN false sc qs z = some (z', cs)) (hc : xAll cs) (hE : z'.2.2.2.2.2 ≤ 174) (k : XR false d 174 sc y_M_upIn z' out) : XR false d 174 sc y_M_upIn z out := XR.seg 10 false rfl (fun q => by cases q) qs hq h hc hE k
set_option maxRecDepth 100000 in
set_option maxHeartbeats 4000000 in
theorem o_M_upIn {sc : List Int} {R : xR} {M : xM} {l0 : Nat} {l1 : Int} {out : Int} (h : f_M_upIn R l0 l1 M = some out) : XR false 0 174 sc y_M_upIn (0, [(0, (vR 10 l0)), (1, (vI l1))], [], R, M, 174) ((some (vI out)), R, M) := by
  unfold f_M_upIn at h
  obtain ⟨c_1, h⟩ := xch_ex h
  obtain ⟨c_2, h⟩ := xch_ex h
  obtain ⟨c_3, h⟩ := xch_ex h
  obtain ⟨c_4, h⟩ := xch_ex h
  refine s_M_upIn [(0, .aload_n 0, 0, 0), (1, .getfield 181, 10, 80), (4, .iconst 4, 0, 4), (5, .iload_n 1, 0, 0), (6, .imul, 0, 0), (7, .iaload, 0, 0), (8, .aload_n 0, 0, 0), (9, .getfield 181, 10, 80), (12, .iconst 4, 0, 4), (13, .iload_n 1, 0, 0), (14, .imul, 0, 0), (15, .iconst 1, 0, 1), (16, .iadd, 0, 0), (17, .iaload, 0, 0), (18, .iadd, 0, 0), (19, .aload_n 0, 0, 0), (20, .getfield 181, 10, 80), (23, .iconst 4, 0, 4), (24, .iload_n 1, 0, 0), (25, .imul, 0, 0), (26, .iconst 2, 0, 2), (27, .iadd, 0, 0), (28, .iaload, 0, 0), (29, .iadd, 0, 0), (30, .aload_n 0, 0, 0), (31, .getfield 181, 10, 80), (34, .iconst 4, 0, 4), (35, .iload_n 1, 0, 0), (36, .imul, 0, 0), (37, .iconst 3, 0, 3), (38, .iadd, 0, 0), (39, .iaload, 0, 0), (40, .iadd, 0, 0)] (by decide +kernel) (z' := (41, [(0, (vR 10 l0)), (1, (vI l1))], [(vI (w32 ((w32 ((w32 ((M (R l0 80) (Int.toNat (w32 (4 * l1)))) + (M (R l0 80) (Int.toNat (w32 ((w32 (4 * l1)) + 1)))))) + (M (R l0 80) (Int.toNat (w32 ((w32 (4 * l1)) + 2)))))) + (M (R l0 80) (Int.toNat (w32 ((w32 (4 * l1)) + 3)))))))], R, M, 174)) (cs := [xar 26 0, xidx (w32 (4 * l1)) (xan 26), xar 26 0, xidx (w32 ((w32 (4 * l1)) + 1)) (xan 26), xar 26 0, xidx (w32 ((w32 (4 * l1)) + 2)) (xan 26), xar 26 0, xidx (w32 ((w32 (4 * l1)) + 3)) (xan 26)]) (by rfl) ⟨xar_26, xix_26 c_1, xar_26, xix_26 c_2, xar_26, xix_26 c_3, xar_26, xix_26 c_4, trivial⟩ (Nat.le_refl _) ?_
  obtain rfl := Option.some.inj h
  exact XR.retI .int rfl rfl (by decide +kernel)
set_option maxRecDepth 100000 in
set_option maxHeartbeats 4000000 in
theorem c_M_upIn {sc : List Int} {R : xR} {M : xM} {l0 : Nat} {l1 : Int} {out : Int} (h : f_M_upIn R l0 l1 M = some out) : XC false 0 sc y_M_upIn [(vR 10 l0), (vI l1)] R M 174 174 ((some (vI out)), R, M) := XC.of (by decide) (Nat.le_of_ble_eq_true rfl) (Nat.le_refl _) (Nat.le_refl _) (o_M_upIn h)
def M_explains_F3 (R : xR) (M : xM) (l0 : Nat) (l1 : Int) (l2 : Int) (l3 : Int) (l4 : Int) : Nat → Int → Option Int
  | 0, _ => none
  | n + 1, v5 =>
    if v5 < l3 then
      xch (0 ≤ w32 ((w32 (60 * l1)) + v5) ∧ w32 ((w32 (60 * l1)) + v5) < 240) <|
      xl (M (R l0 3) (Int.toNat (w32 ((w32 (60 * l1)) + v5)))) fun v6_3 =>
      xb1 (f_M_upIn R l0 (w32 (l2 + v5)) M) fun r_4 =>
      if v6_3 < w64 (r_4 - l4) then
        some (0)
      else
        if w64 (r_4 + l4) < v6_3 then
          some (0)
        else
          xl (w32 (v5 + 1)) fun v5_8 =>
          M_explains_F3 R M l0 l1 l2 l3 l4  n v5_8
    else
      some (1)
def f_M_explains (R : xR) (l0 : Nat) (l1 : Int) (l2 : Int) (l3 : Int) (l4 : Int) (M : xM) : Option Int :=
  M_explains_F3 R M l0 l1 l2 l3 l4
    xfu 0
set_option maxRecDepth 100000 in
set_option maxHeartbeats 4000000 in
theorem s_M_explains {d : Nat} {sc : List Int} {z z' : xS} {out : xO} (qs : List xI) {cs : List Prop} (hq : qs.all (xqb 10 false y_M_explains.2.2.1 y_M_explains.2.1) = true) (h : xN false sc qs z = some (z', cs)) (hc : xAll cs) (hE : z'.2.2.2.2.2 ≤ 174) (k : XR false d 174 sc y_M_explains z' out) : XR false d 174 sc y_M_explains z out := XR.seg 10 false rfl (fun q => by cases q) qs hq h hc hE k
set_option maxRecDepth 100000 in
set_option maxHeartbeats 4000000 in
theorem o_M_explains_F3 {sc : List Int} {R : xR} {M : xM}  {l0 : Nat} {l1 : Int} {l2 : Int} {l3 : Int} {l4 : Int}  : ∀ (n : Nat) (v5 : Int) (out : Int), M_explains_F3 R M l0 l1 l2 l3 l4  n v5 = some out → XR false 1 174 sc y_M_explains (3, [(0, (vR 10 l0)), (1, (vI l1)), (2, (vI l2)), (3, (vI l3)), (4, (vI l4)), (5, (vI v5))], [], R, M, 174) ((some (vI out)), R, M) := by
  intro n
  induction n with
  | zero => intro v5 out h; exact (xno h).elim
  | succ n ih =>
    intro v5 out h
    rw [M_explains_F3] at h
    refine s_M_explains [(3, .iload 5, 0, 0), (5, .iload_n 3, 0, 0)] (by decide +kernel) (z' := (6, [(0, (vR 10 l0)), (1, (vI l1)), (2, (vI l2)), (3, (vI l3)), (4, (vI l4)), (5, (vI v5))], [(vI l3), (vI v5)], R, M, 174)) (cs := []) (by rfl) trivial (Nat.le_refl _) ?_
    rcases xif_ex h with ⟨c_1, h⟩ | ⟨c_1, h⟩
    · skip
      obtain ⟨c_2, h⟩ := xch_ex h
      obtain ⟨v6_3, hv6_3, h⟩ := xl_ex h
      refine s_M_explains [(6, .if_icmp .ge 60, 0, (-1)), (9, .aload_n 0, 0, 0), (10, .getfield 16, 10, 3), (13, .bipush 60, 0, 60), (15, .iload_n 1, 0, 0), (16, .imul, 0, 0), (17, .iload 5, 0, 0), (19, .iadd, 0, 0), (20, .laload, 0, 0), (21, .lstore 6, 0, 0), (23, .aload_n 0, 0, 0), (24, .iload_n 2, 0, 0), (25, .iload 5, 0, 0), (27, .iadd, 0, 0)] (by decide +kernel) (z' := (28, [(6, (vL v6_3)), (0, (vR 10 l0)), (1, (vI l1)), (2, (vI l2)), (3, (vI l3)), (4, (vI l4)), (5, (vI v5))], [(vI (w32 (l2 + v5))), (vR 10 l0)], R, M, 174)) (cs := [¬ (l3 ≤ v5), xar 40 1, xidx (w32 ((w32 (60 * l1)) + v5)) (xan 40)]) (by subst hv6_3; rfl) ⟨Int.not_le.mpr c_1, xar_40, xix_40 c_2, trivial⟩ (Nat.le_refl _) ?_
      obtain ⟨r_4, e_5, h⟩ := xb1_ex h
      refine XR.callV 10 rfl (rest := []) m_M_upIn k_10_501 10 l0 (Or.inl ⟨by decide, rfl⟩) [(vI (w32 (l2 + v5)))] rfl rfl (c_M_upIn e_5) (by decide) (Nat.le_of_ble_eq_true rfl) (by decide +kernel) (Nat.le_refl _) (Nat.le_refl _) ?_
      show XR false 1 174 sc y_M_explains (31, [(6, (vL v6_3)), (0, (vR 10 l0)), (1, (vI l1)), (2, (vI l2)), (3, (vI l3)), (4, (vI l4)), (5, (vI v5))], [(vI r_4)], R, M, 174) _
      refine s_M_explains [(31, .i2l, 0, 0), (32, .lstore 8, 0, 0), (34, .lload 6, 0, 0), (36, .lload 8, 0, 0), (38, .iload 4, 0, 0), (40, .i2l, 0, 0), (41, .lsub, 0, 0), (42, .lcmp, 0, 0)] (by decide +kernel) (z' := (43, [(8, (vL r_4)), (6, (vL v6_3)), (0, (vR 10 l0)), (1, (vI l1)), (2, (vI l2)), (3, (vI l3)), (4, (vI l4)), (5, (vI v5))], [(vI (xcmp v6_3 (w64 (r_4 - l4))))], R, M, 174)) (cs := []) (by rfl) trivial (Nat.le_refl _) ?_
      rcases xif_ex h with ⟨c_6, h⟩ | ⟨c_6, h⟩
      · skip
        refine s_M_explains [(43, .ifCond .lt 15, 0, 58), (58, .iconst 0, 0, 0)] (by decide +kernel) (z' := (59, [(8, (vL r_4)), (6, (vL v6_3)), (0, (vR 10 l0)), (1, (vI l1)), (2, (vI l2)), (3, (vI l3)), (4, (vI l4)), (5, (vI v5))], [(vI 0)], R, M, 174)) (cs := [xcmp v6_3 (w64 (r_4 - l4)) < 0]) (by rfl) ⟨xcmp_lt.mpr c_6, trivial⟩ (Nat.le_refl _) ?_
        obtain rfl := Option.some.inj h
        exact XR.retI .boolean rfl (xnar_z (by decide)) (by decide +kernel)
      · skip
        refine s_M_explains [(43, .ifCond .lt 15, 0, (-1)), (46, .lload 6, 0, 0), (48, .lload 8, 0, 0), (50, .iload 4, 0, 0), (52, .i2l, 0, 0), (53, .ladd, 0, 0), (54, .lcmp, 0, 0)] (by decide +kernel) (z' := (55, [(8, (vL r_4)), (6, (vL v6_3)), (0, (vR 10 l0)), (1, (vI l1)), (2, (vI l2)), (3, (vI l3)), (4, (vI l4)), (5, (vI v5))], [(vI (xcmp v6_3 (w64 (r_4 + l4))))], R, M, 174)) (cs := [¬ (xcmp v6_3 (w64 (r_4 - l4)) < 0)]) (by rfl) ⟨fun q => c_6 (xcmp_lt.mp q), trivial⟩ (Nat.le_refl _) ?_
        rcases xif_ex h with ⟨c_7, h⟩ | ⟨c_7, h⟩
        · skip
          refine s_M_explains [(55, .ifCond .le 5, 0, (-1)), (58, .iconst 0, 0, 0)] (by decide +kernel) (z' := (59, [(8, (vL r_4)), (6, (vL v6_3)), (0, (vR 10 l0)), (1, (vI l1)), (2, (vI l2)), (3, (vI l3)), (4, (vI l4)), (5, (vI v5))], [(vI 0)], R, M, 174)) (cs := [¬ (xcmp v6_3 (w64 (r_4 + l4)) ≤ 0)]) (by rfl) ⟨fun q => xcmp_le.mp q c_7, trivial⟩ (Nat.le_refl _) ?_
          obtain rfl := Option.some.inj h
          exact XR.retI .boolean rfl (xnar_z (by decide)) (by decide +kernel)
        · skip
          obtain ⟨v5_8, hv5_8, h⟩ := xl_ex h
          refine s_M_explains [(55, .ifCond .le 5, 0, 60), (60, .iinc 5 1, 0, 0), (63, .goto (-60), 0, 3)] (by decide +kernel) (z' := (3, [(5, (vI v5_8)), (8, (vL r_4)), (6, (vL v6_3)), (0, (vR 10 l0)), (1, (vI l1)), (2, (vI l2)), (3, (vI l3)), (4, (vI l4))], [], R, M, 174)) (cs := [xcmp v6_3 (w64 (r_4 + l4)) ≤ 0]) (by subst hv5_8; rfl) ⟨xcmp_le.mpr c_7, trivial⟩ (Nat.le_refl _) ?_
          refine XR.pick [3, 4, 5, 6, 7, 0] (ls' := [(0, (vR 10 l0)), (1, (vI l1)), (2, (vI l2)), (3, (vI l3)), (4, (vI l4)), (5, (vI v5_8))]) rfl ?_
          exact ih v5_8 _ h
    · skip
      refine s_M_explains [(6, .if_icmp .ge 60, 0, 66), (66, .iconst 1, 0, 1)] (by decide +kernel) (z' := (67, [(0, (vR 10 l0)), (1, (vI l1)), (2, (vI l2)), (3, (vI l3)), (4, (vI l4)), (5, (vI v5))], [(vI 1)], R, M, 174)) (cs := [l3 ≤ v5]) (by rfl) ⟨Int.not_lt.mp c_1, trivial⟩ (Nat.le_refl _) ?_
      obtain rfl := Option.some.inj h
      exact XR.retI .boolean rfl (xnar_z (by decide)) (by decide +kernel)
set_option maxRecDepth 100000 in
set_option maxHeartbeats 4000000 in
theorem o_M_explains {sc : List Int} {R : xR} {M : xM} {l0 : Nat} {l1 : Int} {l2 : Int} {l3 : Int} {l4 : Int} {out : Int} (h : f_M_explains R l0 l1 l2 l3 l4 M = some out) : XR false 1 174 sc y_M_explains (0, [(0, (vR 10 l0)), (1, (vI l1)), (2, (vI l2)), (3, (vI l3)), (4, (vI l4))], [], R, M, 174) ((some (vI out)), R, M) := by
  unfold f_M_explains at h
  refine s_M_explains [(0, .iconst 0, 0, 0), (1, .istore 5, 0, 0)] (by decide +kernel) (z' := (3, [(5, (vI 0)), (0, (vR 10 l0)), (1, (vI l1)), (2, (vI l2)), (3, (vI l3)), (4, (vI l4))], [], R, M, 174)) (cs := []) (by rfl) trivial (Nat.le_refl _) ?_
  refine XR.pick [1, 2, 3, 4, 5, 0] (ls' := [(0, (vR 10 l0)), (1, (vI l1)), (2, (vI l2)), (3, (vI l3)), (4, (vI l4)), (5, (vI 0))]) rfl ?_
  refine o_M_explains_F3  xfu 0 _ h
set_option maxRecDepth 100000 in
set_option maxHeartbeats 4000000 in
theorem c_M_explains {sc : List Int} {R : xR} {M : xM} {l0 : Nat} {l1 : Int} {l2 : Int} {l3 : Int} {l4 : Int} {out : Int} (h : f_M_explains R l0 l1 l2 l3 l4 M = some out) : XC false 1 sc y_M_explains [(vR 10 l0), (vI l1), (vI l2), (vI l3), (vI l4)] R M 174 174 ((some (vI out)), R, M) := XC.of (by decide) (Nat.le_of_ble_eq_true rfl) (Nat.le_refl _) (Nat.le_refl _) (o_M_explains h)
def M_fails_J21 (l0 : Nat) (s0 : Int) (s1 : Nat) (M : xM) : Option (Int × xM) :=
  xl (xu M s1 15 s0) fun M_3 =>
  xl (xu M_3 l0 14 (M_3 l0 9)) fun M_4 =>
  some (0, M_4)
def f_M_fails (l0 : Nat) (l1 : Int) (M : xM) : Option (Int × xM) :=
  if M l0 15 = 0 then
    if M l0 8 = 1 then
      M_fails_J21 l0 1 l0 M
    else
      M_fails_J21 l0 l1 l0 M
  else
    some (0, M)
set_option maxRecDepth 100000 in
set_option maxHeartbeats 4000000 in
theorem s_M_fails {d : Nat} {sc : List Int} {z z' : xS} {out : xO} (qs : List xI) {cs : List Prop} (hq : qs.all (xqb 10 false y_M_fails.2.2.1 y_M_fails.2.1) = true) (h : xN false sc qs z = some (z', cs)) (hc : xAll cs) (hE : z'.2.2.2.2.2 ≤ 174) (k : XR false d 174 sc y_M_fails z' out) : XR false d 174 sc y_M_fails z out := XR.seg 10 false rfl (fun q => by cases q) qs hq h hc hE k
set_option maxRecDepth 100000 in
set_option maxHeartbeats 4000000 in
theorem o_M_fails_J21 {sc : List Int} {R : xR}   {l0 : Nat}  {s0 : Int} {s1 : Nat} {M : xM} {out : Int × xM} (h : M_fails_J21 l0  s0 s1 M = some out) : XR false 0 174 sc y_M_fails (21, [(0, (vR 10 l0))], [(vI s0), (vR 10 s1)], R, M, 174) ((some (vI out.1)), R, out.2) := by
  unfold M_fails_J21 at h
  obtain ⟨M_3, hM_3, h⟩ := xl_ex h
  obtain ⟨M_4, hM_4, h⟩ := xl_ex h
  refine s_M_fails [(21, .putfield 322, 10, 15), (24, .aload_n 0, 0, 0), (25, .aload_n 0, 0, 0), (26, .getfield 284, 10, 9), (29, .putfield 31, 10, 14), (32, .iconst 0, 0, 0)] (by decide +kernel) (z' := (33, [(0, (vR 10 l0))], [(vI 0)], R, M_4, 174)) (cs := []) (by subst hM_3; subst hM_4; rfl) trivial (Nat.le_refl _) ?_
  obtain rfl := Option.some.inj h
  exact XR.retI .boolean rfl (xnar_z (by decide)) (by decide +kernel)
set_option maxRecDepth 100000 in
set_option maxHeartbeats 4000000 in
theorem o_M_fails {sc : List Int} {R : xR} {M : xM} {l0 : Nat} {l1 : Int} {out : Int × xM} (h : f_M_fails l0 l1 M = some out) : XR false 0 174 sc y_M_fails (0, [(0, (vR 10 l0)), (1, (vI l1))], [], R, M, 174) ((some (vI out.1)), R, out.2) := by
  unfold f_M_fails at h
  refine s_M_fails [(0, .aload_n 0, 0, 0), (1, .getfield 322, 10, 15)] (by decide +kernel) (z' := (4, [(0, (vR 10 l0)), (1, (vI l1))], [(vI (M l0 15))], R, M, 174)) (cs := []) (by rfl) trivial (Nat.le_refl _) ?_
  rcases xif_ex h with ⟨c_1, h⟩ | ⟨c_1, h⟩
  · skip
    refine s_M_fails [(4, .ifCond .ne 28, 0, (-1)), (7, .aload_n 0, 0, 0), (8, .aload_n 0, 0, 0), (9, .getfield 290, 10, 8), (12, .iconst 1, 0, 1)] (by decide +kernel) (z' := (13, [(0, (vR 10 l0)), (1, (vI l1))], [(vI 1), (vI (M l0 8)), (vR 10 l0)], R, M, 174)) (cs := [¬ (M l0 15 ≠ 0)]) (by rfl) ⟨fun q => q c_1, trivial⟩ (Nat.le_refl _) ?_
    rcases xif_ex h with ⟨c_2, h⟩ | ⟨c_2, h⟩
    · skip
      refine s_M_fails [(13, .if_icmp .ne 7, 0, (-1)), (16, .iconst 1, 0, 1), (17, .goto 4, 0, 21)] (by decide +kernel) (z' := (21, [(0, (vR 10 l0)), (1, (vI l1))], [(vI 1), (vR 10 l0)], R, M, 174)) (cs := [¬ (M l0 8 ≠ 1)]) (by rfl) ⟨fun q => q c_2, trivial⟩ (Nat.le_refl _) ?_
      refine XR.pick [0] (ls' := [(0, (vR 10 l0))]) rfl ?_
      exact o_M_fails_J21  h
    · skip
      refine s_M_fails [(13, .if_icmp .ne 7, 0, 20), (20, .iload_n 1, 0, 0)] (by decide +kernel) (z' := (21, [(0, (vR 10 l0)), (1, (vI l1))], [(vI l1), (vR 10 l0)], R, M, 174)) (cs := [M l0 8 ≠ 1]) (by rfl) ⟨c_2, trivial⟩ (Nat.le_refl _) ?_
      refine XR.pick [0] (ls' := [(0, (vR 10 l0))]) rfl ?_
      exact o_M_fails_J21  h
  · skip
    refine s_M_fails [(4, .ifCond .ne 28, 0, 32), (32, .iconst 0, 0, 0)] (by decide +kernel) (z' := (33, [(0, (vR 10 l0)), (1, (vI l1))], [(vI 0)], R, M, 174)) (cs := [M l0 15 ≠ 0]) (by rfl) ⟨c_1, trivial⟩ (Nat.le_refl _) ?_
    obtain rfl := Option.some.inj h
    exact XR.retI .boolean rfl (xnar_z (by decide)) (by decide +kernel)
set_option maxRecDepth 100000 in
set_option maxHeartbeats 4000000 in
theorem c_M_fails {sc : List Int} {R : xR} {M : xM} {l0 : Nat} {l1 : Int} {out : Int × xM} (h : f_M_fails l0 l1 M = some out) : XC false 0 sc y_M_fails [(vR 10 l0), (vI l1)] R M 174 174 ((some (vI out.1)), R, out.2) := XC.of (by decide) (Nat.le_of_ble_eq_true rfl) (Nat.le_refl _) (Nat.le_refl _) (o_M_fails h)
def f_M_fault (l0 : Nat) (l1 : Int) (M : xM) : Option Int :=
  if l1 = 0 then
    some (M l0 13)
  else
    if l1 = 1 then
      some (M l0 14)
    else
      some (-1)
set_option maxRecDepth 100000 in
set_option maxHeartbeats 4000000 in
theorem s_M_fault {d : Nat} {sc : List Int} {z z' : xS} {out : xO} (qs : List xI) {cs : List Prop} (hq : qs.all (xqb 10 false y_M_fault.2.2.1 y_M_fault.2.1) = true) (h : xN false sc qs z = some (z', cs)) (hc : xAll cs) (hE : z'.2.2.2.2.2 ≤ 174) (k : XR false d 174 sc y_M_fault z' out) : XR false d 174 sc y_M_fault z out := XR.seg 10 false rfl (fun q => by cases q) qs hq h hc hE k
set_option maxRecDepth 100000 in
set_option maxHeartbeats 4000000 in
theorem o_M_fault {sc : List Int} {R : xR} {M : xM} {l0 : Nat} {l1 : Int} {out : Int} (h : f_M_fault l0 l1 M = some out) : XR false 0 174 sc y_M_fault (0, [(0, (vR 10 l0)), (1, (vI l1))], [], R, M, 174) ((some (vI out)), R, M) := by
  unfold f_M_fault at h
  refine s_M_fault [(0, .iload_n 1, 0, 0)] (by decide +kernel) (z' := (1, [(0, (vR 10 l0)), (1, (vI l1))], [(vI l1)], R, M, 174)) (cs := []) (by rfl) trivial (Nat.le_refl _) ?_
  rcases xif_ex h with ⟨c_1, h⟩ | ⟨c_1, h⟩
  · skip
    refine s_M_fault [(1, .ifCond .ne 10, 0, (-1)), (4, .aload_n 0, 0, 0), (5, .getfield 27, 10, 13), (8, .goto 16, 0, 24)] (by decide +kernel) (z' := (24, [(0, (vR 10 l0)), (1, (vI l1))], [(vI (M l0 13))], R, M, 174)) (cs := [¬ (l1 ≠ 0)]) (by rfl) ⟨fun q => q c_1, trivial⟩ (Nat.le_refl _) ?_
    obtain rfl := Option.some.inj h
    exact XR.retI .int rfl rfl (by decide +kernel)
  · skip
    refine s_M_fault [(1, .ifCond .ne 10, 0, 11), (11, .iload_n 1, 0, 0), (12, .iconst 1, 0, 1)] (by decide +kernel) (z' := (13, [(0, (vR 10 l0)), (1, (vI l1))], [(vI 1), (vI l1)], R, M, 174)) (cs := [l1 ≠ 0]) (by rfl) ⟨c_1, trivial⟩ (Nat.le_refl _) ?_
    rcases xif_ex h with ⟨c_2, h⟩ | ⟨c_2, h⟩
    · skip
      refine s_M_fault [(13, .if_icmp .ne 10, 0, (-1)), (16, .aload_n 0, 0, 0), (17, .getfield 31, 10, 14), (20, .goto 4, 0, 24)] (by decide +kernel) (z' := (24, [(0, (vR 10 l0)), (1, (vI l1))], [(vI (M l0 14))], R, M, 174)) (cs := [¬ (l1 ≠ 1)]) (by rfl) ⟨fun q => q c_2, trivial⟩ (Nat.le_refl _) ?_
      obtain rfl := Option.some.inj h
      exact XR.retI .int rfl rfl (by decide +kernel)
    · skip
      refine s_M_fault [(13, .if_icmp .ne 10, 0, 23), (23, .iconst (-1), 0, (-1))] (by decide +kernel) (z' := (24, [(0, (vR 10 l0)), (1, (vI l1))], [(vI (-1))], R, M, 174)) (cs := [l1 ≠ 1]) (by rfl) ⟨c_2, trivial⟩ (Nat.le_refl _) ?_
      obtain rfl := Option.some.inj h
      exact XR.retI .int rfl rfl (by decide +kernel)
set_option maxRecDepth 100000 in
set_option maxHeartbeats 4000000 in
theorem c_M_fault {sc : List Int} {R : xR} {M : xM} {l0 : Nat} {l1 : Int} {out : Int} (h : f_M_fault l0 l1 M = some out) : XC false 0 sc y_M_fault [(vR 10 l0), (vI l1)] R M 174 174 ((some (vI out)), R, M) := XC.of (by decide) (Nat.le_of_ble_eq_true rfl) (Nat.le_refl _) (Nat.le_refl _) (o_M_fault h)
def M_four_F3 (R : xR) (l0 : Nat) (l1 : Int) : Nat → Int → xM → Option xM
  | 0, _, _ => none
  | n + 1, v2, M =>
    if v2 < 0 then
      some (M)
    else
      xch (0 ≤ M l0 6 ∧ M l0 6 < 600) <|
      xl (xu M (R l0 4) (Int.toNat (M l0 6)) (w8 (w8 (xshr l1 v2)))) fun M_3 =>
      xl (xu M_3 l0 6 (w32 ((M_3 l0 6) + 1))) fun M_4 =>
      xl (w32 (v2 + (-8))) fun v2_5 =>
      M_four_F3 R l0 l1  n v2_5 M_4
def f_M_four (R : xR) (l0 : Nat) (l1 : Int) (M : xM) : Option xM :=
  M_four_F3 R l0 l1
    xfu 24 M
set_option maxRecDepth 100000 in
set_option maxHeartbeats 4000000 in
theorem s_M_four {d : Nat} {sc : List Int} {z z' : xS} {out : xO} (qs : List xI) {cs : List Prop} (hq : qs.all (xqb 10 false y_M_four.2.2.1 y_M_four.2.1) = true) (h : xN false sc qs z = some (z', cs)) (hc : xAll cs) (hE : z'.2.2.2.2.2 ≤ 174) (k : XR false d 174 sc y_M_four z' out) : XR false d 174 sc y_M_four z out := XR.seg 10 false rfl (fun q => by cases q) qs hq h hc hE k
set_option maxRecDepth 100000 in
set_option maxHeartbeats 4000000 in
theorem o_M_four_F3 {sc : List Int} {R : xR}   {l0 : Nat} {l1 : Int}  : ∀ (n : Nat) (v2 : Int) (M : xM) (out : xM), M_four_F3 R l0 l1  n v2 M = some out → XR false 0 174 sc y_M_four (3, [(0, (vR 10 l0)), (1, (vI l1)), (2, (vI v2))], [], R, M, 174) (none, R, out) := by
  intro n
  induction n with
  | zero => intro v2 M out h; exact (xno h).elim
  | succ n ih =>
    intro v2 M out h
    rw [M_four_F3] at h
    refine s_M_four [(3, .iload_n 2, 0, 0)] (by decide +kernel) (z' := (4, [(0, (vR 10 l0)), (1, (vI l1)), (2, (vI v2))], [(vI v2)], R, M, 174)) (cs := []) (by rfl) trivial (Nat.le_refl _) ?_
    rcases xif_ex h with ⟨c_1, h⟩ | ⟨c_1, h⟩
    · skip
      refine s_M_four [(4, .ifCond .lt 32, 0, 36)] (by decide +kernel) (z' := (36, [(0, (vR 10 l0)), (1, (vI l1)), (2, (vI v2))], [], R, M, 174)) (cs := [v2 < 0]) (by rfl) ⟨c_1, trivial⟩ (Nat.le_refl _) ?_
      obtain rfl := Option.some.inj h
      exact XR.retV rfl (by decide +kernel)
    · skip
      obtain ⟨c_2, h⟩ := xch_ex h
      obtain ⟨M_3, hM_3, h⟩ := xl_ex h
      obtain ⟨M_4, hM_4, h⟩ := xl_ex h
      obtain ⟨v2_5, hv2_5, h⟩ := xl_ex h
      refine s_M_four [(4, .ifCond .lt 32, 0, (-1)), (7, .aload_n 0, 0, 0), (8, .getfield 20, 10, 4), (11, .aload_n 0, 0, 0), (12, .getfield 267, 10, 6), (15, .iload_n 1, 0, 0), (16, .iload_n 2, 0, 0), (17, .ishr, 0, 0), (18, .i2b, 0, 0), (19, .bastore, 2, 0), (20, .aload_n 0, 0, 0), (21, .dup, 0, 0), (22, .getfield 267, 10, 6), (25, .iconst 1, 0, 1), (26, .iadd, 0, 0), (27, .putfield 267, 10, 6), (30, .iinc 2 (-8), 0, 0), (33, .goto (-30), 0, 3)] (by decide +kernel) (z' := (3, [(2, (vI v2_5)), (0, (vR 10 l0)), (1, (vI l1))], [], R, M_4, 174)) (cs := [¬ (v2 < 0), xar 39 2, xidx (M l0 6) (xan 39)]) (by subst hM_3; subst hM_4; subst hv2_5; rfl) ⟨c_1, xar_39, xix_39 c_2, trivial⟩ (Nat.le_refl _) ?_
      refine XR.pick [1, 2, 0] (ls' := [(0, (vR 10 l0)), (1, (vI l1)), (2, (vI v2_5))]) rfl ?_
      exact ih v2_5 M_4 _ h
set_option maxRecDepth 100000 in
set_option maxHeartbeats 4000000 in
theorem o_M_four {sc : List Int} {R : xR} {M : xM} {l0 : Nat} {l1 : Int} {out : xM} (h : f_M_four R l0 l1 M = some out) : XR false 0 174 sc y_M_four (0, [(0, (vR 10 l0)), (1, (vI l1))], [], R, M, 174) (none, R, out) := by
  unfold f_M_four at h
  refine s_M_four [(0, .bipush 24, 0, 24), (2, .istore_n 2, 0, 0)] (by decide +kernel) (z' := (3, [(2, (vI 24)), (0, (vR 10 l0)), (1, (vI l1))], [], R, M, 174)) (cs := []) (by rfl) trivial (Nat.le_refl _) ?_
  refine XR.pick [1, 2, 0] (ls' := [(0, (vR 10 l0)), (1, (vI l1)), (2, (vI 24))]) rfl ?_
  refine o_M_four_F3  xfu 24 M _ h
set_option maxRecDepth 100000 in
set_option maxHeartbeats 4000000 in
theorem c_M_four {sc : List Int} {R : xR} {M : xM} {l0 : Nat} {l1 : Int} {out : xM} (h : f_M_four R l0 l1 M = some out) : XC false 0 sc y_M_four [(vR 10 l0), (vI l1)] R M 174 174 (none, R, out) := XC.of (by decide) (Nat.le_of_ble_eq_true rfl) (Nat.le_refl _) (Nat.le_refl _) (o_M_four h)
def f_M_feed (R : xR) (l0 : Nat) (l1 : Int) (l2 : Int) (l3 : Int) (l4 : Int) (l5 : Int) (M : xM) : Option (Int × xM) :=
  if 600 < w32 ((M l0 6) + 20) then
    some (-1, M)
  else
    xb1 (f_M_four R l0 l1 M) fun M_2 =>
    xb1 (f_M_four R l0 l2 M_2) fun M_4 =>
    xb1 (f_M_four R l0 l3 M_4) fun M_6 =>
    xb1 (f_M_four R l0 l4 M_6) fun M_8 =>
    xb1 (f_M_four R l0 l5 M_8) fun M_10 =>
    some (M_10 l0 6, M_10)
set_option maxRecDepth 100000 in
set_option maxHeartbeats 4000000 in
theorem s_M_feed {d : Nat} {sc : List Int} {z z' : xS} {out : xO} (qs : List xI) {cs : List Prop} (hq : qs.all (xqb 10 false y_M_feed.2.2.1 y_M_feed.2.1) = true) (h : xN false sc qs z = some (z', cs)) (hc : xAll cs) (hE : z'.2.2.2.2.2 ≤ 174) (k : XR false d 174 sc y_M_feed z' out) : XR false d 174 sc y_M_feed z out := XR.seg 10 false rfl (fun q => by cases q) qs hq h hc hE k
set_option maxRecDepth 100000 in
set_option maxHeartbeats 4000000 in
theorem o_M_feed {sc : List Int} {R : xR} {M : xM} {l0 : Nat} {l1 : Int} {l2 : Int} {l3 : Int} {l4 : Int} {l5 : Int} {out : Int × xM} (h : f_M_feed R l0 l1 l2 l3 l4 l5 M = some out) : XR false 1 174 sc y_M_feed (0, [(0, (vR 10 l0)), (1, (vI l1)), (2, (vI l2)), (3, (vI l3)), (4, (vI l4)), (5, (vI l5))], [], R, M, 174) ((some (vI out.1)), R, out.2) := by
  unfold f_M_feed at h
  refine s_M_feed [(0, .aload_n 0, 0, 0), (1, .getfield 267, 10, 6), (4, .bipush 20, 0, 20), (6, .iadd, 0, 0), (7, .sipush 600, 0, 600)] (by decide +kernel) (z' := (10, [(0, (vR 10 l0)), (1, (vI l1)), (2, (vI l2)), (3, (vI l3)), (4, (vI l4)), (5, (vI l5))], [(vI 600), (vI (w32 ((M l0 6) + 20)))], R, M, 174)) (cs := []) (by rfl) trivial (Nat.le_refl _) ?_
  rcases xif_ex h with ⟨c_1, h⟩ | ⟨c_1, h⟩
  · skip
    refine s_M_feed [(10, .if_icmp .le 5, 0, (-1)), (13, .iconst (-1), 0, (-1))] (by decide +kernel) (z' := (14, [(0, (vR 10 l0)), (1, (vI l1)), (2, (vI l2)), (3, (vI l3)), (4, (vI l4)), (5, (vI l5))], [(vI (-1))], R, M, 174)) (cs := [¬ (w32 ((M l0 6) + 20) ≤ 600)]) (by rfl) ⟨Int.not_le.mpr c_1, trivial⟩ (Nat.le_refl _) ?_
    obtain rfl := Option.some.inj h
    exact XR.retI .int rfl rfl (by decide +kernel)
  · skip
    refine s_M_feed [(10, .if_icmp .le 5, 0, 15), (15, .aload_n 0, 0, 0), (16, .iload_n 1, 0, 0)] (by decide +kernel) (z' := (17, [(0, (vR 10 l0)), (1, (vI l1)), (2, (vI l2)), (3, (vI l3)), (4, (vI l4)), (5, (vI l5))], [(vI l1), (vR 10 l0)], R, M, 174)) (cs := [w32 ((M l0 6) + 20) ≤ 600]) (by rfl) ⟨Int.not_lt.mp c_1, trivial⟩ (Nat.le_refl _) ?_
    obtain ⟨M_2, e_3, h⟩ := xb1_ex h
    refine XR.callV 10 rfl (rest := []) m_M_four k_10_270 10 l0 (Or.inl ⟨by decide, rfl⟩) [(vI l1)] rfl rfl (c_M_four e_3) (by decide) (Nat.le_of_ble_eq_true rfl) (by decide +kernel) (Nat.le_refl _) (Nat.le_refl _) ?_
    show XR false 1 174 sc y_M_feed (20, [(0, (vR 10 l0)), (1, (vI l1)), (2, (vI l2)), (3, (vI l3)), (4, (vI l4)), (5, (vI l5))], [], R, M_2, 174) _
    refine s_M_feed [(20, .aload_n 0, 0, 0), (21, .iload_n 2, 0, 0)] (by decide +kernel) (z' := (22, [(0, (vR 10 l0)), (1, (vI l1)), (2, (vI l2)), (3, (vI l3)), (4, (vI l4)), (5, (vI l5))], [(vI l2), (vR 10 l0)], R, M_2, 174)) (cs := []) (by rfl) trivial (Nat.le_refl _) ?_
    obtain ⟨M_4, e_5, h⟩ := xb1_ex h
    refine XR.callV 10 rfl (rest := []) m_M_four k_10_270 10 l0 (Or.inl ⟨by decide, rfl⟩) [(vI l2)] rfl rfl (c_M_four e_5) (by decide) (Nat.le_of_ble_eq_true rfl) (by decide +kernel) (Nat.le_refl _) (Nat.le_refl _) ?_
    show XR false 1 174 sc y_M_feed (25, [(0, (vR 10 l0)), (1, (vI l1)), (2, (vI l2)), (3, (vI l3)), (4, (vI l4)), (5, (vI l5))], [], R, M_4, 174) _
    refine s_M_feed [(25, .aload_n 0, 0, 0), (26, .iload_n 3, 0, 0)] (by decide +kernel) (z' := (27, [(0, (vR 10 l0)), (1, (vI l1)), (2, (vI l2)), (3, (vI l3)), (4, (vI l4)), (5, (vI l5))], [(vI l3), (vR 10 l0)], R, M_4, 174)) (cs := []) (by rfl) trivial (Nat.le_refl _) ?_
    obtain ⟨M_6, e_7, h⟩ := xb1_ex h
    refine XR.callV 10 rfl (rest := []) m_M_four k_10_270 10 l0 (Or.inl ⟨by decide, rfl⟩) [(vI l3)] rfl rfl (c_M_four e_7) (by decide) (Nat.le_of_ble_eq_true rfl) (by decide +kernel) (Nat.le_refl _) (Nat.le_refl _) ?_
    show XR false 1 174 sc y_M_feed (30, [(0, (vR 10 l0)), (1, (vI l1)), (2, (vI l2)), (3, (vI l3)), (4, (vI l4)), (5, (vI l5))], [], R, M_6, 174) _
    refine s_M_feed [(30, .aload_n 0, 0, 0), (31, .iload 4, 0, 0)] (by decide +kernel) (z' := (33, [(0, (vR 10 l0)), (1, (vI l1)), (2, (vI l2)), (3, (vI l3)), (4, (vI l4)), (5, (vI l5))], [(vI l4), (vR 10 l0)], R, M_6, 174)) (cs := []) (by rfl) trivial (Nat.le_refl _) ?_
    obtain ⟨M_8, e_9, h⟩ := xb1_ex h
    refine XR.callV 10 rfl (rest := []) m_M_four k_10_270 10 l0 (Or.inl ⟨by decide, rfl⟩) [(vI l4)] rfl rfl (c_M_four e_9) (by decide) (Nat.le_of_ble_eq_true rfl) (by decide +kernel) (Nat.le_refl _) (Nat.le_refl _) ?_
    show XR false 1 174 sc y_M_feed (36, [(0, (vR 10 l0)), (1, (vI l1)), (2, (vI l2)), (3, (vI l3)), (4, (vI l4)), (5, (vI l5))], [], R, M_8, 174) _
    refine s_M_feed [(36, .aload_n 0, 0, 0), (37, .iload 5, 0, 0)] (by decide +kernel) (z' := (39, [(0, (vR 10 l0)), (1, (vI l1)), (2, (vI l2)), (3, (vI l3)), (4, (vI l4)), (5, (vI l5))], [(vI l5), (vR 10 l0)], R, M_8, 174)) (cs := []) (by rfl) trivial (Nat.le_refl _) ?_
    obtain ⟨M_10, e_11, h⟩ := xb1_ex h
    refine XR.callV 10 rfl (rest := []) m_M_four k_10_270 10 l0 (Or.inl ⟨by decide, rfl⟩) [(vI l5)] rfl rfl (c_M_four e_11) (by decide) (Nat.le_of_ble_eq_true rfl) (by decide +kernel) (Nat.le_refl _) (Nat.le_refl _) ?_
    show XR false 1 174 sc y_M_feed (42, [(0, (vR 10 l0)), (1, (vI l1)), (2, (vI l2)), (3, (vI l3)), (4, (vI l4)), (5, (vI l5))], [], R, M_10, 174) _
    refine s_M_feed [(42, .aload_n 0, 0, 0), (43, .getfield 267, 10, 6)] (by decide +kernel) (z' := (46, [(0, (vR 10 l0)), (1, (vI l1)), (2, (vI l2)), (3, (vI l3)), (4, (vI l4)), (5, (vI l5))], [(vI (M_10 l0 6))], R, M_10, 174)) (cs := []) (by rfl) trivial (Nat.le_refl _) ?_
    obtain rfl := Option.some.inj h
    exact XR.retI .int rfl rfl (by decide +kernel)
set_option maxRecDepth 100000 in
set_option maxHeartbeats 4000000 in
theorem c_M_feed {sc : List Int} {R : xR} {M : xM} {l0 : Nat} {l1 : Int} {l2 : Int} {l3 : Int} {l4 : Int} {l5 : Int} {out : Int × xM} (h : f_M_feed R l0 l1 l2 l3 l4 l5 M = some out) : XC false 1 sc y_M_feed [(vR 10 l0), (vI l1), (vI l2), (vI l3), (vI l4), (vI l5)] R M 174 174 ((some (vI out.1)), R, out.2) := XC.of (by decide) (Nat.le_of_ble_eq_true rfl) (Nat.le_refl _) (Nat.le_refl _) (o_M_feed h)
def M_fits_F2 (R : xR) (M : xM) (l0 : Nat) (l1 : Int) (l2 : Int) : Nat → Int → Option Int
  | 0, _ => none
  | n + 1, v3 =>
    if v3 < M l0 104 then
      xch (0 ≤ v3 ∧ v3 < 10) <|
      if M l0 105 < xabs (w32 ((w32 ((w32 (l1 * (M (R l0 102) (Int.toNat v3)))) + l2)) - (M (R l0 103) (Int.toNat v3)))) then
        some (0)
      else
        xl (w32 (v3 + 1)) fun v3_4 =>
        M_fits_F2 R M l0 l1 l2  n v3_4
    else
      some (1)
def f_M_fits (R : xR) (l0 : Nat) (l1 : Int) (l2 : Int) (M : xM) : Option Int :=
  M_fits_F2 R M l0 l1 l2
    xfu 0
set_option maxRecDepth 100000 in
set_option maxHeartbeats 4000000 in
theorem s_M_fits {d : Nat} {sc : List Int} {z z' : xS} {out : xO} (qs : List xI) {cs : List Prop} (hq : qs.all (xqb 10 false y_M_fits.2.2.1 y_M_fits.2.1) = true) (h : xN false sc qs z = some (z', cs)) (hc : xAll cs) (hE : z'.2.2.2.2.2 ≤ 174) (k : XR false d 174 sc y_M_fits z' out) : XR false d 174 sc y_M_fits z out := XR.seg 10 false rfl (fun q => by cases q) qs hq h hc hE k
set_option maxRecDepth 100000 in
set_option maxHeartbeats 4000000 in
theorem o_M_fits_F2 {sc : List Int} {R : xR} {M : xM}  {l0 : Nat} {l1 : Int} {l2 : Int}  : ∀ (n : Nat) (v3 : Int) (out : Int), M_fits_F2 R M l0 l1 l2  n v3 = some out → XR false 1 174 sc y_M_fits (2, [(0, (vR 10 l0)), (1, (vI l1)), (2, (vI l2)), (3, (vI v3))], [], R, M, 174) ((some (vI out)), R, M) := by
  intro n
  induction n with
  | zero => intro v3 out h; exact (xno h).elim
  | succ n ih =>
    intro v3 out h
    rw [M_fits_F2] at h
    refine s_M_fits [(2, .iload_n 3, 0, 0), (3, .aload_n 0, 0, 0), (4, .getfield 546, 10, 104)] (by decide +kernel) (z' := (7, [(0, (vR 10 l0)), (1, (vI l1)), (2, (vI l2)), (3, (vI v3))], [(vI (M l0 104)), (vI v3)], R, M, 174)) (cs := []) (by rfl) trivial (Nat.le_refl _) ?_
    rcases xif_ex h with ⟨c_1, h⟩ | ⟨c_1, h⟩
    · skip
      obtain ⟨c_2, h⟩ := xch_ex h
      refine s_M_fits [(7, .if_icmp .ge 38, 0, (-1)), (10, .iload_n 1, 0, 0), (11, .aload_n 0, 0, 0), (12, .getfield 238, 10, 102), (15, .iload_n 3, 0, 0), (16, .iaload, 0, 0), (17, .imul, 0, 0), (18, .iload_n 2, 0, 0), (19, .iadd, 0, 0), (20, .aload_n 0, 0, 0), (21, .getfield 241, 10, 103), (24, .iload_n 3, 0, 0), (25, .iaload, 0, 0), (26, .isub, 0, 0)] (by decide +kernel) (z' := (27, [(0, (vR 10 l0)), (1, (vI l1)), (2, (vI l2)), (3, (vI v3))], [(vI (w32 ((w32 ((w32 (l1 * (M (R l0 102) (Int.toNat v3)))) + l2)) - (M (R l0 103) (Int.toNat v3)))))], R, M, 174)) (cs := [¬ (M l0 104 ≤ v3), xar 43 0, xidx v3 (xan 43), xar 43 0, xidx v3 (xan 43)]) (by rfl) ⟨Int.not_le.mpr c_1, xar_43, xix_43 c_2, xar_43, xix_43 c_2, trivial⟩ (Nat.le_refl _) ?_
      refine XR.mabs 10 rfl (rest := []) k_10_549 k_mabsS k_mini k_mabsC (Nat.le_refl _) (by decide) (Nat.le_of_ble_eq_true rfl) (by decide +kernel) ?_
      refine s_M_fits [(30, .aload_n 0, 0, 0), (31, .getfield 552, 10, 105)] (by decide +kernel) (z' := (34, [(0, (vR 10 l0)), (1, (vI l1)), (2, (vI l2)), (3, (vI v3))], [(vI (M l0 105)), (vI (xabs (w32 ((w32 ((w32 (l1 * (M (R l0 102) (Int.toNat v3)))) + l2)) - (M (R l0 103) (Int.toNat v3))))))], R, M, 174)) (cs := []) (by rfl) trivial (Nat.le_refl _) ?_
      rcases xif_ex h with ⟨c_3, h⟩ | ⟨c_3, h⟩
      · skip
        refine s_M_fits [(34, .if_icmp .le 5, 0, (-1)), (37, .iconst 0, 0, 0)] (by decide +kernel) (z' := (38, [(0, (vR 10 l0)), (1, (vI l1)), (2, (vI l2)), (3, (vI v3))], [(vI 0)], R, M, 174)) (cs := [¬ (xabs (w32 ((w32 ((w32 (l1 * (M (R l0 102) (Int.toNat v3)))) + l2)) - (M (R l0 103) (Int.toNat v3)))) ≤ M l0 105)]) (by rfl) ⟨Int.not_le.mpr c_3, trivial⟩ (Nat.le_refl _) ?_
        obtain rfl := Option.some.inj h
        exact XR.retI .boolean rfl (xnar_z (by decide)) (by decide +kernel)
      · skip
        obtain ⟨v3_4, hv3_4, h⟩ := xl_ex h
        refine s_M_fits [(34, .if_icmp .le 5, 0, 39), (39, .iinc 3 1, 0, 0), (42, .goto (-40), 0, 2)] (by decide +kernel) (z' := (2, [(3, (vI v3_4)), (0, (vR 10 l0)), (1, (vI l1)), (2, (vI l2))], [], R, M, 174)) (cs := [xabs (w32 ((w32 ((w32 (l1 * (M (R l0 102) (Int.toNat v3)))) + l2)) - (M (R l0 103) (Int.toNat v3)))) ≤ M l0 105]) (by subst hv3_4; rfl) ⟨Int.not_lt.mp c_3, trivial⟩ (Nat.le_refl _) ?_
        refine XR.pick [1, 2, 3, 0] (ls' := [(0, (vR 10 l0)), (1, (vI l1)), (2, (vI l2)), (3, (vI v3_4))]) rfl ?_
        exact ih v3_4 _ h
    · skip
      refine s_M_fits [(7, .if_icmp .ge 38, 0, 45), (45, .iconst 1, 0, 1)] (by decide +kernel) (z' := (46, [(0, (vR 10 l0)), (1, (vI l1)), (2, (vI l2)), (3, (vI v3))], [(vI 1)], R, M, 174)) (cs := [M l0 104 ≤ v3]) (by rfl) ⟨Int.not_lt.mp c_1, trivial⟩ (Nat.le_refl _) ?_
      obtain rfl := Option.some.inj h
      exact XR.retI .boolean rfl (xnar_z (by decide)) (by decide +kernel)
set_option maxRecDepth 100000 in
set_option maxHeartbeats 4000000 in
theorem o_M_fits {sc : List Int} {R : xR} {M : xM} {l0 : Nat} {l1 : Int} {l2 : Int} {out : Int} (h : f_M_fits R l0 l1 l2 M = some out) : XR false 1 174 sc y_M_fits (0, [(0, (vR 10 l0)), (1, (vI l1)), (2, (vI l2))], [], R, M, 174) ((some (vI out)), R, M) := by
  unfold f_M_fits at h
  refine s_M_fits [(0, .iconst 0, 0, 0), (1, .istore_n 3, 0, 0)] (by decide +kernel) (z' := (2, [(3, (vI 0)), (0, (vR 10 l0)), (1, (vI l1)), (2, (vI l2))], [], R, M, 174)) (cs := []) (by rfl) trivial (Nat.le_refl _) ?_
  refine XR.pick [1, 2, 3, 0] (ls' := [(0, (vR 10 l0)), (1, (vI l1)), (2, (vI l2)), (3, (vI 0))]) rfl ?_
  refine o_M_fits_F2  xfu 0 _ h
set_option maxRecDepth 100000 in
set_option maxHeartbeats 4000000 in
theorem c_M_fits {sc : List Int} {R : xR} {M : xM} {l0 : Nat} {l1 : Int} {l2 : Int} {out : Int} (h : f_M_fits R l0 l1 l2 M = some out) : XC false 1 sc y_M_fits [(vR 10 l0), (vI l1), (vI l2)] R M 174 174 ((some (vI out)), R, M) := XC.of (by decide) (Nat.le_of_ble_eq_true rfl) (Nat.le_refl _) (Nat.le_refl _) (o_M_fits h)
