def f_M_knock (R : xR) (l0 : Nat) (l1 : Int) (l2 : Int) (l3 : Int) (M : xM) : Option (Int × xM) :=
  xb1 (f_M_isCleaner l0 l1 M) fun r_1 =>
  if r_1 = 0 then
    xb2 (f_M_is l0 1 M) fun r_4 M_5 =>
    xch (r_4 = 0 ∨ r_4 = 1) <|
    some (r_4, M_5)
  else
    xb1 (f_M_isHour l2) fun r_8 =>
    if r_8 = 0 then
      xb2 (f_M_is l0 1 M) fun r_11 M_12 =>
      xch (r_11 = 0 ∨ r_11 = 1) <|
      some (r_11, M_12)
    else
      xb1 (f_M_isKnown l3) fun r_15 =>
      if r_15 = 0 then
        xb2 (f_M_is l0 1 M) fun r_18 M_19 =>
        xch (r_18 = 0 ∨ r_18 = 1) <|
        some (r_18, M_19)
      else
        xb1 (f_M_hasLayer R l0 l1 M) fun r_22 =>
        xb2 (f_M_happens R l0 0 l1 l2 l2 l3 r_22 M) fun r_24 M_25 =>
        xch (r_24 = 0 ∨ r_24 = 1) <|
        some (r_24, M_25)
set_option maxRecDepth 100000 in
set_option maxHeartbeats 4000000 in
theorem s_M_knock {d : Nat} {sc : List Int} {z z' : xS} {out : xO} (qs : List xI) {cs : List Prop} (hq : qs.all (xqb 10 false y_M_knock.2.2.1 y_M_knock.2.1) = true) (h : xN false sc qs z = some (z', cs)) (hc : xAll cs) (hE : z'.2.2.2.2.2 ≤ 174) (k : XR false d 174 sc y_M_knock z' out) : XR false d 174 sc y_M_knock z out := XR.seg 10 false rfl (fun q => by cases q) qs hq h hc hE k
set_option maxRecDepth 100000 in
set_option maxHeartbeats 4000000 in
theorem o_M_knock {sc : List Int} {R : xR} {M : xM} {l0 : Nat} {l1 : Int} {l2 : Int} {l3 : Int} {out : Int × xM} (h : f_M_knock R l0 l1 l2 l3 M = some out) : XR false 2 174 sc y_M_knock (0, [(0, (vR 10 l0)), (1, (vI l1)), (2, (vI l2)), (3, (vI l3))], [], R, M, 174) ((some (vI out.1)), R, out.2) := by
  unfold f_M_knock at h
  refine s_M_knock [(0, .aload_n 0, 0, 0), (1, .iload_n 1, 0, 0)] (by decide +kernel) (z' := (2, [(0, (vR 10 l0)), (1, (vI l1)), (2, (vI l2)), (3, (vI l3))], [(vI l1), (vR 10 l0)], R, M, 174)) (cs := []) (by rfl) trivial (Nat.le_refl _) ?_
  obtain ⟨r_1, e_2, h⟩ := xb1_ex h
  refine XR.callV 10 rfl (rest := []) m_M_isCleaner k_10_430 10 l0 (Or.inl ⟨by decide, rfl⟩) [(vI l1)] rfl rfl (c_M_isCleaner e_2) (by decide) (Nat.le_of_ble_eq_true rfl) (by decide +kernel) (Nat.le_refl _) (Nat.le_refl _) ?_
  show XR false 2 174 sc y_M_knock (5, [(0, (vR 10 l0)), (1, (vI l1)), (2, (vI l2)), (3, (vI l3))], [(vI r_1)], R, M, 174) _
  rcases xif_ex h with ⟨c_3, h⟩ | ⟨c_3, h⟩
  · skip
    refine s_M_knock [(5, .ifCond .eq 17, 0, 22), (22, .aload_n 0, 0, 0), (23, .iconst 1, 0, 1)] (by decide +kernel) (z' := (24, [(0, (vR 10 l0)), (1, (vI l1)), (2, (vI l2)), (3, (vI l3))], [(vI 1), (vR 10 l0)], R, M, 174)) (cs := [r_1 = 0]) (by rfl) ⟨c_3, trivial⟩ (Nat.le_refl _) ?_
    obtain ⟨r_4, M_5, e_6, h⟩ := xb2_ex h
    refine XR.callV 10 rfl (rest := []) m_M_is k_10_254 10 l0 (Or.inl ⟨by decide, rfl⟩) [(vI 1)] rfl rfl (c_M_is e_6) (by decide) (Nat.le_of_ble_eq_true rfl) (by decide +kernel) (Nat.le_refl _) (Nat.le_refl _) ?_
    show XR false 2 174 sc y_M_knock (27, [(0, (vR 10 l0)), (1, (vI l1)), (2, (vI l2)), (3, (vI l3))], [(vI r_4)], R, M_5, 174) _
    obtain ⟨c_7, h⟩ := xch_ex h
    obtain rfl := Option.some.inj h
    exact XR.retI .boolean rfl (xnar_z c_7) (by decide +kernel)
  · skip
    refine s_M_knock [(5, .ifCond .eq 17, 0, (-1)), (8, .iload_n 2, 0, 0)] (by decide +kernel) (z' := (9, [(0, (vR 10 l0)), (1, (vI l1)), (2, (vI l2)), (3, (vI l3))], [(vI l2)], R, M, 174)) (cs := [¬ (r_1 = 0)]) (by rfl) ⟨c_3, trivial⟩ (Nat.le_refl _) ?_
    obtain ⟨r_8, e_9, h⟩ := xb1_ex h
    refine XR.callS 10 rfl (rest := []) m_M_isHour k_10_436 [(vI l2)] rfl rfl (c_M_isHour e_9) (by decide) (Nat.le_of_ble_eq_true rfl) (by decide +kernel) (Nat.le_refl _) (Nat.le_refl _) ?_
    show XR false 2 174 sc y_M_knock (12, [(0, (vR 10 l0)), (1, (vI l1)), (2, (vI l2)), (3, (vI l3))], [(vI r_8)], R, M, 174) _
    rcases xif_ex h with ⟨c_10, h⟩ | ⟨c_10, h⟩
    · skip
      refine s_M_knock [(12, .ifCond .eq 10, 0, 22), (22, .aload_n 0, 0, 0), (23, .iconst 1, 0, 1)] (by decide +kernel) (z' := (24, [(0, (vR 10 l0)), (1, (vI l1)), (2, (vI l2)), (3, (vI l3))], [(vI 1), (vR 10 l0)], R, M, 174)) (cs := [r_8 = 0]) (by rfl) ⟨c_10, trivial⟩ (Nat.le_refl _) ?_
      obtain ⟨r_11, M_12, e_13, h⟩ := xb2_ex h
      refine XR.callV 10 rfl (rest := []) m_M_is k_10_254 10 l0 (Or.inl ⟨by decide, rfl⟩) [(vI 1)] rfl rfl (c_M_is e_13) (by decide) (Nat.le_of_ble_eq_true rfl) (by decide +kernel) (Nat.le_refl _) (Nat.le_refl _) ?_
      show XR false 2 174 sc y_M_knock (27, [(0, (vR 10 l0)), (1, (vI l1)), (2, (vI l2)), (3, (vI l3))], [(vI r_11)], R, M_12, 174) _
      obtain ⟨c_14, h⟩ := xch_ex h
      obtain rfl := Option.some.inj h
      exact XR.retI .boolean rfl (xnar_z c_14) (by decide +kernel)
    · skip
      refine s_M_knock [(12, .ifCond .eq 10, 0, (-1)), (15, .iload_n 3, 0, 0)] (by decide +kernel) (z' := (16, [(0, (vR 10 l0)), (1, (vI l1)), (2, (vI l2)), (3, (vI l3))], [(vI l3)], R, M, 174)) (cs := [¬ (r_8 = 0)]) (by rfl) ⟨c_10, trivial⟩ (Nat.le_refl _) ?_
      obtain ⟨r_15, e_16, h⟩ := xb1_ex h
      refine XR.callS 10 rfl (rest := []) m_M_isKnown k_10_442 [(vI l3)] rfl rfl (c_M_isKnown e_16) (by decide) (Nat.le_of_ble_eq_true rfl) (by decide +kernel) (Nat.le_refl _) (Nat.le_refl _) ?_
      show XR false 2 174 sc y_M_knock (19, [(0, (vR 10 l0)), (1, (vI l1)), (2, (vI l2)), (3, (vI l3))], [(vI r_15)], R, M, 174) _
      rcases xif_ex h with ⟨c_17, h⟩ | ⟨c_17, h⟩
      · skip
        refine s_M_knock [(19, .ifCond .ne 9, 0, (-1)), (22, .aload_n 0, 0, 0), (23, .iconst 1, 0, 1)] (by decide +kernel) (z' := (24, [(0, (vR 10 l0)), (1, (vI l1)), (2, (vI l2)), (3, (vI l3))], [(vI 1), (vR 10 l0)], R, M, 174)) (cs := [¬ (r_15 ≠ 0)]) (by rfl) ⟨fun q => q c_17, trivial⟩ (Nat.le_refl _) ?_
        obtain ⟨r_18, M_19, e_20, h⟩ := xb2_ex h
        refine XR.callV 10 rfl (rest := []) m_M_is k_10_254 10 l0 (Or.inl ⟨by decide, rfl⟩) [(vI 1)] rfl rfl (c_M_is e_20) (by decide) (Nat.le_of_ble_eq_true rfl) (by decide +kernel) (Nat.le_refl _) (Nat.le_refl _) ?_
        show XR false 2 174 sc y_M_knock (27, [(0, (vR 10 l0)), (1, (vI l1)), (2, (vI l2)), (3, (vI l3))], [(vI r_18)], R, M_19, 174) _
        obtain ⟨c_21, h⟩ := xch_ex h
        obtain rfl := Option.some.inj h
        exact XR.retI .boolean rfl (xnar_z c_21) (by decide +kernel)
      · skip
        refine s_M_knock [(19, .ifCond .ne 9, 0, 28), (28, .aload_n 0, 0, 0), (29, .iconst 0, 0, 0), (30, .iload_n 1, 0, 0), (31, .iload_n 2, 0, 0), (32, .iload_n 2, 0, 0), (33, .iload_n 3, 0, 0), (34, .aload_n 0, 0, 0), (35, .iload_n 1, 0, 0)] (by decide +kernel) (z' := (36, [(0, (vR 10 l0)), (1, (vI l1)), (2, (vI l2)), (3, (vI l3))], [(vI l1), (vR 10 l0), (vI l3), (vI l2), (vI l2), (vI l1), (vI 0), (vR 10 l0)], R, M, 174)) (cs := [r_15 ≠ 0]) (by rfl) ⟨c_17, trivial⟩ (Nat.le_refl _) ?_
        obtain ⟨r_22, e_23, h⟩ := xb1_ex h
        refine XR.callV 10 rfl (rest := [(vI l3), (vI l2), (vI l2), (vI l1), (vI 0), (vR 10 l0)]) m_M_hasLayer k_10_448 10 l0 (Or.inl ⟨by decide, rfl⟩) [(vI l1)] rfl rfl (c_M_hasLayer e_23) (by decide) (Nat.le_of_ble_eq_true rfl) (by decide +kernel) (Nat.le_refl _) (Nat.le_refl _) ?_
        show XR false 2 174 sc y_M_knock (39, [(0, (vR 10 l0)), (1, (vI l1)), (2, (vI l2)), (3, (vI l3))], [(vI r_22), (vI l3), (vI l2), (vI l2), (vI l1), (vI 0), (vR 10 l0)], R, M, 174) _
        obtain ⟨r_24, M_25, e_26, h⟩ := xb2_ex h
        refine XR.callV 10 rfl (rest := []) m_M_happens k_10_451 10 l0 (Or.inl ⟨by decide, rfl⟩) [(vI 0), (vI l1), (vI l2), (vI l2), (vI l3), (vI r_22)] rfl rfl (c_M_happens e_26) (by decide) (Nat.le_of_ble_eq_true rfl) (by decide +kernel) (Nat.le_refl _) (Nat.le_refl _) ?_
        show XR false 2 174 sc y_M_knock (42, [(0, (vR 10 l0)), (1, (vI l1)), (2, (vI l2)), (3, (vI l3))], [(vI r_24)], R, M_25, 174) _
        obtain ⟨c_27, h⟩ := xch_ex h
        obtain rfl := Option.some.inj h
        exact XR.retI .boolean rfl (xnar_z c_27) (by decide +kernel)
set_option maxRecDepth 100000 in
set_option maxHeartbeats 4000000 in
theorem c_M_knock {sc : List Int} {R : xR} {M : xM} {l0 : Nat} {l1 : Int} {l2 : Int} {l3 : Int} {out : Int × xM} (h : f_M_knock R l0 l1 l2 l3 M = some out) : XC false 2 sc y_M_knock [(vR 10 l0), (vI l1), (vI l2), (vI l3)] R M 174 174 ((some (vI out.1)), R, out.2) := XC.of (by decide) (Nat.le_of_ble_eq_true rfl) (Nat.le_refl _) (Nat.le_refl _) (o_M_knock h)
def f_M_knockSet (l0 : Nat) (M : xM) : Option (Int × xM) :=
  if M l0 94 = -1 then
    xb2 (f_M_refuse l0 6 M) fun r_2 M_3 =>
    some (r_2, M_3)
  else
    xb2 (f_M_gives l0 (M l0 94) M) fun r_5 M_6 =>
    some (r_5, M_6)
set_option maxRecDepth 100000 in
set_option maxHeartbeats 4000000 in
theorem s_M_knockSet {d : Nat} {sc : List Int} {z z' : xS} {out : xO} (qs : List xI) {cs : List Prop} (hq : qs.all (xqb 10 false y_M_knockSet.2.2.1 y_M_knockSet.2.1) = true) (h : xN false sc qs z = some (z', cs)) (hc : xAll cs) (hE : z'.2.2.2.2.2 ≤ 174) (k : XR false d 174 sc y_M_knockSet z' out) : XR false d 174 sc y_M_knockSet z out := XR.seg 10 false rfl (fun q => by cases q) qs hq h hc hE k
set_option maxRecDepth 100000 in
set_option maxHeartbeats 4000000 in
theorem o_M_knockSet {sc : List Int} {R : xR} {M : xM} {l0 : Nat} {out : Int × xM} (h : f_M_knockSet l0 M = some out) : XR false 1 174 sc y_M_knockSet (0, [(0, (vR 10 l0))], [], R, M, 174) ((some (vI out.1)), R, out.2) := by
  unfold f_M_knockSet at h
  refine s_M_knockSet [(0, .aload_n 0, 0, 0), (1, .getfield 214, 10, 94), (4, .iconst (-1), 0, (-1))] (by decide +kernel) (z' := (5, [(0, (vR 10 l0))], [(vI (-1)), (vI (M l0 94))], R, M, 174)) (cs := []) (by rfl) trivial (Nat.le_refl _) ?_
  rcases xif_ex h with ⟨c_1, h⟩ | ⟨c_1, h⟩
  · skip
    refine s_M_knockSet [(5, .if_icmp .ne 12, 0, (-1)), (8, .aload_n 0, 0, 0), (9, .bipush 6, 0, 6)] (by decide +kernel) (z' := (11, [(0, (vR 10 l0))], [(vI 6), (vR 10 l0)], R, M, 174)) (cs := [¬ (M l0 94 ≠ -1)]) (by rfl) ⟨fun q => q c_1, trivial⟩ (Nat.le_refl _) ?_
    obtain ⟨r_2, M_3, e_4, h⟩ := xb2_ex h
    refine XR.callV 10 rfl (rest := []) m_M_refuse k_10_377 10 l0 (Or.inl ⟨by decide, rfl⟩) [(vI 6)] rfl rfl (c_M_refuse e_4) (by decide) (Nat.le_of_ble_eq_true rfl) (by decide +kernel) (Nat.le_refl _) (Nat.le_refl _) ?_
    show XR false 1 174 sc y_M_knockSet (14, [(0, (vR 10 l0))], [(vI r_2)], R, M_3, 174) _
    refine s_M_knockSet [(14, .goto 11, 0, 25)] (by decide +kernel) (z' := (25, [(0, (vR 10 l0))], [(vI r_2)], R, M_3, 174)) (cs := []) (by rfl) trivial (Nat.le_refl _) ?_
    obtain rfl := Option.some.inj h
    exact XR.retI .int rfl rfl (by decide +kernel)
  · skip
    refine s_M_knockSet [(5, .if_icmp .ne 12, 0, 17), (17, .aload_n 0, 0, 0), (18, .aload_n 0, 0, 0), (19, .getfield 214, 10, 94)] (by decide +kernel) (z' := (22, [(0, (vR 10 l0))], [(vI (M l0 94)), (vR 10 l0)], R, M, 174)) (cs := [M l0 94 ≠ -1]) (by rfl) ⟨c_1, trivial⟩ (Nat.le_refl _) ?_
    obtain ⟨r_5, M_6, e_7, h⟩ := xb2_ex h
    refine XR.callV 10 rfl (rest := []) m_M_gives k_10_405 10 l0 (Or.inl ⟨by decide, rfl⟩) [(vI (M l0 94))] rfl rfl (c_M_gives e_7) (by decide) (Nat.le_of_ble_eq_true rfl) (by decide +kernel) (Nat.le_refl _) (Nat.le_refl _) ?_
    show XR false 1 174 sc y_M_knockSet (25, [(0, (vR 10 l0))], [(vI r_5)], R, M_6, 174) _
    obtain rfl := Option.some.inj h
    exact XR.retI .int rfl rfl (by decide +kernel)
set_option maxRecDepth 100000 in
set_option maxHeartbeats 4000000 in
theorem c_M_knockSet {sc : List Int} {R : xR} {M : xM} {l0 : Nat} {out : Int × xM} (h : f_M_knockSet l0 M = some out) : XC false 1 sc y_M_knockSet [(vR 10 l0)] R M 174 174 ((some (vI out.1)), R, out.2) := XC.of (by decide) (Nat.le_of_ble_eq_true rfl) (Nat.le_refl _) (Nat.le_refl _) (o_M_knockSet h)
def M_knocks_F131 (R : xR) (l0 : Nat) (l1 : Int) (l2 : Int) (l3 : Int) (l4 : Int) (l5 : Int) (q168 : Int → xM → Option (Int × xM)) : Nat → Int → Int → Int → xM → Option (Int × xM)
  | 0, _, _, _, _ => none
  | n + 1, v6, v7, v9, M =>
    if v9 < v6 then
      xch (0 ≤ w32 ((w32 (60 * l2)) + v9) ∧ w32 ((w32 (60 * l2)) + v9) < 240) <|
      if M (R l0 3) (Int.toNat (w32 ((w32 (60 * l2)) + v9))) = v7 then
        xb2 (f_M_refuse l0 1 M) fun r_55 M_56 =>
        some (r_55, M_56)
      else
        xl (w32 (v9 + 1)) fun v9_58 =>
        M_knocks_F131 R l0 l1 l2 l3 l4 l5 q168 n v6 v7 v9_58 M
    else
      q168 v6 M
def M_knocks_F86 (R : xR) (l0 : Nat) (l1 : Int) (l2 : Int) (l3 : Int) (l4 : Int) (l5 : Int) (q174 : xM → Option (Int × xM)) : Nat → Int → xM → Option (Int × xM)
  | 0, _, _ => none
  | n + 1, v6, M =>
    if v6 < l3 then
      xch (0 ≤ w32 ((w32 (60 * l2)) + v6) ∧ w32 ((w32 (60 * l2)) + v6) < 240) <|
      xl (M (R l0 3) (Int.toNat (w32 ((w32 (60 * l2)) + v6)))) fun v7_46 =>
      if v7_46 < 0 then
        xb2 (f_M_refuse l0 1 M) fun r_48 M_49 =>
        some (r_48, M_49)
      else
        if v7_46 < 48 then
          M_knocks_F131 R l0 l1 l2 l3 l4 l5
            (fun (v6_59 : Int) (M_60 : xM) =>
              xl (w32 (v6_59 + 1)) fun v6_61 =>
              M_knocks_F86 R l0 l1 l2 l3 l4 l5 q174 n v6_61 M_60)
            xfu v6 v7_46 0 M
        else
          xb2 (f_M_refuse l0 1 M) fun r_62 M_63 =>
          some (r_62, M_63)
    else
      q174 M
def M_knocks_J369 (R : xR) (l0 : Nat) (l2 : Int) (l3 : Int) (l4 : Int) (l5 : Int) (rc : Int → Int → Int → xM → Option (Int × xM)) (q375 : Int → Int → xM → Option (Int × xM)) (v6 : Int) (v7 : Int) (v8 : Int) (M : xM) : Option (Int × xM) :=
  xl (w32 (v8 + 1)) fun v8_77 =>
  rc v6 v7 v8_77 M
def M_knocks_J283 (R : xR) (l0 : Nat) (l2 : Int) (l3 : Int) (l4 : Int) (l5 : Int) (rc : Int → Int → Int → Int → xM → Option (Int × xM)) (q289 : Int → Int → Int → xM → Option (Int × xM)) (v6 : Int) (v7 : Int) (v8 : Int) (v9 : Int) (M : xM) : Option (Int × xM) :=
  xl (w32 (v9 + 1)) fun v9_81 =>
  rc v6 v7 v8 v9_81 M
def M_knocks_F232 (R : xR) (l0 : Nat) (l2 : Int) (l3 : Int) (l4 : Int) (l5 : Int) (q289 : Int → Int → Int → xM → Option (Int × xM)) : Nat → Int → Int → Int → Int → xM → Option (Int × xM)
  | 0, _, _, _, _, _ => none
  | n + 1, v6, v7, v8, v9, M =>
    if v9 < l3 then
      if xand (xshr v8 v9) 1 = 0 then
        M_knocks_J283 R l0 l2 l3 l4 l5 (M_knocks_F232 R l0 l2 l3 l4 l5 q289 n) q289 v6 v7 v8 v9 M
      else
        xch (0 ≤ w32 ((w32 (60 * l2)) + v9) ∧ w32 ((w32 (60 * l2)) + v9) < 240) <|
        xch (0 ≤ M l0 78 ∧ M l0 78 < 6) <|
        xl (xu M (R l0 79) (Int.toNat (M l0 78)) (w32 (M (R l0 3) (Int.toNat (w32 ((w32 (60 * l2)) + v9)))))) fun M_84 =>
        xl (xu M_84 l0 78 (w32 ((M_84 l0 78) + 1))) fun M_85 =>
        M_knocks_J283 R l0 l2 l3 l4 l5 (M_knocks_F232 R l0 l2 l3 l4 l5 q289 n) q289 v6 v7 v8 v9 M_85
    else
      q289 v6 v7 v8 M
def M_knocks_F301 (R : xR) (l0 : Nat) (l2 : Int) (l3 : Int) (l4 : Int) (l5 : Int) (q325 : Int → Int → Int → Int → xM → Option (Int × xM)) : Nat → Int → Int → Int → Int → Int → xM → Option (Int × xM)
  | 0, _, _, _, _, _, _ => none
  | n + 1, v6, v7, v8, v9, v10, M =>
    if l5 < v10 then
      q325 v6 v7 v8 v9 M
    else
      xb1 (f_M_upIn R l0 v10 M) fun r_93 =>
      xl (w32 (v9 + r_93)) fun v9_95 =>
      xl (w32 (v10 + 1)) fun v10_96 =>
      M_knocks_F301 R l0 l2 l3 l4 l5 q325 n v6 v7 v8 v9_95 v10_96 M
def M_knocks_J361 (R : xR) (l0 : Nat) (l2 : Int) (l3 : Int) (l4 : Int) (l5 : Int) (rc : Int → Int → Int → xM → Option (Int × xM)) (q375 : Int → Int → xM → Option (Int × xM)) (v8 : Int) (v9 : Int) (M : xM) : Option (Int × xM) :=
  M_knocks_J369 R l0 l2 l3 l4 l5 rc q375 v8 v9 v8 M
def M_knocks_F203 (R : xR) (l0 : Nat) (l2 : Int) (l3 : Int) (l4 : Int) (l5 : Int) (q375 : Int → Int → xM → Option (Int × xM)) : Nat → Int → Int → Int → xM → Option (Int × xM)
  | 0, _, _, _, _ => none
  | n + 1, v6, v7, v8, M =>
    if v8 < xshl 1 l3 then
      xb1 (f_M_bits v8) fun r_74 =>
      if l4 < r_74 then
        M_knocks_J369 R l0 l2 l3 l4 l5 (M_knocks_F203 R l0 l2 l3 l4 l5 q375 n) q375 v6 v7 v8 M
      else
        xl (xu M l0 78 0) fun M_78 =>
        M_knocks_F232 R l0 l2 l3 l4 l5
          (fun (v6_86 : Int) (v7_87 : Int) (v8_88 : Int) (M_89 : xM) =>
            xb1 (f_M_steps R l0 l5 M_89) fun M_90 =>
            M_knocks_F301 R l0 l2 l3 l4 l5
              (fun (v6_97 : Int) (v7_98 : Int) (v8_99 : Int) (v9_100 : Int) (M_101 : xM) =>
                if v6_97 = -1 then
                  M_knocks_J361 R l0 l2 l3 l4 l5 (M_knocks_F203 R l0 l2 l3 l4 l5 q375 n) q375 v8_99 v9_100 M_101
                else
                  if v7_98 < v9_100 then
                    M_knocks_J369 R l0 l2 l3 l4 l5 (M_knocks_F203 R l0 l2 l3 l4 l5 q375 n) q375 v6_97 v7_98 v8_99 M_101
                  else
                    if v9_100 = v7_98 then
                      xb1 (f_M_bits v8_99) fun r_105 =>
                      xb1 (f_M_bits v6_97) fun r_107 =>
                      if r_105 < r_107 then
                        M_knocks_J361 R l0 l2 l3 l4 l5 (M_knocks_F203 R l0 l2 l3 l4 l5 q375 n) q375 v8_99 v9_100 M_101
                      else
                        M_knocks_J369 R l0 l2 l3 l4 l5 (M_knocks_F203 R l0 l2 l3 l4 l5 q375 n) q375 v6_97 v7_98 v8_99 M_101
                    else
                      M_knocks_J361 R l0 l2 l3 l4 l5 (M_knocks_F203 R l0 l2 l3 l4 l5 q375 n) q375 v8_99 v9_100 M_101)
              xfu v6_86 v7_87 v8_88 0 0 M_90)
          xfu v6 v7 v8 0 M_78
    else
      q375 v6 v7 M
def f_M_knocks (R : xR) (l0 : Nat) (l1 : Int) (l2 : Int) (l3 : Int) (l4 : Int) (l5 : Int) (M : xM) : Option (Int × xM) :=
  xb1 (f_M_isCleaner l0 l1 M) fun r_1 =>
  if r_1 = 0 then
    xb2 (f_M_refuse l0 1 M) fun r_4 M_5 =>
    some (r_4, M_5)
  else
    xb1 (f_M_isTray l2) fun r_7 =>
    if r_7 = 0 then
      xb2 (f_M_refuse l0 1 M) fun r_10 M_11 =>
      some (r_10, M_11)
    else
      if l3 < 1 then
        xb2 (f_M_refuse l0 1 M) fun r_14 M_15 =>
        some (r_14, M_15)
      else
        if 6 < l3 then
          xb2 (f_M_refuse l0 1 M) fun r_18 M_19 =>
          some (r_18, M_19)
        else
          if l4 < 0 then
            xb2 (f_M_refuse l0 1 M) fun r_22 M_23 =>
            some (r_22, M_23)
          else
            if l3 < l4 then
              xb2 (f_M_refuse l0 1 M) fun r_26 M_27 =>
              some (r_26, M_27)
            else
              xb1 (f_M_isHour l5) fun r_29 =>
              if r_29 = 0 then
                xb2 (f_M_refuse l0 1 M) fun r_32 M_33 =>
                some (r_32, M_33)
              else
                xch (0 ≤ l2 ∧ l2 < 4) <|
                if M (R l0 2) (Int.toNat l2) = -1 then
                  xb2 (f_M_refuse l0 2 M) fun r_37 M_38 =>
                  some (r_37, M_38)
                else
                  if M (R l0 2) (Int.toNat l2) < l3 then
                    xb2 (f_M_refuse l0 3 M) fun r_41 M_42 =>
                    some (r_41, M_42)
                  else
                    M_knocks_F86 R l0 l1 l2 l3 l4 l5
                      (fun (M_65 : xM) =>
                        xb1 (f_M_hasLayer R l0 l1 M_65) fun r_66 =>
                        if r_66 = 0 then
                          xb2 (f_M_refuse l0 7 M_65) fun r_69 M_70 =>
                          some (r_69, M_70)
                        else
                          xl (xu M_65 l0 77 l1) fun M_72 =>
                          M_knocks_F203 R l0 l2 l3 l4 l5
                            (fun (v6_110 : Int) (v7_111 : Int) (M_112 : xM) =>
                              xl (xu M_112 l0 77 (-1)) fun M_113 =>
                              xl (xu M_113 l0 78 0) fun M_114 =>
                              xl (xu M_114 l0 94 v6_110) fun M_115 =>
                              xb2 (f_M_gives l0 v7_111 M_115) fun r_116 M_117 =>
                              some (r_116, M_117))
                            xfu (-1) 0 0 M_72)
                      xfu 0 M
set_option maxRecDepth 100000 in
set_option maxHeartbeats 4000000 in
theorem s_M_knocks {d : Nat} {sc : List Int} {z z' : xS} {out : xO} (qs : List xI) {cs : List Prop} (hq : qs.all (xqb 10 false y_M_knocks.2.2.1 y_M_knocks.2.1) = true) (h : xN false sc qs z = some (z', cs)) (hc : xAll cs) (hE : z'.2.2.2.2.2 ≤ 174) (k : XR false d 174 sc y_M_knocks z' out) : XR false d 174 sc y_M_knocks z out := XR.seg 10 false rfl (fun q => by cases q) qs hq h hc hE k
set_option maxRecDepth 100000 in
set_option maxHeartbeats 4000000 in
theorem o_M_knocks_F131 {sc : List Int} {R : xR}   {l0 : Nat} {l1 : Int} {l2 : Int} {l3 : Int} {l4 : Int} {l5 : Int}  {q168 : Int → xM → Option (Int × xM)} (hq168 : ∀ (w6 : Int) (M : xM) (out : Int × xM), q168 w6 M = some out → XR false 4 174 sc y_M_knocks (168, [(0, (vR 10 l0)), (1, (vI l1)), (2, (vI l2)), (3, (vI l3)), (4, (vI l4)), (5, (vI l5)), (6, (vI w6))], [], R, M, 174) ((some (vI out.1)), R, out.2)) : ∀ (n : Nat) (v6 : Int) (v7 : Int) (v9 : Int) (M : xM) (out : Int × xM), M_knocks_F131 R l0 l1 l2 l3 l4 l5 q168 n v6 v7 v9 M = some out → XR false 4 174 sc y_M_knocks (131, [(0, (vR 10 l0)), (1, (vI l1)), (2, (vI l2)), (3, (vI l3)), (4, (vI l4)), (5, (vI l5)), (6, (vI v6)), (7, (vL v7)), (9, (vI v9))], [], R, M, 174) ((some (vI out.1)), R, out.2) := by
  intro n
  induction n with
  | zero => intro v6 v7 v9 M out h; exact (xno h).elim
  | succ n ih =>
    intro v6 v7 v9 M out h
    rw [M_knocks_F131] at h
    refine s_M_knocks [(131, .iload 9, 0, 0), (133, .iload 6, 0, 0)] (by decide +kernel) (z' := (135, [(0, (vR 10 l0)), (1, (vI l1)), (2, (vI l2)), (3, (vI l3)), (4, (vI l4)), (5, (vI l5)), (6, (vI v6)), (7, (vL v7)), (9, (vI v9))], [(vI v6), (vI v9)], R, M, 174)) (cs := []) (by rfl) trivial (Nat.le_refl _) ?_
    rcases xif_ex h with ⟨c_52, h⟩ | ⟨c_52, h⟩
    · skip
      obtain ⟨c_53, h⟩ := xch_ex h
      refine s_M_knocks [(135, .if_icmp .ge 33, 0, (-1)), (138, .aload_n 0, 0, 0), (139, .getfield 16, 10, 3), (142, .bipush 60, 0, 60), (144, .iload_n 2, 0, 0), (145, .imul, 0, 0), (146, .iload 9, 0, 0), (148, .iadd, 0, 0), (149, .laload, 0, 0), (150, .lload 7, 0, 0), (152, .lcmp, 0, 0)] (by decide +kernel) (z' := (153, [(0, (vR 10 l0)), (1, (vI l1)), (2, (vI l2)), (3, (vI l3)), (4, (vI l4)), (5, (vI l5)), (6, (vI v6)), (7, (vL v7)), (9, (vI v9))], [(vI (xcmp (M (R l0 3) (Int.toNat (w32 ((w32 (60 * l2)) + v9)))) v7))], R, M, 174)) (cs := [¬ (v6 ≤ v9), xar 40 1, xidx (w32 ((w32 (60 * l2)) + v9)) (xan 40)]) (by rfl) ⟨Int.not_le.mpr c_52, xar_40, xix_40 c_53, trivial⟩ (Nat.le_refl _) ?_
      rcases xif_ex h with ⟨c_54, h⟩ | ⟨c_54, h⟩
      · skip
        refine s_M_knocks [(153, .ifCond .ne 9, 0, (-1)), (156, .aload_n 0, 0, 0), (157, .iconst 1, 0, 1)] (by decide +kernel) (z' := (158, [(0, (vR 10 l0)), (1, (vI l1)), (2, (vI l2)), (3, (vI l3)), (4, (vI l4)), (5, (vI l5)), (6, (vI v6)), (7, (vL v7)), (9, (vI v9))], [(vI 1), (vR 10 l0)], R, M, 174)) (cs := [¬ (xcmp (M (R l0 3) (Int.toNat (w32 ((w32 (60 * l2)) + v9)))) v7 ≠ 0)]) (by rfl) ⟨fun q => q (xcmp_eq.mpr c_54), trivial⟩ (Nat.le_refl _) ?_
        obtain ⟨r_55, M_56, e_57, h⟩ := xb2_ex h
        refine XR.callV 10 rfl (rest := []) m_M_refuse k_10_377 10 l0 (Or.inl ⟨by decide, rfl⟩) [(vI 1)] rfl rfl (c_M_refuse e_57) (by decide) (Nat.le_of_ble_eq_true rfl) (by decide +kernel) (Nat.le_refl _) (Nat.le_refl _) ?_
        show XR false 4 174 sc y_M_knocks (161, [(0, (vR 10 l0)), (1, (vI l1)), (2, (vI l2)), (3, (vI l3)), (4, (vI l4)), (5, (vI l5)), (6, (vI v6)), (7, (vL v7)), (9, (vI v9))], [(vI r_55)], R, M_56, 174) _
        obtain rfl := Option.some.inj h
        exact XR.retI .int rfl rfl (by decide +kernel)
      · skip
        obtain ⟨v9_58, hv9_58, h⟩ := xl_ex h
        refine s_M_knocks [(153, .ifCond .ne 9, 0, 162), (162, .iinc 9 1, 0, 0), (165, .goto (-34), 0, 131)] (by decide +kernel) (z' := (131, [(9, (vI v9_58)), (0, (vR 10 l0)), (1, (vI l1)), (2, (vI l2)), (3, (vI l3)), (4, (vI l4)), (5, (vI l5)), (6, (vI v6)), (7, (vL v7))], [], R, M, 174)) (cs := [xcmp (M (R l0 3) (Int.toNat (w32 ((w32 (60 * l2)) + v9)))) v7 ≠ 0]) (by subst hv9_58; rfl) ⟨fun q => c_54 (xcmp_eq.mp q), trivial⟩ (Nat.le_refl _) ?_
        refine XR.pick [1, 2, 3, 4, 5, 6, 7, 8, 0] (ls' := [(0, (vR 10 l0)), (1, (vI l1)), (2, (vI l2)), (3, (vI l3)), (4, (vI l4)), (5, (vI l5)), (6, (vI v6)), (7, (vL v7)), (9, (vI v9_58))]) rfl ?_
        exact ih v6 v7 v9_58 M _ h
    · skip
      refine s_M_knocks [(135, .if_icmp .ge 33, 0, 168)] (by decide +kernel) (z' := (168, [(0, (vR 10 l0)), (1, (vI l1)), (2, (vI l2)), (3, (vI l3)), (4, (vI l4)), (5, (vI l5)), (6, (vI v6)), (7, (vL v7)), (9, (vI v9))], [], R, M, 174)) (cs := [v6 ≤ v9]) (by rfl) ⟨Int.not_lt.mp c_52, trivial⟩ (Nat.le_refl _) ?_
      refine XR.pick [0, 1, 2, 3, 4, 5, 6] (ls' := [(0, (vR 10 l0)), (1, (vI l1)), (2, (vI l2)), (3, (vI l3)), (4, (vI l4)), (5, (vI l5)), (6, (vI v6))]) rfl ?_
      exact hq168 v6 M _ h
set_option maxRecDepth 100000 in
set_option maxHeartbeats 4000000 in
theorem o_M_knocks_F86 {sc : List Int} {R : xR}   {l0 : Nat} {l1 : Int} {l2 : Int} {l3 : Int} {l4 : Int} {l5 : Int}  {q174 : xM → Option (Int × xM)} (hq174 : ∀ (M : xM) (out : Int × xM), q174 M = some out → XR false 4 174 sc y_M_knocks (174, [(0, (vR 10 l0)), (1, (vI l1)), (2, (vI l2)), (3, (vI l3)), (4, (vI l4)), (5, (vI l5))], [], R, M, 174) ((some (vI out.1)), R, out.2)) : ∀ (n : Nat) (v6 : Int) (M : xM) (out : Int × xM), M_knocks_F86 R l0 l1 l2 l3 l4 l5 q174 n v6 M = some out → XR false 4 174 sc y_M_knocks (86, [(0, (vR 10 l0)), (1, (vI l1)), (2, (vI l2)), (3, (vI l3)), (4, (vI l4)), (5, (vI l5)), (6, (vI v6))], [], R, M, 174) ((some (vI out.1)), R, out.2) := by
  intro n
  induction n with
  | zero => intro v6 M out h; exact (xno h).elim
  | succ n ih =>
    intro v6 M out h
    rw [M_knocks_F86] at h
    refine s_M_knocks [(86, .iload 6, 0, 0), (88, .iload_n 3, 0, 0)] (by decide +kernel) (z' := (89, [(0, (vR 10 l0)), (1, (vI l1)), (2, (vI l2)), (3, (vI l3)), (4, (vI l4)), (5, (vI l5)), (6, (vI v6))], [(vI l3), (vI v6)], R, M, 174)) (cs := []) (by rfl) trivial (Nat.le_refl _) ?_
    rcases xif_ex h with ⟨c_44, h⟩ | ⟨c_44, h⟩
    · skip
      obtain ⟨c_45, h⟩ := xch_ex h
      obtain ⟨v7_46, hv7_46, h⟩ := xl_ex h
      refine s_M_knocks [(89, .if_icmp .ge 85, 0, (-1)), (92, .aload_n 0, 0, 0), (93, .getfield 16, 10, 3), (96, .bipush 60, 0, 60), (98, .iload_n 2, 0, 0), (99, .imul, 0, 0), (100, .iload 6, 0, 0), (102, .iadd, 0, 0), (103, .laload, 0, 0), (104, .lstore 7, 0, 0), (106, .lload 7, 0, 0), (108, .lconst 0, 0, 0), (109, .lcmp, 0, 0)] (by decide +kernel) (z' := (110, [(7, (vL v7_46)), (0, (vR 10 l0)), (1, (vI l1)), (2, (vI l2)), (3, (vI l3)), (4, (vI l4)), (5, (vI l5)), (6, (vI v6))], [(vI (xcmp v7_46 0))], R, M, 174)) (cs := [¬ (l3 ≤ v6), xar 40 1, xidx (w32 ((w32 (60 * l2)) + v6)) (xan 40)]) (by subst hv7_46; rfl) ⟨Int.not_le.mpr c_44, xar_40, xix_40 c_45, trivial⟩ (Nat.le_refl _) ?_
      rcases xif_ex h with ⟨c_47, h⟩ | ⟨c_47, h⟩
      · skip
        refine s_M_knocks [(110, .ifCond .lt 12, 0, 122), (122, .aload_n 0, 0, 0), (123, .iconst 1, 0, 1)] (by decide +kernel) (z' := (124, [(7, (vL v7_46)), (0, (vR 10 l0)), (1, (vI l1)), (2, (vI l2)), (3, (vI l3)), (4, (vI l4)), (5, (vI l5)), (6, (vI v6))], [(vI 1), (vR 10 l0)], R, M, 174)) (cs := [xcmp v7_46 0 < 0]) (by rfl) ⟨xcmp_lt.mpr c_47, trivial⟩ (Nat.le_refl _) ?_
        obtain ⟨r_48, M_49, e_50, h⟩ := xb2_ex h
        refine XR.callV 10 rfl (rest := []) m_M_refuse k_10_377 10 l0 (Or.inl ⟨by decide, rfl⟩) [(vI 1)] rfl rfl (c_M_refuse e_50) (by decide) (Nat.le_of_ble_eq_true rfl) (by decide +kernel) (Nat.le_refl _) (Nat.le_refl _) ?_
        show XR false 4 174 sc y_M_knocks (127, [(7, (vL v7_46)), (0, (vR 10 l0)), (1, (vI l1)), (2, (vI l2)), (3, (vI l3)), (4, (vI l4)), (5, (vI l5)), (6, (vI v6))], [(vI r_48)], R, M_49, 174) _
        obtain rfl := Option.some.inj h
        exact XR.retI .int rfl rfl (by decide +kernel)
      · skip
        refine s_M_knocks [(110, .ifCond .lt 12, 0, (-1)), (113, .lload 7, 0, 0), (115, .ldc2_w 524, 0, 48), (118, .lcmp, 0, 0)] (by decide +kernel) (z' := (119, [(7, (vL v7_46)), (0, (vR 10 l0)), (1, (vI l1)), (2, (vI l2)), (3, (vI l3)), (4, (vI l4)), (5, (vI l5)), (6, (vI v6))], [(vI (xcmp v7_46 48))], R, M, 174)) (cs := [¬ (xcmp v7_46 0 < 0)]) (by rfl) ⟨fun q => c_47 (xcmp_lt.mp q), trivial⟩ (Nat.le_refl _) ?_
        rcases xif_ex h with ⟨c_51, h⟩ | ⟨c_51, h⟩
        · skip
          refine s_M_knocks [(119, .ifCond .lt 9, 0, 128), (128, .iconst 0, 0, 0), (129, .istore 9, 0, 0)] (by decide +kernel) (z' := (131, [(9, (vI 0)), (7, (vL v7_46)), (0, (vR 10 l0)), (1, (vI l1)), (2, (vI l2)), (3, (vI l3)), (4, (vI l4)), (5, (vI l5)), (6, (vI v6))], [], R, M, 174)) (cs := [xcmp v7_46 48 < 0]) (by rfl) ⟨xcmp_lt.mpr c_51, trivial⟩ (Nat.le_refl _) ?_
          refine XR.pick [2, 3, 4, 5, 6, 7, 8, 1, 0] (ls' := [(0, (vR 10 l0)), (1, (vI l1)), (2, (vI l2)), (3, (vI l3)), (4, (vI l4)), (5, (vI l5)), (6, (vI v6)), (7, (vL v7_46)), (9, (vI 0))]) rfl ?_
          refine o_M_knocks_F131 ?_ xfu v6 v7_46 0 M _ h
          · intro v6_59 M_60 out h
            obtain ⟨v6_61, hv6_61, h⟩ := xl_ex h
            refine s_M_knocks [(168, .iinc 6 1, 0, 0), (171, .goto (-85), 0, 86)] (by decide +kernel) (z' := (86, [(6, (vI v6_61)), (0, (vR 10 l0)), (1, (vI l1)), (2, (vI l2)), (3, (vI l3)), (4, (vI l4)), (5, (vI l5))], [], R, M_60, 174)) (cs := []) (by subst hv6_61; rfl) trivial (Nat.le_refl _) ?_
            refine XR.pick [1, 2, 3, 4, 5, 6, 0] (ls' := [(0, (vR 10 l0)), (1, (vI l1)), (2, (vI l2)), (3, (vI l3)), (4, (vI l4)), (5, (vI l5)), (6, (vI v6_61))]) rfl ?_
            exact ih v6_61 M_60 _ h
        · skip
          refine s_M_knocks [(119, .ifCond .lt 9, 0, (-1)), (122, .aload_n 0, 0, 0), (123, .iconst 1, 0, 1)] (by decide +kernel) (z' := (124, [(7, (vL v7_46)), (0, (vR 10 l0)), (1, (vI l1)), (2, (vI l2)), (3, (vI l3)), (4, (vI l4)), (5, (vI l5)), (6, (vI v6))], [(vI 1), (vR 10 l0)], R, M, 174)) (cs := [¬ (xcmp v7_46 48 < 0)]) (by rfl) ⟨fun q => c_51 (xcmp_lt.mp q), trivial⟩ (Nat.le_refl _) ?_
          obtain ⟨r_62, M_63, e_64, h⟩ := xb2_ex h
          refine XR.callV 10 rfl (rest := []) m_M_refuse k_10_377 10 l0 (Or.inl ⟨by decide, rfl⟩) [(vI 1)] rfl rfl (c_M_refuse e_64) (by decide) (Nat.le_of_ble_eq_true rfl) (by decide +kernel) (Nat.le_refl _) (Nat.le_refl _) ?_
          show XR false 4 174 sc y_M_knocks (127, [(7, (vL v7_46)), (0, (vR 10 l0)), (1, (vI l1)), (2, (vI l2)), (3, (vI l3)), (4, (vI l4)), (5, (vI l5)), (6, (vI v6))], [(vI r_62)], R, M_63, 174) _
          obtain rfl := Option.some.inj h
          exact XR.retI .int rfl rfl (by decide +kernel)
    · skip
      refine s_M_knocks [(89, .if_icmp .ge 85, 0, 174)] (by decide +kernel) (z' := (174, [(0, (vR 10 l0)), (1, (vI l1)), (2, (vI l2)), (3, (vI l3)), (4, (vI l4)), (5, (vI l5)), (6, (vI v6))], [], R, M, 174)) (cs := [l3 ≤ v6]) (by rfl) ⟨Int.not_lt.mp c_44, trivial⟩ (Nat.le_refl _) ?_
      refine XR.pick [0, 1, 2, 3, 4, 5] (ls' := [(0, (vR 10 l0)), (1, (vI l1)), (2, (vI l2)), (3, (vI l3)), (4, (vI l4)), (5, (vI l5))]) rfl ?_
      exact hq174 M _ h
set_option maxRecDepth 100000 in
set_option maxHeartbeats 4000000 in
theorem o_M_knocks_J369 {sc : List Int} {R : xR}   {l0 : Nat} {l2 : Int} {l3 : Int} {l4 : Int} {l5 : Int}  {rc : Int → Int → Int → xM → Option (Int × xM)} {q375 : Int → Int → xM → Option (Int × xM)} (hrc : ∀ (w6 : Int) (w7 : Int) (w8 : Int) (M : xM) (out : Int × xM), rc w6 w7 w8 M = some out → XR false 4 174 sc y_M_knocks (203, [(0, (vR 10 l0)), (2, (vI l2)), (3, (vI l3)), (4, (vI l4)), (5, (vI l5)), (6, (vI w6)), (7, (vI w7)), (8, (vI w8))], [], R, M, 174) ((some (vI out.1)), R, out.2)) (hq375 : ∀ (w6 : Int) (w7 : Int) (M : xM) (out : Int × xM), q375 w6 w7 M = some out → XR false 4 174 sc y_M_knocks (375, [(0, (vR 10 l0)), (6, (vI w6)), (7, (vI w7))], [], R, M, 174) ((some (vI out.1)), R, out.2)) {v6 : Int} {v7 : Int} {v8 : Int} {M : xM} {out : Int × xM} (h : M_knocks_J369 R l0 l2 l3 l4 l5 rc q375 v6 v7 v8 M = some out) : XR false 4 174 sc y_M_knocks (369, [(0, (vR 10 l0)), (2, (vI l2)), (3, (vI l3)), (4, (vI l4)), (5, (vI l5)), (6, (vI v6)), (7, (vI v7)), (8, (vI v8))], [], R, M, 174) ((some (vI out.1)), R, out.2) := by
  unfold M_knocks_J369 at h
  obtain ⟨v8_77, hv8_77, h⟩ := xl_ex h
  refine s_M_knocks [(369, .iinc 8 1, 0, 0), (372, .goto (-169), 0, 203)] (by decide +kernel) (z' := (203, [(8, (vI v8_77)), (0, (vR 10 l0)), (2, (vI l2)), (3, (vI l3)), (4, (vI l4)), (5, (vI l5)), (6, (vI v6)), (7, (vI v7))], [], R, M, 174)) (cs := []) (by subst hv8_77; rfl) trivial (Nat.le_refl _) ?_
  refine XR.pick [1, 2, 3, 4, 5, 6, 7, 0] (ls' := [(0, (vR 10 l0)), (2, (vI l2)), (3, (vI l3)), (4, (vI l4)), (5, (vI l5)), (6, (vI v6)), (7, (vI v7)), (8, (vI v8_77))]) rfl ?_
  exact hrc v6 v7 v8_77 M _ h
set_option maxRecDepth 100000 in
set_option maxHeartbeats 4000000 in
theorem o_M_knocks_J283 {sc : List Int} {R : xR}   {l0 : Nat} {l2 : Int} {l3 : Int} {l4 : Int} {l5 : Int}  {rc : Int → Int → Int → Int → xM → Option (Int × xM)} {q289 : Int → Int → Int → xM → Option (Int × xM)} (hrc : ∀ (w6 : Int) (w7 : Int) (w8 : Int) (w9 : Int) (M : xM) (out : Int × xM), rc w6 w7 w8 w9 M = some out → XR false 4 174 sc y_M_knocks (232, [(0, (vR 10 l0)), (2, (vI l2)), (3, (vI l3)), (4, (vI l4)), (5, (vI l5)), (6, (vI w6)), (7, (vI w7)), (8, (vI w8)), (9, (vI w9))], [], R, M, 174) ((some (vI out.1)), R, out.2)) (hq289 : ∀ (w6 : Int) (w7 : Int) (w8 : Int) (M : xM) (out : Int × xM), q289 w6 w7 w8 M = some out → XR false 4 174 sc y_M_knocks (289, [(0, (vR 10 l0)), (2, (vI l2)), (3, (vI l3)), (4, (vI l4)), (5, (vI l5)), (6, (vI w6)), (7, (vI w7)), (8, (vI w8))], [], R, M, 174) ((some (vI out.1)), R, out.2)) {v6 : Int} {v7 : Int} {v8 : Int} {v9 : Int} {M : xM} {out : Int × xM} (h : M_knocks_J283 R l0 l2 l3 l4 l5 rc q289 v6 v7 v8 v9 M = some out) : XR false 4 174 sc y_M_knocks (283, [(0, (vR 10 l0)), (2, (vI l2)), (3, (vI l3)), (4, (vI l4)), (5, (vI l5)), (6, (vI v6)), (7, (vI v7)), (8, (vI v8)), (9, (vI v9))], [], R, M, 174) ((some (vI out.1)), R, out.2) := by
  unfold M_knocks_J283 at h
  obtain ⟨v9_81, hv9_81, h⟩ := xl_ex h
  refine s_M_knocks [(283, .iinc 9 1, 0, 0), (286, .goto (-54), 0, 232)] (by decide +kernel) (z' := (232, [(9, (vI v9_81)), (0, (vR 10 l0)), (2, (vI l2)), (3, (vI l3)), (4, (vI l4)), (5, (vI l5)), (6, (vI v6)), (7, (vI v7)), (8, (vI v8))], [], R, M, 174)) (cs := []) (by subst hv9_81; rfl) trivial (Nat.le_refl _) ?_
  refine XR.pick [1, 2, 3, 4, 5, 6, 7, 8, 0] (ls' := [(0, (vR 10 l0)), (2, (vI l2)), (3, (vI l3)), (4, (vI l4)), (5, (vI l5)), (6, (vI v6)), (7, (vI v7)), (8, (vI v8)), (9, (vI v9_81))]) rfl ?_
  exact hrc v6 v7 v8 v9_81 M _ h
set_option maxRecDepth 100000 in
set_option maxHeartbeats 4000000 in
theorem o_M_knocks_F232 {sc : List Int} {R : xR}   {l0 : Nat} {l2 : Int} {l3 : Int} {l4 : Int} {l5 : Int}  {q289 : Int → Int → Int → xM → Option (Int × xM)} (hq289 : ∀ (w6 : Int) (w7 : Int) (w8 : Int) (M : xM) (out : Int × xM), q289 w6 w7 w8 M = some out → XR false 4 174 sc y_M_knocks (289, [(0, (vR 10 l0)), (2, (vI l2)), (3, (vI l3)), (4, (vI l4)), (5, (vI l5)), (6, (vI w6)), (7, (vI w7)), (8, (vI w8))], [], R, M, 174) ((some (vI out.1)), R, out.2)) : ∀ (n : Nat) (v6 : Int) (v7 : Int) (v8 : Int) (v9 : Int) (M : xM) (out : Int × xM), M_knocks_F232 R l0 l2 l3 l4 l5 q289 n v6 v7 v8 v9 M = some out → XR false 4 174 sc y_M_knocks (232, [(0, (vR 10 l0)), (2, (vI l2)), (3, (vI l3)), (4, (vI l4)), (5, (vI l5)), (6, (vI v6)), (7, (vI v7)), (8, (vI v8)), (9, (vI v9))], [], R, M, 174) ((some (vI out.1)), R, out.2) := by
  intro n
  induction n with
  | zero => intro v6 v7 v8 v9 M out h; exact (xno h).elim
  | succ n ih =>
    intro v6 v7 v8 v9 M out h
    rw [M_knocks_F232] at h
    refine s_M_knocks [(232, .iload 9, 0, 0), (234, .iload_n 3, 0, 0)] (by decide +kernel) (z' := (235, [(0, (vR 10 l0)), (2, (vI l2)), (3, (vI l3)), (4, (vI l4)), (5, (vI l5)), (6, (vI v6)), (7, (vI v7)), (8, (vI v8)), (9, (vI v9))], [(vI l3), (vI v9)], R, M, 174)) (cs := []) (by rfl) trivial (Nat.le_refl _) ?_
    rcases xif_ex h with ⟨c_79, h⟩ | ⟨c_79, h⟩
    · skip
      refine s_M_knocks [(235, .if_icmp .ge 54, 0, (-1)), (238, .iload 8, 0, 0), (240, .iload 9, 0, 0), (242, .ishr, 0, 0), (243, .iconst 1, 0, 1), (244, .iand, 0, 0)] (by decide +kernel) (z' := (245, [(0, (vR 10 l0)), (2, (vI l2)), (3, (vI l3)), (4, (vI l4)), (5, (vI l5)), (6, (vI v6)), (7, (vI v7)), (8, (vI v8)), (9, (vI v9))], [(vI (xand (xshr v8 v9) 1))], R, M, 174)) (cs := [¬ (l3 ≤ v9)]) (by rfl) ⟨Int.not_le.mpr c_79, trivial⟩ (Nat.le_refl _) ?_
      rcases xif_ex h with ⟨c_80, h⟩ | ⟨c_80, h⟩
      · skip
        refine s_M_knocks [(245, .ifCond .ne 6, 0, (-1)), (248, .goto 35, 0, 283)] (by decide +kernel) (z' := (283, [(0, (vR 10 l0)), (2, (vI l2)), (3, (vI l3)), (4, (vI l4)), (5, (vI l5)), (6, (vI v6)), (7, (vI v7)), (8, (vI v8)), (9, (vI v9))], [], R, M, 174)) (cs := [¬ (xand (xshr v8 v9) 1 ≠ 0)]) (by rfl) ⟨fun q => q c_80, trivial⟩ (Nat.le_refl _) ?_
        exact o_M_knocks_J283 ih hq289 h
      · skip
        obtain ⟨c_82, h⟩ := xch_ex h
        obtain ⟨c_83, h⟩ := xch_ex h
        obtain ⟨M_84, hM_84, h⟩ := xl_ex h
        obtain ⟨M_85, hM_85, h⟩ := xl_ex h
        refine s_M_knocks [(245, .ifCond .ne 6, 0, 251), (251, .aload_n 0, 0, 0), (252, .getfield 178, 10, 79), (255, .aload_n 0, 0, 0), (256, .getfield 455, 10, 78), (259, .aload_n 0, 0, 0), (260, .getfield 16, 10, 3), (263, .bipush 60, 0, 60), (265, .iload_n 2, 0, 0), (266, .imul, 0, 0), (267, .iload 9, 0, 0), (269, .iadd, 0, 0), (270, .laload, 0, 0), (271, .l2i, 0, 0), (272, .iastore, 0, 0), (273, .aload_n 0, 0, 0), (274, .dup, 0, 0), (275, .getfield 455, 10, 78), (278, .iconst 1, 0, 1), (279, .iadd, 0, 0), (280, .putfield 455, 10, 78)] (by decide +kernel) (z' := (283, [(0, (vR 10 l0)), (2, (vI l2)), (3, (vI l3)), (4, (vI l4)), (5, (vI l5)), (6, (vI v6)), (7, (vI v7)), (8, (vI v8)), (9, (vI v9))], [], R, M_85, 174)) (cs := [xand (xshr v8 v9) 1 ≠ 0, xar 40 1, xidx (w32 ((w32 (60 * l2)) + v9)) (xan 40), xar 29 0, xidx (M l0 78) (xan 29)]) (by subst hM_84; subst hM_85; rfl) ⟨c_80, xar_40, xix_40 c_82, xar_29, xix_29 c_83, trivial⟩ (Nat.le_refl _) ?_
        exact o_M_knocks_J283 ih hq289 h
    · skip
      refine s_M_knocks [(235, .if_icmp .ge 54, 0, 289)] (by decide +kernel) (z' := (289, [(0, (vR 10 l0)), (2, (vI l2)), (3, (vI l3)), (4, (vI l4)), (5, (vI l5)), (6, (vI v6)), (7, (vI v7)), (8, (vI v8)), (9, (vI v9))], [], R, M, 174)) (cs := [l3 ≤ v9]) (by rfl) ⟨Int.not_lt.mp c_79, trivial⟩ (Nat.le_refl _) ?_
      refine XR.pick [0, 1, 2, 3, 4, 5, 6, 7] (ls' := [(0, (vR 10 l0)), (2, (vI l2)), (3, (vI l3)), (4, (vI l4)), (5, (vI l5)), (6, (vI v6)), (7, (vI v7)), (8, (vI v8))]) rfl ?_
      exact hq289 v6 v7 v8 M _ h
set_option maxRecDepth 100000 in
set_option maxHeartbeats 4000000 in
theorem o_M_knocks_F301 {sc : List Int} {R : xR}   {l0 : Nat} {l2 : Int} {l3 : Int} {l4 : Int} {l5 : Int}  {q325 : Int → Int → Int → Int → xM → Option (Int × xM)} (hq325 : ∀ (w6 : Int) (w7 : Int) (w8 : Int) (w9 : Int) (M : xM) (out : Int × xM), q325 w6 w7 w8 w9 M = some out → XR false 4 174 sc y_M_knocks (325, [(0, (vR 10 l0)), (2, (vI l2)), (3, (vI l3)), (4, (vI l4)), (5, (vI l5)), (6, (vI w6)), (7, (vI w7)), (8, (vI w8)), (9, (vI w9))], [], R, M, 174) ((some (vI out.1)), R, out.2)) : ∀ (n : Nat) (v6 : Int) (v7 : Int) (v8 : Int) (v9 : Int) (v10 : Int) (M : xM) (out : Int × xM), M_knocks_F301 R l0 l2 l3 l4 l5 q325 n v6 v7 v8 v9 v10 M = some out → XR false 4 174 sc y_M_knocks (301, [(0, (vR 10 l0)), (2, (vI l2)), (3, (vI l3)), (4, (vI l4)), (5, (vI l5)), (6, (vI v6)), (7, (vI v7)), (8, (vI v8)), (9, (vI v9)), (10, (vI v10))], [], R, M, 174) ((some (vI out.1)), R, out.2) := by
  intro n
  induction n with
  | zero => intro v6 v7 v8 v9 v10 M out h; exact (xno h).elim
  | succ n ih =>
    intro v6 v7 v8 v9 v10 M out h
    rw [M_knocks_F301] at h
    refine s_M_knocks [(301, .iload 10, 0, 0), (303, .iload 5, 0, 0)] (by decide +kernel) (z' := (305, [(0, (vR 10 l0)), (2, (vI l2)), (3, (vI l3)), (4, (vI l4)), (5, (vI l5)), (6, (vI v6)), (7, (vI v7)), (8, (vI v8)), (9, (vI v9)), (10, (vI v10))], [(vI l5), (vI v10)], R, M, 174)) (cs := []) (by rfl) trivial (Nat.le_refl _) ?_
    rcases xif_ex h with ⟨c_92, h⟩ | ⟨c_92, h⟩
    · skip
      refine s_M_knocks [(305, .if_icmp .gt 20, 0, 325)] (by decide +kernel) (z' := (325, [(0, (vR 10 l0)), (2, (vI l2)), (3, (vI l3)), (4, (vI l4)), (5, (vI l5)), (6, (vI v6)), (7, (vI v7)), (8, (vI v8)), (9, (vI v9)), (10, (vI v10))], [], R, M, 174)) (cs := [l5 < v10]) (by rfl) ⟨c_92, trivial⟩ (Nat.le_refl _) ?_
      refine XR.pick [0, 1, 2, 3, 4, 5, 6, 7, 8] (ls' := [(0, (vR 10 l0)), (2, (vI l2)), (3, (vI l3)), (4, (vI l4)), (5, (vI l5)), (6, (vI v6)), (7, (vI v7)), (8, (vI v8)), (9, (vI v9))]) rfl ?_
      exact hq325 v6 v7 v8 v9 M _ h
    · skip
      refine s_M_knocks [(305, .if_icmp .gt 20, 0, (-1)), (308, .iload 9, 0, 0), (310, .aload_n 0, 0, 0), (311, .iload 10, 0, 0)] (by decide +kernel) (z' := (313, [(0, (vR 10 l0)), (2, (vI l2)), (3, (vI l3)), (4, (vI l4)), (5, (vI l5)), (6, (vI v6)), (7, (vI v7)), (8, (vI v8)), (9, (vI v9)), (10, (vI v10))], [(vI v10), (vR 10 l0), (vI v9)], R, M, 174)) (cs := [¬ (l5 < v10)]) (by rfl) ⟨c_92, trivial⟩ (Nat.le_refl _) ?_
      obtain ⟨r_93, e_94, h⟩ := xb1_ex h
      refine XR.callV 10 rfl (rest := [(vI v9)]) m_M_upIn k_10_501 10 l0 (Or.inl ⟨by decide, rfl⟩) [(vI v10)] rfl rfl (c_M_upIn e_94) (by decide) (Nat.le_of_ble_eq_true rfl) (by decide +kernel) (Nat.le_refl _) (Nat.le_refl _) ?_
      show XR false 4 174 sc y_M_knocks (316, [(0, (vR 10 l0)), (2, (vI l2)), (3, (vI l3)), (4, (vI l4)), (5, (vI l5)), (6, (vI v6)), (7, (vI v7)), (8, (vI v8)), (9, (vI v9)), (10, (vI v10))], [(vI r_93), (vI v9)], R, M, 174) _
      obtain ⟨v9_95, hv9_95, h⟩ := xl_ex h
      obtain ⟨v10_96, hv10_96, h⟩ := xl_ex h
      refine s_M_knocks [(316, .iadd, 0, 0), (317, .istore 9, 0, 0), (319, .iinc 10 1, 0, 0), (322, .goto (-21), 0, 301)] (by decide +kernel) (z' := (301, [(10, (vI v10_96)), (9, (vI v9_95)), (0, (vR 10 l0)), (2, (vI l2)), (3, (vI l3)), (4, (vI l4)), (5, (vI l5)), (6, (vI v6)), (7, (vI v7)), (8, (vI v8))], [], R, M, 174)) (cs := []) (by subst hv9_95; subst hv10_96; rfl) trivial (Nat.le_refl _) ?_
      refine XR.pick [2, 3, 4, 5, 6, 7, 8, 9, 1, 0] (ls' := [(0, (vR 10 l0)), (2, (vI l2)), (3, (vI l3)), (4, (vI l4)), (5, (vI l5)), (6, (vI v6)), (7, (vI v7)), (8, (vI v8)), (9, (vI v9_95)), (10, (vI v10_96))]) rfl ?_
      exact ih v6 v7 v8 v9_95 v10_96 M _ h
set_option maxRecDepth 100000 in
set_option maxHeartbeats 4000000 in
theorem o_M_knocks_J361 {sc : List Int} {R : xR}   {l0 : Nat} {l2 : Int} {l3 : Int} {l4 : Int} {l5 : Int}  {rc : Int → Int → Int → xM → Option (Int × xM)} {q375 : Int → Int → xM → Option (Int × xM)} (hrc : ∀ (w6 : Int) (w7 : Int) (w8 : Int) (M : xM) (out : Int × xM), rc w6 w7 w8 M = some out → XR false 4 174 sc y_M_knocks (203, [(0, (vR 10 l0)), (2, (vI l2)), (3, (vI l3)), (4, (vI l4)), (5, (vI l5)), (6, (vI w6)), (7, (vI w7)), (8, (vI w8))], [], R, M, 174) ((some (vI out.1)), R, out.2)) (hq375 : ∀ (w6 : Int) (w7 : Int) (M : xM) (out : Int × xM), q375 w6 w7 M = some out → XR false 4 174 sc y_M_knocks (375, [(0, (vR 10 l0)), (6, (vI w6)), (7, (vI w7))], [], R, M, 174) ((some (vI out.1)), R, out.2)) {v8 : Int} {v9 : Int} {M : xM} {out : Int × xM} (h : M_knocks_J361 R l0 l2 l3 l4 l5 rc q375 v8 v9 M = some out) : XR false 4 174 sc y_M_knocks (361, [(0, (vR 10 l0)), (2, (vI l2)), (3, (vI l3)), (4, (vI l4)), (5, (vI l5)), (8, (vI v8)), (9, (vI v9))], [], R, M, 174) ((some (vI out.1)), R, out.2) := by
  unfold M_knocks_J361 at h
  refine s_M_knocks [(361, .iload 8, 0, 0), (363, .istore 6, 0, 0), (365, .iload 9, 0, 0), (367, .istore 7, 0, 0)] (by decide +kernel) (z' := (369, [(7, (vI v9)), (6, (vI v8)), (0, (vR 10 l0)), (2, (vI l2)), (3, (vI l3)), (4, (vI l4)), (5, (vI l5)), (8, (vI v8)), (9, (vI v9))], [], R, M, 174)) (cs := []) (by rfl) trivial (Nat.le_refl _) ?_
  refine XR.pick [2, 3, 4, 5, 6, 1, 0, 7] (ls' := [(0, (vR 10 l0)), (2, (vI l2)), (3, (vI l3)), (4, (vI l4)), (5, (vI l5)), (6, (vI v8)), (7, (vI v9)), (8, (vI v8))]) rfl ?_
  exact o_M_knocks_J369 hrc hq375 h
set_option maxRecDepth 100000 in
set_option maxHeartbeats 4000000 in
theorem o_M_knocks_F203 {sc : List Int} {R : xR}   {l0 : Nat} {l2 : Int} {l3 : Int} {l4 : Int} {l5 : Int}  {q375 : Int → Int → xM → Option (Int × xM)} (hq375 : ∀ (w6 : Int) (w7 : Int) (M : xM) (out : Int × xM), q375 w6 w7 M = some out → XR false 4 174 sc y_M_knocks (375, [(0, (vR 10 l0)), (6, (vI w6)), (7, (vI w7))], [], R, M, 174) ((some (vI out.1)), R, out.2)) : ∀ (n : Nat) (v6 : Int) (v7 : Int) (v8 : Int) (M : xM) (out : Int × xM), M_knocks_F203 R l0 l2 l3 l4 l5 q375 n v6 v7 v8 M = some out → XR false 4 174 sc y_M_knocks (203, [(0, (vR 10 l0)), (2, (vI l2)), (3, (vI l3)), (4, (vI l4)), (5, (vI l5)), (6, (vI v6)), (7, (vI v7)), (8, (vI v8))], [], R, M, 174) ((some (vI out.1)), R, out.2) := by
  intro n
  induction n with
  | zero => intro v6 v7 v8 M out h; exact (xno h).elim
  | succ n ih =>
    intro v6 v7 v8 M out h
    rw [M_knocks_F203] at h
    refine s_M_knocks [(203, .iload 8, 0, 0), (205, .iconst 1, 0, 1), (206, .iload_n 3, 0, 0), (207, .ishl, 0, 0)] (by decide +kernel) (z' := (208, [(0, (vR 10 l0)), (2, (vI l2)), (3, (vI l3)), (4, (vI l4)), (5, (vI l5)), (6, (vI v6)), (7, (vI v7)), (8, (vI v8))], [(vI (xshl 1 l3)), (vI v8)], R, M, 174)) (cs := []) (by rfl) trivial (Nat.le_refl _) ?_
    rcases xif_ex h with ⟨c_73, h⟩ | ⟨c_73, h⟩
    · skip
      refine s_M_knocks [(208, .if_icmp .ge 167, 0, (-1)), (211, .iload 8, 0, 0)] (by decide +kernel) (z' := (213, [(0, (vR 10 l0)), (2, (vI l2)), (3, (vI l3)), (4, (vI l4)), (5, (vI l5)), (6, (vI v6)), (7, (vI v7)), (8, (vI v8))], [(vI v8)], R, M, 174)) (cs := [¬ (xshl 1 l3 ≤ v8)]) (by rfl) ⟨Int.not_le.mpr c_73, trivial⟩ (Nat.le_refl _) ?_
      obtain ⟨r_74, e_75, h⟩ := xb1_ex h
      refine XR.callS 10 rfl (rest := []) m_M_bits k_10_526 [(vI v8)] rfl rfl (c_M_bits e_75) (by decide) (Nat.le_of_ble_eq_true rfl) (by decide +kernel) (Nat.le_refl _) (Nat.le_refl _) ?_
      show XR false 4 174 sc y_M_knocks (216, [(0, (vR 10 l0)), (2, (vI l2)), (3, (vI l3)), (4, (vI l4)), (5, (vI l5)), (6, (vI v6)), (7, (vI v7)), (8, (vI v8))], [(vI r_74)], R, M, 174) _
      refine s_M_knocks [(216, .iload 4, 0, 0)] (by decide +kernel) (z' := (218, [(0, (vR 10 l0)), (2, (vI l2)), (3, (vI l3)), (4, (vI l4)), (5, (vI l5)), (6, (vI v6)), (7, (vI v7)), (8, (vI v8))], [(vI l4), (vI r_74)], R, M, 174)) (cs := []) (by rfl) trivial (Nat.le_refl _) ?_
      rcases xif_ex h with ⟨c_76, h⟩ | ⟨c_76, h⟩
      · skip
        refine s_M_knocks [(218, .if_icmp .le 6, 0, (-1)), (221, .goto 148, 0, 369)] (by decide +kernel) (z' := (369, [(0, (vR 10 l0)), (2, (vI l2)), (3, (vI l3)), (4, (vI l4)), (5, (vI l5)), (6, (vI v6)), (7, (vI v7)), (8, (vI v8))], [], R, M, 174)) (cs := [¬ (r_74 ≤ l4)]) (by rfl) ⟨Int.not_le.mpr c_76, trivial⟩ (Nat.le_refl _) ?_
        exact o_M_knocks_J369 ih hq375 h
      · skip
        obtain ⟨M_78, hM_78, h⟩ := xl_ex h
        refine s_M_knocks [(218, .if_icmp .le 6, 0, 224), (224, .aload_n 0, 0, 0), (225, .iconst 0, 0, 0), (226, .putfield 455, 10, 78), (229, .iconst 0, 0, 0), (230, .istore 9, 0, 0)] (by decide +kernel) (z' := (232, [(9, (vI 0)), (0, (vR 10 l0)), (2, (vI l2)), (3, (vI l3)), (4, (vI l4)), (5, (vI l5)), (6, (vI v6)), (7, (vI v7)), (8, (vI v8))], [], R, M_78, 174)) (cs := [r_74 ≤ l4]) (by subst hM_78; rfl) ⟨Int.not_lt.mp c_76, trivial⟩ (Nat.le_refl _) ?_
        refine XR.pick [1, 2, 3, 4, 5, 6, 7, 8, 0] (ls' := [(0, (vR 10 l0)), (2, (vI l2)), (3, (vI l3)), (4, (vI l4)), (5, (vI l5)), (6, (vI v6)), (7, (vI v7)), (8, (vI v8)), (9, (vI 0))]) rfl ?_
        refine o_M_knocks_F232 ?_ xfu v6 v7 v8 0 M_78 _ h
        · intro v6_86 v7_87 v8_88 M_89 out h
          refine s_M_knocks [(289, .aload_n 0, 0, 0), (290, .iload 5, 0, 0)] (by decide +kernel) (z' := (292, [(0, (vR 10 l0)), (2, (vI l2)), (3, (vI l3)), (4, (vI l4)), (5, (vI l5)), (6, (vI v6_86)), (7, (vI v7_87)), (8, (vI v8_88))], [(vI l5), (vR 10 l0)], R, M_89, 174)) (cs := []) (by rfl) trivial (Nat.le_refl _) ?_
          obtain ⟨M_90, e_91, h⟩ := xb1_ex h
          refine XR.callV 10 rfl (rest := []) m_M_steps k_10_498 10 l0 (Or.inl ⟨by decide, rfl⟩) [(vI l5)] rfl rfl (c_M_steps e_91) (by decide) (Nat.le_of_ble_eq_true rfl) (by decide +kernel) (Nat.le_refl _) (Nat.le_refl _) ?_
          show XR false 4 174 sc y_M_knocks (295, [(0, (vR 10 l0)), (2, (vI l2)), (3, (vI l3)), (4, (vI l4)), (5, (vI l5)), (6, (vI v6_86)), (7, (vI v7_87)), (8, (vI v8_88))], [], R, M_90, 174) _
          refine s_M_knocks [(295, .iconst 0, 0, 0), (296, .istore 9, 0, 0), (298, .iconst 0, 0, 0), (299, .istore 10, 0, 0)] (by decide +kernel) (z' := (301, [(10, (vI 0)), (9, (vI 0)), (0, (vR 10 l0)), (2, (vI l2)), (3, (vI l3)), (4, (vI l4)), (5, (vI l5)), (6, (vI v6_86)), (7, (vI v7_87)), (8, (vI v8_88))], [], R, M_90, 174)) (cs := []) (by rfl) trivial (Nat.le_refl _) ?_
          refine XR.pick [2, 3, 4, 5, 6, 7, 8, 9, 1, 0] (ls' := [(0, (vR 10 l0)), (2, (vI l2)), (3, (vI l3)), (4, (vI l4)), (5, (vI l5)), (6, (vI v6_86)), (7, (vI v7_87)), (8, (vI v8_88)), (9, (vI 0)), (10, (vI 0))]) rfl ?_
          refine o_M_knocks_F301 ?_ xfu v6_86 v7_87 v8_88 0 0 M_90 _ h
          · intro v6_97 v7_98 v8_99 v9_100 M_101 out h
            refine s_M_knocks [(325, .iload 6, 0, 0), (327, .iconst (-1), 0, (-1))] (by decide +kernel) (z' := (328, [(0, (vR 10 l0)), (2, (vI l2)), (3, (vI l3)), (4, (vI l4)), (5, (vI l5)), (6, (vI v6_97)), (7, (vI v7_98)), (8, (vI v8_99)), (9, (vI v9_100))], [(vI (-1)), (vI v6_97)], R, M_101, 174)) (cs := []) (by rfl) trivial (Nat.le_refl _) ?_
            rcases xif_ex h with ⟨c_102, h⟩ | ⟨c_102, h⟩
            · skip
              refine s_M_knocks [(328, .if_icmp .eq 33, 0, 361)] (by decide +kernel) (z' := (361, [(0, (vR 10 l0)), (2, (vI l2)), (3, (vI l3)), (4, (vI l4)), (5, (vI l5)), (6, (vI v6_97)), (7, (vI v7_98)), (8, (vI v8_99)), (9, (vI v9_100))], [], R, M_101, 174)) (cs := [v6_97 = -1]) (by rfl) ⟨c_102, trivial⟩ (Nat.le_refl _) ?_
              refine XR.pick [0, 1, 2, 3, 4, 7, 8] (ls' := [(0, (vR 10 l0)), (2, (vI l2)), (3, (vI l3)), (4, (vI l4)), (5, (vI l5)), (8, (vI v8_99)), (9, (vI v9_100))]) rfl ?_
              exact o_M_knocks_J361 ih hq375 h
            · skip
              refine s_M_knocks [(328, .if_icmp .eq 33, 0, (-1)), (331, .iload 9, 0, 0), (333, .iload 7, 0, 0)] (by decide +kernel) (z' := (335, [(0, (vR 10 l0)), (2, (vI l2)), (3, (vI l3)), (4, (vI l4)), (5, (vI l5)), (6, (vI v6_97)), (7, (vI v7_98)), (8, (vI v8_99)), (9, (vI v9_100))], [(vI v7_98), (vI v9_100)], R, M_101, 174)) (cs := [¬ (v6_97 = -1)]) (by rfl) ⟨c_102, trivial⟩ (Nat.le_refl _) ?_
              rcases xif_ex h with ⟨c_103, h⟩ | ⟨c_103, h⟩
              · skip
                refine s_M_knocks [(335, .if_icmp .gt 34, 0, 369)] (by decide +kernel) (z' := (369, [(0, (vR 10 l0)), (2, (vI l2)), (3, (vI l3)), (4, (vI l4)), (5, (vI l5)), (6, (vI v6_97)), (7, (vI v7_98)), (8, (vI v8_99)), (9, (vI v9_100))], [], R, M_101, 174)) (cs := [v7_98 < v9_100]) (by rfl) ⟨c_103, trivial⟩ (Nat.le_refl _) ?_
                refine XR.pick [0, 1, 2, 3, 4, 5, 6, 7] (ls' := [(0, (vR 10 l0)), (2, (vI l2)), (3, (vI l3)), (4, (vI l4)), (5, (vI l5)), (6, (vI v6_97)), (7, (vI v7_98)), (8, (vI v8_99))]) rfl ?_
                exact o_M_knocks_J369 ih hq375 h
              · skip
                refine s_M_knocks [(335, .if_icmp .gt 34, 0, (-1)), (338, .iload 9, 0, 0), (340, .iload 7, 0, 0)] (by decide +kernel) (z' := (342, [(0, (vR 10 l0)), (2, (vI l2)), (3, (vI l3)), (4, (vI l4)), (5, (vI l5)), (6, (vI v6_97)), (7, (vI v7_98)), (8, (vI v8_99)), (9, (vI v9_100))], [(vI v7_98), (vI v9_100)], R, M_101, 174)) (cs := [¬ (v7_98 < v9_100)]) (by rfl) ⟨c_103, trivial⟩ (Nat.le_refl _) ?_
                rcases xif_ex h with ⟨c_104, h⟩ | ⟨c_104, h⟩
                · skip
                  refine s_M_knocks [(342, .if_icmp .ne 19, 0, (-1)), (345, .iload 8, 0, 0)] (by decide +kernel) (z' := (347, [(0, (vR 10 l0)), (2, (vI l2)), (3, (vI l3)), (4, (vI l4)), (5, (vI l5)), (6, (vI v6_97)), (7, (vI v7_98)), (8, (vI v8_99)), (9, (vI v9_100))], [(vI v8_99)], R, M_101, 174)) (cs := [¬ (v9_100 ≠ v7_98)]) (by rfl) ⟨fun q => q c_104, trivial⟩ (Nat.le_refl _) ?_
                  obtain ⟨r_105, e_106, h⟩ := xb1_ex h
                  refine XR.callS 10 rfl (rest := []) m_M_bits k_10_526 [(vI v8_99)] rfl rfl (c_M_bits e_106) (by decide) (Nat.le_of_ble_eq_true rfl) (by decide +kernel) (Nat.le_refl _) (Nat.le_refl _) ?_
                  show XR false 4 174 sc y_M_knocks (350, [(0, (vR 10 l0)), (2, (vI l2)), (3, (vI l3)), (4, (vI l4)), (5, (vI l5)), (6, (vI v6_97)), (7, (vI v7_98)), (8, (vI v8_99)), (9, (vI v9_100))], [(vI r_105)], R, M_101, 174) _
                  refine s_M_knocks [(350, .iload 6, 0, 0)] (by decide +kernel) (z' := (352, [(0, (vR 10 l0)), (2, (vI l2)), (3, (vI l3)), (4, (vI l4)), (5, (vI l5)), (6, (vI v6_97)), (7, (vI v7_98)), (8, (vI v8_99)), (9, (vI v9_100))], [(vI v6_97), (vI r_105)], R, M_101, 174)) (cs := []) (by rfl) trivial (Nat.le_refl _) ?_
                  obtain ⟨r_107, e_108, h⟩ := xb1_ex h
                  refine XR.callS 10 rfl (rest := [(vI r_105)]) m_M_bits k_10_526 [(vI v6_97)] rfl rfl (c_M_bits e_108) (by decide) (Nat.le_of_ble_eq_true rfl) (by decide +kernel) (Nat.le_refl _) (Nat.le_refl _) ?_
                  show XR false 4 174 sc y_M_knocks (355, [(0, (vR 10 l0)), (2, (vI l2)), (3, (vI l3)), (4, (vI l4)), (5, (vI l5)), (6, (vI v6_97)), (7, (vI v7_98)), (8, (vI v8_99)), (9, (vI v9_100))], [(vI r_107), (vI r_105)], R, M_101, 174) _
                  rcases xif_ex h with ⟨c_109, h⟩ | ⟨c_109, h⟩
                  · skip
                    refine s_M_knocks [(355, .if_icmp .lt 6, 0, 361)] (by decide +kernel) (z' := (361, [(0, (vR 10 l0)), (2, (vI l2)), (3, (vI l3)), (4, (vI l4)), (5, (vI l5)), (6, (vI v6_97)), (7, (vI v7_98)), (8, (vI v8_99)), (9, (vI v9_100))], [], R, M_101, 174)) (cs := [r_105 < r_107]) (by rfl) ⟨c_109, trivial⟩ (Nat.le_refl _) ?_
                    refine XR.pick [0, 1, 2, 3, 4, 7, 8] (ls' := [(0, (vR 10 l0)), (2, (vI l2)), (3, (vI l3)), (4, (vI l4)), (5, (vI l5)), (8, (vI v8_99)), (9, (vI v9_100))]) rfl ?_
                    exact o_M_knocks_J361 ih hq375 h
                  · skip
                    refine s_M_knocks [(355, .if_icmp .lt 6, 0, (-1)), (358, .goto 11, 0, 369)] (by decide +kernel) (z' := (369, [(0, (vR 10 l0)), (2, (vI l2)), (3, (vI l3)), (4, (vI l4)), (5, (vI l5)), (6, (vI v6_97)), (7, (vI v7_98)), (8, (vI v8_99)), (9, (vI v9_100))], [], R, M_101, 174)) (cs := [¬ (r_105 < r_107)]) (by rfl) ⟨c_109, trivial⟩ (Nat.le_refl _) ?_
                    refine XR.pick [0, 1, 2, 3, 4, 5, 6, 7] (ls' := [(0, (vR 10 l0)), (2, (vI l2)), (3, (vI l3)), (4, (vI l4)), (5, (vI l5)), (6, (vI v6_97)), (7, (vI v7_98)), (8, (vI v8_99))]) rfl ?_
                    exact o_M_knocks_J369 ih hq375 h
                · skip
                  refine s_M_knocks [(342, .if_icmp .ne 19, 0, 361)] (by decide +kernel) (z' := (361, [(0, (vR 10 l0)), (2, (vI l2)), (3, (vI l3)), (4, (vI l4)), (5, (vI l5)), (6, (vI v6_97)), (7, (vI v7_98)), (8, (vI v8_99)), (9, (vI v9_100))], [], R, M_101, 174)) (cs := [v9_100 ≠ v7_98]) (by rfl) ⟨c_104, trivial⟩ (Nat.le_refl _) ?_
                  refine XR.pick [0, 1, 2, 3, 4, 7, 8] (ls' := [(0, (vR 10 l0)), (2, (vI l2)), (3, (vI l3)), (4, (vI l4)), (5, (vI l5)), (8, (vI v8_99)), (9, (vI v9_100))]) rfl ?_
                  exact o_M_knocks_J361 ih hq375 h
    · skip
      refine s_M_knocks [(208, .if_icmp .ge 167, 0, 375)] (by decide +kernel) (z' := (375, [(0, (vR 10 l0)), (2, (vI l2)), (3, (vI l3)), (4, (vI l4)), (5, (vI l5)), (6, (vI v6)), (7, (vI v7)), (8, (vI v8))], [], R, M, 174)) (cs := [xshl 1 l3 ≤ v8]) (by rfl) ⟨Int.not_lt.mp c_73, trivial⟩ (Nat.le_refl _) ?_
      refine XR.pick [0, 5, 6] (ls' := [(0, (vR 10 l0)), (6, (vI v6)), (7, (vI v7))]) rfl ?_
      exact hq375 v6 v7 M _ h
set_option maxRecDepth 100000 in
set_option maxHeartbeats 4000000 in
theorem o_M_knocks {sc : List Int} {R : xR} {M : xM} {l0 : Nat} {l1 : Int} {l2 : Int} {l3 : Int} {l4 : Int} {l5 : Int} {out : Int × xM} (h : f_M_knocks R l0 l1 l2 l3 l4 l5 M = some out) : XR false 4 174 sc y_M_knocks (0, [(0, (vR 10 l0)), (1, (vI l1)), (2, (vI l2)), (3, (vI l3)), (4, (vI l4)), (5, (vI l5))], [], R, M, 174) ((some (vI out.1)), R, out.2) := by
  unfold f_M_knocks at h
  refine s_M_knocks [(0, .aload_n 0, 0, 0), (1, .iload_n 1, 0, 0)] (by decide +kernel) (z' := (2, [(0, (vR 10 l0)), (1, (vI l1)), (2, (vI l2)), (3, (vI l3)), (4, (vI l4)), (5, (vI l5))], [(vI l1), (vR 10 l0)], R, M, 174)) (cs := []) (by rfl) trivial (Nat.le_refl _) ?_
  obtain ⟨r_1, e_2, h⟩ := xb1_ex h
  refine XR.callV 10 rfl (rest := []) m_M_isCleaner k_10_430 10 l0 (Or.inl ⟨by decide, rfl⟩) [(vI l1)] rfl rfl (c_M_isCleaner e_2) (by decide) (Nat.le_of_ble_eq_true rfl) (by decide +kernel) (Nat.le_refl _) (Nat.le_refl _) ?_
  show XR false 4 174 sc y_M_knocks (5, [(0, (vR 10 l0)), (1, (vI l1)), (2, (vI l2)), (3, (vI l3)), (4, (vI l4)), (5, (vI l5))], [(vI r_1)], R, M, 174) _
  rcases xif_ex h with ⟨c_3, h⟩ | ⟨c_3, h⟩
  · skip
    refine s_M_knocks [(5, .ifCond .eq 40, 0, 45), (45, .aload_n 0, 0, 0), (46, .iconst 1, 0, 1)] (by decide +kernel) (z' := (47, [(0, (vR 10 l0)), (1, (vI l1)), (2, (vI l2)), (3, (vI l3)), (4, (vI l4)), (5, (vI l5))], [(vI 1), (vR 10 l0)], R, M, 174)) (cs := [r_1 = 0]) (by rfl) ⟨c_3, trivial⟩ (Nat.le_refl _) ?_
    obtain ⟨r_4, M_5, e_6, h⟩ := xb2_ex h
    refine XR.callV 10 rfl (rest := []) m_M_refuse k_10_377 10 l0 (Or.inl ⟨by decide, rfl⟩) [(vI 1)] rfl rfl (c_M_refuse e_6) (by decide) (Nat.le_of_ble_eq_true rfl) (by decide +kernel) (Nat.le_refl _) (Nat.le_refl _) ?_
    show XR false 4 174 sc y_M_knocks (50, [(0, (vR 10 l0)), (1, (vI l1)), (2, (vI l2)), (3, (vI l3)), (4, (vI l4)), (5, (vI l5))], [(vI r_4)], R, M_5, 174) _
    obtain rfl := Option.some.inj h
    exact XR.retI .int rfl rfl (by decide +kernel)
  · skip
    refine s_M_knocks [(5, .ifCond .eq 40, 0, (-1)), (8, .iload_n 2, 0, 0)] (by decide +kernel) (z' := (9, [(0, (vR 10 l0)), (1, (vI l1)), (2, (vI l2)), (3, (vI l3)), (4, (vI l4)), (5, (vI l5))], [(vI l2)], R, M, 174)) (cs := [¬ (r_1 = 0)]) (by rfl) ⟨c_3, trivial⟩ (Nat.le_refl _) ?_
    obtain ⟨r_7, e_8, h⟩ := xb1_ex h
    refine XR.callS 10 rfl (rest := []) m_M_isTray k_10_250 [(vI l2)] rfl rfl (c_M_isTray e_8) (by decide) (Nat.le_of_ble_eq_true rfl) (by decide +kernel) (Nat.le_refl _) (Nat.le_refl _) ?_
    show XR false 4 174 sc y_M_knocks (12, [(0, (vR 10 l0)), (1, (vI l1)), (2, (vI l2)), (3, (vI l3)), (4, (vI l4)), (5, (vI l5))], [(vI r_7)], R, M, 174) _
    rcases xif_ex h with ⟨c_9, h⟩ | ⟨c_9, h⟩
    · skip
      refine s_M_knocks [(12, .ifCond .eq 33, 0, 45), (45, .aload_n 0, 0, 0), (46, .iconst 1, 0, 1)] (by decide +kernel) (z' := (47, [(0, (vR 10 l0)), (1, (vI l1)), (2, (vI l2)), (3, (vI l3)), (4, (vI l4)), (5, (vI l5))], [(vI 1), (vR 10 l0)], R, M, 174)) (cs := [r_7 = 0]) (by rfl) ⟨c_9, trivial⟩ (Nat.le_refl _) ?_
      obtain ⟨r_10, M_11, e_12, h⟩ := xb2_ex h
      refine XR.callV 10 rfl (rest := []) m_M_refuse k_10_377 10 l0 (Or.inl ⟨by decide, rfl⟩) [(vI 1)] rfl rfl (c_M_refuse e_12) (by decide) (Nat.le_of_ble_eq_true rfl) (by decide +kernel) (Nat.le_refl _) (Nat.le_refl _) ?_
      show XR false 4 174 sc y_M_knocks (50, [(0, (vR 10 l0)), (1, (vI l1)), (2, (vI l2)), (3, (vI l3)), (4, (vI l4)), (5, (vI l5))], [(vI r_10)], R, M_11, 174) _
      obtain rfl := Option.some.inj h
      exact XR.retI .int rfl rfl (by decide +kernel)
    · skip
      refine s_M_knocks [(12, .ifCond .eq 33, 0, (-1)), (15, .iload_n 3, 0, 0), (16, .iconst 1, 0, 1)] (by decide +kernel) (z' := (17, [(0, (vR 10 l0)), (1, (vI l1)), (2, (vI l2)), (3, (vI l3)), (4, (vI l4)), (5, (vI l5))], [(vI 1), (vI l3)], R, M, 174)) (cs := [¬ (r_7 = 0)]) (by rfl) ⟨c_9, trivial⟩ (Nat.le_refl _) ?_
      rcases xif_ex h with ⟨c_13, h⟩ | ⟨c_13, h⟩
      · skip
        refine s_M_knocks [(17, .if_icmp .lt 28, 0, 45), (45, .aload_n 0, 0, 0), (46, .iconst 1, 0, 1)] (by decide +kernel) (z' := (47, [(0, (vR 10 l0)), (1, (vI l1)), (2, (vI l2)), (3, (vI l3)), (4, (vI l4)), (5, (vI l5))], [(vI 1), (vR 10 l0)], R, M, 174)) (cs := [l3 < 1]) (by rfl) ⟨c_13, trivial⟩ (Nat.le_refl _) ?_
        obtain ⟨r_14, M_15, e_16, h⟩ := xb2_ex h
        refine XR.callV 10 rfl (rest := []) m_M_refuse k_10_377 10 l0 (Or.inl ⟨by decide, rfl⟩) [(vI 1)] rfl rfl (c_M_refuse e_16) (by decide) (Nat.le_of_ble_eq_true rfl) (by decide +kernel) (Nat.le_refl _) (Nat.le_refl _) ?_
        show XR false 4 174 sc y_M_knocks (50, [(0, (vR 10 l0)), (1, (vI l1)), (2, (vI l2)), (3, (vI l3)), (4, (vI l4)), (5, (vI l5))], [(vI r_14)], R, M_15, 174) _
        obtain rfl := Option.some.inj h
        exact XR.retI .int rfl rfl (by decide +kernel)
      · skip
        refine s_M_knocks [(17, .if_icmp .lt 28, 0, (-1)), (20, .iload_n 3, 0, 0), (21, .bipush 6, 0, 6)] (by decide +kernel) (z' := (23, [(0, (vR 10 l0)), (1, (vI l1)), (2, (vI l2)), (3, (vI l3)), (4, (vI l4)), (5, (vI l5))], [(vI 6), (vI l3)], R, M, 174)) (cs := [¬ (l3 < 1)]) (by rfl) ⟨c_13, trivial⟩ (Nat.le_refl _) ?_
        rcases xif_ex h with ⟨c_17, h⟩ | ⟨c_17, h⟩
        · skip
          refine s_M_knocks [(23, .if_icmp .gt 22, 0, 45), (45, .aload_n 0, 0, 0), (46, .iconst 1, 0, 1)] (by decide +kernel) (z' := (47, [(0, (vR 10 l0)), (1, (vI l1)), (2, (vI l2)), (3, (vI l3)), (4, (vI l4)), (5, (vI l5))], [(vI 1), (vR 10 l0)], R, M, 174)) (cs := [6 < l3]) (by rfl) ⟨c_17, trivial⟩ (Nat.le_refl _) ?_
          obtain ⟨r_18, M_19, e_20, h⟩ := xb2_ex h
          refine XR.callV 10 rfl (rest := []) m_M_refuse k_10_377 10 l0 (Or.inl ⟨by decide, rfl⟩) [(vI 1)] rfl rfl (c_M_refuse e_20) (by decide) (Nat.le_of_ble_eq_true rfl) (by decide +kernel) (Nat.le_refl _) (Nat.le_refl _) ?_
          show XR false 4 174 sc y_M_knocks (50, [(0, (vR 10 l0)), (1, (vI l1)), (2, (vI l2)), (3, (vI l3)), (4, (vI l4)), (5, (vI l5))], [(vI r_18)], R, M_19, 174) _
          obtain rfl := Option.some.inj h
          exact XR.retI .int rfl rfl (by decide +kernel)
        · skip
          refine s_M_knocks [(23, .if_icmp .gt 22, 0, (-1)), (26, .iload 4, 0, 0)] (by decide +kernel) (z' := (28, [(0, (vR 10 l0)), (1, (vI l1)), (2, (vI l2)), (3, (vI l3)), (4, (vI l4)), (5, (vI l5))], [(vI l4)], R, M, 174)) (cs := [¬ (6 < l3)]) (by rfl) ⟨c_17, trivial⟩ (Nat.le_refl _) ?_
          rcases xif_ex h with ⟨c_21, h⟩ | ⟨c_21, h⟩
          · skip
            refine s_M_knocks [(28, .ifCond .lt 17, 0, 45), (45, .aload_n 0, 0, 0), (46, .iconst 1, 0, 1)] (by decide +kernel) (z' := (47, [(0, (vR 10 l0)), (1, (vI l1)), (2, (vI l2)), (3, (vI l3)), (4, (vI l4)), (5, (vI l5))], [(vI 1), (vR 10 l0)], R, M, 174)) (cs := [l4 < 0]) (by rfl) ⟨c_21, trivial⟩ (Nat.le_refl _) ?_
            obtain ⟨r_22, M_23, e_24, h⟩ := xb2_ex h
            refine XR.callV 10 rfl (rest := []) m_M_refuse k_10_377 10 l0 (Or.inl ⟨by decide, rfl⟩) [(vI 1)] rfl rfl (c_M_refuse e_24) (by decide) (Nat.le_of_ble_eq_true rfl) (by decide +kernel) (Nat.le_refl _) (Nat.le_refl _) ?_
            show XR false 4 174 sc y_M_knocks (50, [(0, (vR 10 l0)), (1, (vI l1)), (2, (vI l2)), (3, (vI l3)), (4, (vI l4)), (5, (vI l5))], [(vI r_22)], R, M_23, 174) _
            obtain rfl := Option.some.inj h
            exact XR.retI .int rfl rfl (by decide +kernel)
          · skip
            refine s_M_knocks [(28, .ifCond .lt 17, 0, (-1)), (31, .iload 4, 0, 0), (33, .iload_n 3, 0, 0)] (by decide +kernel) (z' := (34, [(0, (vR 10 l0)), (1, (vI l1)), (2, (vI l2)), (3, (vI l3)), (4, (vI l4)), (5, (vI l5))], [(vI l3), (vI l4)], R, M, 174)) (cs := [¬ (l4 < 0)]) (by rfl) ⟨c_21, trivial⟩ (Nat.le_refl _) ?_
            rcases xif_ex h with ⟨c_25, h⟩ | ⟨c_25, h⟩
            · skip
              refine s_M_knocks [(34, .if_icmp .gt 11, 0, 45), (45, .aload_n 0, 0, 0), (46, .iconst 1, 0, 1)] (by decide +kernel) (z' := (47, [(0, (vR 10 l0)), (1, (vI l1)), (2, (vI l2)), (3, (vI l3)), (4, (vI l4)), (5, (vI l5))], [(vI 1), (vR 10 l0)], R, M, 174)) (cs := [l3 < l4]) (by rfl) ⟨c_25, trivial⟩ (Nat.le_refl _) ?_
              obtain ⟨r_26, M_27, e_28, h⟩ := xb2_ex h
              refine XR.callV 10 rfl (rest := []) m_M_refuse k_10_377 10 l0 (Or.inl ⟨by decide, rfl⟩) [(vI 1)] rfl rfl (c_M_refuse e_28) (by decide) (Nat.le_of_ble_eq_true rfl) (by decide +kernel) (Nat.le_refl _) (Nat.le_refl _) ?_
              show XR false 4 174 sc y_M_knocks (50, [(0, (vR 10 l0)), (1, (vI l1)), (2, (vI l2)), (3, (vI l3)), (4, (vI l4)), (5, (vI l5))], [(vI r_26)], R, M_27, 174) _
              obtain rfl := Option.some.inj h
              exact XR.retI .int rfl rfl (by decide +kernel)
            · skip
              refine s_M_knocks [(34, .if_icmp .gt 11, 0, (-1)), (37, .iload 5, 0, 0)] (by decide +kernel) (z' := (39, [(0, (vR 10 l0)), (1, (vI l1)), (2, (vI l2)), (3, (vI l3)), (4, (vI l4)), (5, (vI l5))], [(vI l5)], R, M, 174)) (cs := [¬ (l3 < l4)]) (by rfl) ⟨c_25, trivial⟩ (Nat.le_refl _) ?_
              obtain ⟨r_29, e_30, h⟩ := xb1_ex h
              refine XR.callS 10 rfl (rest := []) m_M_isHour k_10_436 [(vI l5)] rfl rfl (c_M_isHour e_30) (by decide) (Nat.le_of_ble_eq_true rfl) (by decide +kernel) (Nat.le_refl _) (Nat.le_refl _) ?_
              show XR false 4 174 sc y_M_knocks (42, [(0, (vR 10 l0)), (1, (vI l1)), (2, (vI l2)), (3, (vI l3)), (4, (vI l4)), (5, (vI l5))], [(vI r_29)], R, M, 174) _
              rcases xif_ex h with ⟨c_31, h⟩ | ⟨c_31, h⟩
              · skip
                refine s_M_knocks [(42, .ifCond .ne 9, 0, (-1)), (45, .aload_n 0, 0, 0), (46, .iconst 1, 0, 1)] (by decide +kernel) (z' := (47, [(0, (vR 10 l0)), (1, (vI l1)), (2, (vI l2)), (3, (vI l3)), (4, (vI l4)), (5, (vI l5))], [(vI 1), (vR 10 l0)], R, M, 174)) (cs := [¬ (r_29 ≠ 0)]) (by rfl) ⟨fun q => q c_31, trivial⟩ (Nat.le_refl _) ?_
                obtain ⟨r_32, M_33, e_34, h⟩ := xb2_ex h
                refine XR.callV 10 rfl (rest := []) m_M_refuse k_10_377 10 l0 (Or.inl ⟨by decide, rfl⟩) [(vI 1)] rfl rfl (c_M_refuse e_34) (by decide) (Nat.le_of_ble_eq_true rfl) (by decide +kernel) (Nat.le_refl _) (Nat.le_refl _) ?_
                show XR false 4 174 sc y_M_knocks (50, [(0, (vR 10 l0)), (1, (vI l1)), (2, (vI l2)), (3, (vI l3)), (4, (vI l4)), (5, (vI l5))], [(vI r_32)], R, M_33, 174) _
                obtain rfl := Option.some.inj h
                exact XR.retI .int rfl rfl (by decide +kernel)
              · skip
                obtain ⟨c_35, h⟩ := xch_ex h
                refine s_M_knocks [(42, .ifCond .ne 9, 0, 51), (51, .aload_n 0, 0, 0), (52, .getfield 13, 10, 2), (55, .iload_n 2, 0, 0), (56, .iaload, 0, 0), (57, .iconst (-1), 0, (-1))] (by decide +kernel) (z' := (58, [(0, (vR 10 l0)), (1, (vI l1)), (2, (vI l2)), (3, (vI l3)), (4, (vI l4)), (5, (vI l5))], [(vI (-1)), (vI (M (R l0 2) (Int.toNat l2)))], R, M, 174)) (cs := [r_29 ≠ 0, xar 34 0, xidx l2 (xan 34)]) (by rfl) ⟨c_31, xar_34, xix_34 c_35, trivial⟩ (Nat.le_refl _) ?_
                rcases xif_ex h with ⟨c_36, h⟩ | ⟨c_36, h⟩
                · skip
                  refine s_M_knocks [(58, .if_icmp .ne 9, 0, (-1)), (61, .aload_n 0, 0, 0), (62, .iconst 2, 0, 2)] (by decide +kernel) (z' := (63, [(0, (vR 10 l0)), (1, (vI l1)), (2, (vI l2)), (3, (vI l3)), (4, (vI l4)), (5, (vI l5))], [(vI 2), (vR 10 l0)], R, M, 174)) (cs := [¬ (M (R l0 2) (Int.toNat l2) ≠ -1)]) (by rfl) ⟨fun q => q c_36, trivial⟩ (Nat.le_refl _) ?_
                  obtain ⟨r_37, M_38, e_39, h⟩ := xb2_ex h
                  refine XR.callV 10 rfl (rest := []) m_M_refuse k_10_377 10 l0 (Or.inl ⟨by decide, rfl⟩) [(vI 2)] rfl rfl (c_M_refuse e_39) (by decide) (Nat.le_of_ble_eq_true rfl) (by decide +kernel) (Nat.le_refl _) (Nat.le_refl _) ?_
                  show XR false 4 174 sc y_M_knocks (66, [(0, (vR 10 l0)), (1, (vI l1)), (2, (vI l2)), (3, (vI l3)), (4, (vI l4)), (5, (vI l5))], [(vI r_37)], R, M_38, 174) _
                  obtain rfl := Option.some.inj h
                  exact XR.retI .int rfl rfl (by decide +kernel)
                · skip
                  refine s_M_knocks [(58, .if_icmp .ne 9, 0, 67), (67, .aload_n 0, 0, 0), (68, .getfield 13, 10, 2), (71, .iload_n 2, 0, 0), (72, .iaload, 0, 0), (73, .iload_n 3, 0, 0)] (by decide +kernel) (z' := (74, [(0, (vR 10 l0)), (1, (vI l1)), (2, (vI l2)), (3, (vI l3)), (4, (vI l4)), (5, (vI l5))], [(vI l3), (vI (M (R l0 2) (Int.toNat l2)))], R, M, 174)) (cs := [M (R l0 2) (Int.toNat l2) ≠ -1, xar 34 0, xidx l2 (xan 34)]) (by rfl) ⟨c_36, xar_34, xix_34 c_35, trivial⟩ (Nat.le_refl _) ?_
                  rcases xif_ex h with ⟨c_40, h⟩ | ⟨c_40, h⟩
                  · skip
                    refine s_M_knocks [(74, .if_icmp .ge 9, 0, (-1)), (77, .aload_n 0, 0, 0), (78, .iconst 3, 0, 3)] (by decide +kernel) (z' := (79, [(0, (vR 10 l0)), (1, (vI l1)), (2, (vI l2)), (3, (vI l3)), (4, (vI l4)), (5, (vI l5))], [(vI 3), (vR 10 l0)], R, M, 174)) (cs := [¬ (l3 ≤ M (R l0 2) (Int.toNat l2))]) (by rfl) ⟨Int.not_le.mpr c_40, trivial⟩ (Nat.le_refl _) ?_
                    obtain ⟨r_41, M_42, e_43, h⟩ := xb2_ex h
                    refine XR.callV 10 rfl (rest := []) m_M_refuse k_10_377 10 l0 (Or.inl ⟨by decide, rfl⟩) [(vI 3)] rfl rfl (c_M_refuse e_43) (by decide) (Nat.le_of_ble_eq_true rfl) (by decide +kernel) (Nat.le_refl _) (Nat.le_refl _) ?_
                    show XR false 4 174 sc y_M_knocks (82, [(0, (vR 10 l0)), (1, (vI l1)), (2, (vI l2)), (3, (vI l3)), (4, (vI l4)), (5, (vI l5))], [(vI r_41)], R, M_42, 174) _
                    obtain rfl := Option.some.inj h
                    exact XR.retI .int rfl rfl (by decide +kernel)
                  · skip
                    refine s_M_knocks [(74, .if_icmp .ge 9, 0, 83), (83, .iconst 0, 0, 0), (84, .istore 6, 0, 0)] (by decide +kernel) (z' := (86, [(6, (vI 0)), (0, (vR 10 l0)), (1, (vI l1)), (2, (vI l2)), (3, (vI l3)), (4, (vI l4)), (5, (vI l5))], [], R, M, 174)) (cs := [l3 ≤ M (R l0 2) (Int.toNat l2)]) (by rfl) ⟨Int.not_lt.mp c_40, trivial⟩ (Nat.le_refl _) ?_
                    refine XR.pick [1, 2, 3, 4, 5, 6, 0] (ls' := [(0, (vR 10 l0)), (1, (vI l1)), (2, (vI l2)), (3, (vI l3)), (4, (vI l4)), (5, (vI l5)), (6, (vI 0))]) rfl ?_
                    refine o_M_knocks_F86 ?_ xfu 0 M _ h
                    · intro M_65 out h
                      refine s_M_knocks [(174, .aload_n 0, 0, 0), (175, .iload_n 1, 0, 0)] (by decide +kernel) (z' := (176, [(0, (vR 10 l0)), (1, (vI l1)), (2, (vI l2)), (3, (vI l3)), (4, (vI l4)), (5, (vI l5))], [(vI l1), (vR 10 l0)], R, M_65, 174)) (cs := []) (by rfl) trivial (Nat.le_refl _) ?_
                      obtain ⟨r_66, e_67, h⟩ := xb1_ex h
                      refine XR.callV 10 rfl (rest := []) m_M_hasLayer k_10_448 10 l0 (Or.inl ⟨by decide, rfl⟩) [(vI l1)] rfl rfl (c_M_hasLayer e_67) (by decide) (Nat.le_of_ble_eq_true rfl) (by decide +kernel) (Nat.le_refl _) (Nat.le_refl _) ?_
                      show XR false 4 174 sc y_M_knocks (179, [(0, (vR 10 l0)), (1, (vI l1)), (2, (vI l2)), (3, (vI l3)), (4, (vI l4)), (5, (vI l5))], [(vI r_66)], R, M_65, 174) _
                      rcases xif_ex h with ⟨c_68, h⟩ | ⟨c_68, h⟩
                      · skip
                        refine s_M_knocks [(179, .ifCond .ne 10, 0, (-1)), (182, .aload_n 0, 0, 0), (183, .bipush 7, 0, 7)] (by decide +kernel) (z' := (185, [(0, (vR 10 l0)), (1, (vI l1)), (2, (vI l2)), (3, (vI l3)), (4, (vI l4)), (5, (vI l5))], [(vI 7), (vR 10 l0)], R, M_65, 174)) (cs := [¬ (r_66 ≠ 0)]) (by rfl) ⟨fun q => q c_68, trivial⟩ (Nat.le_refl _) ?_
                        obtain ⟨r_69, M_70, e_71, h⟩ := xb2_ex h
                        refine XR.callV 10 rfl (rest := []) m_M_refuse k_10_377 10 l0 (Or.inl ⟨by decide, rfl⟩) [(vI 7)] rfl rfl (c_M_refuse e_71) (by decide) (Nat.le_of_ble_eq_true rfl) (by decide +kernel) (Nat.le_refl _) (Nat.le_refl _) ?_
                        show XR false 4 174 sc y_M_knocks (188, [(0, (vR 10 l0)), (1, (vI l1)), (2, (vI l2)), (3, (vI l3)), (4, (vI l4)), (5, (vI l5))], [(vI r_69)], R, M_70, 174) _
                        obtain rfl := Option.some.inj h
                        exact XR.retI .int rfl rfl (by decide +kernel)
                      · skip
                        obtain ⟨M_72, hM_72, h⟩ := xl_ex h
                        refine s_M_knocks [(179, .ifCond .ne 10, 0, 189), (189, .iconst (-1), 0, (-1)), (190, .istore 6, 0, 0), (192, .iconst 0, 0, 0), (193, .istore 7, 0, 0), (195, .aload_n 0, 0, 0), (196, .iload_n 1, 0, 0), (197, .putfield 175, 10, 77), (200, .iconst 0, 0, 0), (201, .istore 8, 0, 0)] (by decide +kernel) (z' := (203, [(8, (vI 0)), (7, (vI 0)), (6, (vI (-1))), (0, (vR 10 l0)), (1, (vI l1)), (2, (vI l2)), (3, (vI l3)), (4, (vI l4)), (5, (vI l5))], [], R, M_72, 174)) (cs := [r_66 ≠ 0]) (by subst hM_72; rfl) ⟨c_68, trivial⟩ (Nat.le_refl _) ?_
                        refine XR.pick [3, 5, 6, 7, 8, 2, 1, 0] (ls' := [(0, (vR 10 l0)), (2, (vI l2)), (3, (vI l3)), (4, (vI l4)), (5, (vI l5)), (6, (vI (-1))), (7, (vI 0)), (8, (vI 0))]) rfl ?_
                        refine o_M_knocks_F203 ?_ xfu (-1) 0 0 M_72 _ h
                        · intro v6_110 v7_111 M_112 out h
                          obtain ⟨M_113, hM_113, h⟩ := xl_ex h
                          obtain ⟨M_114, hM_114, h⟩ := xl_ex h
                          obtain ⟨M_115, hM_115, h⟩ := xl_ex h
                          refine s_M_knocks [(375, .aload_n 0, 0, 0), (376, .iconst (-1), 0, (-1)), (377, .putfield 175, 10, 77), (380, .aload_n 0, 0, 0), (381, .iconst 0, 0, 0), (382, .putfield 455, 10, 78), (385, .aload_n 0, 0, 0), (386, .iload 6, 0, 0), (388, .putfield 214, 10, 94), (391, .aload_n 0, 0, 0), (392, .iload 7, 0, 0)] (by decide +kernel) (z' := (394, [(0, (vR 10 l0)), (6, (vI v6_110)), (7, (vI v7_111))], [(vI v7_111), (vR 10 l0)], R, M_115, 174)) (cs := []) (by subst hM_113; subst hM_114; subst hM_115; rfl) trivial (Nat.le_refl _) ?_
                          obtain ⟨r_116, M_117, e_118, h⟩ := xb2_ex h
                          refine XR.callV 10 rfl (rest := []) m_M_gives k_10_405 10 l0 (Or.inl ⟨by decide, rfl⟩) [(vI v7_111)] rfl rfl (c_M_gives e_118) (by decide) (Nat.le_of_ble_eq_true rfl) (by decide +kernel) (Nat.le_refl _) (Nat.le_refl _) ?_
                          show XR false 4 174 sc y_M_knocks (397, [(0, (vR 10 l0)), (6, (vI v6_110)), (7, (vI v7_111))], [(vI r_116)], R, M_117, 174) _
                          obtain rfl := Option.some.inj h
                          exact XR.retI .int rfl rfl (by decide +kernel)
set_option maxRecDepth 100000 in
set_option maxHeartbeats 4000000 in
theorem c_M_knocks {sc : List Int} {R : xR} {M : xM} {l0 : Nat} {l1 : Int} {l2 : Int} {l3 : Int} {l4 : Int} {l5 : Int} {out : Int × xM} (h : f_M_knocks R l0 l1 l2 l3 l4 l5 M = some out) : XC false 4 sc y_M_knocks [(vR 10 l0), (vI l1), (vI l2), (vI l3), (vI l4), (vI l5)] R M 174 174 ((some (vI out.1)), R, out.2) := XC.of (by decide) (Nat.le_of_ble_eq_true rfl) (Nat.le_refl _) (Nat.le_refl _) (o_M_knocks h)
def f_M_want (R : xR) (l0 : Nat) (l1 : Int) (M : xM) : Option (Int × xM) :=
  xb1 (f_M_isSign l0 l1 M) fun r_1 =>
  if r_1 = 0 then
    xb2 (f_M_fails l0 2 M) fun r_4 M_5 =>
    xch (r_4 = 0 ∨ r_4 = 1) <|
    some (r_4, M_5)
  else
    xb1 (f_M_next R l0 M) fun M_8 =>
    some (1, M_8)
set_option maxRecDepth 100000 in
set_option maxHeartbeats 4000000 in
theorem s_M_want {d : Nat} {sc : List Int} {z z' : xS} {out : xO} (qs : List xI) {cs : List Prop} (hq : qs.all (xqb 10 false y_M_want.2.2.1 y_M_want.2.1) = true) (h : xN false sc qs z = some (z', cs)) (hc : xAll cs) (hE : z'.2.2.2.2.2 ≤ 174) (k : XR false d 174 sc y_M_want z' out) : XR false d 174 sc y_M_want z out := XR.seg 10 false rfl (fun q => by cases q) qs hq h hc hE k
set_option maxRecDepth 100000 in
set_option maxHeartbeats 4000000 in
theorem o_M_want {sc : List Int} {R : xR} {M : xM} {l0 : Nat} {l1 : Int} {out : Int × xM} (h : f_M_want R l0 l1 M = some out) : XR false 2 174 sc y_M_want (0, [(0, (vR 10 l0)), (1, (vI l1))], [], R, M, 174) ((some (vI out.1)), R, out.2) := by
  unfold f_M_want at h
  refine s_M_want [(0, .aload_n 0, 0, 0), (1, .iload_n 1, 0, 0)] (by decide +kernel) (z' := (2, [(0, (vR 10 l0)), (1, (vI l1))], [(vI l1), (vR 10 l0)], R, M, 174)) (cs := []) (by rfl) trivial (Nat.le_refl _) ?_
  obtain ⟨r_1, e_2, h⟩ := xb1_ex h
  refine XR.callV 10 rfl (rest := []) m_M_isSign k_10_337 10 l0 (Or.inl ⟨by decide, rfl⟩) [(vI l1)] rfl rfl (c_M_isSign e_2) (by decide) (Nat.le_of_ble_eq_true rfl) (by decide +kernel) (Nat.le_refl _) (Nat.le_refl _) ?_
  show XR false 2 174 sc y_M_want (5, [(0, (vR 10 l0)), (1, (vI l1))], [(vI r_1)], R, M, 174) _
  rcases xif_ex h with ⟨c_3, h⟩ | ⟨c_3, h⟩
  · skip
    refine s_M_want [(5, .ifCond .ne 9, 0, (-1)), (8, .aload_n 0, 0, 0), (9, .iconst 2, 0, 2)] (by decide +kernel) (z' := (10, [(0, (vR 10 l0)), (1, (vI l1))], [(vI 2), (vR 10 l0)], R, M, 174)) (cs := [¬ (r_1 ≠ 0)]) (by rfl) ⟨fun q => q c_3, trivial⟩ (Nat.le_refl _) ?_
    obtain ⟨r_4, M_5, e_6, h⟩ := xb2_ex h
    refine XR.callV 10 rfl (rest := []) m_M_fails k_10_331 10 l0 (Or.inl ⟨by decide, rfl⟩) [(vI 2)] rfl rfl (c_M_fails e_6) (by decide) (Nat.le_of_ble_eq_true rfl) (by decide +kernel) (Nat.le_refl _) (Nat.le_refl _) ?_
    show XR false 2 174 sc y_M_want (13, [(0, (vR 10 l0)), (1, (vI l1))], [(vI r_4)], R, M_5, 174) _
    obtain ⟨c_7, h⟩ := xch_ex h
    obtain rfl := Option.some.inj h
    exact XR.retI .boolean rfl (xnar_z c_7) (by decide +kernel)
  · skip
    refine s_M_want [(5, .ifCond .ne 9, 0, 14), (14, .aload_n 0, 0, 0)] (by decide +kernel) (z' := (15, [(0, (vR 10 l0)), (1, (vI l1))], [(vR 10 l0)], R, M, 174)) (cs := [r_1 ≠ 0]) (by rfl) ⟨c_3, trivial⟩ (Nat.le_refl _) ?_
    obtain ⟨M_8, e_9, h⟩ := xb1_ex h
    refine XR.callV 10 rfl (rest := []) m_M_next k_10_334 10 l0 (Or.inl ⟨by decide, rfl⟩) [] rfl rfl (c_M_next e_9) (by decide) (Nat.le_of_ble_eq_true rfl) (by decide +kernel) (Nat.le_refl _) (Nat.le_refl _) ?_
    show XR false 2 174 sc y_M_want (18, [(0, (vR 10 l0)), (1, (vI l1))], [], R, M_8, 174) _
    refine s_M_want [(18, .iconst 1, 0, 1)] (by decide +kernel) (z' := (19, [(0, (vR 10 l0)), (1, (vI l1))], [(vI 1)], R, M_8, 174)) (cs := []) (by rfl) trivial (Nat.le_refl _) ?_
    obtain rfl := Option.some.inj h
    exact XR.retI .boolean rfl (xnar_z (by decide)) (by decide +kernel)
set_option maxRecDepth 100000 in
set_option maxHeartbeats 4000000 in
theorem c_M_want {sc : List Int} {R : xR} {M : xM} {l0 : Nat} {l1 : Int} {out : Int × xM} (h : f_M_want R l0 l1 M = some out) : XC false 2 sc y_M_want [(vR 10 l0), (vI l1)] R M 174 174 ((some (vI out.1)), R, out.2) := XC.of (by decide) (Nat.le_of_ble_eq_true rfl) (Nat.le_refl _) (Nat.le_refl _) (o_M_want h)
def f_M_puts (R : xR) (l0 : Nat) (l1 : Int) (l2 : Int) (M : xM) : Option xM :=
  xch (0 ≤ M l0 43 ∧ M l0 43 < 700) <|
  xl (xu M (R l0 55) (Int.toNat (M l0 43)) l1) fun M_2 =>
  xch (0 ≤ M_2 l0 43 ∧ M_2 l0 43 < 700) <|
  xl (xu M_2 (R l0 56) (Int.toNat (M_2 l0 43)) l2) fun M_4 =>
  xl (xu M_4 l0 43 (w32 ((M_4 l0 43) + 1))) fun M_5 =>
  some (M_5)
set_option maxRecDepth 100000 in
set_option maxHeartbeats 4000000 in
theorem s_M_puts {d : Nat} {sc : List Int} {z z' : xS} {out : xO} (qs : List xI) {cs : List Prop} (hq : qs.all (xqb 10 false y_M_puts.2.2.1 y_M_puts.2.1) = true) (h : xN false sc qs z = some (z', cs)) (hc : xAll cs) (hE : z'.2.2.2.2.2 ≤ 174) (k : XR false d 174 sc y_M_puts z' out) : XR false d 174 sc y_M_puts z out := XR.seg 10 false rfl (fun q => by cases q) qs hq h hc hE k
set_option maxRecDepth 100000 in
set_option maxHeartbeats 4000000 in
theorem o_M_puts {sc : List Int} {R : xR} {M : xM} {l0 : Nat} {l1 : Int} {l2 : Int} {out : xM} (h : f_M_puts R l0 l1 l2 M = some out) : XR false 0 174 sc y_M_puts (0, [(0, (vR 10 l0)), (1, (vI l1)), (2, (vI l2))], [], R, M, 174) (none, R, out) := by
  unfold f_M_puts at h
  obtain ⟨c_1, h⟩ := xch_ex h
  obtain ⟨M_2, hM_2, h⟩ := xl_ex h
  obtain ⟨c_3, h⟩ := xch_ex h
  obtain ⟨M_4, hM_4, h⟩ := xl_ex h
  obtain ⟨M_5, hM_5, h⟩ := xl_ex h
  refine s_M_puts [(0, .aload_n 0, 0, 0), (1, .getfield 124, 10, 55), (4, .aload_n 0, 0, 0), (5, .getfield 408, 10, 43), (8, .iload_n 1, 0, 0), (9, .iastore, 0, 0), (10, .aload_n 0, 0, 0), (11, .getfield 127, 10, 56), (14, .aload_n 0, 0, 0), (15, .getfield 408, 10, 43), (18, .iload_n 2, 0, 0), (19, .iastore, 0, 0), (20, .aload_n 0, 0, 0), (21, .dup, 0, 0), (22, .getfield 408, 10, 43), (25, .iconst 1, 0, 1), (26, .iadd, 0, 0), (27, .putfield 408, 10, 43)] (by decide +kernel) (z' := (30, [(0, (vR 10 l0)), (1, (vI l1)), (2, (vI l2))], [], R, M_5, 174)) (cs := [xar 41 0, xidx (M l0 43) (xan 41), xar 41 0, xidx (M_2 l0 43) (xan 41)]) (by subst hM_2; subst hM_4; subst hM_5; rfl) ⟨xar_41, xix_41 c_1, xar_41, xix_41 c_3, trivial⟩ (Nat.le_refl _) ?_
  obtain rfl := Option.some.inj h
  exact XR.retV rfl (by decide +kernel)
set_option maxRecDepth 100000 in
set_option maxHeartbeats 4000000 in
theorem c_M_puts {sc : List Int} {R : xR} {M : xM} {l0 : Nat} {l1 : Int} {l2 : Int} {out : xM} (h : f_M_puts R l0 l1 l2 M = some out) : XC false 0 sc y_M_puts [(vR 10 l0), (vI l1), (vI l2)] R M 174 174 (none, R, out) := XC.of (by decide) (Nat.le_of_ble_eq_true rfl) (Nat.le_refl _) (Nat.le_refl _) (o_M_puts h)
