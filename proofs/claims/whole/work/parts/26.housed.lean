def f_X_tray (R : xR) (l0 : Nat) (l1 : Int) (l2 : Int) (l3 : Int) (M : xM) : Option (Int × xM) :=
  xb1 (f_X_isTray l1) fun r_1 =>
  if r_1 = 0 then
    xb2 (f_X_deny l0 1 M) fun r_4 M_5 =>
    xch (r_4 = 0 ∨ r_4 = 1) <|
    some (r_4, M_5)
  else
    if l2 < 0 then
      xb2 (f_X_deny l0 1 M) fun r_9 M_10 =>
      xch (r_9 = 0 ∨ r_9 = 1) <|
      some (r_9, M_10)
    else
      if l2 < 4 then
        if l3 < 0 then
          xb2 (f_X_deny l0 1 M) fun r_15 M_16 =>
          xch (r_15 = 0 ∨ r_15 = 1) <|
          some (r_15, M_16)
        else
          if 60 < l3 then
            xb2 (f_X_deny l0 1 M) fun r_20 M_21 =>
            xch (r_20 = 0 ∨ r_20 = 1) <|
            some (r_20, M_21)
          else
            xb1 (f_Y_lay R (R l0 2) l1 l2 l3 M) fun M_24 =>
            xb2 (f_X_done l0 M_24) fun r_26 M_27 =>
            xch (r_26 = 0 ∨ r_26 = 1) <|
            some (r_26, M_27)
      else
        xb2 (f_X_deny l0 1 M) fun r_30 M_31 =>
        xch (r_30 = 0 ∨ r_30 = 1) <|
        some (r_30, M_31)
set_option maxRecDepth 100000 in
set_option maxHeartbeats 4000000 in
theorem s_X_tray {d : Nat} {sc : List Int} {z z' : xS} {out : xO} (qs : List xI) {cs : List Prop} (hq : qs.all (xqb 9 false y_X_tray.2.2.1 y_X_tray.2.1) = true) (h : xN false sc qs z = some (z', cs)) (hc : xAll cs) (hE : z'.2.2.2.2.2 ≤ 174) (k : XR false d 174 sc y_X_tray z' out) : XR false d 174 sc y_X_tray z out := XR.seg 9 false rfl (fun q => by cases q) qs hq h hc hE k
set_option maxRecDepth 100000 in
set_option maxHeartbeats 4000000 in
theorem o_X_tray {sc : List Int} {R : xR} {M : xM} {l0 : Nat} {l1 : Int} {l2 : Int} {l3 : Int} {out : Int × xM} (h : f_X_tray R l0 l1 l2 l3 M = some out) : XR false 3 174 sc y_X_tray (0, [(0, (vR 9 l0)), (1, (vI l1)), (2, (vI l2)), (3, (vI l3))], [], R, M, 174) ((some (vI out.1)), R, out.2) := by
  unfold f_X_tray at h
  refine s_X_tray [(0, .iload_n 1, 0, 0)] (by decide +kernel) (z' := (1, [(0, (vR 9 l0)), (1, (vI l1)), (2, (vI l2)), (3, (vI l3))], [(vI l1)], R, M, 174)) (cs := []) (by rfl) trivial (Nat.le_refl _) ?_
  obtain ⟨r_1, e_2, h⟩ := xb1_ex h
  refine XR.callS 9 rfl (rest := []) m_X_isTray k_9_82 [(vI l1)] rfl rfl (c_X_isTray e_2) (by decide) (Nat.le_of_ble_eq_true rfl) (by decide +kernel) (Nat.le_refl _) (Nat.le_refl _) ?_
  show XR false 3 174 sc y_X_tray (4, [(0, (vR 9 l0)), (1, (vI l1)), (2, (vI l2)), (3, (vI l3))], [(vI r_1)], R, M, 174) _
  rcases xif_ex h with ⟨c_3, h⟩ | ⟨c_3, h⟩
  · skip
    refine s_X_tray [(4, .ifCond .eq 22, 0, 26), (26, .aload_n 0, 0, 0), (27, .iconst 1, 0, 1)] (by decide +kernel) (z' := (28, [(0, (vR 9 l0)), (1, (vI l1)), (2, (vI l2)), (3, (vI l3))], [(vI 1), (vR 9 l0)], R, M, 174)) (cs := [r_1 = 0]) (by rfl) ⟨c_3, trivial⟩ (Nat.le_refl _) ?_
    obtain ⟨r_4, M_5, e_6, h⟩ := xb2_ex h
    refine XR.callV 9 rfl (rest := []) m_X_deny k_9_86 9 l0 (Or.inl ⟨by decide, rfl⟩) [(vI 1)] rfl rfl (c_X_deny e_6) (by decide) (Nat.le_of_ble_eq_true rfl) (by decide +kernel) (Nat.le_refl _) (Nat.le_refl _) ?_
    show XR false 3 174 sc y_X_tray (31, [(0, (vR 9 l0)), (1, (vI l1)), (2, (vI l2)), (3, (vI l3))], [(vI r_4)], R, M_5, 174) _
    obtain ⟨c_7, h⟩ := xch_ex h
    obtain rfl := Option.some.inj h
    exact XR.retI .boolean rfl (xnar_z c_7) (by decide +kernel)
  · skip
    refine s_X_tray [(4, .ifCond .eq 22, 0, (-1)), (7, .iload_n 2, 0, 0)] (by decide +kernel) (z' := (8, [(0, (vR 9 l0)), (1, (vI l1)), (2, (vI l2)), (3, (vI l3))], [(vI l2)], R, M, 174)) (cs := [¬ (r_1 = 0)]) (by rfl) ⟨c_3, trivial⟩ (Nat.le_refl _) ?_
    rcases xif_ex h with ⟨c_8, h⟩ | ⟨c_8, h⟩
    · skip
      refine s_X_tray [(8, .ifCond .lt 18, 0, 26), (26, .aload_n 0, 0, 0), (27, .iconst 1, 0, 1)] (by decide +kernel) (z' := (28, [(0, (vR 9 l0)), (1, (vI l1)), (2, (vI l2)), (3, (vI l3))], [(vI 1), (vR 9 l0)], R, M, 174)) (cs := [l2 < 0]) (by rfl) ⟨c_8, trivial⟩ (Nat.le_refl _) ?_
      obtain ⟨r_9, M_10, e_11, h⟩ := xb2_ex h
      refine XR.callV 9 rfl (rest := []) m_X_deny k_9_86 9 l0 (Or.inl ⟨by decide, rfl⟩) [(vI 1)] rfl rfl (c_X_deny e_11) (by decide) (Nat.le_of_ble_eq_true rfl) (by decide +kernel) (Nat.le_refl _) (Nat.le_refl _) ?_
      show XR false 3 174 sc y_X_tray (31, [(0, (vR 9 l0)), (1, (vI l1)), (2, (vI l2)), (3, (vI l3))], [(vI r_9)], R, M_10, 174) _
      obtain ⟨c_12, h⟩ := xch_ex h
      obtain rfl := Option.some.inj h
      exact XR.retI .boolean rfl (xnar_z c_12) (by decide +kernel)
    · skip
      refine s_X_tray [(8, .ifCond .lt 18, 0, (-1)), (11, .iload_n 2, 0, 0), (12, .iconst 4, 0, 4)] (by decide +kernel) (z' := (13, [(0, (vR 9 l0)), (1, (vI l1)), (2, (vI l2)), (3, (vI l3))], [(vI 4), (vI l2)], R, M, 174)) (cs := [¬ (l2 < 0)]) (by rfl) ⟨c_8, trivial⟩ (Nat.le_refl _) ?_
      rcases xif_ex h with ⟨c_13, h⟩ | ⟨c_13, h⟩
      · skip
        refine s_X_tray [(13, .if_icmp .ge 13, 0, (-1)), (16, .iload_n 3, 0, 0)] (by decide +kernel) (z' := (17, [(0, (vR 9 l0)), (1, (vI l1)), (2, (vI l2)), (3, (vI l3))], [(vI l3)], R, M, 174)) (cs := [¬ (4 ≤ l2)]) (by rfl) ⟨Int.not_le.mpr c_13, trivial⟩ (Nat.le_refl _) ?_
        rcases xif_ex h with ⟨c_14, h⟩ | ⟨c_14, h⟩
        · skip
          refine s_X_tray [(17, .ifCond .lt 9, 0, 26), (26, .aload_n 0, 0, 0), (27, .iconst 1, 0, 1)] (by decide +kernel) (z' := (28, [(0, (vR 9 l0)), (1, (vI l1)), (2, (vI l2)), (3, (vI l3))], [(vI 1), (vR 9 l0)], R, M, 174)) (cs := [l3 < 0]) (by rfl) ⟨c_14, trivial⟩ (Nat.le_refl _) ?_
          obtain ⟨r_15, M_16, e_17, h⟩ := xb2_ex h
          refine XR.callV 9 rfl (rest := []) m_X_deny k_9_86 9 l0 (Or.inl ⟨by decide, rfl⟩) [(vI 1)] rfl rfl (c_X_deny e_17) (by decide) (Nat.le_of_ble_eq_true rfl) (by decide +kernel) (Nat.le_refl _) (Nat.le_refl _) ?_
          show XR false 3 174 sc y_X_tray (31, [(0, (vR 9 l0)), (1, (vI l1)), (2, (vI l2)), (3, (vI l3))], [(vI r_15)], R, M_16, 174) _
          obtain ⟨c_18, h⟩ := xch_ex h
          obtain rfl := Option.some.inj h
          exact XR.retI .boolean rfl (xnar_z c_18) (by decide +kernel)
        · skip
          refine s_X_tray [(17, .ifCond .lt 9, 0, (-1)), (20, .iload_n 3, 0, 0), (21, .bipush 60, 0, 60)] (by decide +kernel) (z' := (23, [(0, (vR 9 l0)), (1, (vI l1)), (2, (vI l2)), (3, (vI l3))], [(vI 60), (vI l3)], R, M, 174)) (cs := [¬ (l3 < 0)]) (by rfl) ⟨c_14, trivial⟩ (Nat.le_refl _) ?_
          rcases xif_ex h with ⟨c_19, h⟩ | ⟨c_19, h⟩
          · skip
            refine s_X_tray [(23, .if_icmp .le 9, 0, (-1)), (26, .aload_n 0, 0, 0), (27, .iconst 1, 0, 1)] (by decide +kernel) (z' := (28, [(0, (vR 9 l0)), (1, (vI l1)), (2, (vI l2)), (3, (vI l3))], [(vI 1), (vR 9 l0)], R, M, 174)) (cs := [¬ (l3 ≤ 60)]) (by rfl) ⟨Int.not_le.mpr c_19, trivial⟩ (Nat.le_refl _) ?_
            obtain ⟨r_20, M_21, e_22, h⟩ := xb2_ex h
            refine XR.callV 9 rfl (rest := []) m_X_deny k_9_86 9 l0 (Or.inl ⟨by decide, rfl⟩) [(vI 1)] rfl rfl (c_X_deny e_22) (by decide) (Nat.le_of_ble_eq_true rfl) (by decide +kernel) (Nat.le_refl _) (Nat.le_refl _) ?_
            show XR false 3 174 sc y_X_tray (31, [(0, (vR 9 l0)), (1, (vI l1)), (2, (vI l2)), (3, (vI l3))], [(vI r_20)], R, M_21, 174) _
            obtain ⟨c_23, h⟩ := xch_ex h
            obtain rfl := Option.some.inj h
            exact XR.retI .boolean rfl (xnar_z c_23) (by decide +kernel)
          · skip
            refine s_X_tray [(23, .if_icmp .le 9, 0, 32), (32, .aload_n 0, 0, 0), (33, .getfield 23, 9, 2), (36, .iload_n 1, 0, 0), (37, .iload_n 2, 0, 0), (38, .iload_n 3, 0, 0)] (by decide +kernel) (z' := (39, [(0, (vR 9 l0)), (1, (vI l1)), (2, (vI l2)), (3, (vI l3))], [(vI l3), (vI l2), (vI l1), (vR 8 (R l0 2))], R, M, 174)) (cs := [l3 ≤ 60]) (by rfl) ⟨Int.not_lt.mp c_19, trivial⟩ (Nat.le_refl _) ?_
            obtain ⟨M_24, e_25, h⟩ := xb1_ex h
            refine XR.callV 9 rfl (rest := []) m_Y_lay k_9_89 8 (R l0 2) (Or.inl ⟨by decide, rfl⟩) [(vI l1), (vI l2), (vI l3)] rfl rfl (c_Y_lay e_25) (by decide) (Nat.le_of_ble_eq_true rfl) (by decide +kernel) (Nat.le_refl _) (Nat.le_refl _) ?_
            show XR false 3 174 sc y_X_tray (42, [(0, (vR 9 l0)), (1, (vI l1)), (2, (vI l2)), (3, (vI l3))], [], R, M_24, 174) _
            refine s_X_tray [(42, .aload_n 0, 0, 0)] (by decide +kernel) (z' := (43, [(0, (vR 9 l0)), (1, (vI l1)), (2, (vI l2)), (3, (vI l3))], [(vR 9 l0)], R, M_24, 174)) (cs := []) (by rfl) trivial (Nat.le_refl _) ?_
            obtain ⟨r_26, M_27, e_28, h⟩ := xb2_ex h
            refine XR.callV 9 rfl (rest := []) m_X_done k_9_93 9 l0 (Or.inl ⟨by decide, rfl⟩) [] rfl rfl (c_X_done e_28) (by decide) (Nat.le_of_ble_eq_true rfl) (by decide +kernel) (Nat.le_refl _) (Nat.le_refl _) ?_
            show XR false 3 174 sc y_X_tray (46, [(0, (vR 9 l0)), (1, (vI l1)), (2, (vI l2)), (3, (vI l3))], [(vI r_26)], R, M_27, 174) _
            obtain ⟨c_29, h⟩ := xch_ex h
            obtain rfl := Option.some.inj h
            exact XR.retI .boolean rfl (xnar_z c_29) (by decide +kernel)
      · skip
        refine s_X_tray [(13, .if_icmp .ge 13, 0, 26), (26, .aload_n 0, 0, 0), (27, .iconst 1, 0, 1)] (by decide +kernel) (z' := (28, [(0, (vR 9 l0)), (1, (vI l1)), (2, (vI l2)), (3, (vI l3))], [(vI 1), (vR 9 l0)], R, M, 174)) (cs := [4 ≤ l2]) (by rfl) ⟨Int.not_lt.mp c_13, trivial⟩ (Nat.le_refl _) ?_
        obtain ⟨r_30, M_31, e_32, h⟩ := xb2_ex h
        refine XR.callV 9 rfl (rest := []) m_X_deny k_9_86 9 l0 (Or.inl ⟨by decide, rfl⟩) [(vI 1)] rfl rfl (c_X_deny e_32) (by decide) (Nat.le_of_ble_eq_true rfl) (by decide +kernel) (Nat.le_refl _) (Nat.le_refl _) ?_
        show XR false 3 174 sc y_X_tray (31, [(0, (vR 9 l0)), (1, (vI l1)), (2, (vI l2)), (3, (vI l3))], [(vI r_30)], R, M_31, 174) _
        obtain ⟨c_33, h⟩ := xch_ex h
        obtain rfl := Option.some.inj h
        exact XR.retI .boolean rfl (xnar_z c_33) (by decide +kernel)
set_option maxRecDepth 100000 in
set_option maxHeartbeats 4000000 in
theorem c_X_tray {sc : List Int} {R : xR} {M : xM} {l0 : Nat} {l1 : Int} {l2 : Int} {l3 : Int} {out : Int × xM} (h : f_X_tray R l0 l1 l2 l3 M = some out) : XC false 3 sc y_X_tray [(vR 9 l0), (vI l1), (vI l2), (vI l3)] R M 174 174 ((some (vI out.1)), R, out.2) := XC.of (by decide) (Nat.le_of_ble_eq_true rfl) (Nat.le_refl _) (Nat.le_refl _) (o_X_tray h)
def f_X_up (R : xR) (l0 : Nat) (l1 : Int) (l2 : Int) (M : xM) : Option (Int × xM) :=
  xb1 (f_X_isHour l1) fun r_1 =>
  if r_1 = 0 then
    xb2 (f_X_refuse l0 1 M) fun r_4 M_5 =>
    some (r_4, M_5)
  else
    xb1 (f_X_isSizeOrAll l2) fun r_7 =>
    if r_7 = 0 then
      xb2 (f_X_refuse l0 1 M) fun r_10 M_11 =>
      some (r_10, M_11)
    else
      xb1 (f_X_stepThrough R l0 l1 M) fun M_13 =>
      xb1 (f_F_upOf R (R l0 8) l1 l2 M_13) fun r_15 =>
      xb2 (f_X_answer l0 r_15 M_13) fun r_17 M_18 =>
      some (r_17, M_18)
set_option maxRecDepth 100000 in
set_option maxHeartbeats 4000000 in
theorem s_X_up {d : Nat} {sc : List Int} {z z' : xS} {out : xO} (qs : List xI) {cs : List Prop} (hq : qs.all (xqb 9 false y_X_up.2.2.1 y_X_up.2.1) = true) (h : xN false sc qs z = some (z', cs)) (hc : xAll cs) (hE : z'.2.2.2.2.2 ≤ 174) (k : XR false d 174 sc y_X_up z' out) : XR false d 174 sc y_X_up z out := XR.seg 9 false rfl (fun q => by cases q) qs hq h hc hE k
set_option maxRecDepth 100000 in
set_option maxHeartbeats 4000000 in
theorem o_X_up {sc : List Int} {R : xR} {M : xM} {l0 : Nat} {l1 : Int} {l2 : Int} {out : Int × xM} (h : f_X_up R l0 l1 l2 M = some out) : XR false 5 174 sc y_X_up (0, [(0, (vR 9 l0)), (1, (vI l1)), (2, (vI l2))], [], R, M, 174) ((some (vI out.1)), R, out.2) := by
  unfold f_X_up at h
  refine s_X_up [(0, .iload_n 1, 0, 0)] (by decide +kernel) (z' := (1, [(0, (vR 9 l0)), (1, (vI l1)), (2, (vI l2))], [(vI l1)], R, M, 174)) (cs := []) (by rfl) trivial (Nat.le_refl _) ?_
  obtain ⟨r_1, e_2, h⟩ := xb1_ex h
  refine XR.callS 9 rfl (rest := []) m_X_isHour k_9_190 [(vI l1)] rfl rfl (c_X_isHour e_2) (by decide) (Nat.le_of_ble_eq_true rfl) (by decide +kernel) (Nat.le_refl _) (Nat.le_refl _) ?_
  show XR false 5 174 sc y_X_up (4, [(0, (vR 9 l0)), (1, (vI l1)), (2, (vI l2))], [(vI r_1)], R, M, 174) _
  rcases xif_ex h with ⟨c_3, h⟩ | ⟨c_3, h⟩
  · skip
    refine s_X_up [(4, .ifCond .eq 10, 0, 14), (14, .aload_n 0, 0, 0), (15, .iconst 1, 0, 1)] (by decide +kernel) (z' := (16, [(0, (vR 9 l0)), (1, (vI l1)), (2, (vI l2))], [(vI 1), (vR 9 l0)], R, M, 174)) (cs := [r_1 = 0]) (by rfl) ⟨c_3, trivial⟩ (Nat.le_refl _) ?_
    obtain ⟨r_4, M_5, e_6, h⟩ := xb2_ex h
    refine XR.callV 9 rfl (rest := []) m_X_refuse k_9_105 9 l0 (Or.inl ⟨by decide, rfl⟩) [(vI 1)] rfl rfl (c_X_refuse e_6) (by decide) (Nat.le_of_ble_eq_true rfl) (by decide +kernel) (Nat.le_refl _) (Nat.le_refl _) ?_
    show XR false 5 174 sc y_X_up (19, [(0, (vR 9 l0)), (1, (vI l1)), (2, (vI l2))], [(vI r_4)], R, M_5, 174) _
    obtain rfl := Option.some.inj h
    exact XR.retI .int rfl rfl (by decide +kernel)
  · skip
    refine s_X_up [(4, .ifCond .eq 10, 0, (-1)), (7, .iload_n 2, 0, 0)] (by decide +kernel) (z' := (8, [(0, (vR 9 l0)), (1, (vI l1)), (2, (vI l2))], [(vI l2)], R, M, 174)) (cs := [¬ (r_1 = 0)]) (by rfl) ⟨c_3, trivial⟩ (Nat.le_refl _) ?_
    obtain ⟨r_7, e_8, h⟩ := xb1_ex h
    refine XR.callS 9 rfl (rest := []) m_X_isSizeOrAll k_9_225 [(vI l2)] rfl rfl (c_X_isSizeOrAll e_8) (by decide) (Nat.le_of_ble_eq_true rfl) (by decide +kernel) (Nat.le_refl _) (Nat.le_refl _) ?_
    show XR false 5 174 sc y_X_up (11, [(0, (vR 9 l0)), (1, (vI l1)), (2, (vI l2))], [(vI r_7)], R, M, 174) _
    rcases xif_ex h with ⟨c_9, h⟩ | ⟨c_9, h⟩
    · skip
      refine s_X_up [(11, .ifCond .ne 9, 0, (-1)), (14, .aload_n 0, 0, 0), (15, .iconst 1, 0, 1)] (by decide +kernel) (z' := (16, [(0, (vR 9 l0)), (1, (vI l1)), (2, (vI l2))], [(vI 1), (vR 9 l0)], R, M, 174)) (cs := [¬ (r_7 ≠ 0)]) (by rfl) ⟨fun q => q c_9, trivial⟩ (Nat.le_refl _) ?_
      obtain ⟨r_10, M_11, e_12, h⟩ := xb2_ex h
      refine XR.callV 9 rfl (rest := []) m_X_refuse k_9_105 9 l0 (Or.inl ⟨by decide, rfl⟩) [(vI 1)] rfl rfl (c_X_refuse e_12) (by decide) (Nat.le_of_ble_eq_true rfl) (by decide +kernel) (Nat.le_refl _) (Nat.le_refl _) ?_
      show XR false 5 174 sc y_X_up (19, [(0, (vR 9 l0)), (1, (vI l1)), (2, (vI l2))], [(vI r_10)], R, M_11, 174) _
      obtain rfl := Option.some.inj h
      exact XR.retI .int rfl rfl (by decide +kernel)
    · skip
      refine s_X_up [(11, .ifCond .ne 9, 0, 20), (20, .aload_n 0, 0, 0), (21, .iload_n 1, 0, 0)] (by decide +kernel) (z' := (22, [(0, (vR 9 l0)), (1, (vI l1)), (2, (vI l2))], [(vI l1), (vR 9 l0)], R, M, 174)) (cs := [r_7 ≠ 0]) (by rfl) ⟨c_9, trivial⟩ (Nat.le_refl _) ?_
      obtain ⟨M_13, e_14, h⟩ := xb1_ex h
      refine XR.callV 9 rfl (rest := []) m_X_stepThrough k_9_228 9 l0 (Or.inl ⟨by decide, rfl⟩) [(vI l1)] rfl rfl (c_X_stepThrough e_14) (by decide) (Nat.le_of_ble_eq_true rfl) (by decide +kernel) (Nat.le_refl _) (Nat.le_refl _) ?_
      show XR false 5 174 sc y_X_up (25, [(0, (vR 9 l0)), (1, (vI l1)), (2, (vI l2))], [], R, M_13, 174) _
      refine s_X_up [(25, .aload_n 0, 0, 0), (26, .aload_n 0, 0, 0), (27, .getfield 57, 9, 8), (30, .iload_n 1, 0, 0), (31, .iload_n 2, 0, 0)] (by decide +kernel) (z' := (32, [(0, (vR 9 l0)), (1, (vI l1)), (2, (vI l2))], [(vI l2), (vI l1), (vR 1 (R l0 8)), (vR 9 l0)], R, M_13, 174)) (cs := []) (by rfl) trivial (Nat.le_refl _) ?_
      obtain ⟨r_15, e_16, h⟩ := xb1_ex h
      refine XR.callV 9 rfl (rest := [(vR 9 l0)]) m_F_upOf k_9_231 1 (R l0 8) (Or.inl ⟨by decide, rfl⟩) [(vI l1), (vI l2)] rfl rfl (c_F_upOf e_16) (by decide) (Nat.le_of_ble_eq_true rfl) (by decide +kernel) (Nat.le_refl _) (Nat.le_refl _) ?_
      show XR false 5 174 sc y_X_up (35, [(0, (vR 9 l0)), (1, (vI l1)), (2, (vI l2))], [(vI r_15), (vR 9 l0)], R, M_13, 174) _
      obtain ⟨r_17, M_18, e_19, h⟩ := xb2_ex h
      refine XR.callV 9 rfl (rest := []) m_X_answer k_9_156 9 l0 (Or.inl ⟨by decide, rfl⟩) [(vI r_15)] rfl rfl (c_X_answer e_19) (by decide) (Nat.le_of_ble_eq_true rfl) (by decide +kernel) (Nat.le_refl _) (Nat.le_refl _) ?_
      show XR false 5 174 sc y_X_up (38, [(0, (vR 9 l0)), (1, (vI l1)), (2, (vI l2))], [(vI r_17)], R, M_18, 174) _
      obtain rfl := Option.some.inj h
      exact XR.retI .int rfl rfl (by decide +kernel)
set_option maxRecDepth 100000 in
set_option maxHeartbeats 4000000 in
theorem c_X_up {sc : List Int} {R : xR} {M : xM} {l0 : Nat} {l1 : Int} {l2 : Int} {out : Int × xM} (h : f_X_up R l0 l1 l2 M = some out) : XC false 5 sc y_X_up [(vR 9 l0), (vI l1), (vI l2)] R M 174 174 ((some (vI out.1)), R, out.2) := XC.of (by decide) (Nat.le_of_ble_eq_true rfl) (Nat.le_refl _) (Nat.le_refl _) (o_X_up h)
def f_X_warmth (R : xR) (l0 : Nat) (l1 : Int) (l2 : Int) (M : xM) : Option (Int × xM) :=
  xb1 (f_X_isHour l1) fun r_1 =>
  if r_1 = 0 then
    xb2 (f_X_deny l0 1 M) fun r_4 M_5 =>
    xch (r_4 = 0 ∨ r_4 = 1) <|
    some (r_4, M_5)
  else
    if l2 < 0 then
      xb2 (f_X_deny l0 1 M) fun r_9 M_10 =>
      xch (r_9 = 0 ∨ r_9 = 1) <|
      some (r_9, M_10)
    else
      if 9999 < l2 then
        xb2 (f_X_deny l0 1 M) fun r_14 M_15 =>
        xch (r_14 = 0 ∨ r_14 = 1) <|
        some (r_14, M_15)
      else
        xb1 (f_B_setWarmth R (R l0 7) l1 l2 M) fun M_18 =>
        xb2 (f_X_done l0 M_18) fun r_20 M_21 =>
        xch (r_20 = 0 ∨ r_20 = 1) <|
        some (r_20, M_21)
set_option maxRecDepth 100000 in
set_option maxHeartbeats 4000000 in
theorem s_X_warmth {d : Nat} {sc : List Int} {z z' : xS} {out : xO} (qs : List xI) {cs : List Prop} (hq : qs.all (xqb 9 false y_X_warmth.2.2.1 y_X_warmth.2.1) = true) (h : xN false sc qs z = some (z', cs)) (hc : xAll cs) (hE : z'.2.2.2.2.2 ≤ 174) (k : XR false d 174 sc y_X_warmth z' out) : XR false d 174 sc y_X_warmth z out := XR.seg 9 false rfl (fun q => by cases q) qs hq h hc hE k
set_option maxRecDepth 100000 in
set_option maxHeartbeats 4000000 in
theorem o_X_warmth {sc : List Int} {R : xR} {M : xM} {l0 : Nat} {l1 : Int} {l2 : Int} {out : Int × xM} (h : f_X_warmth R l0 l1 l2 M = some out) : XR false 1 174 sc y_X_warmth (0, [(0, (vR 9 l0)), (1, (vI l1)), (2, (vI l2))], [], R, M, 174) ((some (vI out.1)), R, out.2) := by
  unfold f_X_warmth at h
  refine s_X_warmth [(0, .iload_n 1, 0, 0)] (by decide +kernel) (z' := (1, [(0, (vR 9 l0)), (1, (vI l1)), (2, (vI l2))], [(vI l1)], R, M, 174)) (cs := []) (by rfl) trivial (Nat.le_refl _) ?_
  obtain ⟨r_1, e_2, h⟩ := xb1_ex h
  refine XR.callS 9 rfl (rest := []) m_X_isHour k_9_190 [(vI l1)] rfl rfl (c_X_isHour e_2) (by decide) (Nat.le_of_ble_eq_true rfl) (by decide +kernel) (Nat.le_refl _) (Nat.le_refl _) ?_
  show XR false 1 174 sc y_X_warmth (4, [(0, (vR 9 l0)), (1, (vI l1)), (2, (vI l2))], [(vI r_1)], R, M, 174) _
  rcases xif_ex h with ⟨c_3, h⟩ | ⟨c_3, h⟩
  · skip
    refine s_X_warmth [(4, .ifCond .eq 14, 0, 18), (18, .aload_n 0, 0, 0), (19, .iconst 1, 0, 1)] (by decide +kernel) (z' := (20, [(0, (vR 9 l0)), (1, (vI l1)), (2, (vI l2))], [(vI 1), (vR 9 l0)], R, M, 174)) (cs := [r_1 = 0]) (by rfl) ⟨c_3, trivial⟩ (Nat.le_refl _) ?_
    obtain ⟨r_4, M_5, e_6, h⟩ := xb2_ex h
    refine XR.callV 9 rfl (rest := []) m_X_deny k_9_86 9 l0 (Or.inl ⟨by decide, rfl⟩) [(vI 1)] rfl rfl (c_X_deny e_6) (by decide) (Nat.le_of_ble_eq_true rfl) (by decide +kernel) (Nat.le_refl _) (Nat.le_refl _) ?_
    show XR false 1 174 sc y_X_warmth (23, [(0, (vR 9 l0)), (1, (vI l1)), (2, (vI l2))], [(vI r_4)], R, M_5, 174) _
    obtain ⟨c_7, h⟩ := xch_ex h
    obtain rfl := Option.some.inj h
    exact XR.retI .boolean rfl (xnar_z c_7) (by decide +kernel)
  · skip
    refine s_X_warmth [(4, .ifCond .eq 14, 0, (-1)), (7, .iload_n 2, 0, 0)] (by decide +kernel) (z' := (8, [(0, (vR 9 l0)), (1, (vI l1)), (2, (vI l2))], [(vI l2)], R, M, 174)) (cs := [¬ (r_1 = 0)]) (by rfl) ⟨c_3, trivial⟩ (Nat.le_refl _) ?_
    rcases xif_ex h with ⟨c_8, h⟩ | ⟨c_8, h⟩
    · skip
      refine s_X_warmth [(8, .ifCond .lt 10, 0, 18), (18, .aload_n 0, 0, 0), (19, .iconst 1, 0, 1)] (by decide +kernel) (z' := (20, [(0, (vR 9 l0)), (1, (vI l1)), (2, (vI l2))], [(vI 1), (vR 9 l0)], R, M, 174)) (cs := [l2 < 0]) (by rfl) ⟨c_8, trivial⟩ (Nat.le_refl _) ?_
      obtain ⟨r_9, M_10, e_11, h⟩ := xb2_ex h
      refine XR.callV 9 rfl (rest := []) m_X_deny k_9_86 9 l0 (Or.inl ⟨by decide, rfl⟩) [(vI 1)] rfl rfl (c_X_deny e_11) (by decide) (Nat.le_of_ble_eq_true rfl) (by decide +kernel) (Nat.le_refl _) (Nat.le_refl _) ?_
      show XR false 1 174 sc y_X_warmth (23, [(0, (vR 9 l0)), (1, (vI l1)), (2, (vI l2))], [(vI r_9)], R, M_10, 174) _
      obtain ⟨c_12, h⟩ := xch_ex h
      obtain rfl := Option.some.inj h
      exact XR.retI .boolean rfl (xnar_z c_12) (by decide +kernel)
    · skip
      refine s_X_warmth [(8, .ifCond .lt 10, 0, (-1)), (11, .iload_n 2, 0, 0), (12, .sipush 9999, 0, 9999)] (by decide +kernel) (z' := (15, [(0, (vR 9 l0)), (1, (vI l1)), (2, (vI l2))], [(vI 9999), (vI l2)], R, M, 174)) (cs := [¬ (l2 < 0)]) (by rfl) ⟨c_8, trivial⟩ (Nat.le_refl _) ?_
      rcases xif_ex h with ⟨c_13, h⟩ | ⟨c_13, h⟩
      · skip
        refine s_X_warmth [(15, .if_icmp .le 9, 0, (-1)), (18, .aload_n 0, 0, 0), (19, .iconst 1, 0, 1)] (by decide +kernel) (z' := (20, [(0, (vR 9 l0)), (1, (vI l1)), (2, (vI l2))], [(vI 1), (vR 9 l0)], R, M, 174)) (cs := [¬ (l2 ≤ 9999)]) (by rfl) ⟨Int.not_le.mpr c_13, trivial⟩ (Nat.le_refl _) ?_
        obtain ⟨r_14, M_15, e_16, h⟩ := xb2_ex h
        refine XR.callV 9 rfl (rest := []) m_X_deny k_9_86 9 l0 (Or.inl ⟨by decide, rfl⟩) [(vI 1)] rfl rfl (c_X_deny e_16) (by decide) (Nat.le_of_ble_eq_true rfl) (by decide +kernel) (Nat.le_refl _) (Nat.le_refl _) ?_
        show XR false 1 174 sc y_X_warmth (23, [(0, (vR 9 l0)), (1, (vI l1)), (2, (vI l2))], [(vI r_14)], R, M_15, 174) _
        obtain ⟨c_17, h⟩ := xch_ex h
        obtain rfl := Option.some.inj h
        exact XR.retI .boolean rfl (xnar_z c_17) (by decide +kernel)
      · skip
        refine s_X_warmth [(15, .if_icmp .le 9, 0, 24), (24, .aload_n 0, 0, 0), (25, .getfield 50, 9, 7), (28, .iload_n 1, 0, 0), (29, .iload_n 2, 0, 0)] (by decide +kernel) (z' := (30, [(0, (vR 9 l0)), (1, (vI l1)), (2, (vI l2))], [(vI l2), (vI l1), (vR 0 (R l0 7))], R, M, 174)) (cs := [l2 ≤ 9999]) (by rfl) ⟨Int.not_lt.mp c_13, trivial⟩ (Nat.le_refl _) ?_
        obtain ⟨M_18, e_19, h⟩ := xb1_ex h
        refine XR.callV 9 rfl (rest := []) m_B_setWarmth k_9_209 0 (R l0 7) (Or.inl ⟨by decide, rfl⟩) [(vI l1), (vI l2)] rfl rfl (c_B_setWarmth e_19) (by decide) (Nat.le_of_ble_eq_true rfl) (by decide +kernel) (Nat.le_refl _) (Nat.le_refl _) ?_
        show XR false 1 174 sc y_X_warmth (33, [(0, (vR 9 l0)), (1, (vI l1)), (2, (vI l2))], [], R, M_18, 174) _
        refine s_X_warmth [(33, .aload_n 0, 0, 0)] (by decide +kernel) (z' := (34, [(0, (vR 9 l0)), (1, (vI l1)), (2, (vI l2))], [(vR 9 l0)], R, M_18, 174)) (cs := []) (by rfl) trivial (Nat.le_refl _) ?_
        obtain ⟨r_20, M_21, e_22, h⟩ := xb2_ex h
        refine XR.callV 9 rfl (rest := []) m_X_done k_9_93 9 l0 (Or.inl ⟨by decide, rfl⟩) [] rfl rfl (c_X_done e_22) (by decide) (Nat.le_of_ble_eq_true rfl) (by decide +kernel) (Nat.le_refl _) (Nat.le_refl _) ?_
        show XR false 1 174 sc y_X_warmth (37, [(0, (vR 9 l0)), (1, (vI l1)), (2, (vI l2))], [(vI r_20)], R, M_21, 174) _
        obtain ⟨c_23, h⟩ := xch_ex h
        obtain rfl := Option.some.inj h
        exact XR.retI .boolean rfl (xnar_z c_23) (by decide +kernel)
set_option maxRecDepth 100000 in
set_option maxHeartbeats 4000000 in
theorem c_X_warmth {sc : List Int} {R : xR} {M : xM} {l0 : Nat} {l1 : Int} {l2 : Int} {out : Int × xM} (h : f_X_warmth R l0 l1 l2 M = some out) : XC false 1 sc y_X_warmth [(vR 9 l0), (vI l1), (vI l2)] R M 174 174 ((some (vI out.1)), R, out.2) := XC.of (by decide) (Nat.le_of_ble_eq_true rfl) (Nat.le_refl _) (Nat.le_refl _) (o_X_warmth h)
def X_whose_F39 (R : xR) (l0 : Nat) (l1 : Int) (l2 : Int) (l3 : Int) (q95 : Int → xM → Option (Int × xM)) : Nat → Int → Int → xM → Option (Int × xM)
  | 0, _, _, _ => none
  | n + 1, v4, v6, M =>
    if v6 < M (R l0 3) 1 then
      xb1 (f_B_cell v6 l2 l3) fun r_22 =>
      xch (0 ≤ r_22 ∧ r_22 < 768) <|
      xl (M (R (R l0 7) 14) (Int.toNat r_22)) fun v7_25 =>
      xch (0 ≤ v6 ∧ v6 < 8) <|
      xl (xu M (R (R l0 9) 0) (Int.toNat v6) v7_25) fun M_27 =>
      xl (w64 (v4 + v7_25)) fun v4_28 =>
      xl (w32 (v6 + 1)) fun v6_29 =>
      X_whose_F39 R l0 l1 l2 l3 q95 n v4_28 v6_29 M_27
    else
      q95 v4 M
def f_X_whose (R : xR) (l0 : Nat) (l1 : Int) (l2 : Int) (l3 : Int) (M : xM) : Option (Int × xM) :=
  xb1 (f_X_isWorks R l0 l1 M) fun r_1 =>
  if r_1 = 0 then
    xb2 (f_X_refuse l0 1 M) fun r_4 M_5 =>
    some (r_4, M_5)
  else
    xb1 (f_X_isHour l2) fun r_7 =>
    if r_7 = 0 then
      xb2 (f_X_refuse l0 1 M) fun r_10 M_11 =>
      some (r_10, M_11)
    else
      xb1 (f_X_isSize l3) fun r_13 =>
      if r_13 = 0 then
        xb2 (f_X_refuse l0 1 M) fun r_16 M_17 =>
        some (r_16, M_17)
      else
        xb1 (f_X_stepThrough R l0 l2 M) fun M_19 =>
        X_whose_F39 R l0 l1 l2 l3
          (fun (v4_30 : Int) (M_31 : xM) =>
            if v4_30 = 0 then
              xb2 (f_X_answer l0 0 M_31) fun r_33 M_34 =>
              some (r_33, M_34)
            else
              xb1 (f_F_upOf R (R l0 8) l2 l3 M_31) fun r_36 =>
              xb1 (f_T_share R (R l0 9) r_36 (M_31 (R l0 3) 1) v4_30 M_31) fun M_38 =>
              xch (0 ≤ l1 ∧ l1 < 8) <|
              xb2 (f_X_answer l0 (M_38 (R (R l0 9) 1) (Int.toNat l1)) M_38) fun r_41 M_42 =>
              some (r_41, M_42))
          xfu 0 0 M_19
set_option maxRecDepth 100000 in
set_option maxHeartbeats 4000000 in
theorem s_X_whose {d : Nat} {sc : List Int} {z z' : xS} {out : xO} (qs : List xI) {cs : List Prop} (hq : qs.all (xqb 9 false y_X_whose.2.2.1 y_X_whose.2.1) = true) (h : xN false sc qs z = some (z', cs)) (hc : xAll cs) (hE : z'.2.2.2.2.2 ≤ 174) (k : XR false d 174 sc y_X_whose z' out) : XR false d 174 sc y_X_whose z out := XR.seg 9 false rfl (fun q => by cases q) qs hq h hc hE k
set_option maxRecDepth 100000 in
set_option maxHeartbeats 4000000 in
theorem o_X_whose_F39 {sc : List Int} {R : xR}   {l0 : Nat} {l1 : Int} {l2 : Int} {l3 : Int}  {q95 : Int → xM → Option (Int × xM)} (hq95 : ∀ (w4 : Int) (M : xM) (out : Int × xM), q95 w4 M = some out → XR false 5 174 sc y_X_whose (95, [(0, (vR 9 l0)), (1, (vI l1)), (2, (vI l2)), (3, (vI l3)), (4, (vL w4))], [], R, M, 174) ((some (vI out.1)), R, out.2)) : ∀ (n : Nat) (v4 : Int) (v6 : Int) (M : xM) (out : Int × xM), X_whose_F39 R l0 l1 l2 l3 q95 n v4 v6 M = some out → XR false 5 174 sc y_X_whose (39, [(0, (vR 9 l0)), (1, (vI l1)), (2, (vI l2)), (3, (vI l3)), (4, (vL v4)), (6, (vI v6))], [], R, M, 174) ((some (vI out.1)), R, out.2) := by
  intro n
  induction n with
  | zero => intro v4 v6 M out h; exact (xno h).elim
  | succ n ih =>
    intro v4 v6 M out h
    rw [X_whose_F39] at h
    refine s_X_whose [(39, .iload 6, 0, 0), (41, .aload_n 0, 0, 0), (42, .getfield 30, 9, 3), (45, .getfield 240, 6, 1)] (by decide +kernel) (z' := (48, [(0, (vR 9 l0)), (1, (vI l1)), (2, (vI l2)), (3, (vI l3)), (4, (vL v4)), (6, (vI v6))], [(vI (M (R l0 3) 1)), (vI v6)], R, M, 174)) (cs := []) (by rfl) trivial (Nat.le_refl _) ?_
    rcases xif_ex h with ⟨c_21, h⟩ | ⟨c_21, h⟩
    · skip
      refine s_X_whose [(48, .if_icmp .ge 47, 0, (-1)), (51, .aload_n 0, 0, 0), (52, .getfield 50, 9, 7), (55, .getfield 243, 0, 14), (58, .iload 6, 0, 0), (60, .iload_n 2, 0, 0), (61, .iload_n 3, 0, 0)] (by decide +kernel) (z' := (62, [(0, (vR 9 l0)), (1, (vI l1)), (2, (vI l2)), (3, (vI l3)), (4, (vL v4)), (6, (vI v6))], [(vI l3), (vI l2), (vI v6), (vR 23 (R (R l0 7) 14))], R, M, 174)) (cs := [¬ (M (R l0 3) 1 ≤ v6)]) (by rfl) ⟨Int.not_le.mpr c_21, trivial⟩ (Nat.le_refl _) ?_
      obtain ⟨r_22, e_23, h⟩ := xb1_ex h
      refine XR.callS 9 rfl (rest := [(vR 23 (R (R l0 7) 14))]) m_B_cell k_9_202 [(vI v6), (vI l2), (vI l3)] rfl rfl (c_B_cell e_23) (by decide) (Nat.le_of_ble_eq_true rfl) (by decide +kernel) (Nat.le_refl _) (Nat.le_refl _) ?_
      show XR false 5 174 sc y_X_whose (65, [(0, (vR 9 l0)), (1, (vI l1)), (2, (vI l2)), (3, (vI l3)), (4, (vL v4)), (6, (vI v6))], [(vI r_22), (vR 23 (R (R l0 7) 14))], R, M, 174) _
      obtain ⟨c_24, h⟩ := xch_ex h
      obtain ⟨v7_25, hv7_25, h⟩ := xl_ex h
      obtain ⟨c_26, h⟩ := xch_ex h
      obtain ⟨M_27, hM_27, h⟩ := xl_ex h
      obtain ⟨v4_28, hv4_28, h⟩ := xl_ex h
      obtain ⟨v6_29, hv6_29, h⟩ := xl_ex h
      refine s_X_whose [(65, .iaload, 0, 0), (66, .istore 7, 0, 0), (68, .aload_n 0, 0, 0), (69, .getfield 64, 9, 9), (72, .getfield 246, 5, 0), (75, .iload 6, 0, 0), (77, .iload 7, 0, 0), (79, .i2l, 0, 0), (80, .lastore, 0, 0), (81, .lload 4, 0, 0), (83, .iload 7, 0, 0), (85, .i2l, 0, 0), (86, .ladd, 0, 0), (87, .lstore 4, 0, 0), (89, .iinc 6 1, 0, 0), (92, .goto (-53), 0, 39)] (by decide +kernel) (z' := (39, [(6, (vI v6_29)), (4, (vL v4_28)), (7, (vI v7_25)), (0, (vR 9 l0)), (1, (vI l1)), (2, (vI l2)), (3, (vI l3))], [], R, M_27, 174)) (cs := [xar 23 0, xidx r_22 (xan 23), xar 24 1, xidx v6 (xan 24)]) (by subst hv7_25; subst hM_27; subst hv4_28; subst hv6_29; rfl) ⟨xar_23, xix_23 c_24, xar_24, xix_24 c_26, trivial⟩ (Nat.le_refl _) ?_
      refine XR.pick [3, 4, 5, 6, 1, 0] (ls' := [(0, (vR 9 l0)), (1, (vI l1)), (2, (vI l2)), (3, (vI l3)), (4, (vL v4_28)), (6, (vI v6_29))]) rfl ?_
      exact ih v4_28 v6_29 M_27 _ h
    · skip
      refine s_X_whose [(48, .if_icmp .ge 47, 0, 95)] (by decide +kernel) (z' := (95, [(0, (vR 9 l0)), (1, (vI l1)), (2, (vI l2)), (3, (vI l3)), (4, (vL v4)), (6, (vI v6))], [], R, M, 174)) (cs := [M (R l0 3) 1 ≤ v6]) (by rfl) ⟨Int.not_lt.mp c_21, trivial⟩ (Nat.le_refl _) ?_
      refine XR.pick [0, 1, 2, 3, 4] (ls' := [(0, (vR 9 l0)), (1, (vI l1)), (2, (vI l2)), (3, (vI l3)), (4, (vL v4))]) rfl ?_
      exact hq95 v4 M _ h
set_option maxRecDepth 100000 in
set_option maxHeartbeats 4000000 in
theorem o_X_whose {sc : List Int} {R : xR} {M : xM} {l0 : Nat} {l1 : Int} {l2 : Int} {l3 : Int} {out : Int × xM} (h : f_X_whose R l0 l1 l2 l3 M = some out) : XR false 5 174 sc y_X_whose (0, [(0, (vR 9 l0)), (1, (vI l1)), (2, (vI l2)), (3, (vI l3))], [], R, M, 174) ((some (vI out.1)), R, out.2) := by
  unfold f_X_whose at h
  refine s_X_whose [(0, .aload_n 0, 0, 0), (1, .iload_n 1, 0, 0)] (by decide +kernel) (z' := (2, [(0, (vR 9 l0)), (1, (vI l1)), (2, (vI l2)), (3, (vI l3))], [(vI l1), (vR 9 l0)], R, M, 174)) (cs := []) (by rfl) trivial (Nat.le_refl _) ?_
  obtain ⟨r_1, e_2, h⟩ := xb1_ex h
  refine XR.callV 9 rfl (rest := []) m_X_isWorks k_9_184 9 l0 (Or.inl ⟨by decide, rfl⟩) [(vI l1)] rfl rfl (c_X_isWorks e_2) (by decide) (Nat.le_of_ble_eq_true rfl) (by decide +kernel) (Nat.le_refl _) (Nat.le_refl _) ?_
  show XR false 5 174 sc y_X_whose (5, [(0, (vR 9 l0)), (1, (vI l1)), (2, (vI l2)), (3, (vI l3))], [(vI r_1)], R, M, 174) _
  rcases xif_ex h with ⟨c_3, h⟩ | ⟨c_3, h⟩
  · skip
    refine s_X_whose [(5, .ifCond .eq 17, 0, 22), (22, .aload_n 0, 0, 0), (23, .iconst 1, 0, 1)] (by decide +kernel) (z' := (24, [(0, (vR 9 l0)), (1, (vI l1)), (2, (vI l2)), (3, (vI l3))], [(vI 1), (vR 9 l0)], R, M, 174)) (cs := [r_1 = 0]) (by rfl) ⟨c_3, trivial⟩ (Nat.le_refl _) ?_
    obtain ⟨r_4, M_5, e_6, h⟩ := xb2_ex h
    refine XR.callV 9 rfl (rest := []) m_X_refuse k_9_105 9 l0 (Or.inl ⟨by decide, rfl⟩) [(vI 1)] rfl rfl (c_X_refuse e_6) (by decide) (Nat.le_of_ble_eq_true rfl) (by decide +kernel) (Nat.le_refl _) (Nat.le_refl _) ?_
    show XR false 5 174 sc y_X_whose (27, [(0, (vR 9 l0)), (1, (vI l1)), (2, (vI l2)), (3, (vI l3))], [(vI r_4)], R, M_5, 174) _
    obtain rfl := Option.some.inj h
    exact XR.retI .int rfl rfl (by decide +kernel)
  · skip
    refine s_X_whose [(5, .ifCond .eq 17, 0, (-1)), (8, .iload_n 2, 0, 0)] (by decide +kernel) (z' := (9, [(0, (vR 9 l0)), (1, (vI l1)), (2, (vI l2)), (3, (vI l3))], [(vI l2)], R, M, 174)) (cs := [¬ (r_1 = 0)]) (by rfl) ⟨c_3, trivial⟩ (Nat.le_refl _) ?_
    obtain ⟨r_7, e_8, h⟩ := xb1_ex h
    refine XR.callS 9 rfl (rest := []) m_X_isHour k_9_190 [(vI l2)] rfl rfl (c_X_isHour e_8) (by decide) (Nat.le_of_ble_eq_true rfl) (by decide +kernel) (Nat.le_refl _) (Nat.le_refl _) ?_
    show XR false 5 174 sc y_X_whose (12, [(0, (vR 9 l0)), (1, (vI l1)), (2, (vI l2)), (3, (vI l3))], [(vI r_7)], R, M, 174) _
    rcases xif_ex h with ⟨c_9, h⟩ | ⟨c_9, h⟩
    · skip
      refine s_X_whose [(12, .ifCond .eq 10, 0, 22), (22, .aload_n 0, 0, 0), (23, .iconst 1, 0, 1)] (by decide +kernel) (z' := (24, [(0, (vR 9 l0)), (1, (vI l1)), (2, (vI l2)), (3, (vI l3))], [(vI 1), (vR 9 l0)], R, M, 174)) (cs := [r_7 = 0]) (by rfl) ⟨c_9, trivial⟩ (Nat.le_refl _) ?_
      obtain ⟨r_10, M_11, e_12, h⟩ := xb2_ex h
      refine XR.callV 9 rfl (rest := []) m_X_refuse k_9_105 9 l0 (Or.inl ⟨by decide, rfl⟩) [(vI 1)] rfl rfl (c_X_refuse e_12) (by decide) (Nat.le_of_ble_eq_true rfl) (by decide +kernel) (Nat.le_refl _) (Nat.le_refl _) ?_
      show XR false 5 174 sc y_X_whose (27, [(0, (vR 9 l0)), (1, (vI l1)), (2, (vI l2)), (3, (vI l3))], [(vI r_10)], R, M_11, 174) _
      obtain rfl := Option.some.inj h
      exact XR.retI .int rfl rfl (by decide +kernel)
    · skip
      refine s_X_whose [(12, .ifCond .eq 10, 0, (-1)), (15, .iload_n 3, 0, 0)] (by decide +kernel) (z' := (16, [(0, (vR 9 l0)), (1, (vI l1)), (2, (vI l2)), (3, (vI l3))], [(vI l3)], R, M, 174)) (cs := [¬ (r_7 = 0)]) (by rfl) ⟨c_9, trivial⟩ (Nat.le_refl _) ?_
      obtain ⟨r_13, e_14, h⟩ := xb1_ex h
      refine XR.callS 9 rfl (rest := []) m_X_isSize k_9_193 [(vI l3)] rfl rfl (c_X_isSize e_14) (by decide) (Nat.le_of_ble_eq_true rfl) (by decide +kernel) (Nat.le_refl _) (Nat.le_refl _) ?_
      show XR false 5 174 sc y_X_whose (19, [(0, (vR 9 l0)), (1, (vI l1)), (2, (vI l2)), (3, (vI l3))], [(vI r_13)], R, M, 174) _
      rcases xif_ex h with ⟨c_15, h⟩ | ⟨c_15, h⟩
      · skip
        refine s_X_whose [(19, .ifCond .ne 9, 0, (-1)), (22, .aload_n 0, 0, 0), (23, .iconst 1, 0, 1)] (by decide +kernel) (z' := (24, [(0, (vR 9 l0)), (1, (vI l1)), (2, (vI l2)), (3, (vI l3))], [(vI 1), (vR 9 l0)], R, M, 174)) (cs := [¬ (r_13 ≠ 0)]) (by rfl) ⟨fun q => q c_15, trivial⟩ (Nat.le_refl _) ?_
        obtain ⟨r_16, M_17, e_18, h⟩ := xb2_ex h
        refine XR.callV 9 rfl (rest := []) m_X_refuse k_9_105 9 l0 (Or.inl ⟨by decide, rfl⟩) [(vI 1)] rfl rfl (c_X_refuse e_18) (by decide) (Nat.le_of_ble_eq_true rfl) (by decide +kernel) (Nat.le_refl _) (Nat.le_refl _) ?_
        show XR false 5 174 sc y_X_whose (27, [(0, (vR 9 l0)), (1, (vI l1)), (2, (vI l2)), (3, (vI l3))], [(vI r_16)], R, M_17, 174) _
        obtain rfl := Option.some.inj h
        exact XR.retI .int rfl rfl (by decide +kernel)
      · skip
        refine s_X_whose [(19, .ifCond .ne 9, 0, 28), (28, .aload_n 0, 0, 0), (29, .iload_n 2, 0, 0)] (by decide +kernel) (z' := (30, [(0, (vR 9 l0)), (1, (vI l1)), (2, (vI l2)), (3, (vI l3))], [(vI l2), (vR 9 l0)], R, M, 174)) (cs := [r_13 ≠ 0]) (by rfl) ⟨c_15, trivial⟩ (Nat.le_refl _) ?_
        obtain ⟨M_19, e_20, h⟩ := xb1_ex h
        refine XR.callV 9 rfl (rest := []) m_X_stepThrough k_9_228 9 l0 (Or.inl ⟨by decide, rfl⟩) [(vI l2)] rfl rfl (c_X_stepThrough e_20) (by decide) (Nat.le_of_ble_eq_true rfl) (by decide +kernel) (Nat.le_refl _) (Nat.le_refl _) ?_
        show XR false 5 174 sc y_X_whose (33, [(0, (vR 9 l0)), (1, (vI l1)), (2, (vI l2)), (3, (vI l3))], [], R, M_19, 174) _
        refine s_X_whose [(33, .lconst 0, 0, 0), (34, .lstore 4, 0, 0), (36, .iconst 0, 0, 0), (37, .istore 6, 0, 0)] (by decide +kernel) (z' := (39, [(6, (vI 0)), (4, (vL 0)), (0, (vR 9 l0)), (1, (vI l1)), (2, (vI l2)), (3, (vI l3))], [], R, M_19, 174)) (cs := []) (by rfl) trivial (Nat.le_refl _) ?_
        refine XR.pick [2, 3, 4, 5, 1, 0] (ls' := [(0, (vR 9 l0)), (1, (vI l1)), (2, (vI l2)), (3, (vI l3)), (4, (vL 0)), (6, (vI 0))]) rfl ?_
        refine o_X_whose_F39 ?_ xfu 0 0 M_19 _ h
        · intro v4_30 M_31 out h
          refine s_X_whose [(95, .lload 4, 0, 0), (97, .lconst 0, 0, 0), (98, .lcmp, 0, 0)] (by decide +kernel) (z' := (99, [(0, (vR 9 l0)), (1, (vI l1)), (2, (vI l2)), (3, (vI l3)), (4, (vL v4_30))], [(vI (xcmp v4_30 0))], R, M_31, 174)) (cs := []) (by rfl) trivial (Nat.le_refl _) ?_
          rcases xif_ex h with ⟨c_32, h⟩ | ⟨c_32, h⟩
          · skip
            refine s_X_whose [(99, .ifCond .ne 9, 0, (-1)), (102, .aload_n 0, 0, 0), (103, .iconst 0, 0, 0)] (by decide +kernel) (z' := (104, [(0, (vR 9 l0)), (1, (vI l1)), (2, (vI l2)), (3, (vI l3)), (4, (vL v4_30))], [(vI 0), (vR 9 l0)], R, M_31, 174)) (cs := [¬ (xcmp v4_30 0 ≠ 0)]) (by rfl) ⟨fun q => q (xcmp_eq.mpr c_32), trivial⟩ (Nat.le_refl _) ?_
            obtain ⟨r_33, M_34, e_35, h⟩ := xb2_ex h
            refine XR.callV 9 rfl (rest := []) m_X_answer k_9_156 9 l0 (Or.inl ⟨by decide, rfl⟩) [(vI 0)] rfl rfl (c_X_answer e_35) (by decide) (Nat.le_of_ble_eq_true rfl) (by decide +kernel) (Nat.le_refl _) (Nat.le_refl _) ?_
            show XR false 5 174 sc y_X_whose (107, [(0, (vR 9 l0)), (1, (vI l1)), (2, (vI l2)), (3, (vI l3)), (4, (vL v4_30))], [(vI r_33)], R, M_34, 174) _
            obtain rfl := Option.some.inj h
            exact XR.retI .int rfl rfl (by decide +kernel)
          · skip
            refine s_X_whose [(99, .ifCond .ne 9, 0, 108), (108, .aload_n 0, 0, 0), (109, .getfield 64, 9, 9), (112, .aload_n 0, 0, 0), (113, .getfield 57, 9, 8), (116, .iload_n 2, 0, 0), (117, .iload_n 3, 0, 0)] (by decide +kernel) (z' := (118, [(0, (vR 9 l0)), (1, (vI l1)), (2, (vI l2)), (3, (vI l3)), (4, (vL v4_30))], [(vI l3), (vI l2), (vR 1 (R l0 8)), (vR 5 (R l0 9))], R, M_31, 174)) (cs := [xcmp v4_30 0 ≠ 0]) (by rfl) ⟨fun q => c_32 (xcmp_eq.mp q), trivial⟩ (Nat.le_refl _) ?_
            obtain ⟨r_36, e_37, h⟩ := xb1_ex h
            refine XR.callV 9 rfl (rest := [(vR 5 (R l0 9))]) m_F_upOf k_9_231 1 (R l0 8) (Or.inl ⟨by decide, rfl⟩) [(vI l2), (vI l3)] rfl rfl (c_F_upOf e_37) (by decide) (Nat.le_of_ble_eq_true rfl) (by decide +kernel) (Nat.le_refl _) (Nat.le_refl _) ?_
            show XR false 5 174 sc y_X_whose (121, [(0, (vR 9 l0)), (1, (vI l1)), (2, (vI l2)), (3, (vI l3)), (4, (vL v4_30))], [(vI r_36), (vR 5 (R l0 9))], R, M_31, 174) _
            refine s_X_whose [(121, .i2l, 0, 0), (122, .aload_n 0, 0, 0), (123, .getfield 30, 9, 3), (126, .getfield 240, 6, 1), (129, .lload 4, 0, 0)] (by decide +kernel) (z' := (131, [(0, (vR 9 l0)), (1, (vI l1)), (2, (vI l2)), (3, (vI l3)), (4, (vL v4_30))], [(vL v4_30), (vI (M_31 (R l0 3) 1)), (vL r_36), (vR 5 (R l0 9))], R, M_31, 174)) (cs := []) (by rfl) trivial (Nat.le_refl _) ?_
            obtain ⟨M_38, e_39, h⟩ := xb1_ex h
            refine XR.callV 9 rfl (rest := []) m_T_share k_9_250 5 (R l0 9) (Or.inl ⟨by decide, rfl⟩) [(vL r_36), (vI (M_31 (R l0 3) 1)), (vL v4_30)] rfl rfl (c_T_share e_39) (by decide) (Nat.le_of_ble_eq_true rfl) (by decide +kernel) (Nat.le_refl _) (Nat.le_refl _) ?_
            show XR false 5 174 sc y_X_whose (134, [(0, (vR 9 l0)), (1, (vI l1)), (2, (vI l2)), (3, (vI l3)), (4, (vL v4_30))], [], R, M_38, 174) _
            obtain ⟨c_40, h⟩ := xch_ex h
            refine s_X_whose [(134, .aload_n 0, 0, 0), (135, .aload_n 0, 0, 0), (136, .getfield 64, 9, 9), (139, .getfield 254, 5, 1), (142, .iload_n 1, 0, 0), (143, .iaload, 0, 0)] (by decide +kernel) (z' := (144, [(0, (vR 9 l0)), (1, (vI l1)), (2, (vI l2)), (3, (vI l3)), (4, (vL v4_30))], [(vI (M_38 (R (R l0 9) 1) (Int.toNat l1))), (vR 9 l0)], R, M_38, 174)) (cs := [xar 30 0, xidx l1 (xan 30)]) (by rfl) ⟨xar_30, xix_30 c_40, trivial⟩ (Nat.le_refl _) ?_
            obtain ⟨r_41, M_42, e_43, h⟩ := xb2_ex h
            refine XR.callV 9 rfl (rest := []) m_X_answer k_9_156 9 l0 (Or.inl ⟨by decide, rfl⟩) [(vI (M_38 (R (R l0 9) 1) (Int.toNat l1)))] rfl rfl (c_X_answer e_43) (by decide) (Nat.le_of_ble_eq_true rfl) (by decide +kernel) (Nat.le_refl _) (Nat.le_refl _) ?_
            show XR false 5 174 sc y_X_whose (147, [(0, (vR 9 l0)), (1, (vI l1)), (2, (vI l2)), (3, (vI l3)), (4, (vL v4_30))], [(vI r_41)], R, M_42, 174) _
            obtain rfl := Option.some.inj h
            exact XR.retI .int rfl rfl (by decide +kernel)
set_option maxRecDepth 100000 in
set_option maxHeartbeats 4000000 in
theorem c_X_whose {sc : List Int} {R : xR} {M : xM} {l0 : Nat} {l1 : Int} {l2 : Int} {l3 : Int} {out : Int × xM} (h : f_X_whose R l0 l1 l2 l3 M = some out) : XC false 5 sc y_X_whose [(vR 9 l0), (vI l1), (vI l2), (vI l3)] R M 174 174 ((some (vI out.1)), R, out.2) := XC.of (by decide) (Nat.le_of_ble_eq_true rfl) (Nat.le_refl _) (Nat.le_refl _) (o_X_whose h)
def f_X_works (R : xR) (l0 : Nat) (l1 : Int) (M : xM) : Option (Int × xM) :=
  xb1 (f_X_isWorks R l0 l1 M) fun r_1 =>
  if r_1 = 0 then
    xb2 (f_X_refuse l0 1 M) fun r_4 M_5 =>
    some (r_4, M_5)
  else
    xch (0 ≤ l1 ∧ l1 < 4) <|
    xb2 (f_X_answer l0 (M (R (R l0 3) 12) (Int.toNat l1)) M) fun r_8 M_9 =>
    some (r_8, M_9)
set_option maxRecDepth 100000 in
set_option maxHeartbeats 4000000 in
theorem s_X_works {d : Nat} {sc : List Int} {z z' : xS} {out : xO} (qs : List xI) {cs : List Prop} (hq : qs.all (xqb 9 false y_X_works.2.2.1 y_X_works.2.1) = true) (h : xN false sc qs z = some (z', cs)) (hc : xAll cs) (hE : z'.2.2.2.2.2 ≤ 174) (k : XR false d 174 sc y_X_works z' out) : XR false d 174 sc y_X_works z out := XR.seg 9 false rfl (fun q => by cases q) qs hq h hc hE k
set_option maxRecDepth 100000 in
set_option maxHeartbeats 4000000 in
theorem o_X_works {sc : List Int} {R : xR} {M : xM} {l0 : Nat} {l1 : Int} {out : Int × xM} (h : f_X_works R l0 l1 M = some out) : XR false 1 174 sc y_X_works (0, [(0, (vR 9 l0)), (1, (vI l1))], [], R, M, 174) ((some (vI out.1)), R, out.2) := by
  unfold f_X_works at h
  refine s_X_works [(0, .aload_n 0, 0, 0), (1, .iload_n 1, 0, 0)] (by decide +kernel) (z' := (2, [(0, (vR 9 l0)), (1, (vI l1))], [(vI l1), (vR 9 l0)], R, M, 174)) (cs := []) (by rfl) trivial (Nat.le_refl _) ?_
  obtain ⟨r_1, e_2, h⟩ := xb1_ex h
  refine XR.callV 9 rfl (rest := []) m_X_isWorks k_9_184 9 l0 (Or.inl ⟨by decide, rfl⟩) [(vI l1)] rfl rfl (c_X_isWorks e_2) (by decide) (Nat.le_of_ble_eq_true rfl) (by decide +kernel) (Nat.le_refl _) (Nat.le_refl _) ?_
  show XR false 1 174 sc y_X_works (5, [(0, (vR 9 l0)), (1, (vI l1))], [(vI r_1)], R, M, 174) _
  rcases xif_ex h with ⟨c_3, h⟩ | ⟨c_3, h⟩
  · skip
    refine s_X_works [(5, .ifCond .ne 9, 0, (-1)), (8, .aload_n 0, 0, 0), (9, .iconst 1, 0, 1)] (by decide +kernel) (z' := (10, [(0, (vR 9 l0)), (1, (vI l1))], [(vI 1), (vR 9 l0)], R, M, 174)) (cs := [¬ (r_1 ≠ 0)]) (by rfl) ⟨fun q => q c_3, trivial⟩ (Nat.le_refl _) ?_
    obtain ⟨r_4, M_5, e_6, h⟩ := xb2_ex h
    refine XR.callV 9 rfl (rest := []) m_X_refuse k_9_105 9 l0 (Or.inl ⟨by decide, rfl⟩) [(vI 1)] rfl rfl (c_X_refuse e_6) (by decide) (Nat.le_of_ble_eq_true rfl) (by decide +kernel) (Nat.le_refl _) (Nat.le_refl _) ?_
    show XR false 1 174 sc y_X_works (13, [(0, (vR 9 l0)), (1, (vI l1))], [(vI r_4)], R, M_5, 174) _
    obtain rfl := Option.some.inj h
    exact XR.retI .int rfl rfl (by decide +kernel)
  · skip
    obtain ⟨c_7, h⟩ := xch_ex h
    refine s_X_works [(5, .ifCond .ne 9, 0, 14), (14, .aload_n 0, 0, 0), (15, .aload_n 0, 0, 0), (16, .getfield 30, 9, 3), (19, .getfield 187, 6, 12), (22, .iload_n 1, 0, 0), (23, .iaload, 0, 0)] (by decide +kernel) (z' := (24, [(0, (vR 9 l0)), (1, (vI l1))], [(vI (M (R (R l0 3) 12) (Int.toNat l1))), (vR 9 l0)], R, M, 174)) (cs := [r_1 ≠ 0, xar 34 0, xidx l1 (xan 34)]) (by rfl) ⟨c_3, xar_34, xix_34 c_7, trivial⟩ (Nat.le_refl _) ?_
    obtain ⟨r_8, M_9, e_10, h⟩ := xb2_ex h
    refine XR.callV 9 rfl (rest := []) m_X_answer k_9_156 9 l0 (Or.inl ⟨by decide, rfl⟩) [(vI (M (R (R l0 3) 12) (Int.toNat l1)))] rfl rfl (c_X_answer e_10) (by decide) (Nat.le_of_ble_eq_true rfl) (by decide +kernel) (Nat.le_refl _) (Nat.le_refl _) ?_
    show XR false 1 174 sc y_X_works (27, [(0, (vR 9 l0)), (1, (vI l1))], [(vI r_8)], R, M_9, 174) _
    obtain rfl := Option.some.inj h
    exact XR.retI .int rfl rfl (by decide +kernel)
set_option maxRecDepth 100000 in
set_option maxHeartbeats 4000000 in
theorem c_X_works {sc : List Int} {R : xR} {M : xM} {l0 : Nat} {l1 : Int} {out : Int × xM} (h : f_X_works R l0 l1 M = some out) : XC false 1 sc y_X_works [(vR 9 l0), (vI l1)] R M 174 174 ((some (vI out.1)), R, out.2) := XC.of (by decide) (Nat.le_of_ble_eq_true rfl) (Nat.le_refl _) (Nat.le_refl _) (o_X_works h)
def f_X_write (R : xR) (l0 : Nat) (l1 : Int) (l2 : Int) (l3 : Int) (M : xM) : Option (Int × xM) :=
  xb1 (f_X_placeStatus R l0 l1 l2 M) fun r_1 =>
  if r_1 = 0 then
    xb1 (f_Y_put R (R l0 2) l1 l2 l3 M) fun M_4 =>
    xb2 (f_X_done l0 M_4) fun r_6 M_7 =>
    xch (r_6 = 0 ∨ r_6 = 1) <|
    some (r_6, M_7)
  else
    xb2 (f_X_deny l0 r_1 M) fun r_10 M_11 =>
    xch (r_10 = 0 ∨ r_10 = 1) <|
    some (r_10, M_11)
set_option maxRecDepth 100000 in
set_option maxHeartbeats 4000000 in
theorem s_X_write {d : Nat} {sc : List Int} {z z' : xS} {out : xO} (qs : List xI) {cs : List Prop} (hq : qs.all (xqb 9 false y_X_write.2.2.1 y_X_write.2.1) = true) (h : xN false sc qs z = some (z', cs)) (hc : xAll cs) (hE : z'.2.2.2.2.2 ≤ 174) (k : XR false d 174 sc y_X_write z' out) : XR false d 174 sc y_X_write z out := XR.seg 9 false rfl (fun q => by cases q) qs hq h hc hE k
set_option maxRecDepth 100000 in
set_option maxHeartbeats 4000000 in
theorem o_X_write {sc : List Int} {R : xR} {M : xM} {l0 : Nat} {l1 : Int} {l2 : Int} {l3 : Int} {out : Int × xM} (h : f_X_write R l0 l1 l2 l3 M = some out) : XR false 2 174 sc y_X_write (0, [(0, (vR 9 l0)), (1, (vI l1)), (2, (vI l2)), (3, (vL l3))], [], R, M, 174) ((some (vI out.1)), R, out.2) := by
  unfold f_X_write at h
  refine s_X_write [(0, .aload_n 0, 0, 0), (1, .iload_n 1, 0, 0), (2, .iload_n 2, 0, 0)] (by decide +kernel) (z' := (3, [(0, (vR 9 l0)), (1, (vI l1)), (2, (vI l2)), (3, (vL l3))], [(vI l2), (vI l1), (vR 9 l0)], R, M, 174)) (cs := []) (by rfl) trivial (Nat.le_refl _) ?_
  obtain ⟨r_1, e_2, h⟩ := xb1_ex h
  refine XR.callV 9 rfl (rest := []) m_X_placeStatus k_9_97 9 l0 (Or.inl ⟨by decide, rfl⟩) [(vI l1), (vI l2)] rfl rfl (c_X_placeStatus e_2) (by decide) (Nat.le_of_ble_eq_true rfl) (by decide +kernel) (Nat.le_refl _) (Nat.le_refl _) ?_
  show XR false 2 174 sc y_X_write (6, [(0, (vR 9 l0)), (1, (vI l1)), (2, (vI l2)), (3, (vL l3))], [(vI r_1)], R, M, 174) _
  refine s_X_write [(6, .istore 5, 0, 0), (8, .iload 5, 0, 0)] (by decide +kernel) (z' := (10, [(5, (vI r_1)), (0, (vR 9 l0)), (1, (vI l1)), (2, (vI l2)), (3, (vL l3))], [(vI r_1)], R, M, 174)) (cs := []) (by rfl) trivial (Nat.le_refl _) ?_
  rcases xif_ex h with ⟨c_3, h⟩ | ⟨c_3, h⟩
  · skip
    refine s_X_write [(10, .ifCond .eq 10, 0, 20), (20, .aload_n 0, 0, 0), (21, .getfield 23, 9, 2), (24, .iload_n 1, 0, 0), (25, .iload_n 2, 0, 0), (26, .lload_n 3, 0, 0)] (by decide +kernel) (z' := (27, [(5, (vI r_1)), (0, (vR 9 l0)), (1, (vI l1)), (2, (vI l2)), (3, (vL l3))], [(vL l3), (vI l2), (vI l1), (vR 8 (R l0 2))], R, M, 174)) (cs := [r_1 = 0]) (by rfl) ⟨c_3, trivial⟩ (Nat.le_refl _) ?_
    obtain ⟨M_4, e_5, h⟩ := xb1_ex h
    refine XR.callV 9 rfl (rest := []) m_Y_put k_9_101 8 (R l0 2) (Or.inl ⟨by decide, rfl⟩) [(vI l1), (vI l2), (vL l3)] rfl rfl (c_Y_put e_5) (by decide) (Nat.le_of_ble_eq_true rfl) (by decide +kernel) (Nat.le_refl _) (Nat.le_refl _) ?_
    show XR false 2 174 sc y_X_write (30, [(5, (vI r_1)), (0, (vR 9 l0)), (1, (vI l1)), (2, (vI l2)), (3, (vL l3))], [], R, M_4, 174) _
    refine s_X_write [(30, .aload_n 0, 0, 0)] (by decide +kernel) (z' := (31, [(5, (vI r_1)), (0, (vR 9 l0)), (1, (vI l1)), (2, (vI l2)), (3, (vL l3))], [(vR 9 l0)], R, M_4, 174)) (cs := []) (by rfl) trivial (Nat.le_refl _) ?_
    obtain ⟨r_6, M_7, e_8, h⟩ := xb2_ex h
    refine XR.callV 9 rfl (rest := []) m_X_done k_9_93 9 l0 (Or.inl ⟨by decide, rfl⟩) [] rfl rfl (c_X_done e_8) (by decide) (Nat.le_of_ble_eq_true rfl) (by decide +kernel) (Nat.le_refl _) (Nat.le_refl _) ?_
    show XR false 2 174 sc y_X_write (34, [(5, (vI r_1)), (0, (vR 9 l0)), (1, (vI l1)), (2, (vI l2)), (3, (vL l3))], [(vI r_6)], R, M_7, 174) _
    obtain ⟨c_9, h⟩ := xch_ex h
    obtain rfl := Option.some.inj h
    exact XR.retI .boolean rfl (xnar_z c_9) (by decide +kernel)
  · skip
    refine s_X_write [(10, .ifCond .eq 10, 0, (-1)), (13, .aload_n 0, 0, 0), (14, .iload 5, 0, 0)] (by decide +kernel) (z' := (16, [(5, (vI r_1)), (0, (vR 9 l0)), (1, (vI l1)), (2, (vI l2)), (3, (vL l3))], [(vI r_1), (vR 9 l0)], R, M, 174)) (cs := [¬ (r_1 = 0)]) (by rfl) ⟨c_3, trivial⟩ (Nat.le_refl _) ?_
    obtain ⟨r_10, M_11, e_12, h⟩ := xb2_ex h
    refine XR.callV 9 rfl (rest := []) m_X_deny k_9_86 9 l0 (Or.inl ⟨by decide, rfl⟩) [(vI r_1)] rfl rfl (c_X_deny e_12) (by decide) (Nat.le_of_ble_eq_true rfl) (by decide +kernel) (Nat.le_refl _) (Nat.le_refl _) ?_
    show XR false 2 174 sc y_X_write (19, [(5, (vI r_1)), (0, (vR 9 l0)), (1, (vI l1)), (2, (vI l2)), (3, (vL l3))], [(vI r_10)], R, M_11, 174) _
    obtain ⟨c_13, h⟩ := xch_ex h
    obtain rfl := Option.some.inj h
    exact XR.retI .boolean rfl (xnar_z c_13) (by decide +kernel)
set_option maxRecDepth 100000 in
set_option maxHeartbeats 4000000 in
theorem c_X_write {sc : List Int} {R : xR} {M : xM} {l0 : Nat} {l1 : Int} {l2 : Int} {l3 : Int} {out : Int × xM} (h : f_X_write R l0 l1 l2 l3 M = some out) : XC false 2 sc y_X_write [(vR 9 l0), (vI l1), (vI l2), (vL l3)] R M 174 174 ((some (vI out.1)), R, out.2) := XC.of (by decide) (Nat.le_of_ble_eq_true rfl) (Nat.le_refl _) (Nat.le_refl _) (o_X_write h)
