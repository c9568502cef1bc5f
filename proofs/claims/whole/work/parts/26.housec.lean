def f_X_off (R : xR) (l0 : Nat) (l1 : Int) (l2 : Int) (l3 : Int) (l4 : Int) (M : xM) : Option (Int × xM) :=
  xb1 (f_X_isCleaner R l0 l1 M) fun r_1 =>
  if r_1 = 0 then
    xb2 (f_X_deny l0 1 M) fun r_4 M_5 =>
    xch (r_4 = 0 ∨ r_4 = 1) <|
    some (r_4, M_5)
  else
    xb1 (f_X_isHour l2) fun r_8 =>
    if r_8 = 0 then
      xb2 (f_X_deny l0 1 M) fun r_11 M_12 =>
      xch (r_11 = 0 ∨ r_11 = 1) <|
      some (r_11, M_12)
    else
      xb1 (f_X_isHour l3) fun r_15 =>
      if r_15 = 0 then
        xb2 (f_X_deny l0 1 M) fun r_18 M_19 =>
        xch (r_18 = 0 ∨ r_18 = 1) <|
        some (r_18, M_19)
      else
        if l3 < l2 then
          xb2 (f_X_deny l0 1 M) fun r_23 M_24 =>
          xch (r_23 = 0 ∨ r_23 = 1) <|
          some (r_23, M_24)
        else
          xb1 (f_X_isKnownHour l4) fun r_27 =>
          if r_27 = 0 then
            xb2 (f_X_deny l0 1 M) fun r_30 M_31 =>
            xch (r_30 = 0 ∨ r_30 = 1) <|
            some (r_30, M_31)
          else
            xb1 (f_B_eventStatus (R l0 7) l4 M) fun r_34 =>
            if r_34 = 0 then
              xb1 (f_B_addEvent R (R l0 7) 2 l1 l2 l3 l4 M) fun M_37 =>
              xb2 (f_X_done l0 M_37) fun r_39 M_40 =>
              xch (r_39 = 0 ∨ r_39 = 1) <|
              some (r_39, M_40)
            else
              xb2 (f_X_deny l0 r_34 M) fun r_43 M_44 =>
              xch (r_43 = 0 ∨ r_43 = 1) <|
              some (r_43, M_44)
set_option maxRecDepth 100000 in
set_option maxHeartbeats 4000000 in
theorem s_X_off {d : Nat} {sc : List Int} {z z' : xS} {out : xO} (qs : List xI) {cs : List Prop} (hq : qs.all (xqb 9 false y_X_off.2.2.1 y_X_off.2.1) = true) (h : xN false sc qs z = some (z', cs)) (hc : xAll cs) (hE : z'.2.2.2.2.2 ≤ 174) (k : XR false d 174 sc y_X_off z' out) : XR false d 174 sc y_X_off z out := XR.seg 9 false rfl (fun q => by cases q) qs hq h hc hE k
set_option maxRecDepth 100000 in
set_option maxHeartbeats 4000000 in
theorem o_X_off {sc : List Int} {R : xR} {M : xM} {l0 : Nat} {l1 : Int} {l2 : Int} {l3 : Int} {l4 : Int} {out : Int × xM} (h : f_X_off R l0 l1 l2 l3 l4 M = some out) : XR false 2 174 sc y_X_off (0, [(0, (vR 9 l0)), (1, (vI l1)), (2, (vI l2)), (3, (vI l3)), (4, (vI l4))], [], R, M, 174) ((some (vI out.1)), R, out.2) := by
  unfold f_X_off at h
  refine s_X_off [(0, .aload_n 0, 0, 0), (1, .iload_n 1, 0, 0)] (by decide +kernel) (z' := (2, [(0, (vR 9 l0)), (1, (vI l1)), (2, (vI l2)), (3, (vI l3)), (4, (vI l4))], [(vI l1), (vR 9 l0)], R, M, 174)) (cs := []) (by rfl) trivial (Nat.le_refl _) ?_
  obtain ⟨r_1, e_2, h⟩ := xb1_ex h
  refine XR.callV 9 rfl (rest := []) m_X_isCleaner k_9_171 9 l0 (Or.inl ⟨by decide, rfl⟩) [(vI l1)] rfl rfl (c_X_isCleaner e_2) (by decide) (Nat.le_of_ble_eq_true rfl) (by decide +kernel) (Nat.le_refl _) (Nat.le_refl _) ?_
  show XR false 2 174 sc y_X_off (5, [(0, (vR 9 l0)), (1, (vI l1)), (2, (vI l2)), (3, (vI l3)), (4, (vI l4))], [(vI r_1)], R, M, 174) _
  rcases xif_ex h with ⟨c_3, h⟩ | ⟨c_3, h⟩
  · skip
    refine s_X_off [(5, .ifCond .eq 30, 0, 35), (35, .aload_n 0, 0, 0), (36, .iconst 1, 0, 1)] (by decide +kernel) (z' := (37, [(0, (vR 9 l0)), (1, (vI l1)), (2, (vI l2)), (3, (vI l3)), (4, (vI l4))], [(vI 1), (vR 9 l0)], R, M, 174)) (cs := [r_1 = 0]) (by rfl) ⟨c_3, trivial⟩ (Nat.le_refl _) ?_
    obtain ⟨r_4, M_5, e_6, h⟩ := xb2_ex h
    refine XR.callV 9 rfl (rest := []) m_X_deny k_9_86 9 l0 (Or.inl ⟨by decide, rfl⟩) [(vI 1)] rfl rfl (c_X_deny e_6) (by decide) (Nat.le_of_ble_eq_true rfl) (by decide +kernel) (Nat.le_refl _) (Nat.le_refl _) ?_
    show XR false 2 174 sc y_X_off (40, [(0, (vR 9 l0)), (1, (vI l1)), (2, (vI l2)), (3, (vI l3)), (4, (vI l4))], [(vI r_4)], R, M_5, 174) _
    obtain ⟨c_7, h⟩ := xch_ex h
    obtain rfl := Option.some.inj h
    exact XR.retI .boolean rfl (xnar_z c_7) (by decide +kernel)
  · skip
    refine s_X_off [(5, .ifCond .eq 30, 0, (-1)), (8, .iload_n 2, 0, 0)] (by decide +kernel) (z' := (9, [(0, (vR 9 l0)), (1, (vI l1)), (2, (vI l2)), (3, (vI l3)), (4, (vI l4))], [(vI l2)], R, M, 174)) (cs := [¬ (r_1 = 0)]) (by rfl) ⟨c_3, trivial⟩ (Nat.le_refl _) ?_
    obtain ⟨r_8, e_9, h⟩ := xb1_ex h
    refine XR.callS 9 rfl (rest := []) m_X_isHour k_9_190 [(vI l2)] rfl rfl (c_X_isHour e_9) (by decide) (Nat.le_of_ble_eq_true rfl) (by decide +kernel) (Nat.le_refl _) (Nat.le_refl _) ?_
    show XR false 2 174 sc y_X_off (12, [(0, (vR 9 l0)), (1, (vI l1)), (2, (vI l2)), (3, (vI l3)), (4, (vI l4))], [(vI r_8)], R, M, 174) _
    rcases xif_ex h with ⟨c_10, h⟩ | ⟨c_10, h⟩
    · skip
      refine s_X_off [(12, .ifCond .eq 23, 0, 35), (35, .aload_n 0, 0, 0), (36, .iconst 1, 0, 1)] (by decide +kernel) (z' := (37, [(0, (vR 9 l0)), (1, (vI l1)), (2, (vI l2)), (3, (vI l3)), (4, (vI l4))], [(vI 1), (vR 9 l0)], R, M, 174)) (cs := [r_8 = 0]) (by rfl) ⟨c_10, trivial⟩ (Nat.le_refl _) ?_
      obtain ⟨r_11, M_12, e_13, h⟩ := xb2_ex h
      refine XR.callV 9 rfl (rest := []) m_X_deny k_9_86 9 l0 (Or.inl ⟨by decide, rfl⟩) [(vI 1)] rfl rfl (c_X_deny e_13) (by decide) (Nat.le_of_ble_eq_true rfl) (by decide +kernel) (Nat.le_refl _) (Nat.le_refl _) ?_
      show XR false 2 174 sc y_X_off (40, [(0, (vR 9 l0)), (1, (vI l1)), (2, (vI l2)), (3, (vI l3)), (4, (vI l4))], [(vI r_11)], R, M_12, 174) _
      obtain ⟨c_14, h⟩ := xch_ex h
      obtain rfl := Option.some.inj h
      exact XR.retI .boolean rfl (xnar_z c_14) (by decide +kernel)
    · skip
      refine s_X_off [(12, .ifCond .eq 23, 0, (-1)), (15, .iload_n 3, 0, 0)] (by decide +kernel) (z' := (16, [(0, (vR 9 l0)), (1, (vI l1)), (2, (vI l2)), (3, (vI l3)), (4, (vI l4))], [(vI l3)], R, M, 174)) (cs := [¬ (r_8 = 0)]) (by rfl) ⟨c_10, trivial⟩ (Nat.le_refl _) ?_
      obtain ⟨r_15, e_16, h⟩ := xb1_ex h
      refine XR.callS 9 rfl (rest := []) m_X_isHour k_9_190 [(vI l3)] rfl rfl (c_X_isHour e_16) (by decide) (Nat.le_of_ble_eq_true rfl) (by decide +kernel) (Nat.le_refl _) (Nat.le_refl _) ?_
      show XR false 2 174 sc y_X_off (19, [(0, (vR 9 l0)), (1, (vI l1)), (2, (vI l2)), (3, (vI l3)), (4, (vI l4))], [(vI r_15)], R, M, 174) _
      rcases xif_ex h with ⟨c_17, h⟩ | ⟨c_17, h⟩
      · skip
        refine s_X_off [(19, .ifCond .eq 16, 0, 35), (35, .aload_n 0, 0, 0), (36, .iconst 1, 0, 1)] (by decide +kernel) (z' := (37, [(0, (vR 9 l0)), (1, (vI l1)), (2, (vI l2)), (3, (vI l3)), (4, (vI l4))], [(vI 1), (vR 9 l0)], R, M, 174)) (cs := [r_15 = 0]) (by rfl) ⟨c_17, trivial⟩ (Nat.le_refl _) ?_
        obtain ⟨r_18, M_19, e_20, h⟩ := xb2_ex h
        refine XR.callV 9 rfl (rest := []) m_X_deny k_9_86 9 l0 (Or.inl ⟨by decide, rfl⟩) [(vI 1)] rfl rfl (c_X_deny e_20) (by decide) (Nat.le_of_ble_eq_true rfl) (by decide +kernel) (Nat.le_refl _) (Nat.le_refl _) ?_
        show XR false 2 174 sc y_X_off (40, [(0, (vR 9 l0)), (1, (vI l1)), (2, (vI l2)), (3, (vI l3)), (4, (vI l4))], [(vI r_18)], R, M_19, 174) _
        obtain ⟨c_21, h⟩ := xch_ex h
        obtain rfl := Option.some.inj h
        exact XR.retI .boolean rfl (xnar_z c_21) (by decide +kernel)
      · skip
        refine s_X_off [(19, .ifCond .eq 16, 0, (-1)), (22, .iload_n 3, 0, 0), (23, .iload_n 2, 0, 0)] (by decide +kernel) (z' := (24, [(0, (vR 9 l0)), (1, (vI l1)), (2, (vI l2)), (3, (vI l3)), (4, (vI l4))], [(vI l2), (vI l3)], R, M, 174)) (cs := [¬ (r_15 = 0)]) (by rfl) ⟨c_17, trivial⟩ (Nat.le_refl _) ?_
        rcases xif_ex h with ⟨c_22, h⟩ | ⟨c_22, h⟩
        · skip
          refine s_X_off [(24, .if_icmp .lt 11, 0, 35), (35, .aload_n 0, 0, 0), (36, .iconst 1, 0, 1)] (by decide +kernel) (z' := (37, [(0, (vR 9 l0)), (1, (vI l1)), (2, (vI l2)), (3, (vI l3)), (4, (vI l4))], [(vI 1), (vR 9 l0)], R, M, 174)) (cs := [l3 < l2]) (by rfl) ⟨c_22, trivial⟩ (Nat.le_refl _) ?_
          obtain ⟨r_23, M_24, e_25, h⟩ := xb2_ex h
          refine XR.callV 9 rfl (rest := []) m_X_deny k_9_86 9 l0 (Or.inl ⟨by decide, rfl⟩) [(vI 1)] rfl rfl (c_X_deny e_25) (by decide) (Nat.le_of_ble_eq_true rfl) (by decide +kernel) (Nat.le_refl _) (Nat.le_refl _) ?_
          show XR false 2 174 sc y_X_off (40, [(0, (vR 9 l0)), (1, (vI l1)), (2, (vI l2)), (3, (vI l3)), (4, (vI l4))], [(vI r_23)], R, M_24, 174) _
          obtain ⟨c_26, h⟩ := xch_ex h
          obtain rfl := Option.some.inj h
          exact XR.retI .boolean rfl (xnar_z c_26) (by decide +kernel)
        · skip
          refine s_X_off [(24, .if_icmp .lt 11, 0, (-1)), (27, .iload 4, 0, 0)] (by decide +kernel) (z' := (29, [(0, (vR 9 l0)), (1, (vI l1)), (2, (vI l2)), (3, (vI l3)), (4, (vI l4))], [(vI l4)], R, M, 174)) (cs := [¬ (l3 < l2)]) (by rfl) ⟨c_22, trivial⟩ (Nat.le_refl _) ?_
          obtain ⟨r_27, e_28, h⟩ := xb1_ex h
          refine XR.callS 9 rfl (rest := []) m_X_isKnownHour k_9_196 [(vI l4)] rfl rfl (c_X_isKnownHour e_28) (by decide) (Nat.le_of_ble_eq_true rfl) (by decide +kernel) (Nat.le_refl _) (Nat.le_refl _) ?_
          show XR false 2 174 sc y_X_off (32, [(0, (vR 9 l0)), (1, (vI l1)), (2, (vI l2)), (3, (vI l3)), (4, (vI l4))], [(vI r_27)], R, M, 174) _
          rcases xif_ex h with ⟨c_29, h⟩ | ⟨c_29, h⟩
          · skip
            refine s_X_off [(32, .ifCond .ne 9, 0, (-1)), (35, .aload_n 0, 0, 0), (36, .iconst 1, 0, 1)] (by decide +kernel) (z' := (37, [(0, (vR 9 l0)), (1, (vI l1)), (2, (vI l2)), (3, (vI l3)), (4, (vI l4))], [(vI 1), (vR 9 l0)], R, M, 174)) (cs := [¬ (r_27 ≠ 0)]) (by rfl) ⟨fun q => q c_29, trivial⟩ (Nat.le_refl _) ?_
            obtain ⟨r_30, M_31, e_32, h⟩ := xb2_ex h
            refine XR.callV 9 rfl (rest := []) m_X_deny k_9_86 9 l0 (Or.inl ⟨by decide, rfl⟩) [(vI 1)] rfl rfl (c_X_deny e_32) (by decide) (Nat.le_of_ble_eq_true rfl) (by decide +kernel) (Nat.le_refl _) (Nat.le_refl _) ?_
            show XR false 2 174 sc y_X_off (40, [(0, (vR 9 l0)), (1, (vI l1)), (2, (vI l2)), (3, (vI l3)), (4, (vI l4))], [(vI r_30)], R, M_31, 174) _
            obtain ⟨c_33, h⟩ := xch_ex h
            obtain rfl := Option.some.inj h
            exact XR.retI .boolean rfl (xnar_z c_33) (by decide +kernel)
          · skip
            refine s_X_off [(32, .ifCond .ne 9, 0, 41), (41, .aload_n 0, 0, 0), (42, .getfield 50, 9, 7), (45, .iload 4, 0, 0)] (by decide +kernel) (z' := (47, [(0, (vR 9 l0)), (1, (vI l1)), (2, (vI l2)), (3, (vI l3)), (4, (vI l4))], [(vI l4), (vR 0 (R l0 7))], R, M, 174)) (cs := [r_27 ≠ 0]) (by rfl) ⟨c_29, trivial⟩ (Nat.le_refl _) ?_
            obtain ⟨r_34, e_35, h⟩ := xb1_ex h
            refine XR.callV 9 rfl (rest := []) m_B_eventStatus k_9_213 0 (R l0 7) (Or.inl ⟨by decide, rfl⟩) [(vI l4)] rfl rfl (c_B_eventStatus e_35) (by decide) (Nat.le_of_ble_eq_true rfl) (by decide +kernel) (Nat.le_refl _) (Nat.le_refl _) ?_
            show XR false 2 174 sc y_X_off (50, [(0, (vR 9 l0)), (1, (vI l1)), (2, (vI l2)), (3, (vI l3)), (4, (vI l4))], [(vI r_34)], R, M, 174) _
            refine s_X_off [(50, .istore 5, 0, 0), (52, .iload 5, 0, 0)] (by decide +kernel) (z' := (54, [(5, (vI r_34)), (0, (vR 9 l0)), (1, (vI l1)), (2, (vI l2)), (3, (vI l3)), (4, (vI l4))], [(vI r_34)], R, M, 174)) (cs := []) (by rfl) trivial (Nat.le_refl _) ?_
            rcases xif_ex h with ⟨c_36, h⟩ | ⟨c_36, h⟩
            · skip
              refine s_X_off [(54, .ifCond .eq 10, 0, 64), (64, .aload_n 0, 0, 0), (65, .getfield 50, 9, 7), (68, .iconst 2, 0, 2), (69, .iload_n 1, 0, 0), (70, .iload_n 2, 0, 0), (71, .iload_n 3, 0, 0), (72, .iload 4, 0, 0)] (by decide +kernel) (z' := (74, [(5, (vI r_34)), (0, (vR 9 l0)), (1, (vI l1)), (2, (vI l2)), (3, (vI l3)), (4, (vI l4))], [(vI l4), (vI l3), (vI l2), (vI l1), (vI 2), (vR 0 (R l0 7))], R, M, 174)) (cs := [r_34 = 0]) (by rfl) ⟨c_36, trivial⟩ (Nat.le_refl _) ?_
              obtain ⟨M_37, e_38, h⟩ := xb1_ex h
              refine XR.callV 9 rfl (rest := []) m_B_addEvent k_9_219 0 (R l0 7) (Or.inl ⟨by decide, rfl⟩) [(vI 2), (vI l1), (vI l2), (vI l3), (vI l4)] rfl rfl (c_B_addEvent e_38) (by decide) (Nat.le_of_ble_eq_true rfl) (by decide +kernel) (Nat.le_refl _) (Nat.le_refl _) ?_
              show XR false 2 174 sc y_X_off (77, [(5, (vI r_34)), (0, (vR 9 l0)), (1, (vI l1)), (2, (vI l2)), (3, (vI l3)), (4, (vI l4))], [], R, M_37, 174) _
              refine s_X_off [(77, .aload_n 0, 0, 0)] (by decide +kernel) (z' := (78, [(5, (vI r_34)), (0, (vR 9 l0)), (1, (vI l1)), (2, (vI l2)), (3, (vI l3)), (4, (vI l4))], [(vR 9 l0)], R, M_37, 174)) (cs := []) (by rfl) trivial (Nat.le_refl _) ?_
              obtain ⟨r_39, M_40, e_41, h⟩ := xb2_ex h
              refine XR.callV 9 rfl (rest := []) m_X_done k_9_93 9 l0 (Or.inl ⟨by decide, rfl⟩) [] rfl rfl (c_X_done e_41) (by decide) (Nat.le_of_ble_eq_true rfl) (by decide +kernel) (Nat.le_refl _) (Nat.le_refl _) ?_
              show XR false 2 174 sc y_X_off (81, [(5, (vI r_34)), (0, (vR 9 l0)), (1, (vI l1)), (2, (vI l2)), (3, (vI l3)), (4, (vI l4))], [(vI r_39)], R, M_40, 174) _
              obtain ⟨c_42, h⟩ := xch_ex h
              obtain rfl := Option.some.inj h
              exact XR.retI .boolean rfl (xnar_z c_42) (by decide +kernel)
            · skip
              refine s_X_off [(54, .ifCond .eq 10, 0, (-1)), (57, .aload_n 0, 0, 0), (58, .iload 5, 0, 0)] (by decide +kernel) (z' := (60, [(5, (vI r_34)), (0, (vR 9 l0)), (1, (vI l1)), (2, (vI l2)), (3, (vI l3)), (4, (vI l4))], [(vI r_34), (vR 9 l0)], R, M, 174)) (cs := [¬ (r_34 = 0)]) (by rfl) ⟨c_36, trivial⟩ (Nat.le_refl _) ?_
              obtain ⟨r_43, M_44, e_45, h⟩ := xb2_ex h
              refine XR.callV 9 rfl (rest := []) m_X_deny k_9_86 9 l0 (Or.inl ⟨by decide, rfl⟩) [(vI r_34)] rfl rfl (c_X_deny e_45) (by decide) (Nat.le_of_ble_eq_true rfl) (by decide +kernel) (Nat.le_refl _) (Nat.le_refl _) ?_
              show XR false 2 174 sc y_X_off (63, [(5, (vI r_34)), (0, (vR 9 l0)), (1, (vI l1)), (2, (vI l2)), (3, (vI l3)), (4, (vI l4))], [(vI r_43)], R, M_44, 174) _
              obtain ⟨c_46, h⟩ := xch_ex h
              obtain rfl := Option.some.inj h
              exact XR.retI .boolean rfl (xnar_z c_46) (by decide +kernel)
set_option maxRecDepth 100000 in
set_option maxHeartbeats 4000000 in
theorem c_X_off {sc : List Int} {R : xR} {M : xM} {l0 : Nat} {l1 : Int} {l2 : Int} {l3 : Int} {l4 : Int} {out : Int × xM} (h : f_X_off R l0 l1 l2 l3 l4 M = some out) : XC false 2 sc y_X_off [(vR 9 l0), (vI l1), (vI l2), (vI l3), (vI l4)] R M 174 174 ((some (vI out.1)), R, out.2) := XC.of (by decide) (Nat.le_of_ble_eq_true rfl) (Nat.le_refl _) (Nat.le_refl _) (o_X_off h)
def f_X_placeStatus (R : xR) (l0 : Nat) (l1 : Int) (l2 : Int) (M : xM) : Option Int :=
  xb1 (f_X_isTray l1) fun r_1 =>
  if r_1 = 0 then
    some (1)
  else
    xb1 (f_Y_isMissing R (R l0 2) l1 M) fun r_4 =>
    if r_4 = 0 then
      xb1 (f_Y_hasPlace R (R l0 2) l1 l2 M) fun r_7 =>
      if r_7 = 0 then
        some (3)
      else
        some (0)
    else
      some (2)
set_option maxRecDepth 100000 in
set_option maxHeartbeats 4000000 in
theorem s_X_placeStatus {d : Nat} {sc : List Int} {z z' : xS} {out : xO} (qs : List xI) {cs : List Prop} (hq : qs.all (xqb 9 false y_X_placeStatus.2.2.1 y_X_placeStatus.2.1) = true) (h : xN false sc qs z = some (z', cs)) (hc : xAll cs) (hE : z'.2.2.2.2.2 ≤ 174) (k : XR false d 174 sc y_X_placeStatus z' out) : XR false d 174 sc y_X_placeStatus z out := XR.seg 9 false rfl (fun q => by cases q) qs hq h hc hE k
set_option maxRecDepth 100000 in
set_option maxHeartbeats 4000000 in
theorem o_X_placeStatus {sc : List Int} {R : xR} {M : xM} {l0 : Nat} {l1 : Int} {l2 : Int} {out : Int} (h : f_X_placeStatus R l0 l1 l2 M = some out) : XR false 1 174 sc y_X_placeStatus (0, [(0, (vR 9 l0)), (1, (vI l1)), (2, (vI l2))], [], R, M, 174) ((some (vI out)), R, M) := by
  unfold f_X_placeStatus at h
  refine s_X_placeStatus [(0, .iload_n 1, 0, 0)] (by decide +kernel) (z' := (1, [(0, (vR 9 l0)), (1, (vI l1)), (2, (vI l2))], [(vI l1)], R, M, 174)) (cs := []) (by rfl) trivial (Nat.le_refl _) ?_
  obtain ⟨r_1, e_2, h⟩ := xb1_ex h
  refine XR.callS 9 rfl (rest := []) m_X_isTray k_9_82 [(vI l1)] rfl rfl (c_X_isTray e_2) (by decide) (Nat.le_of_ble_eq_true rfl) (by decide +kernel) (Nat.le_refl _) (Nat.le_refl _) ?_
  show XR false 1 174 sc y_X_placeStatus (4, [(0, (vR 9 l0)), (1, (vI l1)), (2, (vI l2))], [(vI r_1)], R, M, 174) _
  rcases xif_ex h with ⟨c_3, h⟩ | ⟨c_3, h⟩
  · skip
    refine s_X_placeStatus [(4, .ifCond .ne 5, 0, (-1)), (7, .iconst 1, 0, 1)] (by decide +kernel) (z' := (8, [(0, (vR 9 l0)), (1, (vI l1)), (2, (vI l2))], [(vI 1)], R, M, 174)) (cs := [¬ (r_1 ≠ 0)]) (by rfl) ⟨fun q => q c_3, trivial⟩ (Nat.le_refl _) ?_
    obtain rfl := Option.some.inj h
    exact XR.retI .int rfl rfl (by decide +kernel)
  · skip
    refine s_X_placeStatus [(4, .ifCond .ne 5, 0, 9), (9, .aload_n 0, 0, 0), (10, .getfield 23, 9, 2), (13, .iload_n 1, 0, 0)] (by decide +kernel) (z' := (14, [(0, (vR 9 l0)), (1, (vI l1)), (2, (vI l2))], [(vI l1), (vR 8 (R l0 2))], R, M, 174)) (cs := [r_1 ≠ 0]) (by rfl) ⟨c_3, trivial⟩ (Nat.le_refl _) ?_
    obtain ⟨r_4, e_5, h⟩ := xb1_ex h
    refine XR.callV 9 rfl (rest := []) m_Y_isMissing k_9_113 8 (R l0 2) (Or.inl ⟨by decide, rfl⟩) [(vI l1)] rfl rfl (c_Y_isMissing e_5) (by decide) (Nat.le_of_ble_eq_true rfl) (by decide +kernel) (Nat.le_refl _) (Nat.le_refl _) ?_
    show XR false 1 174 sc y_X_placeStatus (17, [(0, (vR 9 l0)), (1, (vI l1)), (2, (vI l2))], [(vI r_4)], R, M, 174) _
    rcases xif_ex h with ⟨c_6, h⟩ | ⟨c_6, h⟩
    · skip
      refine s_X_placeStatus [(17, .ifCond .eq 5, 0, 22), (22, .aload_n 0, 0, 0), (23, .getfield 23, 9, 2), (26, .iload_n 1, 0, 0), (27, .iload_n 2, 0, 0)] (by decide +kernel) (z' := (28, [(0, (vR 9 l0)), (1, (vI l1)), (2, (vI l2))], [(vI l2), (vI l1), (vR 8 (R l0 2))], R, M, 174)) (cs := [r_4 = 0]) (by rfl) ⟨c_6, trivial⟩ (Nat.le_refl _) ?_
      obtain ⟨r_7, e_8, h⟩ := xb1_ex h
      refine XR.callV 9 rfl (rest := []) m_Y_hasPlace k_9_367 8 (R l0 2) (Or.inl ⟨by decide, rfl⟩) [(vI l1), (vI l2)] rfl rfl (c_Y_hasPlace e_8) (by decide) (Nat.le_of_ble_eq_true rfl) (by decide +kernel) (Nat.le_refl _) (Nat.le_refl _) ?_
      show XR false 1 174 sc y_X_placeStatus (31, [(0, (vR 9 l0)), (1, (vI l1)), (2, (vI l2))], [(vI r_7)], R, M, 174) _
      rcases xif_ex h with ⟨c_9, h⟩ | ⟨c_9, h⟩
      · skip
        refine s_X_placeStatus [(31, .ifCond .eq 7, 0, 38), (38, .iconst 3, 0, 3)] (by decide +kernel) (z' := (39, [(0, (vR 9 l0)), (1, (vI l1)), (2, (vI l2))], [(vI 3)], R, M, 174)) (cs := [r_7 = 0]) (by rfl) ⟨c_9, trivial⟩ (Nat.le_refl _) ?_
        obtain rfl := Option.some.inj h
        exact XR.retI .int rfl rfl (by decide +kernel)
      · skip
        refine s_X_placeStatus [(31, .ifCond .eq 7, 0, (-1)), (34, .iconst 0, 0, 0), (35, .goto 4, 0, 39)] (by decide +kernel) (z' := (39, [(0, (vR 9 l0)), (1, (vI l1)), (2, (vI l2))], [(vI 0)], R, M, 174)) (cs := [¬ (r_7 = 0)]) (by rfl) ⟨c_9, trivial⟩ (Nat.le_refl _) ?_
        obtain rfl := Option.some.inj h
        exact XR.retI .int rfl rfl (by decide +kernel)
    · skip
      refine s_X_placeStatus [(17, .ifCond .eq 5, 0, (-1)), (20, .iconst 2, 0, 2)] (by decide +kernel) (z' := (21, [(0, (vR 9 l0)), (1, (vI l1)), (2, (vI l2))], [(vI 2)], R, M, 174)) (cs := [¬ (r_4 = 0)]) (by rfl) ⟨c_6, trivial⟩ (Nat.le_refl _) ?_
      obtain rfl := Option.some.inj h
      exact XR.retI .int rfl rfl (by decide +kernel)
set_option maxRecDepth 100000 in
set_option maxHeartbeats 4000000 in
theorem c_X_placeStatus {sc : List Int} {R : xR} {M : xM} {l0 : Nat} {l1 : Int} {l2 : Int} {out : Int} (h : f_X_placeStatus R l0 l1 l2 M = some out) : XC false 1 sc y_X_placeStatus [(vR 9 l0), (vI l1), (vI l2)] R M 174 174 ((some (vI out)), R, M) := XC.of (by decide) (Nat.le_of_ble_eq_true rfl) (Nat.le_refl _) (Nat.le_refl _) (o_X_placeStatus h)
def f_X_plant (R : xR) (l0 : Nat) (l1 : Int) (M : xM) : Option (Int × xR × xM) :=
  if l1 < 0 then
    xb2 (f_X_refuse l0 1 M) fun r_2 M_3 =>
    some (r_2, R, M_3)
  else
    if M (R l0 1) 1 < l1 then
      xb2 (f_X_refuse l0 1 M) fun r_6 M_7 =>
      some (r_6, R, M_7)
    else
      xb2 (f_A_open R (R l0 1) l1 2 3 M) fun R_9 M_10 =>
      xb2 (f_N_readFrom R_9 (R_9 l0 4) (R_9 l0 1) M_10) fun r_12 M_13 =>
      if r_12 = 0 then
        xb2 (f_X_refuse l0 9 M_13) fun r_16 M_17 =>
        some (r_16, R_9, M_17)
      else
        xl (xu R_9 l0 3 (R_9 l0 4)) fun R_19 =>
        xl (xu R_19 l0 4 (R_9 l0 3)) fun R_20 =>
        xb1 (f_B_forget (R_20 l0 7) M_13) fun M_21 =>
        xb2 (f_X_answer l0 (M_21 (R_20 l0 3) 0) M_21) fun r_23 M_24 =>
        some (r_23, R_20, M_24)
set_option maxRecDepth 100000 in
set_option maxHeartbeats 4000000 in
theorem s_X_plant {d : Nat} {sc : List Int} {z z' : xS} {out : xO} (qs : List xI) {cs : List Prop} (hq : qs.all (xqb 9 false y_X_plant.2.2.1 y_X_plant.2.1) = true) (h : xN false sc qs z = some (z', cs)) (hc : xAll cs) (hE : z'.2.2.2.2.2 ≤ 174) (k : XR false d 174 sc y_X_plant z' out) : XR false d 174 sc y_X_plant z out := XR.seg 9 false rfl (fun q => by cases q) qs hq h hc hE k
set_option maxRecDepth 100000 in
set_option maxHeartbeats 4000000 in
theorem o_X_plant {sc : List Int} {R : xR} {M : xM} {l0 : Nat} {l1 : Int} {out : Int × xR × xM} (h : f_X_plant R l0 l1 M = some out) : XR false 10 174 sc y_X_plant (0, [(0, (vR 9 l0)), (1, (vI l1))], [], R, M, 174) ((some (vI out.1)), out.2.1, out.2.2) := by
  unfold f_X_plant at h
  refine s_X_plant [(0, .iload_n 1, 0, 0)] (by decide +kernel) (z' := (1, [(0, (vR 9 l0)), (1, (vI l1))], [(vI l1)], R, M, 174)) (cs := []) (by rfl) trivial (Nat.le_refl _) ?_
  rcases xif_ex h with ⟨c_1, h⟩ | ⟨c_1, h⟩
  · skip
    refine s_X_plant [(1, .ifCond .lt 14, 0, 15), (15, .aload_n 0, 0, 0), (16, .iconst 1, 0, 1)] (by decide +kernel) (z' := (17, [(0, (vR 9 l0)), (1, (vI l1))], [(vI 1), (vR 9 l0)], R, M, 174)) (cs := [l1 < 0]) (by rfl) ⟨c_1, trivial⟩ (Nat.le_refl _) ?_
    obtain ⟨r_2, M_3, e_4, h⟩ := xb2_ex h
    refine XR.callV 9 rfl (rest := []) m_X_refuse k_9_105 9 l0 (Or.inl ⟨by decide, rfl⟩) [(vI 1)] rfl rfl (c_X_refuse e_4) (by decide) (Nat.le_of_ble_eq_true rfl) (by decide +kernel) (Nat.le_refl _) (Nat.le_refl _) ?_
    show XR false 10 174 sc y_X_plant (20, [(0, (vR 9 l0)), (1, (vI l1))], [(vI r_2)], R, M_3, 174) _
    obtain rfl := Option.some.inj h
    exact XR.retI .int rfl rfl (by decide +kernel)
  · skip
    refine s_X_plant [(1, .ifCond .lt 14, 0, (-1)), (4, .iload_n 1, 0, 0), (5, .aload_n 0, 0, 0), (6, .getfield 16, 9, 1), (9, .getfield 135, 7, 1)] (by decide +kernel) (z' := (12, [(0, (vR 9 l0)), (1, (vI l1))], [(vI (M (R l0 1) 1)), (vI l1)], R, M, 174)) (cs := [¬ (l1 < 0)]) (by rfl) ⟨c_1, trivial⟩ (Nat.le_refl _) ?_
    rcases xif_ex h with ⟨c_5, h⟩ | ⟨c_5, h⟩
    · skip
      refine s_X_plant [(12, .if_icmp .le 9, 0, (-1)), (15, .aload_n 0, 0, 0), (16, .iconst 1, 0, 1)] (by decide +kernel) (z' := (17, [(0, (vR 9 l0)), (1, (vI l1))], [(vI 1), (vR 9 l0)], R, M, 174)) (cs := [¬ (l1 ≤ M (R l0 1) 1)]) (by rfl) ⟨Int.not_le.mpr c_5, trivial⟩ (Nat.le_refl _) ?_
      obtain ⟨r_6, M_7, e_8, h⟩ := xb2_ex h
      refine XR.callV 9 rfl (rest := []) m_X_refuse k_9_105 9 l0 (Or.inl ⟨by decide, rfl⟩) [(vI 1)] rfl rfl (c_X_refuse e_8) (by decide) (Nat.le_of_ble_eq_true rfl) (by decide +kernel) (Nat.le_refl _) (Nat.le_refl _) ?_
      show XR false 10 174 sc y_X_plant (20, [(0, (vR 9 l0)), (1, (vI l1))], [(vI r_6)], R, M_7, 174) _
      obtain rfl := Option.some.inj h
      exact XR.retI .int rfl rfl (by decide +kernel)
    · skip
      refine s_X_plant [(12, .if_icmp .le 9, 0, 21), (21, .aload_n 0, 0, 0), (22, .getfield 16, 9, 1), (25, .iload_n 1, 0, 0), (26, .ldc 138, 2, 0), (28, .ldc 140, 3, 0)] (by decide +kernel) (z' := (30, [(0, (vR 9 l0)), (1, (vI l1))], [(vR 99 3), (vR 99 2), (vI l1), (vR 7 (R l0 1))], R, M, 174)) (cs := [l1 ≤ M (R l0 1) 1]) (by rfl) ⟨Int.not_lt.mp c_5, trivial⟩ (Nat.le_refl _) ?_
      obtain ⟨R_9, M_10, e_11, h⟩ := xb2_ex h
      refine XR.callV 9 rfl (rest := []) m_A_open k_9_142 7 (R l0 1) (Or.inl ⟨by decide, rfl⟩) [(vI l1), (vR 99 2), (vR 99 3)] rfl rfl (c_A_open e_11) (by decide) (Nat.le_of_ble_eq_true rfl) (by decide +kernel) (Nat.le_refl _) (Nat.le_refl _) ?_
      show XR false 10 174 sc y_X_plant (33, [(0, (vR 9 l0)), (1, (vI l1))], [], R_9, M_10, 174) _
      refine s_X_plant [(33, .aload_n 0, 0, 0), (34, .getfield 34, 9, 4), (37, .aload_n 0, 0, 0), (38, .getfield 16, 9, 1)] (by decide +kernel) (z' := (41, [(0, (vR 9 l0)), (1, (vI l1))], [(vR 7 (R_9 l0 1)), (vR 6 (R_9 l0 4))], R_9, M_10, 174)) (cs := []) (by rfl) trivial (Nat.le_refl _) ?_
      obtain ⟨r_12, M_13, e_14, h⟩ := xb2_ex h
      refine XR.callV 9 rfl (rest := []) m_N_readFrom k_9_146 6 (R_9 l0 4) (Or.inl ⟨by decide, rfl⟩) [(vR 7 (R_9 l0 1))] rfl rfl (c_N_readFrom e_14) (by decide) (Nat.le_of_ble_eq_true rfl) (by decide +kernel) (Nat.le_refl _) (Nat.le_refl _) ?_
      show XR false 10 174 sc y_X_plant (44, [(0, (vR 9 l0)), (1, (vI l1))], [(vI r_12)], R_9, M_13, 174) _
      rcases xif_ex h with ⟨c_15, h⟩ | ⟨c_15, h⟩
      · skip
        refine s_X_plant [(44, .ifCond .ne 10, 0, (-1)), (47, .aload_n 0, 0, 0), (48, .bipush 9, 0, 9)] (by decide +kernel) (z' := (50, [(0, (vR 9 l0)), (1, (vI l1))], [(vI 9), (vR 9 l0)], R_9, M_13, 174)) (cs := [¬ (r_12 ≠ 0)]) (by rfl) ⟨fun q => q c_15, trivial⟩ (Nat.le_refl _) ?_
        obtain ⟨r_16, M_17, e_18, h⟩ := xb2_ex h
        refine XR.callV 9 rfl (rest := []) m_X_refuse k_9_105 9 l0 (Or.inl ⟨by decide, rfl⟩) [(vI 9)] rfl rfl (c_X_refuse e_18) (by decide) (Nat.le_of_ble_eq_true rfl) (by decide +kernel) (Nat.le_refl _) (Nat.le_refl _) ?_
        show XR false 10 174 sc y_X_plant (53, [(0, (vR 9 l0)), (1, (vI l1))], [(vI r_16)], R_9, M_17, 174) _
        obtain rfl := Option.some.inj h
        exact XR.retI .int rfl rfl (by decide +kernel)
      · skip
        obtain ⟨R_19, hR_19, h⟩ := xl_ex h
        obtain ⟨R_20, hR_20, h⟩ := xl_ex h
        refine s_X_plant [(44, .ifCond .ne 10, 0, 54), (54, .aload_n 0, 0, 0), (55, .getfield 30, 9, 3), (58, .astore_n 2, 0, 0), (59, .aload_n 0, 0, 0), (60, .aload_n 0, 0, 0), (61, .getfield 34, 9, 4), (64, .putfield 30, 9, 3), (67, .aload_n 0, 0, 0), (68, .aload_n 2, 0, 0), (69, .putfield 34, 9, 4), (72, .aload_n 0, 0, 0), (73, .getfield 50, 9, 7)] (by decide +kernel) (z' := (76, [(2, (vR 6 (R_9 l0 3))), (0, (vR 9 l0)), (1, (vI l1))], [(vR 0 (R_20 l0 7))], R_20, M_13, 174)) (cs := [r_12 ≠ 0, 6 ≠ 96]) (by subst hR_19; subst hR_20; rfl) ⟨c_15, by decide, trivial⟩ (Nat.le_refl _) ?_
        obtain ⟨M_21, e_22, h⟩ := xb1_ex h
        refine XR.callV 9 rfl (rest := []) m_B_forget k_9_150 0 (R_20 l0 7) (Or.inl ⟨by decide, rfl⟩) [] rfl rfl (c_B_forget e_22) (by decide) (Nat.le_of_ble_eq_true rfl) (by decide +kernel) (Nat.le_refl _) (Nat.le_refl _) ?_
        show XR false 10 174 sc y_X_plant (79, [(2, (vR 6 (R_9 l0 3))), (0, (vR 9 l0)), (1, (vI l1))], [], R_20, M_21, 174) _
        refine s_X_plant [(79, .aload_n 0, 0, 0), (80, .aload_n 0, 0, 0), (81, .getfield 30, 9, 3), (84, .getfield 153, 6, 0)] (by decide +kernel) (z' := (87, [(2, (vR 6 (R_9 l0 3))), (0, (vR 9 l0)), (1, (vI l1))], [(vI (M_21 (R_20 l0 3) 0)), (vR 9 l0)], R_20, M_21, 174)) (cs := []) (by rfl) trivial (Nat.le_refl _) ?_
        obtain ⟨r_23, M_24, e_25, h⟩ := xb2_ex h
        refine XR.callV 9 rfl (rest := []) m_X_answer k_9_156 9 l0 (Or.inl ⟨by decide, rfl⟩) [(vI (M_21 (R_20 l0 3) 0))] rfl rfl (c_X_answer e_25) (by decide) (Nat.le_of_ble_eq_true rfl) (by decide +kernel) (Nat.le_refl _) (Nat.le_refl _) ?_
        show XR false 10 174 sc y_X_plant (90, [(2, (vR 6 (R_9 l0 3))), (0, (vR 9 l0)), (1, (vI l1))], [(vI r_23)], R_20, M_24, 174) _
        obtain rfl := Option.some.inj h
        exact XR.retI .int rfl rfl (by decide +kernel)
set_option maxRecDepth 100000 in
set_option maxHeartbeats 4000000 in
theorem c_X_plant {sc : List Int} {R : xR} {M : xM} {l0 : Nat} {l1 : Int} {out : Int × xR × xM} (h : f_X_plant R l0 l1 M = some out) : XC false 10 sc y_X_plant [(vR 9 l0), (vI l1)] R M 174 174 ((some (vI out.1)), out.2.1, out.2.2) := XC.of (by decide) (Nat.le_of_ble_eq_true rfl) (Nat.le_refl _) (Nat.le_refl _) (o_X_plant h)
def f_X_pour (R : xR) (l0 : Nat) (l1 : Int) (l2 : Int) (l3 : Int) (l4 : Int) (l5 : Int) (M : xM) : Option (Int × xM) :=
  xb1 (f_X_isTray l1) fun r_1 =>
  if r_1 = 0 then
    xb2 (f_X_deny l0 1 M) fun r_4 M_5 =>
    xch (r_4 = 0 ∨ r_4 = 1) <|
    some (r_4, M_5)
  else
    xb1 (f_X_isTray l3) fun r_8 =>
    if r_8 = 0 then
      xb2 (f_X_deny l0 1 M) fun r_11 M_12 =>
      xch (r_11 = 0 ∨ r_11 = 1) <|
      some (r_11, M_12)
    else
      if l2 < 0 then
        xb2 (f_X_deny l0 1 M) fun r_16 M_17 =>
        xch (r_16 = 0 ∨ r_16 = 1) <|
        some (r_16, M_17)
      else
        if l4 < 0 then
          xb2 (f_X_deny l0 1 M) fun r_21 M_22 =>
          xch (r_21 = 0 ∨ r_21 = 1) <|
          some (r_21, M_22)
        else
          if l5 < 0 then
            xb2 (f_X_deny l0 1 M) fun r_26 M_27 =>
            xch (r_26 = 0 ∨ r_26 = 1) <|
            some (r_26, M_27)
          else
            xb1 (f_Y_isMissing R (R l0 2) l1 M) fun r_30 =>
            if r_30 = 0 then
              xb1 (f_Y_isMissing R (R l0 2) l3 M) fun r_33 =>
              if r_33 = 0 then
                xb1 (f_Y_areAlike R (R l0 2) l1 l3 M) fun r_36 =>
                if r_36 = 0 then
                  xb2 (f_X_deny l0 8 M) fun r_39 M_40 =>
                  xch (r_39 = 0 ∨ r_39 = 1) <|
                  some (r_39, M_40)
                else
                  xb1 (f_Y_hasRun R (R l0 2) l1 l2 l5 M) fun r_43 =>
                  if r_43 = 0 then
                    xb2 (f_X_deny l0 3 M) fun r_46 M_47 =>
                    xch (r_46 = 0 ∨ r_46 = 1) <|
                    some (r_46, M_47)
                  else
                    xb1 (f_Y_hasRun R (R l0 2) l3 l4 l5 M) fun r_50 =>
                    if r_50 = 0 then
                      xb2 (f_X_deny l0 3 M) fun r_53 M_54 =>
                      xch (r_53 = 0 ∨ r_53 = 1) <|
                      some (r_53, M_54)
                    else
                      xb1 (f_Y_move R (R l0 2) l1 l2 l3 l4 l5 M) fun M_57 =>
                      xb2 (f_X_done l0 M_57) fun r_59 M_60 =>
                      xch (r_59 = 0 ∨ r_59 = 1) <|
                      some (r_59, M_60)
              else
                xb2 (f_X_deny l0 2 M) fun r_63 M_64 =>
                xch (r_63 = 0 ∨ r_63 = 1) <|
                some (r_63, M_64)
            else
              xb2 (f_X_deny l0 2 M) fun r_67 M_68 =>
              xch (r_67 = 0 ∨ r_67 = 1) <|
              some (r_67, M_68)
set_option maxRecDepth 100000 in
set_option maxHeartbeats 4000000 in
theorem s_X_pour {d : Nat} {sc : List Int} {z z' : xS} {out : xO} (qs : List xI) {cs : List Prop} (hq : qs.all (xqb 9 false y_X_pour.2.2.1 y_X_pour.2.1) = true) (h : xN false sc qs z = some (z', cs)) (hc : xAll cs) (hE : z'.2.2.2.2.2 ≤ 174) (k : XR false d 174 sc y_X_pour z' out) : XR false d 174 sc y_X_pour z out := XR.seg 9 false rfl (fun q => by cases q) qs hq h hc hE k
set_option maxRecDepth 100000 in
set_option maxHeartbeats 4000000 in
theorem o_X_pour {sc : List Int} {R : xR} {M : xM} {l0 : Nat} {l1 : Int} {l2 : Int} {l3 : Int} {l4 : Int} {l5 : Int} {out : Int × xM} (h : f_X_pour R l0 l1 l2 l3 l4 l5 M = some out) : XR false 2 174 sc y_X_pour (0, [(0, (vR 9 l0)), (1, (vI l1)), (2, (vI l2)), (3, (vI l3)), (4, (vI l4)), (5, (vI l5))], [], R, M, 174) ((some (vI out.1)), R, out.2) := by
  unfold f_X_pour at h
  refine s_X_pour [(0, .iload_n 1, 0, 0)] (by decide +kernel) (z' := (1, [(0, (vR 9 l0)), (1, (vI l1)), (2, (vI l2)), (3, (vI l3)), (4, (vI l4)), (5, (vI l5))], [(vI l1)], R, M, 174)) (cs := []) (by rfl) trivial (Nat.le_refl _) ?_
  obtain ⟨r_1, e_2, h⟩ := xb1_ex h
  refine XR.callS 9 rfl (rest := []) m_X_isTray k_9_82 [(vI l1)] rfl rfl (c_X_isTray e_2) (by decide) (Nat.le_of_ble_eq_true rfl) (by decide +kernel) (Nat.le_refl _) (Nat.le_refl _) ?_
  show XR false 2 174 sc y_X_pour (4, [(0, (vR 9 l0)), (1, (vI l1)), (2, (vI l2)), (3, (vI l3)), (4, (vI l4)), (5, (vI l5))], [(vI r_1)], R, M, 174) _
  rcases xif_ex h with ⟨c_3, h⟩ | ⟨c_3, h⟩
  · skip
    refine s_X_pour [(4, .ifCond .eq 24, 0, 28), (28, .aload_n 0, 0, 0), (29, .iconst 1, 0, 1)] (by decide +kernel) (z' := (30, [(0, (vR 9 l0)), (1, (vI l1)), (2, (vI l2)), (3, (vI l3)), (4, (vI l4)), (5, (vI l5))], [(vI 1), (vR 9 l0)], R, M, 174)) (cs := [r_1 = 0]) (by rfl) ⟨c_3, trivial⟩ (Nat.le_refl _) ?_
    obtain ⟨r_4, M_5, e_6, h⟩ := xb2_ex h
    refine XR.callV 9 rfl (rest := []) m_X_deny k_9_86 9 l0 (Or.inl ⟨by decide, rfl⟩) [(vI 1)] rfl rfl (c_X_deny e_6) (by decide) (Nat.le_of_ble_eq_true rfl) (by decide +kernel) (Nat.le_refl _) (Nat.le_refl _) ?_
    show XR false 2 174 sc y_X_pour (33, [(0, (vR 9 l0)), (1, (vI l1)), (2, (vI l2)), (3, (vI l3)), (4, (vI l4)), (5, (vI l5))], [(vI r_4)], R, M_5, 174) _
    obtain ⟨c_7, h⟩ := xch_ex h
    obtain rfl := Option.some.inj h
    exact XR.retI .boolean rfl (xnar_z c_7) (by decide +kernel)
  · skip
    refine s_X_pour [(4, .ifCond .eq 24, 0, (-1)), (7, .iload_n 3, 0, 0)] (by decide +kernel) (z' := (8, [(0, (vR 9 l0)), (1, (vI l1)), (2, (vI l2)), (3, (vI l3)), (4, (vI l4)), (5, (vI l5))], [(vI l3)], R, M, 174)) (cs := [¬ (r_1 = 0)]) (by rfl) ⟨c_3, trivial⟩ (Nat.le_refl _) ?_
    obtain ⟨r_8, e_9, h⟩ := xb1_ex h
    refine XR.callS 9 rfl (rest := []) m_X_isTray k_9_82 [(vI l3)] rfl rfl (c_X_isTray e_9) (by decide) (Nat.le_of_ble_eq_true rfl) (by decide +kernel) (Nat.le_refl _) (Nat.le_refl _) ?_
    show XR false 2 174 sc y_X_pour (11, [(0, (vR 9 l0)), (1, (vI l1)), (2, (vI l2)), (3, (vI l3)), (4, (vI l4)), (5, (vI l5))], [(vI r_8)], R, M, 174) _
    rcases xif_ex h with ⟨c_10, h⟩ | ⟨c_10, h⟩
    · skip
      refine s_X_pour [(11, .ifCond .eq 17, 0, 28), (28, .aload_n 0, 0, 0), (29, .iconst 1, 0, 1)] (by decide +kernel) (z' := (30, [(0, (vR 9 l0)), (1, (vI l1)), (2, (vI l2)), (3, (vI l3)), (4, (vI l4)), (5, (vI l5))], [(vI 1), (vR 9 l0)], R, M, 174)) (cs := [r_8 = 0]) (by rfl) ⟨c_10, trivial⟩ (Nat.le_refl _) ?_
      obtain ⟨r_11, M_12, e_13, h⟩ := xb2_ex h
      refine XR.callV 9 rfl (rest := []) m_X_deny k_9_86 9 l0 (Or.inl ⟨by decide, rfl⟩) [(vI 1)] rfl rfl (c_X_deny e_13) (by decide) (Nat.le_of_ble_eq_true rfl) (by decide +kernel) (Nat.le_refl _) (Nat.le_refl _) ?_
      show XR false 2 174 sc y_X_pour (33, [(0, (vR 9 l0)), (1, (vI l1)), (2, (vI l2)), (3, (vI l3)), (4, (vI l4)), (5, (vI l5))], [(vI r_11)], R, M_12, 174) _
      obtain ⟨c_14, h⟩ := xch_ex h
      obtain rfl := Option.some.inj h
      exact XR.retI .boolean rfl (xnar_z c_14) (by decide +kernel)
    · skip
      refine s_X_pour [(11, .ifCond .eq 17, 0, (-1)), (14, .iload_n 2, 0, 0)] (by decide +kernel) (z' := (15, [(0, (vR 9 l0)), (1, (vI l1)), (2, (vI l2)), (3, (vI l3)), (4, (vI l4)), (5, (vI l5))], [(vI l2)], R, M, 174)) (cs := [¬ (r_8 = 0)]) (by rfl) ⟨c_10, trivial⟩ (Nat.le_refl _) ?_
      rcases xif_ex h with ⟨c_15, h⟩ | ⟨c_15, h⟩
      · skip
        refine s_X_pour [(15, .ifCond .lt 13, 0, 28), (28, .aload_n 0, 0, 0), (29, .iconst 1, 0, 1)] (by decide +kernel) (z' := (30, [(0, (vR 9 l0)), (1, (vI l1)), (2, (vI l2)), (3, (vI l3)), (4, (vI l4)), (5, (vI l5))], [(vI 1), (vR 9 l0)], R, M, 174)) (cs := [l2 < 0]) (by rfl) ⟨c_15, trivial⟩ (Nat.le_refl _) ?_
        obtain ⟨r_16, M_17, e_18, h⟩ := xb2_ex h
        refine XR.callV 9 rfl (rest := []) m_X_deny k_9_86 9 l0 (Or.inl ⟨by decide, rfl⟩) [(vI 1)] rfl rfl (c_X_deny e_18) (by decide) (Nat.le_of_ble_eq_true rfl) (by decide +kernel) (Nat.le_refl _) (Nat.le_refl _) ?_
        show XR false 2 174 sc y_X_pour (33, [(0, (vR 9 l0)), (1, (vI l1)), (2, (vI l2)), (3, (vI l3)), (4, (vI l4)), (5, (vI l5))], [(vI r_16)], R, M_17, 174) _
        obtain ⟨c_19, h⟩ := xch_ex h
        obtain rfl := Option.some.inj h
        exact XR.retI .boolean rfl (xnar_z c_19) (by decide +kernel)
      · skip
        refine s_X_pour [(15, .ifCond .lt 13, 0, (-1)), (18, .iload 4, 0, 0)] (by decide +kernel) (z' := (20, [(0, (vR 9 l0)), (1, (vI l1)), (2, (vI l2)), (3, (vI l3)), (4, (vI l4)), (5, (vI l5))], [(vI l4)], R, M, 174)) (cs := [¬ (l2 < 0)]) (by rfl) ⟨c_15, trivial⟩ (Nat.le_refl _) ?_
        rcases xif_ex h with ⟨c_20, h⟩ | ⟨c_20, h⟩
        · skip
          refine s_X_pour [(20, .ifCond .lt 8, 0, 28), (28, .aload_n 0, 0, 0), (29, .iconst 1, 0, 1)] (by decide +kernel) (z' := (30, [(0, (vR 9 l0)), (1, (vI l1)), (2, (vI l2)), (3, (vI l3)), (4, (vI l4)), (5, (vI l5))], [(vI 1), (vR 9 l0)], R, M, 174)) (cs := [l4 < 0]) (by rfl) ⟨c_20, trivial⟩ (Nat.le_refl _) ?_
          obtain ⟨r_21, M_22, e_23, h⟩ := xb2_ex h
          refine XR.callV 9 rfl (rest := []) m_X_deny k_9_86 9 l0 (Or.inl ⟨by decide, rfl⟩) [(vI 1)] rfl rfl (c_X_deny e_23) (by decide) (Nat.le_of_ble_eq_true rfl) (by decide +kernel) (Nat.le_refl _) (Nat.le_refl _) ?_
          show XR false 2 174 sc y_X_pour (33, [(0, (vR 9 l0)), (1, (vI l1)), (2, (vI l2)), (3, (vI l3)), (4, (vI l4)), (5, (vI l5))], [(vI r_21)], R, M_22, 174) _
          obtain ⟨c_24, h⟩ := xch_ex h
          obtain rfl := Option.some.inj h
          exact XR.retI .boolean rfl (xnar_z c_24) (by decide +kernel)
        · skip
          refine s_X_pour [(20, .ifCond .lt 8, 0, (-1)), (23, .iload 5, 0, 0)] (by decide +kernel) (z' := (25, [(0, (vR 9 l0)), (1, (vI l1)), (2, (vI l2)), (3, (vI l3)), (4, (vI l4)), (5, (vI l5))], [(vI l5)], R, M, 174)) (cs := [¬ (l4 < 0)]) (by rfl) ⟨c_20, trivial⟩ (Nat.le_refl _) ?_
          rcases xif_ex h with ⟨c_25, h⟩ | ⟨c_25, h⟩
          · skip
            refine s_X_pour [(25, .ifCond .ge 9, 0, (-1)), (28, .aload_n 0, 0, 0), (29, .iconst 1, 0, 1)] (by decide +kernel) (z' := (30, [(0, (vR 9 l0)), (1, (vI l1)), (2, (vI l2)), (3, (vI l3)), (4, (vI l4)), (5, (vI l5))], [(vI 1), (vR 9 l0)], R, M, 174)) (cs := [¬ (0 ≤ l5)]) (by rfl) ⟨Int.not_le.mpr c_25, trivial⟩ (Nat.le_refl _) ?_
            obtain ⟨r_26, M_27, e_28, h⟩ := xb2_ex h
            refine XR.callV 9 rfl (rest := []) m_X_deny k_9_86 9 l0 (Or.inl ⟨by decide, rfl⟩) [(vI 1)] rfl rfl (c_X_deny e_28) (by decide) (Nat.le_of_ble_eq_true rfl) (by decide +kernel) (Nat.le_refl _) (Nat.le_refl _) ?_
            show XR false 2 174 sc y_X_pour (33, [(0, (vR 9 l0)), (1, (vI l1)), (2, (vI l2)), (3, (vI l3)), (4, (vI l4)), (5, (vI l5))], [(vI r_26)], R, M_27, 174) _
            obtain ⟨c_29, h⟩ := xch_ex h
            obtain rfl := Option.some.inj h
            exact XR.retI .boolean rfl (xnar_z c_29) (by decide +kernel)
          · skip
            refine s_X_pour [(25, .ifCond .ge 9, 0, 34), (34, .aload_n 0, 0, 0), (35, .getfield 23, 9, 2), (38, .iload_n 1, 0, 0)] (by decide +kernel) (z' := (39, [(0, (vR 9 l0)), (1, (vI l1)), (2, (vI l2)), (3, (vI l3)), (4, (vI l4)), (5, (vI l5))], [(vI l1), (vR 8 (R l0 2))], R, M, 174)) (cs := [0 ≤ l5]) (by rfl) ⟨Int.not_lt.mp c_25, trivial⟩ (Nat.le_refl _) ?_
            obtain ⟨r_30, e_31, h⟩ := xb1_ex h
            refine XR.callV 9 rfl (rest := []) m_Y_isMissing k_9_113 8 (R l0 2) (Or.inl ⟨by decide, rfl⟩) [(vI l1)] rfl rfl (c_Y_isMissing e_31) (by decide) (Nat.le_of_ble_eq_true rfl) (by decide +kernel) (Nat.le_refl _) (Nat.le_refl _) ?_
            show XR false 2 174 sc y_X_pour (42, [(0, (vR 9 l0)), (1, (vI l1)), (2, (vI l2)), (3, (vI l3)), (4, (vI l4)), (5, (vI l5))], [(vI r_30)], R, M, 174) _
            rcases xif_ex h with ⟨c_32, h⟩ | ⟨c_32, h⟩
            · skip
              refine s_X_pour [(42, .ifCond .ne 14, 0, (-1)), (45, .aload_n 0, 0, 0), (46, .getfield 23, 9, 2), (49, .iload_n 3, 0, 0)] (by decide +kernel) (z' := (50, [(0, (vR 9 l0)), (1, (vI l1)), (2, (vI l2)), (3, (vI l3)), (4, (vI l4)), (5, (vI l5))], [(vI l3), (vR 8 (R l0 2))], R, M, 174)) (cs := [¬ (r_30 ≠ 0)]) (by rfl) ⟨fun q => q c_32, trivial⟩ (Nat.le_refl _) ?_
              obtain ⟨r_33, e_34, h⟩ := xb1_ex h
              refine XR.callV 9 rfl (rest := []) m_Y_isMissing k_9_113 8 (R l0 2) (Or.inl ⟨by decide, rfl⟩) [(vI l3)] rfl rfl (c_Y_isMissing e_34) (by decide) (Nat.le_of_ble_eq_true rfl) (by decide +kernel) (Nat.le_refl _) (Nat.le_refl _) ?_
              show XR false 2 174 sc y_X_pour (53, [(0, (vR 9 l0)), (1, (vI l1)), (2, (vI l2)), (3, (vI l3)), (4, (vI l4)), (5, (vI l5))], [(vI r_33)], R, M, 174) _
              rcases xif_ex h with ⟨c_35, h⟩ | ⟨c_35, h⟩
              · skip
                refine s_X_pour [(53, .ifCond .eq 9, 0, 62), (62, .aload_n 0, 0, 0), (63, .getfield 23, 9, 2), (66, .iload_n 1, 0, 0), (67, .iload_n 3, 0, 0)] (by decide +kernel) (z' := (68, [(0, (vR 9 l0)), (1, (vI l1)), (2, (vI l2)), (3, (vI l3)), (4, (vI l4)), (5, (vI l5))], [(vI l3), (vI l1), (vR 8 (R l0 2))], R, M, 174)) (cs := [r_33 = 0]) (by rfl) ⟨c_35, trivial⟩ (Nat.le_refl _) ?_
                obtain ⟨r_36, e_37, h⟩ := xb1_ex h
                refine XR.callV 9 rfl (rest := []) m_Y_areAlike k_9_116 8 (R l0 2) (Or.inl ⟨by decide, rfl⟩) [(vI l1), (vI l3)] rfl rfl (c_Y_areAlike e_37) (by decide) (Nat.le_of_ble_eq_true rfl) (by decide +kernel) (Nat.le_refl _) (Nat.le_refl _) ?_
                show XR false 2 174 sc y_X_pour (71, [(0, (vR 9 l0)), (1, (vI l1)), (2, (vI l2)), (3, (vI l3)), (4, (vI l4)), (5, (vI l5))], [(vI r_36)], R, M, 174) _
                rcases xif_ex h with ⟨c_38, h⟩ | ⟨c_38, h⟩
                · skip
                  refine s_X_pour [(71, .ifCond .ne 10, 0, (-1)), (74, .aload_n 0, 0, 0), (75, .bipush 8, 0, 8)] (by decide +kernel) (z' := (77, [(0, (vR 9 l0)), (1, (vI l1)), (2, (vI l2)), (3, (vI l3)), (4, (vI l4)), (5, (vI l5))], [(vI 8), (vR 9 l0)], R, M, 174)) (cs := [¬ (r_36 ≠ 0)]) (by rfl) ⟨fun q => q c_38, trivial⟩ (Nat.le_refl _) ?_
                  obtain ⟨r_39, M_40, e_41, h⟩ := xb2_ex h
                  refine XR.callV 9 rfl (rest := []) m_X_deny k_9_86 9 l0 (Or.inl ⟨by decide, rfl⟩) [(vI 8)] rfl rfl (c_X_deny e_41) (by decide) (Nat.le_of_ble_eq_true rfl) (by decide +kernel) (Nat.le_refl _) (Nat.le_refl _) ?_
                  show XR false 2 174 sc y_X_pour (80, [(0, (vR 9 l0)), (1, (vI l1)), (2, (vI l2)), (3, (vI l3)), (4, (vI l4)), (5, (vI l5))], [(vI r_39)], R, M_40, 174) _
                  obtain ⟨c_42, h⟩ := xch_ex h
                  obtain rfl := Option.some.inj h
                  exact XR.retI .boolean rfl (xnar_z c_42) (by decide +kernel)
                · skip
                  refine s_X_pour [(71, .ifCond .ne 10, 0, 81), (81, .aload_n 0, 0, 0), (82, .getfield 23, 9, 2), (85, .iload_n 1, 0, 0), (86, .iload_n 2, 0, 0), (87, .iload 5, 0, 0)] (by decide +kernel) (z' := (89, [(0, (vR 9 l0)), (1, (vI l1)), (2, (vI l2)), (3, (vI l3)), (4, (vI l4)), (5, (vI l5))], [(vI l5), (vI l2), (vI l1), (vR 8 (R l0 2))], R, M, 174)) (cs := [r_36 ≠ 0]) (by rfl) ⟨c_38, trivial⟩ (Nat.le_refl _) ?_
                  obtain ⟨r_43, e_44, h⟩ := xb1_ex h
                  refine XR.callV 9 rfl (rest := []) m_Y_hasRun k_9_120 8 (R l0 2) (Or.inl ⟨by decide, rfl⟩) [(vI l1), (vI l2), (vI l5)] rfl rfl (c_Y_hasRun e_44) (by decide) (Nat.le_of_ble_eq_true rfl) (by decide +kernel) (Nat.le_refl _) (Nat.le_refl _) ?_
                  show XR false 2 174 sc y_X_pour (92, [(0, (vR 9 l0)), (1, (vI l1)), (2, (vI l2)), (3, (vI l3)), (4, (vI l4)), (5, (vI l5))], [(vI r_43)], R, M, 174) _
                  rcases xif_ex h with ⟨c_45, h⟩ | ⟨c_45, h⟩
                  · skip
                    refine s_X_pour [(92, .ifCond .eq 18, 0, 110), (110, .aload_n 0, 0, 0), (111, .iconst 3, 0, 3)] (by decide +kernel) (z' := (112, [(0, (vR 9 l0)), (1, (vI l1)), (2, (vI l2)), (3, (vI l3)), (4, (vI l4)), (5, (vI l5))], [(vI 3), (vR 9 l0)], R, M, 174)) (cs := [r_43 = 0]) (by rfl) ⟨c_45, trivial⟩ (Nat.le_refl _) ?_
                    obtain ⟨r_46, M_47, e_48, h⟩ := xb2_ex h
                    refine XR.callV 9 rfl (rest := []) m_X_deny k_9_86 9 l0 (Or.inl ⟨by decide, rfl⟩) [(vI 3)] rfl rfl (c_X_deny e_48) (by decide) (Nat.le_of_ble_eq_true rfl) (by decide +kernel) (Nat.le_refl _) (Nat.le_refl _) ?_
                    show XR false 2 174 sc y_X_pour (115, [(0, (vR 9 l0)), (1, (vI l1)), (2, (vI l2)), (3, (vI l3)), (4, (vI l4)), (5, (vI l5))], [(vI r_46)], R, M_47, 174) _
                    obtain ⟨c_49, h⟩ := xch_ex h
                    obtain rfl := Option.some.inj h
                    exact XR.retI .boolean rfl (xnar_z c_49) (by decide +kernel)
                  · skip
                    refine s_X_pour [(92, .ifCond .eq 18, 0, (-1)), (95, .aload_n 0, 0, 0), (96, .getfield 23, 9, 2), (99, .iload_n 3, 0, 0), (100, .iload 4, 0, 0), (102, .iload 5, 0, 0)] (by decide +kernel) (z' := (104, [(0, (vR 9 l0)), (1, (vI l1)), (2, (vI l2)), (3, (vI l3)), (4, (vI l4)), (5, (vI l5))], [(vI l5), (vI l4), (vI l3), (vR 8 (R l0 2))], R, M, 174)) (cs := [¬ (r_43 = 0)]) (by rfl) ⟨c_45, trivial⟩ (Nat.le_refl _) ?_
                    obtain ⟨r_50, e_51, h⟩ := xb1_ex h
                    refine XR.callV 9 rfl (rest := []) m_Y_hasRun k_9_120 8 (R l0 2) (Or.inl ⟨by decide, rfl⟩) [(vI l3), (vI l4), (vI l5)] rfl rfl (c_Y_hasRun e_51) (by decide) (Nat.le_of_ble_eq_true rfl) (by decide +kernel) (Nat.le_refl _) (Nat.le_refl _) ?_
                    show XR false 2 174 sc y_X_pour (107, [(0, (vR 9 l0)), (1, (vI l1)), (2, (vI l2)), (3, (vI l3)), (4, (vI l4)), (5, (vI l5))], [(vI r_50)], R, M, 174) _
                    rcases xif_ex h with ⟨c_52, h⟩ | ⟨c_52, h⟩
                    · skip
                      refine s_X_pour [(107, .ifCond .ne 9, 0, (-1)), (110, .aload_n 0, 0, 0), (111, .iconst 3, 0, 3)] (by decide +kernel) (z' := (112, [(0, (vR 9 l0)), (1, (vI l1)), (2, (vI l2)), (3, (vI l3)), (4, (vI l4)), (5, (vI l5))], [(vI 3), (vR 9 l0)], R, M, 174)) (cs := [¬ (r_50 ≠ 0)]) (by rfl) ⟨fun q => q c_52, trivial⟩ (Nat.le_refl _) ?_
                      obtain ⟨r_53, M_54, e_55, h⟩ := xb2_ex h
                      refine XR.callV 9 rfl (rest := []) m_X_deny k_9_86 9 l0 (Or.inl ⟨by decide, rfl⟩) [(vI 3)] rfl rfl (c_X_deny e_55) (by decide) (Nat.le_of_ble_eq_true rfl) (by decide +kernel) (Nat.le_refl _) (Nat.le_refl _) ?_
                      show XR false 2 174 sc y_X_pour (115, [(0, (vR 9 l0)), (1, (vI l1)), (2, (vI l2)), (3, (vI l3)), (4, (vI l4)), (5, (vI l5))], [(vI r_53)], R, M_54, 174) _
                      obtain ⟨c_56, h⟩ := xch_ex h
                      obtain rfl := Option.some.inj h
                      exact XR.retI .boolean rfl (xnar_z c_56) (by decide +kernel)
                    · skip
                      refine s_X_pour [(107, .ifCond .ne 9, 0, 116), (116, .aload_n 0, 0, 0), (117, .getfield 23, 9, 2), (120, .iload_n 1, 0, 0), (121, .iload_n 2, 0, 0), (122, .iload_n 3, 0, 0), (123, .iload 4, 0, 0), (125, .iload 5, 0, 0)] (by decide +kernel) (z' := (127, [(0, (vR 9 l0)), (1, (vI l1)), (2, (vI l2)), (3, (vI l3)), (4, (vI l4)), (5, (vI l5))], [(vI l5), (vI l4), (vI l3), (vI l2), (vI l1), (vR 8 (R l0 2))], R, M, 174)) (cs := [r_50 ≠ 0]) (by rfl) ⟨c_52, trivial⟩ (Nat.le_refl _) ?_
                      obtain ⟨M_57, e_58, h⟩ := xb1_ex h
                      refine XR.callV 9 rfl (rest := []) m_Y_move k_9_124 8 (R l0 2) (Or.inl ⟨by decide, rfl⟩) [(vI l1), (vI l2), (vI l3), (vI l4), (vI l5)] rfl rfl (c_Y_move e_58) (by decide) (Nat.le_of_ble_eq_true rfl) (by decide +kernel) (Nat.le_refl _) (Nat.le_refl _) ?_
                      show XR false 2 174 sc y_X_pour (130, [(0, (vR 9 l0)), (1, (vI l1)), (2, (vI l2)), (3, (vI l3)), (4, (vI l4)), (5, (vI l5))], [], R, M_57, 174) _
                      refine s_X_pour [(130, .aload_n 0, 0, 0)] (by decide +kernel) (z' := (131, [(0, (vR 9 l0)), (1, (vI l1)), (2, (vI l2)), (3, (vI l3)), (4, (vI l4)), (5, (vI l5))], [(vR 9 l0)], R, M_57, 174)) (cs := []) (by rfl) trivial (Nat.le_refl _) ?_
                      obtain ⟨r_59, M_60, e_61, h⟩ := xb2_ex h
                      refine XR.callV 9 rfl (rest := []) m_X_done k_9_93 9 l0 (Or.inl ⟨by decide, rfl⟩) [] rfl rfl (c_X_done e_61) (by decide) (Nat.le_of_ble_eq_true rfl) (by decide +kernel) (Nat.le_refl _) (Nat.le_refl _) ?_
                      show XR false 2 174 sc y_X_pour (134, [(0, (vR 9 l0)), (1, (vI l1)), (2, (vI l2)), (3, (vI l3)), (4, (vI l4)), (5, (vI l5))], [(vI r_59)], R, M_60, 174) _
                      obtain ⟨c_62, h⟩ := xch_ex h
                      obtain rfl := Option.some.inj h
                      exact XR.retI .boolean rfl (xnar_z c_62) (by decide +kernel)
              · skip
                refine s_X_pour [(53, .ifCond .eq 9, 0, (-1)), (56, .aload_n 0, 0, 0), (57, .iconst 2, 0, 2)] (by decide +kernel) (z' := (58, [(0, (vR 9 l0)), (1, (vI l1)), (2, (vI l2)), (3, (vI l3)), (4, (vI l4)), (5, (vI l5))], [(vI 2), (vR 9 l0)], R, M, 174)) (cs := [¬ (r_33 = 0)]) (by rfl) ⟨c_35, trivial⟩ (Nat.le_refl _) ?_
                obtain ⟨r_63, M_64, e_65, h⟩ := xb2_ex h
                refine XR.callV 9 rfl (rest := []) m_X_deny k_9_86 9 l0 (Or.inl ⟨by decide, rfl⟩) [(vI 2)] rfl rfl (c_X_deny e_65) (by decide) (Nat.le_of_ble_eq_true rfl) (by decide +kernel) (Nat.le_refl _) (Nat.le_refl _) ?_
                show XR false 2 174 sc y_X_pour (61, [(0, (vR 9 l0)), (1, (vI l1)), (2, (vI l2)), (3, (vI l3)), (4, (vI l4)), (5, (vI l5))], [(vI r_63)], R, M_64, 174) _
                obtain ⟨c_66, h⟩ := xch_ex h
                obtain rfl := Option.some.inj h
                exact XR.retI .boolean rfl (xnar_z c_66) (by decide +kernel)
            · skip
              refine s_X_pour [(42, .ifCond .ne 14, 0, 56), (56, .aload_n 0, 0, 0), (57, .iconst 2, 0, 2)] (by decide +kernel) (z' := (58, [(0, (vR 9 l0)), (1, (vI l1)), (2, (vI l2)), (3, (vI l3)), (4, (vI l4)), (5, (vI l5))], [(vI 2), (vR 9 l0)], R, M, 174)) (cs := [r_30 ≠ 0]) (by rfl) ⟨c_32, trivial⟩ (Nat.le_refl _) ?_
              obtain ⟨r_67, M_68, e_69, h⟩ := xb2_ex h
              refine XR.callV 9 rfl (rest := []) m_X_deny k_9_86 9 l0 (Or.inl ⟨by decide, rfl⟩) [(vI 2)] rfl rfl (c_X_deny e_69) (by decide) (Nat.le_of_ble_eq_true rfl) (by decide +kernel) (Nat.le_refl _) (Nat.le_refl _) ?_
              show XR false 2 174 sc y_X_pour (61, [(0, (vR 9 l0)), (1, (vI l1)), (2, (vI l2)), (3, (vI l3)), (4, (vI l4)), (5, (vI l5))], [(vI r_67)], R, M_68, 174) _
              obtain ⟨c_70, h⟩ := xch_ex h
              obtain rfl := Option.some.inj h
              exact XR.retI .boolean rfl (xnar_z c_70) (by decide +kernel)
set_option maxRecDepth 100000 in
set_option maxHeartbeats 4000000 in
theorem c_X_pour {sc : List Int} {R : xR} {M : xM} {l0 : Nat} {l1 : Int} {l2 : Int} {l3 : Int} {l4 : Int} {l5 : Int} {out : Int × xM} (h : f_X_pour R l0 l1 l2 l3 l4 l5 M = some out) : XC false 2 sc y_X_pour [(vR 9 l0), (vI l1), (vI l2), (vI l3), (vI l4), (vI l5)] R M 174 174 ((some (vI out.1)), R, out.2) := XC.of (by decide) (Nat.le_of_ble_eq_true rfl) (Nat.le_refl _) (Nat.le_refl _) (o_X_pour h)
def f_X_read (R : xR) (l0 : Nat) (l1 : Int) (l2 : Int) (M : xM) : Option (Int × xM) :=
  xb1 (f_X_placeStatus R l0 l1 l2 M) fun r_1 =>
  if r_1 = 0 then
    xl (xu M l0 0 0) fun M_4 =>
    xb1 (f_Y_get R (R l0 2) l1 l2 M_4) fun r_5 =>
    some (r_5, M_4)
  else
    xb2 (f_X_refuse l0 r_1 M) fun r_7 M_8 =>
    some (r_7, M_8)
set_option maxRecDepth 100000 in
set_option maxHeartbeats 4000000 in
theorem s_X_read {d : Nat} {sc : List Int} {z z' : xS} {out : xO} (qs : List xI) {cs : List Prop} (hq : qs.all (xqb 9 false y_X_read.2.2.1 y_X_read.2.1) = true) (h : xN false sc qs z = some (z', cs)) (hc : xAll cs) (hE : z'.2.2.2.2.2 ≤ 174) (k : XR false d 174 sc y_X_read z' out) : XR false d 174 sc y_X_read z out := XR.seg 9 false rfl (fun q => by cases q) qs hq h hc hE k
set_option maxRecDepth 100000 in
set_option maxHeartbeats 4000000 in
theorem o_X_read {sc : List Int} {R : xR} {M : xM} {l0 : Nat} {l1 : Int} {l2 : Int} {out : Int × xM} (h : f_X_read R l0 l1 l2 M = some out) : XR false 2 174 sc y_X_read (0, [(0, (vR 9 l0)), (1, (vI l1)), (2, (vI l2))], [], R, M, 174) ((some (vL out.1)), R, out.2) := by
  unfold f_X_read at h
  refine s_X_read [(0, .aload_n 0, 0, 0), (1, .iload_n 1, 0, 0), (2, .iload_n 2, 0, 0)] (by decide +kernel) (z' := (3, [(0, (vR 9 l0)), (1, (vI l1)), (2, (vI l2))], [(vI l2), (vI l1), (vR 9 l0)], R, M, 174)) (cs := []) (by rfl) trivial (Nat.le_refl _) ?_
  obtain ⟨r_1, e_2, h⟩ := xb1_ex h
  refine XR.callV 9 rfl (rest := []) m_X_placeStatus k_9_97 9 l0 (Or.inl ⟨by decide, rfl⟩) [(vI l1), (vI l2)] rfl rfl (c_X_placeStatus e_2) (by decide) (Nat.le_of_ble_eq_true rfl) (by decide +kernel) (Nat.le_refl _) (Nat.le_refl _) ?_
  show XR false 2 174 sc y_X_read (6, [(0, (vR 9 l0)), (1, (vI l1)), (2, (vI l2))], [(vI r_1)], R, M, 174) _
  refine s_X_read [(6, .istore_n 3, 0, 0), (7, .iload_n 3, 0, 0)] (by decide +kernel) (z' := (8, [(3, (vI r_1)), (0, (vR 9 l0)), (1, (vI l1)), (2, (vI l2))], [(vI r_1)], R, M, 174)) (cs := []) (by rfl) trivial (Nat.le_refl _) ?_
  rcases xif_ex h with ⟨c_3, h⟩ | ⟨c_3, h⟩
  · skip
    obtain ⟨M_4, hM_4, h⟩ := xl_ex h
    refine s_X_read [(8, .ifCond .eq 10, 0, 18), (18, .aload_n 0, 0, 0), (19, .iconst 0, 0, 0), (20, .putfield 9, 9, 0), (23, .aload_n 0, 0, 0), (24, .getfield 23, 9, 2), (27, .iload_n 1, 0, 0), (28, .iload_n 2, 0, 0)] (by decide +kernel) (z' := (29, [(3, (vI r_1)), (0, (vR 9 l0)), (1, (vI l1)), (2, (vI l2))], [(vI l2), (vI l1), (vR 8 (R l0 2))], R, M_4, 174)) (cs := [r_1 = 0]) (by subst hM_4; rfl) ⟨c_3, trivial⟩ (Nat.le_refl _) ?_
    obtain ⟨r_5, e_6, h⟩ := xb1_ex h
    refine XR.callV 9 rfl (rest := []) m_Y_get k_9_109 8 (R l0 2) (Or.inl ⟨by decide, rfl⟩) [(vI l1), (vI l2)] rfl rfl (c_Y_get e_6) (by decide) (Nat.le_of_ble_eq_true rfl) (by decide +kernel) (Nat.le_refl _) (Nat.le_refl _) ?_
    show XR false 2 174 sc y_X_read (32, [(3, (vI r_1)), (0, (vR 9 l0)), (1, (vI l1)), (2, (vI l2))], [(vL r_5)], R, M_4, 174) _
    obtain rfl := Option.some.inj h
    exact XR.retL rfl (by decide +kernel)
  · skip
    refine s_X_read [(8, .ifCond .eq 10, 0, (-1)), (11, .aload_n 0, 0, 0), (12, .iload_n 3, 0, 0)] (by decide +kernel) (z' := (13, [(3, (vI r_1)), (0, (vR 9 l0)), (1, (vI l1)), (2, (vI l2))], [(vI r_1), (vR 9 l0)], R, M, 174)) (cs := [¬ (r_1 = 0)]) (by rfl) ⟨c_3, trivial⟩ (Nat.le_refl _) ?_
    obtain ⟨r_7, M_8, e_9, h⟩ := xb2_ex h
    refine XR.callV 9 rfl (rest := []) m_X_refuse k_9_105 9 l0 (Or.inl ⟨by decide, rfl⟩) [(vI r_1)] rfl rfl (c_X_refuse e_9) (by decide) (Nat.le_of_ble_eq_true rfl) (by decide +kernel) (Nat.le_refl _) (Nat.le_refl _) ?_
    show XR false 2 174 sc y_X_read (16, [(3, (vI r_1)), (0, (vR 9 l0)), (1, (vI l1)), (2, (vI l2))], [(vI r_7)], R, M_8, 174) _
    refine s_X_read [(16, .i2l, 0, 0)] (by decide +kernel) (z' := (17, [(3, (vI r_1)), (0, (vR 9 l0)), (1, (vI l1)), (2, (vI l2))], [(vL r_7)], R, M_8, 174)) (cs := []) (by rfl) trivial (Nat.le_refl _) ?_
    obtain rfl := Option.some.inj h
    exact XR.retL rfl (by decide +kernel)
set_option maxRecDepth 100000 in
set_option maxHeartbeats 4000000 in
theorem c_X_read {sc : List Int} {R : xR} {M : xM} {l0 : Nat} {l1 : Int} {l2 : Int} {out : Int × xM} (h : f_X_read R l0 l1 l2 M = some out) : XC false 2 sc y_X_read [(vR 9 l0), (vI l1), (vI l2)] R M 174 174 ((some (vL out.1)), R, out.2) := XC.of (by decide) (Nat.le_of_ble_eq_true rfl) (Nat.le_refl _) (Nat.le_refl _) (o_X_read h)
def f_X_row (R : xR) (l0 : Nat) (l1 : Int) (l2 : Int) (l3 : Int) (l4 : Int) (l5 : Int) (M : xM) : Option (Int × xM) :=
  xb1 (f_X_isWorks R l0 l1 M) fun r_1 =>
  if r_1 = 0 then
    xb2 (f_X_deny l0 1 M) fun r_4 M_5 =>
    xch (r_4 = 0 ∨ r_4 = 1) <|
    some (r_4, M_5)
  else
    xb1 (f_X_isHour l2) fun r_8 =>
    if r_8 = 0 then
      xb2 (f_X_deny l0 1 M) fun r_11 M_12 =>
      xch (r_11 = 0 ∨ r_11 = 1) <|
      some (r_11, M_12)
    else
      xb1 (f_X_isSize l3) fun r_15 =>
      if r_15 = 0 then
        xb2 (f_X_deny l0 1 M) fun r_18 M_19 =>
        xch (r_18 = 0 ∨ r_18 = 1) <|
        some (r_18, M_19)
      else
        if l4 < 0 then
          xb2 (f_X_deny l0 1 M) fun r_23 M_24 =>
          xch (r_23 = 0 ∨ r_23 = 1) <|
          some (r_23, M_24)
        else
          if 9999 < l4 then
            xb2 (f_X_deny l0 1 M) fun r_28 M_29 =>
            xch (r_28 = 0 ∨ r_28 = 1) <|
            some (r_28, M_29)
          else
            xb1 (f_X_isKnownHour l5) fun r_32 =>
            if r_32 = 0 then
              xb2 (f_X_deny l0 1 M) fun r_35 M_36 =>
              xch (r_35 = 0 ∨ r_35 = 1) <|
              some (r_35, M_36)
            else
              xb1 (f_B_rowStatus (R l0 7) l5 M) fun r_39 =>
              if r_39 = 0 then
                xb1 (f_B_cell l1 l2 l3) fun r_42 =>
                xb1 (f_B_addRow R (R l0 7) r_42 l4 l5 M) fun M_44 =>
                xb2 (f_X_done l0 M_44) fun r_46 M_47 =>
                xch (r_46 = 0 ∨ r_46 = 1) <|
                some (r_46, M_47)
              else
                xb2 (f_X_deny l0 r_39 M) fun r_50 M_51 =>
                xch (r_50 = 0 ∨ r_50 = 1) <|
                some (r_50, M_51)
set_option maxRecDepth 100000 in
set_option maxHeartbeats 4000000 in
theorem s_X_row {d : Nat} {sc : List Int} {z z' : xS} {out : xO} (qs : List xI) {cs : List Prop} (hq : qs.all (xqb 9 false y_X_row.2.2.1 y_X_row.2.1) = true) (h : xN false sc qs z = some (z', cs)) (hc : xAll cs) (hE : z'.2.2.2.2.2 ≤ 174) (k : XR false d 174 sc y_X_row z' out) : XR false d 174 sc y_X_row z out := XR.seg 9 false rfl (fun q => by cases q) qs hq h hc hE k
set_option maxRecDepth 100000 in
set_option maxHeartbeats 4000000 in
theorem o_X_row {sc : List Int} {R : xR} {M : xM} {l0 : Nat} {l1 : Int} {l2 : Int} {l3 : Int} {l4 : Int} {l5 : Int} {out : Int × xM} (h : f_X_row R l0 l1 l2 l3 l4 l5 M = some out) : XR false 2 174 sc y_X_row (0, [(0, (vR 9 l0)), (1, (vI l1)), (2, (vI l2)), (3, (vI l3)), (4, (vI l4)), (5, (vI l5))], [], R, M, 174) ((some (vI out.1)), R, out.2) := by
  unfold f_X_row at h
  refine s_X_row [(0, .aload_n 0, 0, 0), (1, .iload_n 1, 0, 0)] (by decide +kernel) (z' := (2, [(0, (vR 9 l0)), (1, (vI l1)), (2, (vI l2)), (3, (vI l3)), (4, (vI l4)), (5, (vI l5))], [(vI l1), (vR 9 l0)], R, M, 174)) (cs := []) (by rfl) trivial (Nat.le_refl _) ?_
  obtain ⟨r_1, e_2, h⟩ := xb1_ex h
  refine XR.callV 9 rfl (rest := []) m_X_isWorks k_9_184 9 l0 (Or.inl ⟨by decide, rfl⟩) [(vI l1)] rfl rfl (c_X_isWorks e_2) (by decide) (Nat.le_of_ble_eq_true rfl) (by decide +kernel) (Nat.le_refl _) (Nat.le_refl _) ?_
  show XR false 2 174 sc y_X_row (5, [(0, (vR 9 l0)), (1, (vI l1)), (2, (vI l2)), (3, (vI l3)), (4, (vI l4)), (5, (vI l5))], [(vI r_1)], R, M, 174) _
  rcases xif_ex h with ⟨c_3, h⟩ | ⟨c_3, h⟩
  · skip
    refine s_X_row [(5, .ifCond .eq 38, 0, 43), (43, .aload_n 0, 0, 0), (44, .iconst 1, 0, 1)] (by decide +kernel) (z' := (45, [(0, (vR 9 l0)), (1, (vI l1)), (2, (vI l2)), (3, (vI l3)), (4, (vI l4)), (5, (vI l5))], [(vI 1), (vR 9 l0)], R, M, 174)) (cs := [r_1 = 0]) (by rfl) ⟨c_3, trivial⟩ (Nat.le_refl _) ?_
    obtain ⟨r_4, M_5, e_6, h⟩ := xb2_ex h
    refine XR.callV 9 rfl (rest := []) m_X_deny k_9_86 9 l0 (Or.inl ⟨by decide, rfl⟩) [(vI 1)] rfl rfl (c_X_deny e_6) (by decide) (Nat.le_of_ble_eq_true rfl) (by decide +kernel) (Nat.le_refl _) (Nat.le_refl _) ?_
    show XR false 2 174 sc y_X_row (48, [(0, (vR 9 l0)), (1, (vI l1)), (2, (vI l2)), (3, (vI l3)), (4, (vI l4)), (5, (vI l5))], [(vI r_4)], R, M_5, 174) _
    obtain ⟨c_7, h⟩ := xch_ex h
    obtain rfl := Option.some.inj h
    exact XR.retI .boolean rfl (xnar_z c_7) (by decide +kernel)
  · skip
    refine s_X_row [(5, .ifCond .eq 38, 0, (-1)), (8, .iload_n 2, 0, 0)] (by decide +kernel) (z' := (9, [(0, (vR 9 l0)), (1, (vI l1)), (2, (vI l2)), (3, (vI l3)), (4, (vI l4)), (5, (vI l5))], [(vI l2)], R, M, 174)) (cs := [¬ (r_1 = 0)]) (by rfl) ⟨c_3, trivial⟩ (Nat.le_refl _) ?_
    obtain ⟨r_8, e_9, h⟩ := xb1_ex h
    refine XR.callS 9 rfl (rest := []) m_X_isHour k_9_190 [(vI l2)] rfl rfl (c_X_isHour e_9) (by decide) (Nat.le_of_ble_eq_true rfl) (by decide +kernel) (Nat.le_refl _) (Nat.le_refl _) ?_
    show XR false 2 174 sc y_X_row (12, [(0, (vR 9 l0)), (1, (vI l1)), (2, (vI l2)), (3, (vI l3)), (4, (vI l4)), (5, (vI l5))], [(vI r_8)], R, M, 174) _
    rcases xif_ex h with ⟨c_10, h⟩ | ⟨c_10, h⟩
    · skip
      refine s_X_row [(12, .ifCond .eq 31, 0, 43), (43, .aload_n 0, 0, 0), (44, .iconst 1, 0, 1)] (by decide +kernel) (z' := (45, [(0, (vR 9 l0)), (1, (vI l1)), (2, (vI l2)), (3, (vI l3)), (4, (vI l4)), (5, (vI l5))], [(vI 1), (vR 9 l0)], R, M, 174)) (cs := [r_8 = 0]) (by rfl) ⟨c_10, trivial⟩ (Nat.le_refl _) ?_
      obtain ⟨r_11, M_12, e_13, h⟩ := xb2_ex h
      refine XR.callV 9 rfl (rest := []) m_X_deny k_9_86 9 l0 (Or.inl ⟨by decide, rfl⟩) [(vI 1)] rfl rfl (c_X_deny e_13) (by decide) (Nat.le_of_ble_eq_true rfl) (by decide +kernel) (Nat.le_refl _) (Nat.le_refl _) ?_
      show XR false 2 174 sc y_X_row (48, [(0, (vR 9 l0)), (1, (vI l1)), (2, (vI l2)), (3, (vI l3)), (4, (vI l4)), (5, (vI l5))], [(vI r_11)], R, M_12, 174) _
      obtain ⟨c_14, h⟩ := xch_ex h
      obtain rfl := Option.some.inj h
      exact XR.retI .boolean rfl (xnar_z c_14) (by decide +kernel)
    · skip
      refine s_X_row [(12, .ifCond .eq 31, 0, (-1)), (15, .iload_n 3, 0, 0)] (by decide +kernel) (z' := (16, [(0, (vR 9 l0)), (1, (vI l1)), (2, (vI l2)), (3, (vI l3)), (4, (vI l4)), (5, (vI l5))], [(vI l3)], R, M, 174)) (cs := [¬ (r_8 = 0)]) (by rfl) ⟨c_10, trivial⟩ (Nat.le_refl _) ?_
      obtain ⟨r_15, e_16, h⟩ := xb1_ex h
      refine XR.callS 9 rfl (rest := []) m_X_isSize k_9_193 [(vI l3)] rfl rfl (c_X_isSize e_16) (by decide) (Nat.le_of_ble_eq_true rfl) (by decide +kernel) (Nat.le_refl _) (Nat.le_refl _) ?_
      show XR false 2 174 sc y_X_row (19, [(0, (vR 9 l0)), (1, (vI l1)), (2, (vI l2)), (3, (vI l3)), (4, (vI l4)), (5, (vI l5))], [(vI r_15)], R, M, 174) _
      rcases xif_ex h with ⟨c_17, h⟩ | ⟨c_17, h⟩
      · skip
        refine s_X_row [(19, .ifCond .eq 24, 0, 43), (43, .aload_n 0, 0, 0), (44, .iconst 1, 0, 1)] (by decide +kernel) (z' := (45, [(0, (vR 9 l0)), (1, (vI l1)), (2, (vI l2)), (3, (vI l3)), (4, (vI l4)), (5, (vI l5))], [(vI 1), (vR 9 l0)], R, M, 174)) (cs := [r_15 = 0]) (by rfl) ⟨c_17, trivial⟩ (Nat.le_refl _) ?_
        obtain ⟨r_18, M_19, e_20, h⟩ := xb2_ex h
        refine XR.callV 9 rfl (rest := []) m_X_deny k_9_86 9 l0 (Or.inl ⟨by decide, rfl⟩) [(vI 1)] rfl rfl (c_X_deny e_20) (by decide) (Nat.le_of_ble_eq_true rfl) (by decide +kernel) (Nat.le_refl _) (Nat.le_refl _) ?_
        show XR false 2 174 sc y_X_row (48, [(0, (vR 9 l0)), (1, (vI l1)), (2, (vI l2)), (3, (vI l3)), (4, (vI l4)), (5, (vI l5))], [(vI r_18)], R, M_19, 174) _
        obtain ⟨c_21, h⟩ := xch_ex h
        obtain rfl := Option.some.inj h
        exact XR.retI .boolean rfl (xnar_z c_21) (by decide +kernel)
      · skip
        refine s_X_row [(19, .ifCond .eq 24, 0, (-1)), (22, .iload 4, 0, 0)] (by decide +kernel) (z' := (24, [(0, (vR 9 l0)), (1, (vI l1)), (2, (vI l2)), (3, (vI l3)), (4, (vI l4)), (5, (vI l5))], [(vI l4)], R, M, 174)) (cs := [¬ (r_15 = 0)]) (by rfl) ⟨c_17, trivial⟩ (Nat.le_refl _) ?_
        rcases xif_ex h with ⟨c_22, h⟩ | ⟨c_22, h⟩
        · skip
          refine s_X_row [(24, .ifCond .lt 19, 0, 43), (43, .aload_n 0, 0, 0), (44, .iconst 1, 0, 1)] (by decide +kernel) (z' := (45, [(0, (vR 9 l0)), (1, (vI l1)), (2, (vI l2)), (3, (vI l3)), (4, (vI l4)), (5, (vI l5))], [(vI 1), (vR 9 l0)], R, M, 174)) (cs := [l4 < 0]) (by rfl) ⟨c_22, trivial⟩ (Nat.le_refl _) ?_
          obtain ⟨r_23, M_24, e_25, h⟩ := xb2_ex h
          refine XR.callV 9 rfl (rest := []) m_X_deny k_9_86 9 l0 (Or.inl ⟨by decide, rfl⟩) [(vI 1)] rfl rfl (c_X_deny e_25) (by decide) (Nat.le_of_ble_eq_true rfl) (by decide +kernel) (Nat.le_refl _) (Nat.le_refl _) ?_
          show XR false 2 174 sc y_X_row (48, [(0, (vR 9 l0)), (1, (vI l1)), (2, (vI l2)), (3, (vI l3)), (4, (vI l4)), (5, (vI l5))], [(vI r_23)], R, M_24, 174) _
          obtain ⟨c_26, h⟩ := xch_ex h
          obtain rfl := Option.some.inj h
          exact XR.retI .boolean rfl (xnar_z c_26) (by decide +kernel)
        · skip
          refine s_X_row [(24, .ifCond .lt 19, 0, (-1)), (27, .iload 4, 0, 0), (29, .sipush 9999, 0, 9999)] (by decide +kernel) (z' := (32, [(0, (vR 9 l0)), (1, (vI l1)), (2, (vI l2)), (3, (vI l3)), (4, (vI l4)), (5, (vI l5))], [(vI 9999), (vI l4)], R, M, 174)) (cs := [¬ (l4 < 0)]) (by rfl) ⟨c_22, trivial⟩ (Nat.le_refl _) ?_
          rcases xif_ex h with ⟨c_27, h⟩ | ⟨c_27, h⟩
          · skip
            refine s_X_row [(32, .if_icmp .gt 11, 0, 43), (43, .aload_n 0, 0, 0), (44, .iconst 1, 0, 1)] (by decide +kernel) (z' := (45, [(0, (vR 9 l0)), (1, (vI l1)), (2, (vI l2)), (3, (vI l3)), (4, (vI l4)), (5, (vI l5))], [(vI 1), (vR 9 l0)], R, M, 174)) (cs := [9999 < l4]) (by rfl) ⟨c_27, trivial⟩ (Nat.le_refl _) ?_
            obtain ⟨r_28, M_29, e_30, h⟩ := xb2_ex h
            refine XR.callV 9 rfl (rest := []) m_X_deny k_9_86 9 l0 (Or.inl ⟨by decide, rfl⟩) [(vI 1)] rfl rfl (c_X_deny e_30) (by decide) (Nat.le_of_ble_eq_true rfl) (by decide +kernel) (Nat.le_refl _) (Nat.le_refl _) ?_
            show XR false 2 174 sc y_X_row (48, [(0, (vR 9 l0)), (1, (vI l1)), (2, (vI l2)), (3, (vI l3)), (4, (vI l4)), (5, (vI l5))], [(vI r_28)], R, M_29, 174) _
            obtain ⟨c_31, h⟩ := xch_ex h
            obtain rfl := Option.some.inj h
            exact XR.retI .boolean rfl (xnar_z c_31) (by decide +kernel)
          · skip
            refine s_X_row [(32, .if_icmp .gt 11, 0, (-1)), (35, .iload 5, 0, 0)] (by decide +kernel) (z' := (37, [(0, (vR 9 l0)), (1, (vI l1)), (2, (vI l2)), (3, (vI l3)), (4, (vI l4)), (5, (vI l5))], [(vI l5)], R, M, 174)) (cs := [¬ (9999 < l4)]) (by rfl) ⟨c_27, trivial⟩ (Nat.le_refl _) ?_
            obtain ⟨r_32, e_33, h⟩ := xb1_ex h
            refine XR.callS 9 rfl (rest := []) m_X_isKnownHour k_9_196 [(vI l5)] rfl rfl (c_X_isKnownHour e_33) (by decide) (Nat.le_of_ble_eq_true rfl) (by decide +kernel) (Nat.le_refl _) (Nat.le_refl _) ?_
            show XR false 2 174 sc y_X_row (40, [(0, (vR 9 l0)), (1, (vI l1)), (2, (vI l2)), (3, (vI l3)), (4, (vI l4)), (5, (vI l5))], [(vI r_32)], R, M, 174) _
            rcases xif_ex h with ⟨c_34, h⟩ | ⟨c_34, h⟩
            · skip
              refine s_X_row [(40, .ifCond .ne 9, 0, (-1)), (43, .aload_n 0, 0, 0), (44, .iconst 1, 0, 1)] (by decide +kernel) (z' := (45, [(0, (vR 9 l0)), (1, (vI l1)), (2, (vI l2)), (3, (vI l3)), (4, (vI l4)), (5, (vI l5))], [(vI 1), (vR 9 l0)], R, M, 174)) (cs := [¬ (r_32 ≠ 0)]) (by rfl) ⟨fun q => q c_34, trivial⟩ (Nat.le_refl _) ?_
              obtain ⟨r_35, M_36, e_37, h⟩ := xb2_ex h
              refine XR.callV 9 rfl (rest := []) m_X_deny k_9_86 9 l0 (Or.inl ⟨by decide, rfl⟩) [(vI 1)] rfl rfl (c_X_deny e_37) (by decide) (Nat.le_of_ble_eq_true rfl) (by decide +kernel) (Nat.le_refl _) (Nat.le_refl _) ?_
              show XR false 2 174 sc y_X_row (48, [(0, (vR 9 l0)), (1, (vI l1)), (2, (vI l2)), (3, (vI l3)), (4, (vI l4)), (5, (vI l5))], [(vI r_35)], R, M_36, 174) _
              obtain ⟨c_38, h⟩ := xch_ex h
              obtain rfl := Option.some.inj h
              exact XR.retI .boolean rfl (xnar_z c_38) (by decide +kernel)
            · skip
              refine s_X_row [(40, .ifCond .ne 9, 0, 49), (49, .aload_n 0, 0, 0), (50, .getfield 50, 9, 7), (53, .iload 5, 0, 0)] (by decide +kernel) (z' := (55, [(0, (vR 9 l0)), (1, (vI l1)), (2, (vI l2)), (3, (vI l3)), (4, (vI l4)), (5, (vI l5))], [(vI l5), (vR 0 (R l0 7))], R, M, 174)) (cs := [r_32 ≠ 0]) (by rfl) ⟨c_34, trivial⟩ (Nat.le_refl _) ?_
              obtain ⟨r_39, e_40, h⟩ := xb1_ex h
              refine XR.callV 9 rfl (rest := []) m_B_rowStatus k_9_199 0 (R l0 7) (Or.inl ⟨by decide, rfl⟩) [(vI l5)] rfl rfl (c_B_rowStatus e_40) (by decide) (Nat.le_of_ble_eq_true rfl) (by decide +kernel) (Nat.le_refl _) (Nat.le_refl _) ?_
              show XR false 2 174 sc y_X_row (58, [(0, (vR 9 l0)), (1, (vI l1)), (2, (vI l2)), (3, (vI l3)), (4, (vI l4)), (5, (vI l5))], [(vI r_39)], R, M, 174) _
              refine s_X_row [(58, .istore 6, 0, 0), (60, .iload 6, 0, 0)] (by decide +kernel) (z' := (62, [(6, (vI r_39)), (0, (vR 9 l0)), (1, (vI l1)), (2, (vI l2)), (3, (vI l3)), (4, (vI l4)), (5, (vI l5))], [(vI r_39)], R, M, 174)) (cs := []) (by rfl) trivial (Nat.le_refl _) ?_
              rcases xif_ex h with ⟨c_41, h⟩ | ⟨c_41, h⟩
              · skip
                refine s_X_row [(62, .ifCond .eq 10, 0, 72), (72, .aload_n 0, 0, 0), (73, .getfield 50, 9, 7), (76, .iload_n 1, 0, 0), (77, .iload_n 2, 0, 0), (78, .iload_n 3, 0, 0)] (by decide +kernel) (z' := (79, [(6, (vI r_39)), (0, (vR 9 l0)), (1, (vI l1)), (2, (vI l2)), (3, (vI l3)), (4, (vI l4)), (5, (vI l5))], [(vI l3), (vI l2), (vI l1), (vR 0 (R l0 7))], R, M, 174)) (cs := [r_39 = 0]) (by rfl) ⟨c_41, trivial⟩ (Nat.le_refl _) ?_
                obtain ⟨r_42, e_43, h⟩ := xb1_ex h
                refine XR.callS 9 rfl (rest := [(vR 0 (R l0 7))]) m_B_cell k_9_202 [(vI l1), (vI l2), (vI l3)] rfl rfl (c_B_cell e_43) (by decide) (Nat.le_of_ble_eq_true rfl) (by decide +kernel) (Nat.le_refl _) (Nat.le_refl _) ?_
                show XR false 2 174 sc y_X_row (82, [(6, (vI r_39)), (0, (vR 9 l0)), (1, (vI l1)), (2, (vI l2)), (3, (vI l3)), (4, (vI l4)), (5, (vI l5))], [(vI r_42), (vR 0 (R l0 7))], R, M, 174) _
                refine s_X_row [(82, .iload 4, 0, 0), (84, .iload 5, 0, 0)] (by decide +kernel) (z' := (86, [(6, (vI r_39)), (0, (vR 9 l0)), (1, (vI l1)), (2, (vI l2)), (3, (vI l3)), (4, (vI l4)), (5, (vI l5))], [(vI l5), (vI l4), (vI r_42), (vR 0 (R l0 7))], R, M, 174)) (cs := []) (by rfl) trivial (Nat.le_refl _) ?_
                obtain ⟨M_44, e_45, h⟩ := xb1_ex h
                refine XR.callV 9 rfl (rest := []) m_B_addRow k_9_206 0 (R l0 7) (Or.inl ⟨by decide, rfl⟩) [(vI r_42), (vI l4), (vI l5)] rfl rfl (c_B_addRow e_45) (by decide) (Nat.le_of_ble_eq_true rfl) (by decide +kernel) (Nat.le_refl _) (Nat.le_refl _) ?_
                show XR false 2 174 sc y_X_row (89, [(6, (vI r_39)), (0, (vR 9 l0)), (1, (vI l1)), (2, (vI l2)), (3, (vI l3)), (4, (vI l4)), (5, (vI l5))], [], R, M_44, 174) _
                refine s_X_row [(89, .aload_n 0, 0, 0)] (by decide +kernel) (z' := (90, [(6, (vI r_39)), (0, (vR 9 l0)), (1, (vI l1)), (2, (vI l2)), (3, (vI l3)), (4, (vI l4)), (5, (vI l5))], [(vR 9 l0)], R, M_44, 174)) (cs := []) (by rfl) trivial (Nat.le_refl _) ?_
                obtain ⟨r_46, M_47, e_48, h⟩ := xb2_ex h
                refine XR.callV 9 rfl (rest := []) m_X_done k_9_93 9 l0 (Or.inl ⟨by decide, rfl⟩) [] rfl rfl (c_X_done e_48) (by decide) (Nat.le_of_ble_eq_true rfl) (by decide +kernel) (Nat.le_refl _) (Nat.le_refl _) ?_
                show XR false 2 174 sc y_X_row (93, [(6, (vI r_39)), (0, (vR 9 l0)), (1, (vI l1)), (2, (vI l2)), (3, (vI l3)), (4, (vI l4)), (5, (vI l5))], [(vI r_46)], R, M_47, 174) _
                obtain ⟨c_49, h⟩ := xch_ex h
                obtain rfl := Option.some.inj h
                exact XR.retI .boolean rfl (xnar_z c_49) (by decide +kernel)
              · skip
                refine s_X_row [(62, .ifCond .eq 10, 0, (-1)), (65, .aload_n 0, 0, 0), (66, .iload 6, 0, 0)] (by decide +kernel) (z' := (68, [(6, (vI r_39)), (0, (vR 9 l0)), (1, (vI l1)), (2, (vI l2)), (3, (vI l3)), (4, (vI l4)), (5, (vI l5))], [(vI r_39), (vR 9 l0)], R, M, 174)) (cs := [¬ (r_39 = 0)]) (by rfl) ⟨c_41, trivial⟩ (Nat.le_refl _) ?_
                obtain ⟨r_50, M_51, e_52, h⟩ := xb2_ex h
                refine XR.callV 9 rfl (rest := []) m_X_deny k_9_86 9 l0 (Or.inl ⟨by decide, rfl⟩) [(vI r_39)] rfl rfl (c_X_deny e_52) (by decide) (Nat.le_of_ble_eq_true rfl) (by decide +kernel) (Nat.le_refl _) (Nat.le_refl _) ?_
                show XR false 2 174 sc y_X_row (71, [(6, (vI r_39)), (0, (vR 9 l0)), (1, (vI l1)), (2, (vI l2)), (3, (vI l3)), (4, (vI l4)), (5, (vI l5))], [(vI r_50)], R, M_51, 174) _
                obtain ⟨c_53, h⟩ := xch_ex h
                obtain rfl := Option.some.inj h
                exact XR.retI .boolean rfl (xnar_z c_53) (by decide +kernel)
set_option maxRecDepth 100000 in
set_option maxHeartbeats 4000000 in
theorem c_X_row {sc : List Int} {R : xR} {M : xM} {l0 : Nat} {l1 : Int} {l2 : Int} {l3 : Int} {l4 : Int} {l5 : Int} {out : Int × xM} (h : f_X_row R l0 l1 l2 l3 l4 l5 M = some out) : XC false 2 sc y_X_row [(vR 9 l0), (vI l1), (vI l2), (vI l3), (vI l4), (vI l5)] R M 174 174 ((some (vI out.1)), R, out.2) := XC.of (by decide) (Nat.le_of_ble_eq_true rfl) (Nat.le_refl _) (Nat.le_refl _) (o_X_row h)
def f_X_rowAt (R : xR) (l0 : Nat) (l1 : Int) (M : xM) : Option (Int × xM) :=
  if l1 < 0 then
    xb2 (f_X_refuse l0 1 M) fun r_2 M_3 =>
    some (r_2, M_3)
  else
    if l1 < M (R l0 11) 6 then
      if l1 < 4 then
        xch (0 ≤ l1 ∧ l1 < 4) <|
        xb2 (f_X_answer l0 (M (R (R l0 11) 5) (Int.toNat l1)) M) fun r_8 M_9 =>
        some (r_8, M_9)
      else
        xb2 (f_X_refuse l0 6 M) fun r_11 M_12 =>
        some (r_11, M_12)
    else
      xb2 (f_X_refuse l0 6 M) fun r_14 M_15 =>
      some (r_14, M_15)
set_option maxRecDepth 100000 in
set_option maxHeartbeats 4000000 in
theorem s_X_rowAt {d : Nat} {sc : List Int} {z z' : xS} {out : xO} (qs : List xI) {cs : List Prop} (hq : qs.all (xqb 9 false y_X_rowAt.2.2.1 y_X_rowAt.2.1) = true) (h : xN false sc qs z = some (z', cs)) (hc : xAll cs) (hE : z'.2.2.2.2.2 ≤ 174) (k : XR false d 174 sc y_X_rowAt z' out) : XR false d 174 sc y_X_rowAt z out := XR.seg 9 false rfl (fun q => by cases q) qs hq h hc hE k
set_option maxRecDepth 100000 in
set_option maxHeartbeats 4000000 in
theorem o_X_rowAt {sc : List Int} {R : xR} {M : xM} {l0 : Nat} {l1 : Int} {out : Int × xM} (h : f_X_rowAt R l0 l1 M = some out) : XR false 1 174 sc y_X_rowAt (0, [(0, (vR 9 l0)), (1, (vI l1))], [], R, M, 174) ((some (vI out.1)), R, out.2) := by
  unfold f_X_rowAt at h
  refine s_X_rowAt [(0, .iload_n 1, 0, 0)] (by decide +kernel) (z' := (1, [(0, (vR 9 l0)), (1, (vI l1))], [(vI l1)], R, M, 174)) (cs := []) (by rfl) trivial (Nat.le_refl _) ?_
  rcases xif_ex h with ⟨c_1, h⟩ | ⟨c_1, h⟩
  · skip
    refine s_X_rowAt [(1, .ifCond .ge 9, 0, (-1)), (4, .aload_n 0, 0, 0), (5, .iconst 1, 0, 1)] (by decide +kernel) (z' := (6, [(0, (vR 9 l0)), (1, (vI l1))], [(vI 1), (vR 9 l0)], R, M, 174)) (cs := [¬ (0 ≤ l1)]) (by rfl) ⟨Int.not_le.mpr c_1, trivial⟩ (Nat.le_refl _) ?_
    obtain ⟨r_2, M_3, e_4, h⟩ := xb2_ex h
    refine XR.callV 9 rfl (rest := []) m_X_refuse k_9_105 9 l0 (Or.inl ⟨by decide, rfl⟩) [(vI 1)] rfl rfl (c_X_refuse e_4) (by decide) (Nat.le_of_ble_eq_true rfl) (by decide +kernel) (Nat.le_refl _) (Nat.le_refl _) ?_
    show XR false 1 174 sc y_X_rowAt (9, [(0, (vR 9 l0)), (1, (vI l1))], [(vI r_2)], R, M_3, 174) _
    obtain rfl := Option.some.inj h
    exact XR.retI .int rfl rfl (by decide +kernel)
  · skip
    refine s_X_rowAt [(1, .ifCond .ge 9, 0, 10), (10, .iload_n 1, 0, 0), (11, .aload_n 0, 0, 0), (12, .getfield 78, 9, 11), (15, .getfield 332, 4, 6)] (by decide +kernel) (z' := (18, [(0, (vR 9 l0)), (1, (vI l1))], [(vI (M (R l0 11) 6)), (vI l1)], R, M, 174)) (cs := [0 ≤ l1]) (by rfl) ⟨Int.not_lt.mp c_1, trivial⟩ (Nat.le_refl _) ?_
    rcases xif_ex h with ⟨c_5, h⟩ | ⟨c_5, h⟩
    · skip
      refine s_X_rowAt [(18, .if_icmp .ge 8, 0, (-1)), (21, .iload_n 1, 0, 0), (22, .iconst 4, 0, 4)] (by decide +kernel) (z' := (23, [(0, (vR 9 l0)), (1, (vI l1))], [(vI 4), (vI l1)], R, M, 174)) (cs := [¬ (M (R l0 11) 6 ≤ l1)]) (by rfl) ⟨Int.not_le.mpr c_5, trivial⟩ (Nat.le_refl _) ?_
      rcases xif_ex h with ⟨c_6, h⟩ | ⟨c_6, h⟩
      · skip
        obtain ⟨c_7, h⟩ := xch_ex h
        refine s_X_rowAt [(23, .if_icmp .lt 10, 0, 33), (33, .aload_n 0, 0, 0), (34, .aload_n 0, 0, 0), (35, .getfield 78, 9, 11), (38, .getfield 335, 4, 5), (41, .iload_n 1, 0, 0), (42, .iaload, 0, 0)] (by decide +kernel) (z' := (43, [(0, (vR 9 l0)), (1, (vI l1))], [(vI (M (R (R l0 11) 5) (Int.toNat l1))), (vR 9 l0)], R, M, 174)) (cs := [l1 < 4, xar 34 0, xidx l1 (xan 34)]) (by rfl) ⟨c_6, xar_34, xix_34 c_7, trivial⟩ (Nat.le_refl _) ?_
        obtain ⟨r_8, M_9, e_10, h⟩ := xb2_ex h
        refine XR.callV 9 rfl (rest := []) m_X_answer k_9_156 9 l0 (Or.inl ⟨by decide, rfl⟩) [(vI (M (R (R l0 11) 5) (Int.toNat l1)))] rfl rfl (c_X_answer e_10) (by decide) (Nat.le_of_ble_eq_true rfl) (by decide +kernel) (Nat.le_refl _) (Nat.le_refl _) ?_
        show XR false 1 174 sc y_X_rowAt (46, [(0, (vR 9 l0)), (1, (vI l1))], [(vI r_8)], R, M_9, 174) _
        obtain rfl := Option.some.inj h
        exact XR.retI .int rfl rfl (by decide +kernel)
      · skip
        refine s_X_rowAt [(23, .if_icmp .lt 10, 0, (-1)), (26, .aload_n 0, 0, 0), (27, .bipush 6, 0, 6)] (by decide +kernel) (z' := (29, [(0, (vR 9 l0)), (1, (vI l1))], [(vI 6), (vR 9 l0)], R, M, 174)) (cs := [¬ (l1 < 4)]) (by rfl) ⟨c_6, trivial⟩ (Nat.le_refl _) ?_
        obtain ⟨r_11, M_12, e_13, h⟩ := xb2_ex h
        refine XR.callV 9 rfl (rest := []) m_X_refuse k_9_105 9 l0 (Or.inl ⟨by decide, rfl⟩) [(vI 6)] rfl rfl (c_X_refuse e_13) (by decide) (Nat.le_of_ble_eq_true rfl) (by decide +kernel) (Nat.le_refl _) (Nat.le_refl _) ?_
        show XR false 1 174 sc y_X_rowAt (32, [(0, (vR 9 l0)), (1, (vI l1))], [(vI r_11)], R, M_12, 174) _
        obtain rfl := Option.some.inj h
        exact XR.retI .int rfl rfl (by decide +kernel)
    · skip
      refine s_X_rowAt [(18, .if_icmp .ge 8, 0, 26), (26, .aload_n 0, 0, 0), (27, .bipush 6, 0, 6)] (by decide +kernel) (z' := (29, [(0, (vR 9 l0)), (1, (vI l1))], [(vI 6), (vR 9 l0)], R, M, 174)) (cs := [M (R l0 11) 6 ≤ l1]) (by rfl) ⟨Int.not_lt.mp c_5, trivial⟩ (Nat.le_refl _) ?_
      obtain ⟨r_14, M_15, e_16, h⟩ := xb2_ex h
      refine XR.callV 9 rfl (rest := []) m_X_refuse k_9_105 9 l0 (Or.inl ⟨by decide, rfl⟩) [(vI 6)] rfl rfl (c_X_refuse e_16) (by decide) (Nat.le_of_ble_eq_true rfl) (by decide +kernel) (Nat.le_refl _) (Nat.le_refl _) ?_
      show XR false 1 174 sc y_X_rowAt (32, [(0, (vR 9 l0)), (1, (vI l1))], [(vI r_14)], R, M_15, 174) _
      obtain rfl := Option.some.inj h
      exact XR.retI .int rfl rfl (by decide +kernel)
set_option maxRecDepth 100000 in
set_option maxHeartbeats 4000000 in
theorem c_X_rowAt {sc : List Int} {R : xR} {M : xM} {l0 : Nat} {l1 : Int} {out : Int × xM} (h : f_X_rowAt R l0 l1 M = some out) : XC false 1 sc y_X_rowAt [(vR 9 l0), (vI l1)] R M 174 174 ((some (vI out.1)), R, out.2) := XC.of (by decide) (Nat.le_of_ble_eq_true rfl) (Nat.le_refl _) (Nat.le_refl _) (o_X_rowAt h)
def f_X_rowOf (R : xR) (l0 : Nat) (l1 : Int) (l2 : Int) (l3 : Int) (l4 : Int) (M : xM) : Option (Int × xM) :=
  xb1 (f_X_isTray l1) fun r_1 =>
  if r_1 = 0 then
    xb2 (f_X_refuse l0 1 M) fun r_4 M_5 =>
    some (r_4, M_5)
  else
    if l2 < 1 then
      xb2 (f_X_refuse l0 1 M) fun r_8 M_9 =>
      some (r_8, M_9)
    else
      if 7 < l2 then
        xb2 (f_X_refuse l0 1 M) fun r_12 M_13 =>
        some (r_12, M_13)
      else
        xb1 (f_X_isTray l3) fun r_15 =>
        if r_15 = 0 then
          xb2 (f_X_refuse l0 1 M) fun r_18 M_19 =>
          some (r_18, M_19)
        else
          if l4 < 0 then
            xb2 (f_X_refuse l0 1 M) fun r_22 M_23 =>
            some (r_22, M_23)
          else
            if 40000 < l4 then
              xb2 (f_X_refuse l0 1 M) fun r_26 M_27 =>
              some (r_26, M_27)
            else
              xb1 (f_X_bothStatus R l0 l1 (w32 (l2 * 5)) l3 4 M) fun r_29 =>
              if r_29 = 0 then
                xb2 (f_P_takeCleaners R (R l0 11) (R l0 2) l1 l2 M) fun r_32 M_33 =>
                if r_32 = 0 then
                  xb2 (f_X_refuse l0 1 M_33) fun r_36 M_37 =>
                  some (r_36, M_37)
                else
                  xb2 (f_P_takePortions R (R l0 11) (R l0 2) l3 M_33) fun r_39 M_40 =>
                  if r_39 = 0 then
                    xb2 (f_X_refuse l0 1 M_40) fun r_43 M_44 =>
                    some (r_43, M_44)
                  else
                    xb2 (f_P_cheapest R (R l0 11) l2 l4 M_40) fun r_46 M_47 =>
                    if r_46 = -1 then
                      xb2 (f_X_refuse l0 6 M_47) fun r_50 M_51 =>
                      some (r_50, M_51)
                    else
                      xb2 (f_X_answer l0 r_46 M_47) fun r_53 M_54 =>
                      some (r_53, M_54)
              else
                xb2 (f_X_refuse l0 r_29 M) fun r_56 M_57 =>
                some (r_56, M_57)
set_option maxRecDepth 100000 in
set_option maxHeartbeats 4000000 in
theorem s_X_rowOf {d : Nat} {sc : List Int} {z z' : xS} {out : xO} (qs : List xI) {cs : List Prop} (hq : qs.all (xqb 9 false y_X_rowOf.2.2.1 y_X_rowOf.2.1) = true) (h : xN false sc qs z = some (z', cs)) (hc : xAll cs) (hE : z'.2.2.2.2.2 ≤ 174) (k : XR false d 174 sc y_X_rowOf z' out) : XR false d 174 sc y_X_rowOf z out := XR.seg 9 false rfl (fun q => by cases q) qs hq h hc hE k
set_option maxRecDepth 100000 in
set_option maxHeartbeats 4000000 in
theorem o_X_rowOf {sc : List Int} {R : xR} {M : xM} {l0 : Nat} {l1 : Int} {l2 : Int} {l3 : Int} {l4 : Int} {out : Int × xM} (h : f_X_rowOf R l0 l1 l2 l3 l4 M = some out) : XR false 3 174 sc y_X_rowOf (0, [(0, (vR 9 l0)), (1, (vI l1)), (2, (vI l2)), (3, (vI l3)), (4, (vI l4))], [], R, M, 174) ((some (vI out.1)), R, out.2) := by
  unfold f_X_rowOf at h
  refine s_X_rowOf [(0, .iload_n 1, 0, 0)] (by decide +kernel) (z' := (1, [(0, (vR 9 l0)), (1, (vI l1)), (2, (vI l2)), (3, (vI l3)), (4, (vI l4))], [(vI l1)], R, M, 174)) (cs := []) (by rfl) trivial (Nat.le_refl _) ?_
  obtain ⟨r_1, e_2, h⟩ := xb1_ex h
  refine XR.callS 9 rfl (rest := []) m_X_isTray k_9_82 [(vI l1)] rfl rfl (c_X_isTray e_2) (by decide) (Nat.le_of_ble_eq_true rfl) (by decide +kernel) (Nat.le_refl _) (Nat.le_refl _) ?_
  show XR false 3 174 sc y_X_rowOf (4, [(0, (vR 9 l0)), (1, (vI l1)), (2, (vI l2)), (3, (vI l3)), (4, (vI l4))], [(vI r_1)], R, M, 174) _
  rcases xif_ex h with ⟨c_3, h⟩ | ⟨c_3, h⟩
  · skip
    refine s_X_rowOf [(4, .ifCond .eq 34, 0, 38), (38, .aload_n 0, 0, 0), (39, .iconst 1, 0, 1)] (by decide +kernel) (z' := (40, [(0, (vR 9 l0)), (1, (vI l1)), (2, (vI l2)), (3, (vI l3)), (4, (vI l4))], [(vI 1), (vR 9 l0)], R, M, 174)) (cs := [r_1 = 0]) (by rfl) ⟨c_3, trivial⟩ (Nat.le_refl _) ?_
    obtain ⟨r_4, M_5, e_6, h⟩ := xb2_ex h
    refine XR.callV 9 rfl (rest := []) m_X_refuse k_9_105 9 l0 (Or.inl ⟨by decide, rfl⟩) [(vI 1)] rfl rfl (c_X_refuse e_6) (by decide) (Nat.le_of_ble_eq_true rfl) (by decide +kernel) (Nat.le_refl _) (Nat.le_refl _) ?_
    show XR false 3 174 sc y_X_rowOf (43, [(0, (vR 9 l0)), (1, (vI l1)), (2, (vI l2)), (3, (vI l3)), (4, (vI l4))], [(vI r_4)], R, M_5, 174) _
    obtain rfl := Option.some.inj h
    exact XR.retI .int rfl rfl (by decide +kernel)
  · skip
    refine s_X_rowOf [(4, .ifCond .eq 34, 0, (-1)), (7, .iload_n 2, 0, 0), (8, .iconst 1, 0, 1)] (by decide +kernel) (z' := (9, [(0, (vR 9 l0)), (1, (vI l1)), (2, (vI l2)), (3, (vI l3)), (4, (vI l4))], [(vI 1), (vI l2)], R, M, 174)) (cs := [¬ (r_1 = 0)]) (by rfl) ⟨c_3, trivial⟩ (Nat.le_refl _) ?_
    rcases xif_ex h with ⟨c_7, h⟩ | ⟨c_7, h⟩
    · skip
      refine s_X_rowOf [(9, .if_icmp .lt 29, 0, 38), (38, .aload_n 0, 0, 0), (39, .iconst 1, 0, 1)] (by decide +kernel) (z' := (40, [(0, (vR 9 l0)), (1, (vI l1)), (2, (vI l2)), (3, (vI l3)), (4, (vI l4))], [(vI 1), (vR 9 l0)], R, M, 174)) (cs := [l2 < 1]) (by rfl) ⟨c_7, trivial⟩ (Nat.le_refl _) ?_
      obtain ⟨r_8, M_9, e_10, h⟩ := xb2_ex h
      refine XR.callV 9 rfl (rest := []) m_X_refuse k_9_105 9 l0 (Or.inl ⟨by decide, rfl⟩) [(vI 1)] rfl rfl (c_X_refuse e_10) (by decide) (Nat.le_of_ble_eq_true rfl) (by decide +kernel) (Nat.le_refl _) (Nat.le_refl _) ?_
      show XR false 3 174 sc y_X_rowOf (43, [(0, (vR 9 l0)), (1, (vI l1)), (2, (vI l2)), (3, (vI l3)), (4, (vI l4))], [(vI r_8)], R, M_9, 174) _
      obtain rfl := Option.some.inj h
      exact XR.retI .int rfl rfl (by decide +kernel)
    · skip
      refine s_X_rowOf [(9, .if_icmp .lt 29, 0, (-1)), (12, .iload_n 2, 0, 0), (13, .bipush 7, 0, 7)] (by decide +kernel) (z' := (15, [(0, (vR 9 l0)), (1, (vI l1)), (2, (vI l2)), (3, (vI l3)), (4, (vI l4))], [(vI 7), (vI l2)], R, M, 174)) (cs := [¬ (l2 < 1)]) (by rfl) ⟨c_7, trivial⟩ (Nat.le_refl _) ?_
      rcases xif_ex h with ⟨c_11, h⟩ | ⟨c_11, h⟩
      · skip
        refine s_X_rowOf [(15, .if_icmp .gt 23, 0, 38), (38, .aload_n 0, 0, 0), (39, .iconst 1, 0, 1)] (by decide +kernel) (z' := (40, [(0, (vR 9 l0)), (1, (vI l1)), (2, (vI l2)), (3, (vI l3)), (4, (vI l4))], [(vI 1), (vR 9 l0)], R, M, 174)) (cs := [7 < l2]) (by rfl) ⟨c_11, trivial⟩ (Nat.le_refl _) ?_
        obtain ⟨r_12, M_13, e_14, h⟩ := xb2_ex h
        refine XR.callV 9 rfl (rest := []) m_X_refuse k_9_105 9 l0 (Or.inl ⟨by decide, rfl⟩) [(vI 1)] rfl rfl (c_X_refuse e_14) (by decide) (Nat.le_of_ble_eq_true rfl) (by decide +kernel) (Nat.le_refl _) (Nat.le_refl _) ?_
        show XR false 3 174 sc y_X_rowOf (43, [(0, (vR 9 l0)), (1, (vI l1)), (2, (vI l2)), (3, (vI l3)), (4, (vI l4))], [(vI r_12)], R, M_13, 174) _
        obtain rfl := Option.some.inj h
        exact XR.retI .int rfl rfl (by decide +kernel)
      · skip
        refine s_X_rowOf [(15, .if_icmp .gt 23, 0, (-1)), (18, .iload_n 3, 0, 0)] (by decide +kernel) (z' := (19, [(0, (vR 9 l0)), (1, (vI l1)), (2, (vI l2)), (3, (vI l3)), (4, (vI l4))], [(vI l3)], R, M, 174)) (cs := [¬ (7 < l2)]) (by rfl) ⟨c_11, trivial⟩ (Nat.le_refl _) ?_
        obtain ⟨r_15, e_16, h⟩ := xb1_ex h
        refine XR.callS 9 rfl (rest := []) m_X_isTray k_9_82 [(vI l3)] rfl rfl (c_X_isTray e_16) (by decide) (Nat.le_of_ble_eq_true rfl) (by decide +kernel) (Nat.le_refl _) (Nat.le_refl _) ?_
        show XR false 3 174 sc y_X_rowOf (22, [(0, (vR 9 l0)), (1, (vI l1)), (2, (vI l2)), (3, (vI l3)), (4, (vI l4))], [(vI r_15)], R, M, 174) _
        rcases xif_ex h with ⟨c_17, h⟩ | ⟨c_17, h⟩
        · skip
          refine s_X_rowOf [(22, .ifCond .eq 16, 0, 38), (38, .aload_n 0, 0, 0), (39, .iconst 1, 0, 1)] (by decide +kernel) (z' := (40, [(0, (vR 9 l0)), (1, (vI l1)), (2, (vI l2)), (3, (vI l3)), (4, (vI l4))], [(vI 1), (vR 9 l0)], R, M, 174)) (cs := [r_15 = 0]) (by rfl) ⟨c_17, trivial⟩ (Nat.le_refl _) ?_
          obtain ⟨r_18, M_19, e_20, h⟩ := xb2_ex h
          refine XR.callV 9 rfl (rest := []) m_X_refuse k_9_105 9 l0 (Or.inl ⟨by decide, rfl⟩) [(vI 1)] rfl rfl (c_X_refuse e_20) (by decide) (Nat.le_of_ble_eq_true rfl) (by decide +kernel) (Nat.le_refl _) (Nat.le_refl _) ?_
          show XR false 3 174 sc y_X_rowOf (43, [(0, (vR 9 l0)), (1, (vI l1)), (2, (vI l2)), (3, (vI l3)), (4, (vI l4))], [(vI r_18)], R, M_19, 174) _
          obtain rfl := Option.some.inj h
          exact XR.retI .int rfl rfl (by decide +kernel)
        · skip
          refine s_X_rowOf [(22, .ifCond .eq 16, 0, (-1)), (25, .iload 4, 0, 0)] (by decide +kernel) (z' := (27, [(0, (vR 9 l0)), (1, (vI l1)), (2, (vI l2)), (3, (vI l3)), (4, (vI l4))], [(vI l4)], R, M, 174)) (cs := [¬ (r_15 = 0)]) (by rfl) ⟨c_17, trivial⟩ (Nat.le_refl _) ?_
          rcases xif_ex h with ⟨c_21, h⟩ | ⟨c_21, h⟩
          · skip
            refine s_X_rowOf [(27, .ifCond .lt 11, 0, 38), (38, .aload_n 0, 0, 0), (39, .iconst 1, 0, 1)] (by decide +kernel) (z' := (40, [(0, (vR 9 l0)), (1, (vI l1)), (2, (vI l2)), (3, (vI l3)), (4, (vI l4))], [(vI 1), (vR 9 l0)], R, M, 174)) (cs := [l4 < 0]) (by rfl) ⟨c_21, trivial⟩ (Nat.le_refl _) ?_
            obtain ⟨r_22, M_23, e_24, h⟩ := xb2_ex h
            refine XR.callV 9 rfl (rest := []) m_X_refuse k_9_105 9 l0 (Or.inl ⟨by decide, rfl⟩) [(vI 1)] rfl rfl (c_X_refuse e_24) (by decide) (Nat.le_of_ble_eq_true rfl) (by decide +kernel) (Nat.le_refl _) (Nat.le_refl _) ?_
            show XR false 3 174 sc y_X_rowOf (43, [(0, (vR 9 l0)), (1, (vI l1)), (2, (vI l2)), (3, (vI l3)), (4, (vI l4))], [(vI r_22)], R, M_23, 174) _
            obtain rfl := Option.some.inj h
            exact XR.retI .int rfl rfl (by decide +kernel)
          · skip
            refine s_X_rowOf [(27, .ifCond .lt 11, 0, (-1)), (30, .iload 4, 0, 0), (32, .ldc_w 316, 0, 40000)] (by decide +kernel) (z' := (35, [(0, (vR 9 l0)), (1, (vI l1)), (2, (vI l2)), (3, (vI l3)), (4, (vI l4))], [(vI 40000), (vI l4)], R, M, 174)) (cs := [¬ (l4 < 0)]) (by rfl) ⟨c_21, trivial⟩ (Nat.le_refl _) ?_
            rcases xif_ex h with ⟨c_25, h⟩ | ⟨c_25, h⟩
            · skip
              refine s_X_rowOf [(35, .if_icmp .le 9, 0, (-1)), (38, .aload_n 0, 0, 0), (39, .iconst 1, 0, 1)] (by decide +kernel) (z' := (40, [(0, (vR 9 l0)), (1, (vI l1)), (2, (vI l2)), (3, (vI l3)), (4, (vI l4))], [(vI 1), (vR 9 l0)], R, M, 174)) (cs := [¬ (l4 ≤ 40000)]) (by rfl) ⟨Int.not_le.mpr c_25, trivial⟩ (Nat.le_refl _) ?_
              obtain ⟨r_26, M_27, e_28, h⟩ := xb2_ex h
              refine XR.callV 9 rfl (rest := []) m_X_refuse k_9_105 9 l0 (Or.inl ⟨by decide, rfl⟩) [(vI 1)] rfl rfl (c_X_refuse e_28) (by decide) (Nat.le_of_ble_eq_true rfl) (by decide +kernel) (Nat.le_refl _) (Nat.le_refl _) ?_
              show XR false 3 174 sc y_X_rowOf (43, [(0, (vR 9 l0)), (1, (vI l1)), (2, (vI l2)), (3, (vI l3)), (4, (vI l4))], [(vI r_26)], R, M_27, 174) _
              obtain rfl := Option.some.inj h
              exact XR.retI .int rfl rfl (by decide +kernel)
            · skip
              refine s_X_rowOf [(35, .if_icmp .le 9, 0, 44), (44, .aload_n 0, 0, 0), (45, .iload_n 1, 0, 0), (46, .iload_n 2, 0, 0), (47, .iconst 5, 0, 5), (48, .imul, 0, 0), (49, .iload_n 3, 0, 0), (50, .iconst 4, 0, 4)] (by decide +kernel) (z' := (51, [(0, (vR 9 l0)), (1, (vI l1)), (2, (vI l2)), (3, (vI l3)), (4, (vI l4))], [(vI 4), (vI l3), (vI (w32 (l2 * 5))), (vI l1), (vR 9 l0)], R, M, 174)) (cs := [l4 ≤ 40000]) (by rfl) ⟨Int.not_lt.mp c_25, trivial⟩ (Nat.le_refl _) ?_
              obtain ⟨r_29, e_30, h⟩ := xb1_ex h
              refine XR.callV 9 rfl (rest := []) m_X_bothStatus k_9_317 9 l0 (Or.inl ⟨by decide, rfl⟩) [(vI l1), (vI (w32 (l2 * 5))), (vI l3), (vI 4)] rfl rfl (c_X_bothStatus e_30) (by decide) (Nat.le_of_ble_eq_true rfl) (by decide +kernel) (Nat.le_refl _) (Nat.le_refl _) ?_
              show XR false 3 174 sc y_X_rowOf (54, [(0, (vR 9 l0)), (1, (vI l1)), (2, (vI l2)), (3, (vI l3)), (4, (vI l4))], [(vI r_29)], R, M, 174) _
              refine s_X_rowOf [(54, .istore 5, 0, 0), (56, .iload 5, 0, 0)] (by decide +kernel) (z' := (58, [(5, (vI r_29)), (0, (vR 9 l0)), (1, (vI l1)), (2, (vI l2)), (3, (vI l3)), (4, (vI l4))], [(vI r_29)], R, M, 174)) (cs := []) (by rfl) trivial (Nat.le_refl _) ?_
              rcases xif_ex h with ⟨c_31, h⟩ | ⟨c_31, h⟩
              · skip
                refine s_X_rowOf [(58, .ifCond .eq 10, 0, 68), (68, .aload_n 0, 0, 0), (69, .getfield 78, 9, 11), (72, .aload_n 0, 0, 0), (73, .getfield 23, 9, 2), (76, .iload_n 1, 0, 0), (77, .iload_n 2, 0, 0)] (by decide +kernel) (z' := (78, [(5, (vI r_29)), (0, (vR 9 l0)), (1, (vI l1)), (2, (vI l2)), (3, (vI l3)), (4, (vI l4))], [(vI l2), (vI l1), (vR 8 (R l0 2)), (vR 4 (R l0 11))], R, M, 174)) (cs := [r_29 = 0]) (by rfl) ⟨c_31, trivial⟩ (Nat.le_refl _) ?_
                obtain ⟨r_32, M_33, e_34, h⟩ := xb2_ex h
                refine XR.callV 9 rfl (rest := []) m_P_takeCleaners k_9_321 4 (R l0 11) (Or.inl ⟨by decide, rfl⟩) [(vR 8 (R l0 2)), (vI l1), (vI l2)] rfl rfl (c_P_takeCleaners e_34) (by decide) (Nat.le_of_ble_eq_true rfl) (by decide +kernel) (Nat.le_refl _) (Nat.le_refl _) ?_
                show XR false 3 174 sc y_X_rowOf (81, [(5, (vI r_29)), (0, (vR 9 l0)), (1, (vI l1)), (2, (vI l2)), (3, (vI l3)), (4, (vI l4))], [(vI r_32)], R, M_33, 174) _
                rcases xif_ex h with ⟨c_35, h⟩ | ⟨c_35, h⟩
                · skip
                  refine s_X_rowOf [(81, .ifCond .eq 18, 0, 99), (99, .aload_n 0, 0, 0), (100, .iconst 1, 0, 1)] (by decide +kernel) (z' := (101, [(5, (vI r_29)), (0, (vR 9 l0)), (1, (vI l1)), (2, (vI l2)), (3, (vI l3)), (4, (vI l4))], [(vI 1), (vR 9 l0)], R, M_33, 174)) (cs := [r_32 = 0]) (by rfl) ⟨c_35, trivial⟩ (Nat.le_refl _) ?_
                  obtain ⟨r_36, M_37, e_38, h⟩ := xb2_ex h
                  refine XR.callV 9 rfl (rest := []) m_X_refuse k_9_105 9 l0 (Or.inl ⟨by decide, rfl⟩) [(vI 1)] rfl rfl (c_X_refuse e_38) (by decide) (Nat.le_of_ble_eq_true rfl) (by decide +kernel) (Nat.le_refl _) (Nat.le_refl _) ?_
                  show XR false 3 174 sc y_X_rowOf (104, [(5, (vI r_29)), (0, (vR 9 l0)), (1, (vI l1)), (2, (vI l2)), (3, (vI l3)), (4, (vI l4))], [(vI r_36)], R, M_37, 174) _
                  obtain rfl := Option.some.inj h
                  exact XR.retI .int rfl rfl (by decide +kernel)
                · skip
                  refine s_X_rowOf [(81, .ifCond .eq 18, 0, (-1)), (84, .aload_n 0, 0, 0), (85, .getfield 78, 9, 11), (88, .aload_n 0, 0, 0), (89, .getfield 23, 9, 2), (92, .iload_n 3, 0, 0)] (by decide +kernel) (z' := (93, [(5, (vI r_29)), (0, (vR 9 l0)), (1, (vI l1)), (2, (vI l2)), (3, (vI l3)), (4, (vI l4))], [(vI l3), (vR 8 (R l0 2)), (vR 4 (R l0 11))], R, M_33, 174)) (cs := [¬ (r_32 = 0)]) (by rfl) ⟨c_35, trivial⟩ (Nat.le_refl _) ?_
                  obtain ⟨r_39, M_40, e_41, h⟩ := xb2_ex h
                  refine XR.callV 9 rfl (rest := []) m_P_takePortions k_9_325 4 (R l0 11) (Or.inl ⟨by decide, rfl⟩) [(vR 8 (R l0 2)), (vI l3)] rfl rfl (c_P_takePortions e_41) (by decide) (Nat.le_of_ble_eq_true rfl) (by decide +kernel) (Nat.le_refl _) (Nat.le_refl _) ?_
                  show XR false 3 174 sc y_X_rowOf (96, [(5, (vI r_29)), (0, (vR 9 l0)), (1, (vI l1)), (2, (vI l2)), (3, (vI l3)), (4, (vI l4))], [(vI r_39)], R, M_40, 174) _
                  rcases xif_ex h with ⟨c_42, h⟩ | ⟨c_42, h⟩
                  · skip
                    refine s_X_rowOf [(96, .ifCond .ne 9, 0, (-1)), (99, .aload_n 0, 0, 0), (100, .iconst 1, 0, 1)] (by decide +kernel) (z' := (101, [(5, (vI r_29)), (0, (vR 9 l0)), (1, (vI l1)), (2, (vI l2)), (3, (vI l3)), (4, (vI l4))], [(vI 1), (vR 9 l0)], R, M_40, 174)) (cs := [¬ (r_39 ≠ 0)]) (by rfl) ⟨fun q => q c_42, trivial⟩ (Nat.le_refl _) ?_
                    obtain ⟨r_43, M_44, e_45, h⟩ := xb2_ex h
                    refine XR.callV 9 rfl (rest := []) m_X_refuse k_9_105 9 l0 (Or.inl ⟨by decide, rfl⟩) [(vI 1)] rfl rfl (c_X_refuse e_45) (by decide) (Nat.le_of_ble_eq_true rfl) (by decide +kernel) (Nat.le_refl _) (Nat.le_refl _) ?_
                    show XR false 3 174 sc y_X_rowOf (104, [(5, (vI r_29)), (0, (vR 9 l0)), (1, (vI l1)), (2, (vI l2)), (3, (vI l3)), (4, (vI l4))], [(vI r_43)], R, M_44, 174) _
                    obtain rfl := Option.some.inj h
                    exact XR.retI .int rfl rfl (by decide +kernel)
                  · skip
                    refine s_X_rowOf [(96, .ifCond .ne 9, 0, 105), (105, .aload_n 0, 0, 0), (106, .getfield 78, 9, 11), (109, .iload_n 2, 0, 0), (110, .iload 4, 0, 0)] (by decide +kernel) (z' := (112, [(5, (vI r_29)), (0, (vR 9 l0)), (1, (vI l1)), (2, (vI l2)), (3, (vI l3)), (4, (vI l4))], [(vI l4), (vI l2), (vR 4 (R l0 11))], R, M_40, 174)) (cs := [r_39 ≠ 0]) (by rfl) ⟨c_42, trivial⟩ (Nat.le_refl _) ?_
                    obtain ⟨r_46, M_47, e_48, h⟩ := xb2_ex h
                    refine XR.callV 9 rfl (rest := []) m_P_cheapest k_9_329 4 (R l0 11) (Or.inl ⟨by decide, rfl⟩) [(vI l2), (vI l4)] rfl rfl (c_P_cheapest e_48) (by decide) (Nat.le_of_ble_eq_true rfl) (by decide +kernel) (Nat.le_refl _) (Nat.le_refl _) ?_
                    show XR false 3 174 sc y_X_rowOf (115, [(5, (vI r_29)), (0, (vR 9 l0)), (1, (vI l1)), (2, (vI l2)), (3, (vI l3)), (4, (vI l4))], [(vI r_46)], R, M_47, 174) _
                    refine s_X_rowOf [(115, .istore 6, 0, 0), (117, .iload 6, 0, 0), (119, .iconst (-1), 0, (-1))] (by decide +kernel) (z' := (120, [(6, (vI r_46)), (5, (vI r_29)), (0, (vR 9 l0)), (1, (vI l1)), (2, (vI l2)), (3, (vI l3)), (4, (vI l4))], [(vI (-1)), (vI r_46)], R, M_47, 174)) (cs := []) (by rfl) trivial (Nat.le_refl _) ?_
                    rcases xif_ex h with ⟨c_49, h⟩ | ⟨c_49, h⟩
                    · skip
                      refine s_X_rowOf [(120, .if_icmp .ne 12, 0, (-1)), (123, .aload_n 0, 0, 0), (124, .bipush 6, 0, 6)] (by decide +kernel) (z' := (126, [(6, (vI r_46)), (5, (vI r_29)), (0, (vR 9 l0)), (1, (vI l1)), (2, (vI l2)), (3, (vI l3)), (4, (vI l4))], [(vI 6), (vR 9 l0)], R, M_47, 174)) (cs := [¬ (r_46 ≠ -1)]) (by rfl) ⟨fun q => q c_49, trivial⟩ (Nat.le_refl _) ?_
                      obtain ⟨r_50, M_51, e_52, h⟩ := xb2_ex h
                      refine XR.callV 9 rfl (rest := []) m_X_refuse k_9_105 9 l0 (Or.inl ⟨by decide, rfl⟩) [(vI 6)] rfl rfl (c_X_refuse e_52) (by decide) (Nat.le_of_ble_eq_true rfl) (by decide +kernel) (Nat.le_refl _) (Nat.le_refl _) ?_
                      show XR false 3 174 sc y_X_rowOf (129, [(6, (vI r_46)), (5, (vI r_29)), (0, (vR 9 l0)), (1, (vI l1)), (2, (vI l2)), (3, (vI l3)), (4, (vI l4))], [(vI r_50)], R, M_51, 174) _
                      refine s_X_rowOf [(129, .goto 9, 0, 138)] (by decide +kernel) (z' := (138, [(6, (vI r_46)), (5, (vI r_29)), (0, (vR 9 l0)), (1, (vI l1)), (2, (vI l2)), (3, (vI l3)), (4, (vI l4))], [(vI r_50)], R, M_51, 174)) (cs := []) (by rfl) trivial (Nat.le_refl _) ?_
                      obtain rfl := Option.some.inj h
                      exact XR.retI .int rfl rfl (by decide +kernel)
                    · skip
                      refine s_X_rowOf [(120, .if_icmp .ne 12, 0, 132), (132, .aload_n 0, 0, 0), (133, .iload 6, 0, 0)] (by decide +kernel) (z' := (135, [(6, (vI r_46)), (5, (vI r_29)), (0, (vR 9 l0)), (1, (vI l1)), (2, (vI l2)), (3, (vI l3)), (4, (vI l4))], [(vI r_46), (vR 9 l0)], R, M_47, 174)) (cs := [r_46 ≠ -1]) (by rfl) ⟨c_49, trivial⟩ (Nat.le_refl _) ?_
                      obtain ⟨r_53, M_54, e_55, h⟩ := xb2_ex h
                      refine XR.callV 9 rfl (rest := []) m_X_answer k_9_156 9 l0 (Or.inl ⟨by decide, rfl⟩) [(vI r_46)] rfl rfl (c_X_answer e_55) (by decide) (Nat.le_of_ble_eq_true rfl) (by decide +kernel) (Nat.le_refl _) (Nat.le_refl _) ?_
                      show XR false 3 174 sc y_X_rowOf (138, [(6, (vI r_46)), (5, (vI r_29)), (0, (vR 9 l0)), (1, (vI l1)), (2, (vI l2)), (3, (vI l3)), (4, (vI l4))], [(vI r_53)], R, M_54, 174) _
                      obtain rfl := Option.some.inj h
                      exact XR.retI .int rfl rfl (by decide +kernel)
              · skip
                refine s_X_rowOf [(58, .ifCond .eq 10, 0, (-1)), (61, .aload_n 0, 0, 0), (62, .iload 5, 0, 0)] (by decide +kernel) (z' := (64, [(5, (vI r_29)), (0, (vR 9 l0)), (1, (vI l1)), (2, (vI l2)), (3, (vI l3)), (4, (vI l4))], [(vI r_29), (vR 9 l0)], R, M, 174)) (cs := [¬ (r_29 = 0)]) (by rfl) ⟨c_31, trivial⟩ (Nat.le_refl _) ?_
                obtain ⟨r_56, M_57, e_58, h⟩ := xb2_ex h
                refine XR.callV 9 rfl (rest := []) m_X_refuse k_9_105 9 l0 (Or.inl ⟨by decide, rfl⟩) [(vI r_29)] rfl rfl (c_X_refuse e_58) (by decide) (Nat.le_of_ble_eq_true rfl) (by decide +kernel) (Nat.le_refl _) (Nat.le_refl _) ?_
                show XR false 3 174 sc y_X_rowOf (67, [(5, (vI r_29)), (0, (vR 9 l0)), (1, (vI l1)), (2, (vI l2)), (3, (vI l3)), (4, (vI l4))], [(vI r_56)], R, M_57, 174) _
                obtain rfl := Option.some.inj h
                exact XR.retI .int rfl rfl (by decide +kernel)
set_option maxRecDepth 100000 in
set_option maxHeartbeats 4000000 in
theorem c_X_rowOf {sc : List Int} {R : xR} {M : xM} {l0 : Nat} {l1 : Int} {l2 : Int} {l3 : Int} {l4 : Int} {out : Int × xM} (h : f_X_rowOf R l0 l1 l2 l3 l4 M = some out) : XC false 3 sc y_X_rowOf [(vR 9 l0), (vI l1), (vI l2), (vI l3), (vI l4)] R M 174 174 ((some (vI out.1)), R, out.2) := XC.of (by decide) (Nat.le_of_ble_eq_true rfl) (Nat.le_refl _) (Nat.le_refl _) (o_X_rowOf h)
def f_X_status (l0 : Nat) (M : xM) : Option Int :=
  some (M l0 0)
set_option maxRecDepth 100000 in
set_option maxHeartbeats 4000000 in
theorem s_X_status {d : Nat} {sc : List Int} {z z' : xS} {out : xO} (qs : List xI) {cs : List Prop} (hq : qs.all (xqb 9 false y_X_status.2.2.1 y_X_status.2.1) = true) (h : xN false sc qs z = some (z', cs)) (hc : xAll cs) (hE : z'.2.2.2.2.2 ≤ 174) (k : XR false d 174 sc y_X_status z' out) : XR false d 174 sc y_X_status z out := XR.seg 9 false rfl (fun q => by cases q) qs hq h hc hE k
set_option maxRecDepth 100000 in
set_option maxHeartbeats 4000000 in
theorem o_X_status {sc : List Int} {R : xR} {M : xM} {l0 : Nat} {out : Int} (h : f_X_status l0 M = some out) : XR false 0 174 sc y_X_status (0, [(0, (vR 9 l0))], [], R, M, 174) ((some (vI out)), R, M) := by
  unfold f_X_status at h
  refine s_X_status [(0, .aload_n 0, 0, 0), (1, .getfield 9, 9, 0)] (by decide +kernel) (z' := (4, [(0, (vR 9 l0))], [(vI (M l0 0))], R, M, 174)) (cs := []) (by rfl) trivial (Nat.le_refl _) ?_
  obtain rfl := Option.some.inj h
  exact XR.retI .int rfl rfl (by decide +kernel)
set_option maxRecDepth 100000 in
set_option maxHeartbeats 4000000 in
theorem c_X_status {sc : List Int} {R : xR} {M : xM} {l0 : Nat} {out : Int} (h : f_X_status l0 M = some out) : XC false 0 sc y_X_status [(vR 9 l0)] R M 174 174 ((some (vI out)), R, M) := XC.of (by decide) (Nat.le_of_ble_eq_true rfl) (Nat.le_refl _) (Nat.le_refl _) (o_X_status h)
def f_X_torn (R : xR) (l0 : Nat) (l1 : Int) (l2 : Int) (l3 : Int) (l4 : Int) (M : xM) : Option (Int × xM) :=
  xb1 (f_X_isTray l1) fun r_1 =>
  if r_1 = 0 then
    xb2 (f_X_refuse l0 1 M) fun r_4 M_5 =>
    some (r_4, M_5)
  else
    xb1 (f_X_isHour l2) fun r_7 =>
    if r_7 = 0 then
      xb2 (f_X_refuse l0 1 M) fun r_10 M_11 =>
      some (r_10, M_11)
    else
      if l3 < 1 then
        xb2 (f_X_refuse l0 1 M) fun r_14 M_15 =>
        some (r_14, M_15)
      else
        if 24 < l3 then
          xb2 (f_X_refuse l0 1 M) fun r_18 M_19 =>
          some (r_18, M_19)
        else
          if 48 < w32 (l2 + l3) then
            xb2 (f_X_refuse l0 1 M) fun r_22 M_23 =>
            some (r_22, M_23)
          else
            xb1 (f_X_isSpan l4) fun r_25 =>
            if r_25 = 0 then
              xb2 (f_X_refuse l0 1 M) fun r_28 M_29 =>
              some (r_28, M_29)
            else
              xb1 (f_X_rowStatus R l0 l1 l3 M) fun r_31 =>
              if r_31 = 0 then
                xb1 (f_X_freshen R l0 M) fun M_34 =>
                xb1 (f_H_takeUps R (R l0 10) (R l0 2) l1 l2 l3 l4 M_34) fun M_36 =>
                xb2 (f_H_countHoles R (R l0 10) (R l0 8) (R l0 3) (R l0 7) M_36) fun r_38 M_39 =>
                xb2 (f_X_answer l0 r_38 M_39) fun r_41 M_42 =>
                some (r_41, M_42)
              else
                xb2 (f_X_refuse l0 r_31 M) fun r_44 M_45 =>
                some (r_44, M_45)
set_option maxRecDepth 100000 in
set_option maxHeartbeats 4000000 in
theorem s_X_torn {d : Nat} {sc : List Int} {z z' : xS} {out : xO} (qs : List xI) {cs : List Prop} (hq : qs.all (xqb 9 false y_X_torn.2.2.1 y_X_torn.2.1) = true) (h : xN false sc qs z = some (z', cs)) (hc : xAll cs) (hE : z'.2.2.2.2.2 ≤ 174) (k : XR false d 174 sc y_X_torn z' out) : XR false d 174 sc y_X_torn z out := XR.seg 9 false rfl (fun q => by cases q) qs hq h hc hE k
set_option maxRecDepth 100000 in
set_option maxHeartbeats 4000000 in
theorem o_X_torn {sc : List Int} {R : xR} {M : xM} {l0 : Nat} {l1 : Int} {l2 : Int} {l3 : Int} {l4 : Int} {out : Int × xM} (h : f_X_torn R l0 l1 l2 l3 l4 M = some out) : XR false 7 174 sc y_X_torn (0, [(0, (vR 9 l0)), (1, (vI l1)), (2, (vI l2)), (3, (vI l3)), (4, (vI l4))], [], R, M, 174) ((some (vI out.1)), R, out.2) := by
  unfold f_X_torn at h
  refine s_X_torn [(0, .iload_n 1, 0, 0)] (by decide +kernel) (z' := (1, [(0, (vR 9 l0)), (1, (vI l1)), (2, (vI l2)), (3, (vI l3)), (4, (vI l4))], [(vI l1)], R, M, 174)) (cs := []) (by rfl) trivial (Nat.le_refl _) ?_
  obtain ⟨r_1, e_2, h⟩ := xb1_ex h
  refine XR.callS 9 rfl (rest := []) m_X_isTray k_9_82 [(vI l1)] rfl rfl (c_X_isTray e_2) (by decide) (Nat.le_of_ble_eq_true rfl) (by decide +kernel) (Nat.le_refl _) (Nat.le_refl _) ?_
  show XR false 7 174 sc y_X_torn (4, [(0, (vR 9 l0)), (1, (vI l1)), (2, (vI l2)), (3, (vI l3)), (4, (vI l4))], [(vI r_1)], R, M, 174) _
  rcases xif_ex h with ⟨c_3, h⟩ | ⟨c_3, h⟩
  · skip
    refine s_X_torn [(4, .ifCond .eq 37, 0, 41), (41, .aload_n 0, 0, 0), (42, .iconst 1, 0, 1)] (by decide +kernel) (z' := (43, [(0, (vR 9 l0)), (1, (vI l1)), (2, (vI l2)), (3, (vI l3)), (4, (vI l4))], [(vI 1), (vR 9 l0)], R, M, 174)) (cs := [r_1 = 0]) (by rfl) ⟨c_3, trivial⟩ (Nat.le_refl _) ?_
    obtain ⟨r_4, M_5, e_6, h⟩ := xb2_ex h
    refine XR.callV 9 rfl (rest := []) m_X_refuse k_9_105 9 l0 (Or.inl ⟨by decide, rfl⟩) [(vI 1)] rfl rfl (c_X_refuse e_6) (by decide) (Nat.le_of_ble_eq_true rfl) (by decide +kernel) (Nat.le_refl _) (Nat.le_refl _) ?_
    show XR false 7 174 sc y_X_torn (46, [(0, (vR 9 l0)), (1, (vI l1)), (2, (vI l2)), (3, (vI l3)), (4, (vI l4))], [(vI r_4)], R, M_5, 174) _
    obtain rfl := Option.some.inj h
    exact XR.retI .int rfl rfl (by decide +kernel)
  · skip
    refine s_X_torn [(4, .ifCond .eq 37, 0, (-1)), (7, .iload_n 2, 0, 0)] (by decide +kernel) (z' := (8, [(0, (vR 9 l0)), (1, (vI l1)), (2, (vI l2)), (3, (vI l3)), (4, (vI l4))], [(vI l2)], R, M, 174)) (cs := [¬ (r_1 = 0)]) (by rfl) ⟨c_3, trivial⟩ (Nat.le_refl _) ?_
    obtain ⟨r_7, e_8, h⟩ := xb1_ex h
    refine XR.callS 9 rfl (rest := []) m_X_isHour k_9_190 [(vI l2)] rfl rfl (c_X_isHour e_8) (by decide) (Nat.le_of_ble_eq_true rfl) (by decide +kernel) (Nat.le_refl _) (Nat.le_refl _) ?_
    show XR false 7 174 sc y_X_torn (11, [(0, (vR 9 l0)), (1, (vI l1)), (2, (vI l2)), (3, (vI l3)), (4, (vI l4))], [(vI r_7)], R, M, 174) _
    rcases xif_ex h with ⟨c_9, h⟩ | ⟨c_9, h⟩
    · skip
      refine s_X_torn [(11, .ifCond .eq 30, 0, 41), (41, .aload_n 0, 0, 0), (42, .iconst 1, 0, 1)] (by decide +kernel) (z' := (43, [(0, (vR 9 l0)), (1, (vI l1)), (2, (vI l2)), (3, (vI l3)), (4, (vI l4))], [(vI 1), (vR 9 l0)], R, M, 174)) (cs := [r_7 = 0]) (by rfl) ⟨c_9, trivial⟩ (Nat.le_refl _) ?_
      obtain ⟨r_10, M_11, e_12, h⟩ := xb2_ex h
      refine XR.callV 9 rfl (rest := []) m_X_refuse k_9_105 9 l0 (Or.inl ⟨by decide, rfl⟩) [(vI 1)] rfl rfl (c_X_refuse e_12) (by decide) (Nat.le_of_ble_eq_true rfl) (by decide +kernel) (Nat.le_refl _) (Nat.le_refl _) ?_
      show XR false 7 174 sc y_X_torn (46, [(0, (vR 9 l0)), (1, (vI l1)), (2, (vI l2)), (3, (vI l3)), (4, (vI l4))], [(vI r_10)], R, M_11, 174) _
      obtain rfl := Option.some.inj h
      exact XR.retI .int rfl rfl (by decide +kernel)
    · skip
      refine s_X_torn [(11, .ifCond .eq 30, 0, (-1)), (14, .iload_n 3, 0, 0), (15, .iconst 1, 0, 1)] (by decide +kernel) (z' := (16, [(0, (vR 9 l0)), (1, (vI l1)), (2, (vI l2)), (3, (vI l3)), (4, (vI l4))], [(vI 1), (vI l3)], R, M, 174)) (cs := [¬ (r_7 = 0)]) (by rfl) ⟨c_9, trivial⟩ (Nat.le_refl _) ?_
      rcases xif_ex h with ⟨c_13, h⟩ | ⟨c_13, h⟩
      · skip
        refine s_X_torn [(16, .if_icmp .lt 25, 0, 41), (41, .aload_n 0, 0, 0), (42, .iconst 1, 0, 1)] (by decide +kernel) (z' := (43, [(0, (vR 9 l0)), (1, (vI l1)), (2, (vI l2)), (3, (vI l3)), (4, (vI l4))], [(vI 1), (vR 9 l0)], R, M, 174)) (cs := [l3 < 1]) (by rfl) ⟨c_13, trivial⟩ (Nat.le_refl _) ?_
        obtain ⟨r_14, M_15, e_16, h⟩ := xb2_ex h
        refine XR.callV 9 rfl (rest := []) m_X_refuse k_9_105 9 l0 (Or.inl ⟨by decide, rfl⟩) [(vI 1)] rfl rfl (c_X_refuse e_16) (by decide) (Nat.le_of_ble_eq_true rfl) (by decide +kernel) (Nat.le_refl _) (Nat.le_refl _) ?_
        show XR false 7 174 sc y_X_torn (46, [(0, (vR 9 l0)), (1, (vI l1)), (2, (vI l2)), (3, (vI l3)), (4, (vI l4))], [(vI r_14)], R, M_15, 174) _
        obtain rfl := Option.some.inj h
        exact XR.retI .int rfl rfl (by decide +kernel)
      · skip
        refine s_X_torn [(16, .if_icmp .lt 25, 0, (-1)), (19, .iload_n 3, 0, 0), (20, .bipush 24, 0, 24)] (by decide +kernel) (z' := (22, [(0, (vR 9 l0)), (1, (vI l1)), (2, (vI l2)), (3, (vI l3)), (4, (vI l4))], [(vI 24), (vI l3)], R, M, 174)) (cs := [¬ (l3 < 1)]) (by rfl) ⟨c_13, trivial⟩ (Nat.le_refl _) ?_
        rcases xif_ex h with ⟨c_17, h⟩ | ⟨c_17, h⟩
        · skip
          refine s_X_torn [(22, .if_icmp .gt 19, 0, 41), (41, .aload_n 0, 0, 0), (42, .iconst 1, 0, 1)] (by decide +kernel) (z' := (43, [(0, (vR 9 l0)), (1, (vI l1)), (2, (vI l2)), (3, (vI l3)), (4, (vI l4))], [(vI 1), (vR 9 l0)], R, M, 174)) (cs := [24 < l3]) (by rfl) ⟨c_17, trivial⟩ (Nat.le_refl _) ?_
          obtain ⟨r_18, M_19, e_20, h⟩ := xb2_ex h
          refine XR.callV 9 rfl (rest := []) m_X_refuse k_9_105 9 l0 (Or.inl ⟨by decide, rfl⟩) [(vI 1)] rfl rfl (c_X_refuse e_20) (by decide) (Nat.le_of_ble_eq_true rfl) (by decide +kernel) (Nat.le_refl _) (Nat.le_refl _) ?_
          show XR false 7 174 sc y_X_torn (46, [(0, (vR 9 l0)), (1, (vI l1)), (2, (vI l2)), (3, (vI l3)), (4, (vI l4))], [(vI r_18)], R, M_19, 174) _
          obtain rfl := Option.some.inj h
          exact XR.retI .int rfl rfl (by decide +kernel)
        · skip
          refine s_X_torn [(22, .if_icmp .gt 19, 0, (-1)), (25, .iload_n 2, 0, 0), (26, .iload_n 3, 0, 0), (27, .iadd, 0, 0), (28, .bipush 48, 0, 48)] (by decide +kernel) (z' := (30, [(0, (vR 9 l0)), (1, (vI l1)), (2, (vI l2)), (3, (vI l3)), (4, (vI l4))], [(vI 48), (vI (w32 (l2 + l3)))], R, M, 174)) (cs := [¬ (24 < l3)]) (by rfl) ⟨c_17, trivial⟩ (Nat.le_refl _) ?_
          rcases xif_ex h with ⟨c_21, h⟩ | ⟨c_21, h⟩
          · skip
            refine s_X_torn [(30, .if_icmp .gt 11, 0, 41), (41, .aload_n 0, 0, 0), (42, .iconst 1, 0, 1)] (by decide +kernel) (z' := (43, [(0, (vR 9 l0)), (1, (vI l1)), (2, (vI l2)), (3, (vI l3)), (4, (vI l4))], [(vI 1), (vR 9 l0)], R, M, 174)) (cs := [48 < w32 (l2 + l3)]) (by rfl) ⟨c_21, trivial⟩ (Nat.le_refl _) ?_
            obtain ⟨r_22, M_23, e_24, h⟩ := xb2_ex h
            refine XR.callV 9 rfl (rest := []) m_X_refuse k_9_105 9 l0 (Or.inl ⟨by decide, rfl⟩) [(vI 1)] rfl rfl (c_X_refuse e_24) (by decide) (Nat.le_of_ble_eq_true rfl) (by decide +kernel) (Nat.le_refl _) (Nat.le_refl _) ?_
            show XR false 7 174 sc y_X_torn (46, [(0, (vR 9 l0)), (1, (vI l1)), (2, (vI l2)), (3, (vI l3)), (4, (vI l4))], [(vI r_22)], R, M_23, 174) _
            obtain rfl := Option.some.inj h
            exact XR.retI .int rfl rfl (by decide +kernel)
          · skip
            refine s_X_torn [(30, .if_icmp .gt 11, 0, (-1)), (33, .iload 4, 0, 0)] (by decide +kernel) (z' := (35, [(0, (vR 9 l0)), (1, (vI l1)), (2, (vI l2)), (3, (vI l3)), (4, (vI l4))], [(vI l4)], R, M, 174)) (cs := [¬ (48 < w32 (l2 + l3))]) (by rfl) ⟨c_21, trivial⟩ (Nat.le_refl _) ?_
            obtain ⟨r_25, e_26, h⟩ := xb1_ex h
            refine XR.callS 9 rfl (rest := []) m_X_isSpan k_9_271 [(vI l4)] rfl rfl (c_X_isSpan e_26) (by decide) (Nat.le_of_ble_eq_true rfl) (by decide +kernel) (Nat.le_refl _) (Nat.le_refl _) ?_
            show XR false 7 174 sc y_X_torn (38, [(0, (vR 9 l0)), (1, (vI l1)), (2, (vI l2)), (3, (vI l3)), (4, (vI l4))], [(vI r_25)], R, M, 174) _
            rcases xif_ex h with ⟨c_27, h⟩ | ⟨c_27, h⟩
            · skip
              refine s_X_torn [(38, .ifCond .ne 9, 0, (-1)), (41, .aload_n 0, 0, 0), (42, .iconst 1, 0, 1)] (by decide +kernel) (z' := (43, [(0, (vR 9 l0)), (1, (vI l1)), (2, (vI l2)), (3, (vI l3)), (4, (vI l4))], [(vI 1), (vR 9 l0)], R, M, 174)) (cs := [¬ (r_25 ≠ 0)]) (by rfl) ⟨fun q => q c_27, trivial⟩ (Nat.le_refl _) ?_
              obtain ⟨r_28, M_29, e_30, h⟩ := xb2_ex h
              refine XR.callV 9 rfl (rest := []) m_X_refuse k_9_105 9 l0 (Or.inl ⟨by decide, rfl⟩) [(vI 1)] rfl rfl (c_X_refuse e_30) (by decide) (Nat.le_of_ble_eq_true rfl) (by decide +kernel) (Nat.le_refl _) (Nat.le_refl _) ?_
              show XR false 7 174 sc y_X_torn (46, [(0, (vR 9 l0)), (1, (vI l1)), (2, (vI l2)), (3, (vI l3)), (4, (vI l4))], [(vI r_28)], R, M_29, 174) _
              obtain rfl := Option.some.inj h
              exact XR.retI .int rfl rfl (by decide +kernel)
            · skip
              refine s_X_torn [(38, .ifCond .ne 9, 0, 47), (47, .aload_n 0, 0, 0), (48, .iload_n 1, 0, 0), (49, .iload_n 3, 0, 0)] (by decide +kernel) (z' := (50, [(0, (vR 9 l0)), (1, (vI l1)), (2, (vI l2)), (3, (vI l3)), (4, (vI l4))], [(vI l3), (vI l1), (vR 9 l0)], R, M, 174)) (cs := [r_25 ≠ 0]) (by rfl) ⟨c_27, trivial⟩ (Nat.le_refl _) ?_
              obtain ⟨r_31, e_32, h⟩ := xb1_ex h
              refine XR.callV 9 rfl (rest := []) m_X_rowStatus k_9_274 9 l0 (Or.inl ⟨by decide, rfl⟩) [(vI l1), (vI l3)] rfl rfl (c_X_rowStatus e_32) (by decide) (Nat.le_of_ble_eq_true rfl) (by decide +kernel) (Nat.le_refl _) (Nat.le_refl _) ?_
              show XR false 7 174 sc y_X_torn (53, [(0, (vR 9 l0)), (1, (vI l1)), (2, (vI l2)), (3, (vI l3)), (4, (vI l4))], [(vI r_31)], R, M, 174) _
              refine s_X_torn [(53, .istore 5, 0, 0), (55, .iload 5, 0, 0)] (by decide +kernel) (z' := (57, [(5, (vI r_31)), (0, (vR 9 l0)), (1, (vI l1)), (2, (vI l2)), (3, (vI l3)), (4, (vI l4))], [(vI r_31)], R, M, 174)) (cs := []) (by rfl) trivial (Nat.le_refl _) ?_
              rcases xif_ex h with ⟨c_33, h⟩ | ⟨c_33, h⟩
              · skip
                refine s_X_torn [(57, .ifCond .eq 10, 0, 67), (67, .aload_n 0, 0, 0)] (by decide +kernel) (z' := (68, [(5, (vI r_31)), (0, (vR 9 l0)), (1, (vI l1)), (2, (vI l2)), (3, (vI l3)), (4, (vI l4))], [(vR 9 l0)], R, M, 174)) (cs := [r_31 = 0]) (by rfl) ⟨c_33, trivial⟩ (Nat.le_refl _) ?_
                obtain ⟨M_34, e_35, h⟩ := xb1_ex h
                refine XR.callV 9 rfl (rest := []) m_X_freshen k_9_276 9 l0 (Or.inl ⟨by decide, rfl⟩) [] rfl rfl (c_X_freshen e_35) (by decide) (Nat.le_of_ble_eq_true rfl) (by decide +kernel) (Nat.le_refl _) (Nat.le_refl _) ?_
                show XR false 7 174 sc y_X_torn (71, [(5, (vI r_31)), (0, (vR 9 l0)), (1, (vI l1)), (2, (vI l2)), (3, (vI l3)), (4, (vI l4))], [], R, M_34, 174) _
                refine s_X_torn [(71, .aload_n 0, 0, 0), (72, .getfield 71, 9, 10), (75, .aload_n 0, 0, 0), (76, .getfield 23, 9, 2), (79, .iload_n 1, 0, 0), (80, .iload_n 2, 0, 0), (81, .iload_n 3, 0, 0), (82, .iload 4, 0, 0)] (by decide +kernel) (z' := (84, [(5, (vI r_31)), (0, (vR 9 l0)), (1, (vI l1)), (2, (vI l2)), (3, (vI l3)), (4, (vI l4))], [(vI l4), (vI l3), (vI l2), (vI l1), (vR 8 (R l0 2)), (vR 2 (R l0 10))], R, M_34, 174)) (cs := []) (by rfl) trivial (Nat.le_refl _) ?_
                obtain ⟨M_36, e_37, h⟩ := xb1_ex h
                refine XR.callV 9 rfl (rest := []) m_H_takeUps k_9_279 2 (R l0 10) (Or.inl ⟨by decide, rfl⟩) [(vR 8 (R l0 2)), (vI l1), (vI l2), (vI l3), (vI l4)] rfl rfl (c_H_takeUps e_37) (by decide) (Nat.le_of_ble_eq_true rfl) (by decide +kernel) (Nat.le_refl _) (Nat.le_refl _) ?_
                show XR false 7 174 sc y_X_torn (87, [(5, (vI r_31)), (0, (vR 9 l0)), (1, (vI l1)), (2, (vI l2)), (3, (vI l3)), (4, (vI l4))], [], R, M_36, 174) _
                refine s_X_torn [(87, .aload_n 0, 0, 0), (88, .aload_n 0, 0, 0), (89, .getfield 71, 9, 10), (92, .aload_n 0, 0, 0), (93, .getfield 57, 9, 8), (96, .aload_n 0, 0, 0), (97, .getfield 30, 9, 3), (100, .aload_n 0, 0, 0), (101, .getfield 50, 9, 7)] (by decide +kernel) (z' := (104, [(5, (vI r_31)), (0, (vR 9 l0)), (1, (vI l1)), (2, (vI l2)), (3, (vI l3)), (4, (vI l4))], [(vR 0 (R l0 7)), (vR 6 (R l0 3)), (vR 1 (R l0 8)), (vR 2 (R l0 10)), (vR 9 l0)], R, M_36, 174)) (cs := []) (by rfl) trivial (Nat.le_refl _) ?_
                obtain ⟨r_38, M_39, e_40, h⟩ := xb2_ex h
                refine XR.callV 9 rfl (rest := [(vR 9 l0)]) m_H_countHoles k_9_283 2 (R l0 10) (Or.inl ⟨by decide, rfl⟩) [(vR 1 (R l0 8)), (vR 6 (R l0 3)), (vR 0 (R l0 7))] rfl rfl (c_H_countHoles e_40) (by decide) (Nat.le_of_ble_eq_true rfl) (by decide +kernel) (Nat.le_refl _) (Nat.le_refl _) ?_
                show XR false 7 174 sc y_X_torn (107, [(5, (vI r_31)), (0, (vR 9 l0)), (1, (vI l1)), (2, (vI l2)), (3, (vI l3)), (4, (vI l4))], [(vI r_38), (vR 9 l0)], R, M_39, 174) _
                obtain ⟨r_41, M_42, e_43, h⟩ := xb2_ex h
                refine XR.callV 9 rfl (rest := []) m_X_answer k_9_156 9 l0 (Or.inl ⟨by decide, rfl⟩) [(vI r_38)] rfl rfl (c_X_answer e_43) (by decide) (Nat.le_of_ble_eq_true rfl) (by decide +kernel) (Nat.le_refl _) (Nat.le_refl _) ?_
                show XR false 7 174 sc y_X_torn (110, [(5, (vI r_31)), (0, (vR 9 l0)), (1, (vI l1)), (2, (vI l2)), (3, (vI l3)), (4, (vI l4))], [(vI r_41)], R, M_42, 174) _
                obtain rfl := Option.some.inj h
                exact XR.retI .int rfl rfl (by decide +kernel)
              · skip
                refine s_X_torn [(57, .ifCond .eq 10, 0, (-1)), (60, .aload_n 0, 0, 0), (61, .iload 5, 0, 0)] (by decide +kernel) (z' := (63, [(5, (vI r_31)), (0, (vR 9 l0)), (1, (vI l1)), (2, (vI l2)), (3, (vI l3)), (4, (vI l4))], [(vI r_31), (vR 9 l0)], R, M, 174)) (cs := [¬ (r_31 = 0)]) (by rfl) ⟨c_33, trivial⟩ (Nat.le_refl _) ?_
                obtain ⟨r_44, M_45, e_46, h⟩ := xb2_ex h
                refine XR.callV 9 rfl (rest := []) m_X_refuse k_9_105 9 l0 (Or.inl ⟨by decide, rfl⟩) [(vI r_31)] rfl rfl (c_X_refuse e_46) (by decide) (Nat.le_of_ble_eq_true rfl) (by decide +kernel) (Nat.le_refl _) (Nat.le_refl _) ?_
                show XR false 7 174 sc y_X_torn (66, [(5, (vI r_31)), (0, (vR 9 l0)), (1, (vI l1)), (2, (vI l2)), (3, (vI l3)), (4, (vI l4))], [(vI r_44)], R, M_45, 174) _
                obtain rfl := Option.some.inj h
                exact XR.retI .int rfl rfl (by decide +kernel)
set_option maxRecDepth 100000 in
set_option maxHeartbeats 4000000 in
theorem c_X_torn {sc : List Int} {R : xR} {M : xM} {l0 : Nat} {l1 : Int} {l2 : Int} {l3 : Int} {l4 : Int} {out : Int × xM} (h : f_X_torn R l0 l1 l2 l3 l4 M = some out) : XC false 7 sc y_X_torn [(vR 9 l0), (vI l1), (vI l2), (vI l3), (vI l4)] R M 174 174 ((some (vI out.1)), R, out.2) := XC.of (by decide) (Nat.le_of_ble_eq_true rfl) (Nat.le_refl _) (Nat.le_refl _) (o_X_torn h)
def f_X_tornTold (R : xR) (l0 : Nat) (l1 : Int) (M : xM) : Option (Int × xM) :=
  if l1 < 0 then
    xb2 (f_X_refuse l0 1 M) fun r_2 M_3 =>
    some (r_2, M_3)
  else
    if 2 < l1 then
      xb2 (f_X_refuse l0 1 M) fun r_6 M_7 =>
      some (r_6, M_7)
    else
      if M (R l0 10) 6 = -1 then
        xb2 (f_X_refuse l0 6 M) fun r_10 M_11 =>
        some (r_10, M_11)
      else
        if l1 = 0 then
          xb2 (f_X_answer l0 (M (R l0 10) 6) M) fun r_14 M_15 =>
          some (r_14, M_15)
        else
          if l1 = 1 then
            xb2 (f_X_answer l0 (M (R l0 10) 7) M) fun r_18 M_19 =>
            some (r_18, M_19)
          else
            xb2 (f_X_answer l0 (M (R l0 10) 8) M) fun r_21 M_22 =>
            some (r_21, M_22)
set_option maxRecDepth 100000 in
set_option maxHeartbeats 4000000 in
theorem s_X_tornTold {d : Nat} {sc : List Int} {z z' : xS} {out : xO} (qs : List xI) {cs : List Prop} (hq : qs.all (xqb 9 false y_X_tornTold.2.2.1 y_X_tornTold.2.1) = true) (h : xN false sc qs z = some (z', cs)) (hc : xAll cs) (hE : z'.2.2.2.2.2 ≤ 174) (k : XR false d 174 sc y_X_tornTold z' out) : XR false d 174 sc y_X_tornTold z out := XR.seg 9 false rfl (fun q => by cases q) qs hq h hc hE k
set_option maxRecDepth 100000 in
set_option maxHeartbeats 4000000 in
theorem o_X_tornTold {sc : List Int} {R : xR} {M : xM} {l0 : Nat} {l1 : Int} {out : Int × xM} (h : f_X_tornTold R l0 l1 M = some out) : XR false 1 174 sc y_X_tornTold (0, [(0, (vR 9 l0)), (1, (vI l1))], [], R, M, 174) ((some (vI out.1)), R, out.2) := by
  unfold f_X_tornTold at h
  refine s_X_tornTold [(0, .iload_n 1, 0, 0)] (by decide +kernel) (z' := (1, [(0, (vR 9 l0)), (1, (vI l1))], [(vI l1)], R, M, 174)) (cs := []) (by rfl) trivial (Nat.le_refl _) ?_
  rcases xif_ex h with ⟨c_1, h⟩ | ⟨c_1, h⟩
  · skip
    refine s_X_tornTold [(1, .ifCond .lt 8, 0, 9), (9, .aload_n 0, 0, 0), (10, .iconst 1, 0, 1)] (by decide +kernel) (z' := (11, [(0, (vR 9 l0)), (1, (vI l1))], [(vI 1), (vR 9 l0)], R, M, 174)) (cs := [l1 < 0]) (by rfl) ⟨c_1, trivial⟩ (Nat.le_refl _) ?_
    obtain ⟨r_2, M_3, e_4, h⟩ := xb2_ex h
    refine XR.callV 9 rfl (rest := []) m_X_refuse k_9_105 9 l0 (Or.inl ⟨by decide, rfl⟩) [(vI 1)] rfl rfl (c_X_refuse e_4) (by decide) (Nat.le_of_ble_eq_true rfl) (by decide +kernel) (Nat.le_refl _) (Nat.le_refl _) ?_
    show XR false 1 174 sc y_X_tornTold (14, [(0, (vR 9 l0)), (1, (vI l1))], [(vI r_2)], R, M_3, 174) _
    obtain rfl := Option.some.inj h
    exact XR.retI .int rfl rfl (by decide +kernel)
  · skip
    refine s_X_tornTold [(1, .ifCond .lt 8, 0, (-1)), (4, .iload_n 1, 0, 0), (5, .iconst 2, 0, 2)] (by decide +kernel) (z' := (6, [(0, (vR 9 l0)), (1, (vI l1))], [(vI 2), (vI l1)], R, M, 174)) (cs := [¬ (l1 < 0)]) (by rfl) ⟨c_1, trivial⟩ (Nat.le_refl _) ?_
    rcases xif_ex h with ⟨c_5, h⟩ | ⟨c_5, h⟩
    · skip
      refine s_X_tornTold [(6, .if_icmp .le 9, 0, (-1)), (9, .aload_n 0, 0, 0), (10, .iconst 1, 0, 1)] (by decide +kernel) (z' := (11, [(0, (vR 9 l0)), (1, (vI l1))], [(vI 1), (vR 9 l0)], R, M, 174)) (cs := [¬ (l1 ≤ 2)]) (by rfl) ⟨Int.not_le.mpr c_5, trivial⟩ (Nat.le_refl _) ?_
      obtain ⟨r_6, M_7, e_8, h⟩ := xb2_ex h
      refine XR.callV 9 rfl (rest := []) m_X_refuse k_9_105 9 l0 (Or.inl ⟨by decide, rfl⟩) [(vI 1)] rfl rfl (c_X_refuse e_8) (by decide) (Nat.le_of_ble_eq_true rfl) (by decide +kernel) (Nat.le_refl _) (Nat.le_refl _) ?_
      show XR false 1 174 sc y_X_tornTold (14, [(0, (vR 9 l0)), (1, (vI l1))], [(vI r_6)], R, M_7, 174) _
      obtain rfl := Option.some.inj h
      exact XR.retI .int rfl rfl (by decide +kernel)
    · skip
      refine s_X_tornTold [(6, .if_icmp .le 9, 0, 15), (15, .aload_n 0, 0, 0), (16, .getfield 71, 9, 10), (19, .getfield 287, 2, 6), (22, .iconst (-1), 0, (-1))] (by decide +kernel) (z' := (23, [(0, (vR 9 l0)), (1, (vI l1))], [(vI (-1)), (vI (M (R l0 10) 6))], R, M, 174)) (cs := [l1 ≤ 2]) (by rfl) ⟨Int.not_lt.mp c_5, trivial⟩ (Nat.le_refl _) ?_
      rcases xif_ex h with ⟨c_9, h⟩ | ⟨c_9, h⟩
      · skip
        refine s_X_tornTold [(23, .if_icmp .ne 10, 0, (-1)), (26, .aload_n 0, 0, 0), (27, .bipush 6, 0, 6)] (by decide +kernel) (z' := (29, [(0, (vR 9 l0)), (1, (vI l1))], [(vI 6), (vR 9 l0)], R, M, 174)) (cs := [¬ (M (R l0 10) 6 ≠ -1)]) (by rfl) ⟨fun q => q c_9, trivial⟩ (Nat.le_refl _) ?_
        obtain ⟨r_10, M_11, e_12, h⟩ := xb2_ex h
        refine XR.callV 9 rfl (rest := []) m_X_refuse k_9_105 9 l0 (Or.inl ⟨by decide, rfl⟩) [(vI 6)] rfl rfl (c_X_refuse e_12) (by decide) (Nat.le_of_ble_eq_true rfl) (by decide +kernel) (Nat.le_refl _) (Nat.le_refl _) ?_
        show XR false 1 174 sc y_X_tornTold (32, [(0, (vR 9 l0)), (1, (vI l1))], [(vI r_10)], R, M_11, 174) _
        obtain rfl := Option.some.inj h
        exact XR.retI .int rfl rfl (by decide +kernel)
      · skip
        refine s_X_tornTold [(23, .if_icmp .ne 10, 0, 33), (33, .iload_n 1, 0, 0)] (by decide +kernel) (z' := (34, [(0, (vR 9 l0)), (1, (vI l1))], [(vI l1)], R, M, 174)) (cs := [M (R l0 10) 6 ≠ -1]) (by rfl) ⟨c_9, trivial⟩ (Nat.le_refl _) ?_
        rcases xif_ex h with ⟨c_13, h⟩ | ⟨c_13, h⟩
        · skip
          refine s_X_tornTold [(34, .ifCond .ne 15, 0, (-1)), (37, .aload_n 0, 0, 0), (38, .aload_n 0, 0, 0), (39, .getfield 71, 9, 10), (42, .getfield 287, 2, 6)] (by decide +kernel) (z' := (45, [(0, (vR 9 l0)), (1, (vI l1))], [(vI (M (R l0 10) 6)), (vR 9 l0)], R, M, 174)) (cs := [¬ (l1 ≠ 0)]) (by rfl) ⟨fun q => q c_13, trivial⟩ (Nat.le_refl _) ?_
          obtain ⟨r_14, M_15, e_16, h⟩ := xb2_ex h
          refine XR.callV 9 rfl (rest := []) m_X_answer k_9_156 9 l0 (Or.inl ⟨by decide, rfl⟩) [(vI (M (R l0 10) 6))] rfl rfl (c_X_answer e_16) (by decide) (Nat.le_of_ble_eq_true rfl) (by decide +kernel) (Nat.le_refl _) (Nat.le_refl _) ?_
          show XR false 1 174 sc y_X_tornTold (48, [(0, (vR 9 l0)), (1, (vI l1))], [(vI r_14)], R, M_15, 174) _
          obtain rfl := Option.some.inj h
          exact XR.retI .int rfl rfl (by decide +kernel)
        · skip
          refine s_X_tornTold [(34, .ifCond .ne 15, 0, 49), (49, .aload_n 0, 0, 0), (50, .iload_n 1, 0, 0), (51, .iconst 1, 0, 1)] (by decide +kernel) (z' := (52, [(0, (vR 9 l0)), (1, (vI l1))], [(vI 1), (vI l1), (vR 9 l0)], R, M, 174)) (cs := [l1 ≠ 0]) (by rfl) ⟨c_13, trivial⟩ (Nat.le_refl _) ?_
          rcases xif_ex h with ⟨c_17, h⟩ | ⟨c_17, h⟩
          · skip
            refine s_X_tornTold [(52, .if_icmp .ne 13, 0, (-1)), (55, .aload_n 0, 0, 0), (56, .getfield 71, 9, 10), (59, .getfield 290, 2, 7), (62, .goto 10, 0, 72)] (by decide +kernel) (z' := (72, [(0, (vR 9 l0)), (1, (vI l1))], [(vI (M (R l0 10) 7)), (vR 9 l0)], R, M, 174)) (cs := [¬ (l1 ≠ 1)]) (by rfl) ⟨fun q => q c_17, trivial⟩ (Nat.le_refl _) ?_
            obtain ⟨r_18, M_19, e_20, h⟩ := xb2_ex h
            refine XR.callV 9 rfl (rest := []) m_X_answer k_9_156 9 l0 (Or.inl ⟨by decide, rfl⟩) [(vI (M (R l0 10) 7))] rfl rfl (c_X_answer e_20) (by decide) (Nat.le_of_ble_eq_true rfl) (by decide +kernel) (Nat.le_refl _) (Nat.le_refl _) ?_
            show XR false 1 174 sc y_X_tornTold (75, [(0, (vR 9 l0)), (1, (vI l1))], [(vI r_18)], R, M_19, 174) _
            obtain rfl := Option.some.inj h
            exact XR.retI .int rfl rfl (by decide +kernel)
          · skip
            refine s_X_tornTold [(52, .if_icmp .ne 13, 0, 65), (65, .aload_n 0, 0, 0), (66, .getfield 71, 9, 10), (69, .getfield 293, 2, 8)] (by decide +kernel) (z' := (72, [(0, (vR 9 l0)), (1, (vI l1))], [(vI (M (R l0 10) 8)), (vR 9 l0)], R, M, 174)) (cs := [l1 ≠ 1]) (by rfl) ⟨c_17, trivial⟩ (Nat.le_refl _) ?_
            obtain ⟨r_21, M_22, e_23, h⟩ := xb2_ex h
            refine XR.callV 9 rfl (rest := []) m_X_answer k_9_156 9 l0 (Or.inl ⟨by decide, rfl⟩) [(vI (M (R l0 10) 8))] rfl rfl (c_X_answer e_23) (by decide) (Nat.le_of_ble_eq_true rfl) (by decide +kernel) (Nat.le_refl _) (Nat.le_refl _) ?_
            show XR false 1 174 sc y_X_tornTold (75, [(0, (vR 9 l0)), (1, (vI l1))], [(vI r_21)], R, M_22, 174) _
            obtain rfl := Option.some.inj h
            exact XR.retI .int rfl rfl (by decide +kernel)
set_option maxRecDepth 100000 in
set_option maxHeartbeats 4000000 in
theorem c_X_tornTold {sc : List Int} {R : xR} {M : xM} {l0 : Nat} {l1 : Int} {out : Int × xM} (h : f_X_tornTold R l0 l1 M = some out) : XC false 1 sc y_X_tornTold [(vR 9 l0), (vI l1)] R M 174 174 ((some (vI out.1)), R, out.2) := XC.of (by decide) (Nat.le_of_ble_eq_true rfl) (Nat.le_refl _) (Nat.le_refl _) (o_X_tornTold h)
