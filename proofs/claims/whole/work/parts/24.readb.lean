def f_L_readBounds (R : xR) (l0 : Nat) (l1 : Nat) (l2 : Int) (M : xM) : Option (Int × xM) :=
  xb2 (f_A_takeKey R l1 6 M) fun r_1 M_2 =>
  if r_1 = 0 then
    some (0, M_2)
  else
    xb2 (f_A_takeNumber R l1 1 24 6 M_2) fun r_5 M_6 =>
    if r_5 = 0 then
      some (0, M_6)
    else
      xch (0 ≤ l2 ∧ l2 < 8) <|
      xl (xu M_6 (R l0 4) (Int.toNat l2) (M_6 l1 11)) fun M_10 =>
      xb2 (f_A_takeKey R l1 7 M_10) fun r_11 M_12 =>
      if r_11 = 0 then
        some (0, M_12)
      else
        xb2 (f_A_takeNumber R l1 0 9999 6 M_12) fun r_15 M_16 =>
        if r_15 = 0 then
          some (0, M_16)
        else
          xl (xu M_16 (R l0 5) (Int.toNat l2) (M_16 l1 11)) fun M_19 =>
          some (1, M_19)
set_option maxRecDepth 100000 in
set_option maxHeartbeats 4000000 in
theorem s_L_readBounds {d : Nat} {sc : List Int} {z z' : xS} {out : xO} (qs : List xI) {cs : List Prop} (hq : qs.all (xqb 3 false y_L_readBounds.2.2.1 y_L_readBounds.2.1) = true) (h : xN false sc qs z = some (z', cs)) (hc : xAll cs) (hE : z'.2.2.2.2.2 ≤ 174) (k : XR false d 174 sc y_L_readBounds z' out) : XR false d 174 sc y_L_readBounds z out := XR.seg 3 false rfl (fun q => by cases q) qs hq h hc hE k
set_option maxRecDepth 100000 in
set_option maxHeartbeats 4000000 in
theorem o_L_readBounds {sc : List Int} {R : xR} {M : xM} {l0 : Nat} {l1 : Nat} {l2 : Int} {out : Int × xM} (h : f_L_readBounds R l0 l1 l2 M = some out) : XR false 7 174 sc y_L_readBounds (0, [(0, (vR 3 l0)), (1, (vR 7 l1)), (2, (vI l2))], [], R, M, 174) ((some (vI out.1)), R, out.2) := by
  unfold f_L_readBounds at h
  refine s_L_readBounds [(0, .aload_n 1, 0, 0), (1, .bipush 6, 0, 6)] (by decide +kernel) (z' := (3, [(0, (vR 3 l0)), (1, (vR 7 l1)), (2, (vI l2))], [(vI 6), (vR 7 l1)], R, M, 174)) (cs := []) (by rfl) trivial (Nat.le_refl _) ?_
  obtain ⟨r_1, M_2, e_3, h⟩ := xb2_ex h
  refine XR.callV 3 rfl (rest := []) m_A_takeKey k_3_84 7 l1 (Or.inl ⟨by decide, rfl⟩) [(vI 6)] rfl rfl (c_A_takeKey e_3) (by decide) (Nat.le_of_ble_eq_true rfl) (by decide +kernel) (Nat.le_refl _) (Nat.le_refl _) ?_
  show XR false 7 174 sc y_L_readBounds (6, [(0, (vR 3 l0)), (1, (vR 7 l1)), (2, (vI l2))], [(vI r_1)], R, M_2, 174) _
  rcases xif_ex h with ⟨c_4, h⟩ | ⟨c_4, h⟩
  · skip
    refine s_L_readBounds [(6, .ifCond .eq 15, 0, 21), (21, .iconst 0, 0, 0)] (by decide +kernel) (z' := (22, [(0, (vR 3 l0)), (1, (vR 7 l1)), (2, (vI l2))], [(vI 0)], R, M_2, 174)) (cs := [r_1 = 0]) (by rfl) ⟨c_4, trivial⟩ (Nat.le_refl _) ?_
    obtain rfl := Option.some.inj h
    exact XR.retI .boolean rfl (xnar_z (by decide)) (by decide +kernel)
  · skip
    refine s_L_readBounds [(6, .ifCond .eq 15, 0, (-1)), (9, .aload_n 1, 0, 0), (10, .iconst 1, 0, 1), (11, .bipush 24, 0, 24), (13, .bipush 6, 0, 6)] (by decide +kernel) (z' := (15, [(0, (vR 3 l0)), (1, (vR 7 l1)), (2, (vI l2))], [(vI 6), (vI 24), (vI 1), (vR 7 l1)], R, M_2, 174)) (cs := [¬ (r_1 = 0)]) (by rfl) ⟨c_4, trivial⟩ (Nat.le_refl _) ?_
    obtain ⟨r_5, M_6, e_7, h⟩ := xb2_ex h
    refine XR.callV 3 rfl (rest := []) m_A_takeNumber k_3_87 7 l1 (Or.inl ⟨by decide, rfl⟩) [(vI 1), (vI 24), (vI 6)] rfl rfl (c_A_takeNumber e_7) (by decide) (Nat.le_of_ble_eq_true rfl) (by decide +kernel) (Nat.le_refl _) (Nat.le_refl _) ?_
    show XR false 7 174 sc y_L_readBounds (18, [(0, (vR 3 l0)), (1, (vR 7 l1)), (2, (vI l2))], [(vI r_5)], R, M_6, 174) _
    rcases xif_ex h with ⟨c_8, h⟩ | ⟨c_8, h⟩
    · skip
      refine s_L_readBounds [(18, .ifCond .ne 5, 0, (-1)), (21, .iconst 0, 0, 0)] (by decide +kernel) (z' := (22, [(0, (vR 3 l0)), (1, (vR 7 l1)), (2, (vI l2))], [(vI 0)], R, M_6, 174)) (cs := [¬ (r_5 ≠ 0)]) (by rfl) ⟨fun q => q c_8, trivial⟩ (Nat.le_refl _) ?_
      obtain rfl := Option.some.inj h
      exact XR.retI .boolean rfl (xnar_z (by decide)) (by decide +kernel)
    · skip
      obtain ⟨c_9, h⟩ := xch_ex h
      obtain ⟨M_10, hM_10, h⟩ := xl_ex h
      refine s_L_readBounds [(18, .ifCond .ne 5, 0, 23), (23, .aload_n 0, 0, 0), (24, .getfield 26, 3, 4), (27, .iload_n 2, 0, 0), (28, .aload_n 1, 0, 0), (29, .getfield 91, 7, 11), (32, .iastore, 0, 0), (33, .aload_n 1, 0, 0), (34, .bipush 7, 0, 7)] (by decide +kernel) (z' := (36, [(0, (vR 3 l0)), (1, (vR 7 l1)), (2, (vI l2))], [(vI 7), (vR 7 l1)], R, M_10, 174)) (cs := [r_5 ≠ 0, xar 30 0, xidx l2 (xan 30)]) (by subst hM_10; rfl) ⟨c_8, xar_30, xix_30 c_9, trivial⟩ (Nat.le_refl _) ?_
      obtain ⟨r_11, M_12, e_13, h⟩ := xb2_ex h
      refine XR.callV 3 rfl (rest := []) m_A_takeKey k_3_84 7 l1 (Or.inl ⟨by decide, rfl⟩) [(vI 7)] rfl rfl (c_A_takeKey e_13) (by decide) (Nat.le_of_ble_eq_true rfl) (by decide +kernel) (Nat.le_refl _) (Nat.le_refl _) ?_
      show XR false 7 174 sc y_L_readBounds (39, [(0, (vR 3 l0)), (1, (vR 7 l1)), (2, (vI l2))], [(vI r_11)], R, M_12, 174) _
      rcases xif_ex h with ⟨c_14, h⟩ | ⟨c_14, h⟩
      · skip
        refine s_L_readBounds [(39, .ifCond .eq 16, 0, 55), (55, .iconst 0, 0, 0)] (by decide +kernel) (z' := (56, [(0, (vR 3 l0)), (1, (vR 7 l1)), (2, (vI l2))], [(vI 0)], R, M_12, 174)) (cs := [r_11 = 0]) (by rfl) ⟨c_14, trivial⟩ (Nat.le_refl _) ?_
        obtain rfl := Option.some.inj h
        exact XR.retI .boolean rfl (xnar_z (by decide)) (by decide +kernel)
      · skip
        refine s_L_readBounds [(39, .ifCond .eq 16, 0, (-1)), (42, .aload_n 1, 0, 0), (43, .iconst 0, 0, 0), (44, .sipush 9999, 0, 9999), (47, .bipush 6, 0, 6)] (by decide +kernel) (z' := (49, [(0, (vR 3 l0)), (1, (vR 7 l1)), (2, (vI l2))], [(vI 6), (vI 9999), (vI 0), (vR 7 l1)], R, M_12, 174)) (cs := [¬ (r_11 = 0)]) (by rfl) ⟨c_14, trivial⟩ (Nat.le_refl _) ?_
        obtain ⟨r_15, M_16, e_17, h⟩ := xb2_ex h
        refine XR.callV 3 rfl (rest := []) m_A_takeNumber k_3_87 7 l1 (Or.inl ⟨by decide, rfl⟩) [(vI 0), (vI 9999), (vI 6)] rfl rfl (c_A_takeNumber e_17) (by decide) (Nat.le_of_ble_eq_true rfl) (by decide +kernel) (Nat.le_refl _) (Nat.le_refl _) ?_
        show XR false 7 174 sc y_L_readBounds (52, [(0, (vR 3 l0)), (1, (vR 7 l1)), (2, (vI l2))], [(vI r_15)], R, M_16, 174) _
        rcases xif_ex h with ⟨c_18, h⟩ | ⟨c_18, h⟩
        · skip
          refine s_L_readBounds [(52, .ifCond .ne 5, 0, (-1)), (55, .iconst 0, 0, 0)] (by decide +kernel) (z' := (56, [(0, (vR 3 l0)), (1, (vR 7 l1)), (2, (vI l2))], [(vI 0)], R, M_16, 174)) (cs := [¬ (r_15 ≠ 0)]) (by rfl) ⟨fun q => q c_18, trivial⟩ (Nat.le_refl _) ?_
          obtain rfl := Option.some.inj h
          exact XR.retI .boolean rfl (xnar_z (by decide)) (by decide +kernel)
        · skip
          obtain ⟨M_19, hM_19, h⟩ := xl_ex h
          refine s_L_readBounds [(52, .ifCond .ne 5, 0, 57), (57, .aload_n 0, 0, 0), (58, .getfield 29, 3, 5), (61, .iload_n 2, 0, 0), (62, .aload_n 1, 0, 0), (63, .getfield 91, 7, 11), (66, .iastore, 0, 0), (67, .iconst 1, 0, 1)] (by decide +kernel) (z' := (68, [(0, (vR 3 l0)), (1, (vR 7 l1)), (2, (vI l2))], [(vI 1)], R, M_19, 174)) (cs := [r_15 ≠ 0, xar 30 0, xidx l2 (xan 30)]) (by subst hM_19; rfl) ⟨c_18, xar_30, xix_30 c_9, trivial⟩ (Nat.le_refl _) ?_
          obtain rfl := Option.some.inj h
          exact XR.retI .boolean rfl (xnar_z (by decide)) (by decide +kernel)
set_option maxRecDepth 100000 in
set_option maxHeartbeats 4000000 in
theorem c_L_readBounds {sc : List Int} {R : xR} {M : xM} {l0 : Nat} {l1 : Nat} {l2 : Int} {out : Int × xM} (h : f_L_readBounds R l0 l1 l2 M = some out) : XC false 7 sc y_L_readBounds [(vR 3 l0), (vR 7 l1), (vI l2)] R M 174 174 ((some (vI out.1)), R, out.2) := XC.of (by decide) (Nat.le_of_ble_eq_true rfl) (Nat.le_refl _) (Nat.le_refl _) (o_L_readBounds h)
def f_L_readLaw (R : xR) (l0 : Nat) (l1 : Nat) (M : xM) : Option (Int × xM) :=
  xb1 (f_A_isName l1 M) fun r_1 =>
  xb2 (f_A_stands l1 r_1 M) fun r_3 M_4 =>
  if r_3 = 0 then
    some (0, M_4)
  else
    if M_4 l0 0 < 8 then
      xb1 (f_L_isLawName R l0 (M_4 l1 8) M_4) fun r_8 =>
      if r_8 = 0 then
        xl (M_4 l0 0) fun v2_11 =>
        xl (xu M_4 l0 0 (w32 ((M_4 l0 0) + 1))) fun M_12 =>
        xch (0 ≤ v2_11 ∧ v2_11 < 8) <|
        xl (xu M_12 (R l0 1) (Int.toNat v2_11) (M_12 l1 8)) fun M_14 =>
        xl (xu M_14 (R l0 2) (Int.toNat v2_11) (M_14 l0 7)) fun M_15 =>
        xb1 (f_A_advance R l1 M_15) fun M_16 =>
        xb2 (f_A_takeSign R l1 58 M_16) fun r_18 M_19 =>
        if r_18 = 0 then
          some (0, M_19)
        else
          xb2 (f_L_readSum R 10 l0 l1 0 M_19) fun r_22 M_23 =>
          if r_22 = 0 then
            some (0, M_23)
          else
            xl (xu M_23 (R l0 3) (Int.toNat v2_11) (M_23 l0 7)) fun M_26 =>
            xb2 (f_L_readBounds R l0 l1 v2_11 M_26) fun r_27 M_28 =>
            if r_27 = 0 then
              some (0, M_28)
            else
              xb2 (f_A_takeSign R l1 59 M_28) fun r_31 M_32 =>
              if r_31 = 0 then
                some (0, M_32)
              else
                some (1, M_32)
      else
        xb2 (f_A_wrong l1 4 M_4) fun r_35 M_36 =>
        xch (r_35 = 0 ∨ r_35 = 1) <|
        some (r_35, M_36)
    else
      xb2 (f_A_wrong l1 3 M_4) fun r_39 M_40 =>
      xch (r_39 = 0 ∨ r_39 = 1) <|
      some (r_39, M_40)
set_option maxRecDepth 100000 in
set_option maxHeartbeats 4000000 in
theorem s_L_readLaw {d : Nat} {sc : List Int} {z z' : xS} {out : xO} (qs : List xI) {cs : List Prop} (hq : qs.all (xqb 3 false y_L_readLaw.2.2.1 y_L_readLaw.2.1) = true) (h : xN false sc qs z = some (z', cs)) (hc : xAll cs) (hE : z'.2.2.2.2.2 ≤ 174) (k : XR false d 174 sc y_L_readLaw z' out) : XR false d 174 sc y_L_readLaw z out := XR.seg 3 false rfl (fun q => by cases q) qs hq h hc hE k
set_option maxRecDepth 100000 in
set_option maxHeartbeats 4000000 in
theorem o_L_readLaw {sc : List Int} {R : xR} {M : xM} {l0 : Nat} {l1 : Nat} {out : Int × xM} (h : f_L_readLaw R l0 l1 M = some out) : XR false 51 174 sc y_L_readLaw (0, [(0, (vR 3 l0)), (1, (vR 7 l1))], [], R, M, 174) ((some (vI out.1)), R, out.2) := by
  unfold f_L_readLaw at h
  refine s_L_readLaw [(0, .aload_n 1, 0, 0), (1, .aload_n 1, 0, 0)] (by decide +kernel) (z' := (2, [(0, (vR 3 l0)), (1, (vR 7 l1))], [(vR 7 l1), (vR 7 l1)], R, M, 174)) (cs := []) (by rfl) trivial (Nat.le_refl _) ?_
  obtain ⟨r_1, e_2, h⟩ := xb1_ex h
  refine XR.callV 3 rfl (rest := [(vR 7 l1)]) m_A_isName k_3_50 7 l1 (Or.inl ⟨by decide, rfl⟩) [] rfl rfl (c_A_isName e_2) (by decide) (Nat.le_of_ble_eq_true rfl) (by decide +kernel) (Nat.le_refl _) (Nat.le_refl _) ?_
  show XR false 51 174 sc y_L_readLaw (5, [(0, (vR 3 l0)), (1, (vR 7 l1))], [(vI r_1), (vR 7 l1)], R, M, 174) _
  obtain ⟨r_3, M_4, e_5, h⟩ := xb2_ex h
  refine XR.callV 3 rfl (rest := []) m_A_stands k_3_54 7 l1 (Or.inl ⟨by decide, rfl⟩) [(vI r_1)] rfl rfl (c_A_stands e_5) (by decide) (Nat.le_of_ble_eq_true rfl) (by decide +kernel) (Nat.le_refl _) (Nat.le_refl _) ?_
  show XR false 51 174 sc y_L_readLaw (8, [(0, (vR 3 l0)), (1, (vR 7 l1))], [(vI r_3)], R, M_4, 174) _
  rcases xif_ex h with ⟨c_6, h⟩ | ⟨c_6, h⟩
  · skip
    refine s_L_readLaw [(8, .ifCond .ne 5, 0, (-1)), (11, .iconst 0, 0, 0)] (by decide +kernel) (z' := (12, [(0, (vR 3 l0)), (1, (vR 7 l1))], [(vI 0)], R, M_4, 174)) (cs := [¬ (r_3 ≠ 0)]) (by rfl) ⟨fun q => q c_6, trivial⟩ (Nat.le_refl _) ?_
    obtain rfl := Option.some.inj h
    exact XR.retI .boolean rfl (xnar_z (by decide)) (by decide +kernel)
  · skip
    refine s_L_readLaw [(8, .ifCond .ne 5, 0, 13), (13, .aload_n 0, 0, 0), (14, .getfield 9, 3, 0), (17, .bipush 8, 0, 8)] (by decide +kernel) (z' := (19, [(0, (vR 3 l0)), (1, (vR 7 l1))], [(vI 8), (vI (M_4 l0 0))], R, M_4, 174)) (cs := [r_3 ≠ 0]) (by rfl) ⟨c_6, trivial⟩ (Nat.le_refl _) ?_
    rcases xif_ex h with ⟨c_7, h⟩ | ⟨c_7, h⟩
    · skip
      refine s_L_readLaw [(19, .if_icmp .lt 9, 0, 28), (28, .aload_n 0, 0, 0), (29, .aload_n 1, 0, 0), (30, .getfield 62, 7, 8)] (by decide +kernel) (z' := (33, [(0, (vR 3 l0)), (1, (vR 7 l1))], [(vL (M_4 l1 8)), (vR 3 l0)], R, M_4, 174)) (cs := [M_4 l0 0 < 8]) (by rfl) ⟨c_7, trivial⟩ (Nat.le_refl _) ?_
      obtain ⟨r_8, e_9, h⟩ := xb1_ex h
      refine XR.callV 3 rfl (rest := []) m_L_isLawName k_3_66 3 l0 (Or.inl ⟨by decide, rfl⟩) [(vL (M_4 l1 8))] rfl rfl (c_L_isLawName e_9) (by decide) (Nat.le_of_ble_eq_true rfl) (by decide +kernel) (Nat.le_refl _) (Nat.le_refl _) ?_
      show XR false 51 174 sc y_L_readLaw (36, [(0, (vR 3 l0)), (1, (vR 7 l1))], [(vI r_8)], R, M_4, 174) _
      rcases xif_ex h with ⟨c_10, h⟩ | ⟨c_10, h⟩
      · skip
        obtain ⟨v2_11, hv2_11, h⟩ := xl_ex h
        obtain ⟨M_12, hM_12, h⟩ := xl_ex h
        obtain ⟨c_13, h⟩ := xch_ex h
        obtain ⟨M_14, hM_14, h⟩ := xl_ex h
        obtain ⟨M_15, hM_15, h⟩ := xl_ex h
        refine s_L_readLaw [(36, .ifCond .eq 9, 0, 45), (45, .aload_n 0, 0, 0), (46, .getfield 9, 3, 0), (49, .istore_n 2, 0, 0), (50, .aload_n 0, 0, 0), (51, .dup, 0, 0), (52, .getfield 9, 3, 0), (55, .iconst 1, 0, 1), (56, .iadd, 0, 0), (57, .putfield 9, 3, 0), (60, .aload_n 0, 0, 0), (61, .getfield 15, 3, 1), (64, .iload_n 2, 0, 0), (65, .aload_n 1, 0, 0), (66, .getfield 62, 7, 8), (69, .lastore, 0, 0), (70, .aload_n 0, 0, 0), (71, .getfield 19, 3, 2), (74, .iload_n 2, 0, 0), (75, .aload_n 0, 0, 0), (76, .getfield 35, 3, 7), (79, .iastore, 0, 0), (80, .aload_n 1, 0, 0)] (by decide +kernel) (z' := (81, [(2, (vI v2_11)), (0, (vR 3 l0)), (1, (vR 7 l1))], [(vR 7 l1)], R, M_15, 174)) (cs := [r_8 = 0, xar 24 1, xidx v2_11 (xan 24), xar 30 0, xidx v2_11 (xan 30)]) (by subst hv2_11; subst hM_12; subst hM_14; subst hM_15; rfl) ⟨c_10, xar_24, xix_24 c_13, xar_30, xix_30 c_13, trivial⟩ (Nat.le_refl _) ?_
        obtain ⟨M_16, e_17, h⟩ := xb1_ex h
        refine XR.callV 3 rfl (rest := []) m_A_advance k_3_70 7 l1 (Or.inl ⟨by decide, rfl⟩) [] rfl rfl (c_A_advance e_17) (by decide) (Nat.le_of_ble_eq_true rfl) (by decide +kernel) (Nat.le_refl _) (Nat.le_refl _) ?_
        show XR false 51 174 sc y_L_readLaw (84, [(2, (vI v2_11)), (0, (vR 3 l0)), (1, (vR 7 l1))], [], R, M_16, 174) _
        refine s_L_readLaw [(84, .aload_n 1, 0, 0), (85, .bipush 58, 0, 58)] (by decide +kernel) (z' := (87, [(2, (vI v2_11)), (0, (vR 3 l0)), (1, (vR 7 l1))], [(vI 58), (vR 7 l1)], R, M_16, 174)) (cs := []) (by rfl) trivial (Nat.le_refl _) ?_
        obtain ⟨r_18, M_19, e_20, h⟩ := xb2_ex h
        refine XR.callV 3 rfl (rest := []) m_A_takeSign k_3_73 7 l1 (Or.inl ⟨by decide, rfl⟩) [(vI 58)] rfl rfl (c_A_takeSign e_20) (by decide) (Nat.le_of_ble_eq_true rfl) (by decide +kernel) (Nat.le_refl _) (Nat.le_refl _) ?_
        show XR false 51 174 sc y_L_readLaw (90, [(2, (vI v2_11)), (0, (vR 3 l0)), (1, (vR 7 l1))], [(vI r_18)], R, M_19, 174) _
        rcases xif_ex h with ⟨c_21, h⟩ | ⟨c_21, h⟩
        · skip
          refine s_L_readLaw [(90, .ifCond .eq 12, 0, 102), (102, .iconst 0, 0, 0)] (by decide +kernel) (z' := (103, [(2, (vI v2_11)), (0, (vR 3 l0)), (1, (vR 7 l1))], [(vI 0)], R, M_19, 174)) (cs := [r_18 = 0]) (by rfl) ⟨c_21, trivial⟩ (Nat.le_refl _) ?_
          obtain rfl := Option.some.inj h
          exact XR.retI .boolean rfl (xnar_z (by decide)) (by decide +kernel)
        · skip
          refine s_L_readLaw [(90, .ifCond .eq 12, 0, (-1)), (93, .aload_n 0, 0, 0), (94, .aload_n 1, 0, 0), (95, .iconst 0, 0, 0)] (by decide +kernel) (z' := (96, [(2, (vI v2_11)), (0, (vR 3 l0)), (1, (vR 7 l1))], [(vI 0), (vR 7 l1), (vR 3 l0)], R, M_19, 174)) (cs := [¬ (r_18 = 0)]) (by rfl) ⟨c_21, trivial⟩ (Nat.le_refl _) ?_
          obtain ⟨r_22, M_23, e_24, h⟩ := xb2_ex h
          refine XR.callV 3 rfl (rest := []) m_L_readSum k_3_77 3 l0 (Or.inl ⟨by decide, rfl⟩) [(vR 7 l1), (vI 0)] rfl rfl (c_L_readSum e_24) (by decide) (Nat.le_of_ble_eq_true rfl) (by decide +kernel) (Nat.le_refl _) (Nat.le_refl _) ?_
          show XR false 51 174 sc y_L_readLaw (99, [(2, (vI v2_11)), (0, (vR 3 l0)), (1, (vR 7 l1))], [(vI r_22)], R, M_23, 174) _
          rcases xif_ex h with ⟨c_25, h⟩ | ⟨c_25, h⟩
          · skip
            refine s_L_readLaw [(99, .ifCond .ne 5, 0, (-1)), (102, .iconst 0, 0, 0)] (by decide +kernel) (z' := (103, [(2, (vI v2_11)), (0, (vR 3 l0)), (1, (vR 7 l1))], [(vI 0)], R, M_23, 174)) (cs := [¬ (r_22 ≠ 0)]) (by rfl) ⟨fun q => q c_25, trivial⟩ (Nat.le_refl _) ?_
            obtain rfl := Option.some.inj h
            exact XR.retI .boolean rfl (xnar_z (by decide)) (by decide +kernel)
          · skip
            obtain ⟨M_26, hM_26, h⟩ := xl_ex h
            refine s_L_readLaw [(99, .ifCond .ne 5, 0, 104), (104, .aload_n 0, 0, 0), (105, .getfield 23, 3, 3), (108, .iload_n 2, 0, 0), (109, .aload_n 0, 0, 0), (110, .getfield 35, 3, 7), (113, .iastore, 0, 0), (114, .aload_n 0, 0, 0), (115, .aload_n 1, 0, 0), (116, .iload_n 2, 0, 0)] (by decide +kernel) (z' := (117, [(2, (vI v2_11)), (0, (vR 3 l0)), (1, (vR 7 l1))], [(vI v2_11), (vR 7 l1), (vR 3 l0)], R, M_26, 174)) (cs := [r_22 ≠ 0, xar 30 0, xidx v2_11 (xan 30)]) (by subst hM_26; rfl) ⟨c_25, xar_30, xix_30 c_13, trivial⟩ (Nat.le_refl _) ?_
            obtain ⟨r_27, M_28, e_29, h⟩ := xb2_ex h
            refine XR.callV 3 rfl (rest := []) m_L_readBounds k_3_81 3 l0 (Or.inl ⟨by decide, rfl⟩) [(vR 7 l1), (vI v2_11)] rfl rfl (c_L_readBounds e_29) (by decide) (Nat.le_of_ble_eq_true rfl) (by decide +kernel) (Nat.le_refl _) (Nat.le_refl _) ?_
            show XR false 51 174 sc y_L_readLaw (120, [(2, (vI v2_11)), (0, (vR 3 l0)), (1, (vR 7 l1))], [(vI r_27)], R, M_28, 174) _
            rcases xif_ex h with ⟨c_30, h⟩ | ⟨c_30, h⟩
            · skip
              refine s_L_readLaw [(120, .ifCond .eq 16, 0, 136), (136, .iconst 0, 0, 0)] (by decide +kernel) (z' := (137, [(2, (vI v2_11)), (0, (vR 3 l0)), (1, (vR 7 l1))], [(vI 0)], R, M_28, 174)) (cs := [r_27 = 0]) (by rfl) ⟨c_30, trivial⟩ (Nat.le_refl _) ?_
              obtain rfl := Option.some.inj h
              exact XR.retI .boolean rfl (xnar_z (by decide)) (by decide +kernel)
            · skip
              refine s_L_readLaw [(120, .ifCond .eq 16, 0, (-1)), (123, .aload_n 1, 0, 0), (124, .bipush 59, 0, 59)] (by decide +kernel) (z' := (126, [(2, (vI v2_11)), (0, (vR 3 l0)), (1, (vR 7 l1))], [(vI 59), (vR 7 l1)], R, M_28, 174)) (cs := [¬ (r_27 = 0)]) (by rfl) ⟨c_30, trivial⟩ (Nat.le_refl _) ?_
              obtain ⟨r_31, M_32, e_33, h⟩ := xb2_ex h
              refine XR.callV 3 rfl (rest := []) m_A_takeSign k_3_73 7 l1 (Or.inl ⟨by decide, rfl⟩) [(vI 59)] rfl rfl (c_A_takeSign e_33) (by decide) (Nat.le_of_ble_eq_true rfl) (by decide +kernel) (Nat.le_refl _) (Nat.le_refl _) ?_
              show XR false 51 174 sc y_L_readLaw (129, [(2, (vI v2_11)), (0, (vR 3 l0)), (1, (vR 7 l1))], [(vI r_31)], R, M_32, 174) _
              rcases xif_ex h with ⟨c_34, h⟩ | ⟨c_34, h⟩
              · skip
                refine s_L_readLaw [(129, .ifCond .eq 7, 0, 136), (136, .iconst 0, 0, 0)] (by decide +kernel) (z' := (137, [(2, (vI v2_11)), (0, (vR 3 l0)), (1, (vR 7 l1))], [(vI 0)], R, M_32, 174)) (cs := [r_31 = 0]) (by rfl) ⟨c_34, trivial⟩ (Nat.le_refl _) ?_
                obtain rfl := Option.some.inj h
                exact XR.retI .boolean rfl (xnar_z (by decide)) (by decide +kernel)
              · skip
                refine s_L_readLaw [(129, .ifCond .eq 7, 0, (-1)), (132, .iconst 1, 0, 1), (133, .goto 4, 0, 137)] (by decide +kernel) (z' := (137, [(2, (vI v2_11)), (0, (vR 3 l0)), (1, (vR 7 l1))], [(vI 1)], R, M_32, 174)) (cs := [¬ (r_31 = 0)]) (by rfl) ⟨c_34, trivial⟩ (Nat.le_refl _) ?_
                obtain rfl := Option.some.inj h
                exact XR.retI .boolean rfl (xnar_z (by decide)) (by decide +kernel)
      · skip
        refine s_L_readLaw [(36, .ifCond .eq 9, 0, (-1)), (39, .aload_n 1, 0, 0), (40, .iconst 4, 0, 4)] (by decide +kernel) (z' := (41, [(0, (vR 3 l0)), (1, (vR 7 l1))], [(vI 4), (vR 7 l1)], R, M_4, 174)) (cs := [¬ (r_8 = 0)]) (by rfl) ⟨c_10, trivial⟩ (Nat.le_refl _) ?_
        obtain ⟨r_35, M_36, e_37, h⟩ := xb2_ex h
        refine XR.callV 3 rfl (rest := []) m_A_wrong k_3_58 7 l1 (Or.inl ⟨by decide, rfl⟩) [(vI 4)] rfl rfl (c_A_wrong e_37) (by decide) (Nat.le_of_ble_eq_true rfl) (by decide +kernel) (Nat.le_refl _) (Nat.le_refl _) ?_
        show XR false 51 174 sc y_L_readLaw (44, [(0, (vR 3 l0)), (1, (vR 7 l1))], [(vI r_35)], R, M_36, 174) _
        obtain ⟨c_38, h⟩ := xch_ex h
        obtain rfl := Option.some.inj h
        exact XR.retI .boolean rfl (xnar_z c_38) (by decide +kernel)
    · skip
      refine s_L_readLaw [(19, .if_icmp .lt 9, 0, (-1)), (22, .aload_n 1, 0, 0), (23, .iconst 3, 0, 3)] (by decide +kernel) (z' := (24, [(0, (vR 3 l0)), (1, (vR 7 l1))], [(vI 3), (vR 7 l1)], R, M_4, 174)) (cs := [¬ (M_4 l0 0 < 8)]) (by rfl) ⟨c_7, trivial⟩ (Nat.le_refl _) ?_
      obtain ⟨r_39, M_40, e_41, h⟩ := xb2_ex h
      refine XR.callV 3 rfl (rest := []) m_A_wrong k_3_58 7 l1 (Or.inl ⟨by decide, rfl⟩) [(vI 3)] rfl rfl (c_A_wrong e_41) (by decide) (Nat.le_of_ble_eq_true rfl) (by decide +kernel) (Nat.le_refl _) (Nat.le_refl _) ?_
      show XR false 51 174 sc y_L_readLaw (27, [(0, (vR 3 l0)), (1, (vR 7 l1))], [(vI r_39)], R, M_40, 174) _
      obtain ⟨c_42, h⟩ := xch_ex h
      obtain rfl := Option.some.inj h
      exact XR.retI .boolean rfl (xnar_z c_42) (by decide +kernel)
set_option maxRecDepth 100000 in
set_option maxHeartbeats 4000000 in
theorem c_L_readLaw {sc : List Int} {R : xR} {M : xM} {l0 : Nat} {l1 : Nat} {out : Int × xM} (h : f_L_readLaw R l0 l1 M = some out) : XC false 51 sc y_L_readLaw [(vR 3 l0), (vR 7 l1)] R M 174 174 ((some (vI out.1)), R, out.2) := XC.of (by decide) (Nat.le_of_ble_eq_true rfl) (Nat.le_refl _) (Nat.le_refl _) (o_L_readLaw h)
def L_readFrom_F14 (R : xR) (l0 : Nat) (l1 : Nat) : Nat → Int → Int → xM → Option (Int × xM)
  | 0, _, _, _ => none
  | n + 1, v2, v3, M =>
    if v2 = 0 then
      xch (v2 = 0 ∨ v2 = 1) <|
      some (v2, M)
    else
      if M l1 7 = 0 then
        xch (v2 = 0 ∨ v2 = 1) <|
        some (v2, M)
      else
        if 600 < v3 then
          xch (v2 = 0 ∨ v2 = 1) <|
          some (v2, M)
        else
          xb2 (f_L_readLaw R l0 l1 M) fun r_9 M_10 =>
          xl (w32 (v3 + 1)) fun v3_12 =>
          L_readFrom_F14 R l0 l1  n r_9 v3_12 M_10
def f_L_readFrom (R : xR) (l0 : Nat) (l1 : Nat) (M : xM) : Option (Int × xM) :=
  xl (xu M l0 0 0) fun M_1 =>
  xl (xu M_1 l0 7 0) fun M_2 =>
  L_readFrom_F14 R l0 l1
    xfu 1 0 M_2
set_option maxRecDepth 100000 in
set_option maxHeartbeats 4000000 in
theorem s_L_readFrom {d : Nat} {sc : List Int} {z z' : xS} {out : xO} (qs : List xI) {cs : List Prop} (hq : qs.all (xqb 3 false y_L_readFrom.2.2.1 y_L_readFrom.2.1) = true) (h : xN false sc qs z = some (z', cs)) (hc : xAll cs) (hE : z'.2.2.2.2.2 ≤ 174) (k : XR false d 174 sc y_L_readFrom z' out) : XR false d 174 sc y_L_readFrom z out := XR.seg 3 false rfl (fun q => by cases q) qs hq h hc hE k
set_option maxRecDepth 100000 in
set_option maxHeartbeats 4000000 in
theorem o_L_readFrom_F14 {sc : List Int} {R : xR}   {l0 : Nat} {l1 : Nat}  : ∀ (n : Nat) (v2 : Int) (v3 : Int) (M : xM) (out : Int × xM), L_readFrom_F14 R l0 l1  n v2 v3 M = some out → XR false 52 174 sc y_L_readFrom (14, [(0, (vR 3 l0)), (1, (vR 7 l1)), (2, (vI v2)), (3, (vI v3))], [], R, M, 174) ((some (vI out.1)), R, out.2) := by
  intro n
  induction n with
  | zero => intro v2 v3 M out h; exact (xno h).elim
  | succ n ih =>
    intro v2 v3 M out h
    rw [L_readFrom_F14] at h
    refine s_L_readFrom [(14, .iload_n 2, 0, 0)] (by decide +kernel) (z' := (15, [(0, (vR 3 l0)), (1, (vR 7 l1)), (2, (vI v2)), (3, (vI v3))], [(vI v2)], R, M, 174)) (cs := []) (by rfl) trivial (Nat.le_refl _) ?_
    rcases xif_ex h with ⟨c_3, h⟩ | ⟨c_3, h⟩
    · skip
      obtain ⟨c_4, h⟩ := xch_ex h
      refine s_L_readFrom [(15, .ifCond .eq 29, 0, 44), (44, .iload_n 2, 0, 0)] (by decide +kernel) (z' := (45, [(0, (vR 3 l0)), (1, (vR 7 l1)), (2, (vI v2)), (3, (vI v3))], [(vI v2)], R, M, 174)) (cs := [v2 = 0]) (by rfl) ⟨c_3, trivial⟩ (Nat.le_refl _) ?_
      obtain rfl := Option.some.inj h
      exact XR.retI .boolean rfl (xnar_z c_4) (by decide +kernel)
    · skip
      refine s_L_readFrom [(15, .ifCond .eq 29, 0, (-1)), (18, .aload_n 1, 0, 0), (19, .getfield 41, 7, 7)] (by decide +kernel) (z' := (22, [(0, (vR 3 l0)), (1, (vR 7 l1)), (2, (vI v2)), (3, (vI v3))], [(vI (M l1 7))], R, M, 174)) (cs := [¬ (v2 = 0)]) (by rfl) ⟨c_3, trivial⟩ (Nat.le_refl _) ?_
      rcases xif_ex h with ⟨c_5, h⟩ | ⟨c_5, h⟩
      · skip
        obtain ⟨c_6, h⟩ := xch_ex h
        refine s_L_readFrom [(22, .ifCond .eq 22, 0, 44), (44, .iload_n 2, 0, 0)] (by decide +kernel) (z' := (45, [(0, (vR 3 l0)), (1, (vR 7 l1)), (2, (vI v2)), (3, (vI v3))], [(vI v2)], R, M, 174)) (cs := [M l1 7 = 0]) (by rfl) ⟨c_5, trivial⟩ (Nat.le_refl _) ?_
        obtain rfl := Option.some.inj h
        exact XR.retI .boolean rfl (xnar_z c_6) (by decide +kernel)
      · skip
        refine s_L_readFrom [(22, .ifCond .eq 22, 0, (-1)), (25, .iload_n 3, 0, 0), (26, .sipush 600, 0, 600)] (by decide +kernel) (z' := (29, [(0, (vR 3 l0)), (1, (vR 7 l1)), (2, (vI v2)), (3, (vI v3))], [(vI 600), (vI v3)], R, M, 174)) (cs := [¬ (M l1 7 = 0)]) (by rfl) ⟨c_5, trivial⟩ (Nat.le_refl _) ?_
        rcases xif_ex h with ⟨c_7, h⟩ | ⟨c_7, h⟩
        · skip
          obtain ⟨c_8, h⟩ := xch_ex h
          refine s_L_readFrom [(29, .if_icmp .gt 15, 0, 44), (44, .iload_n 2, 0, 0)] (by decide +kernel) (z' := (45, [(0, (vR 3 l0)), (1, (vR 7 l1)), (2, (vI v2)), (3, (vI v3))], [(vI v2)], R, M, 174)) (cs := [600 < v3]) (by rfl) ⟨c_7, trivial⟩ (Nat.le_refl _) ?_
          obtain rfl := Option.some.inj h
          exact XR.retI .boolean rfl (xnar_z c_8) (by decide +kernel)
        · skip
          refine s_L_readFrom [(29, .if_icmp .gt 15, 0, (-1)), (32, .aload_n 0, 0, 0), (33, .aload_n 1, 0, 0)] (by decide +kernel) (z' := (34, [(0, (vR 3 l0)), (1, (vR 7 l1)), (2, (vI v2)), (3, (vI v3))], [(vR 7 l1), (vR 3 l0)], R, M, 174)) (cs := [¬ (600 < v3)]) (by rfl) ⟨c_7, trivial⟩ (Nat.le_refl _) ?_
          obtain ⟨r_9, M_10, e_11, h⟩ := xb2_ex h
          refine XR.callV 3 rfl (rest := []) m_L_readLaw k_3_46 3 l0 (Or.inl ⟨by decide, rfl⟩) [(vR 7 l1)] rfl rfl (c_L_readLaw e_11) (by decide) (Nat.le_of_ble_eq_true rfl) (by decide +kernel) (Nat.le_refl _) (Nat.le_refl _) ?_
          show XR false 52 174 sc y_L_readFrom (37, [(0, (vR 3 l0)), (1, (vR 7 l1)), (2, (vI v2)), (3, (vI v3))], [(vI r_9)], R, M_10, 174) _
          obtain ⟨v3_12, hv3_12, h⟩ := xl_ex h
          refine s_L_readFrom [(37, .istore_n 2, 0, 0), (38, .iinc 3 1, 0, 0), (41, .goto (-27), 0, 14)] (by decide +kernel) (z' := (14, [(3, (vI v3_12)), (2, (vI r_9)), (0, (vR 3 l0)), (1, (vR 7 l1))], [], R, M_10, 174)) (cs := []) (by subst hv3_12; rfl) trivial (Nat.le_refl _) ?_
          refine XR.pick [2, 3, 1, 0] (ls' := [(0, (vR 3 l0)), (1, (vR 7 l1)), (2, (vI r_9)), (3, (vI v3_12))]) rfl ?_
          exact ih r_9 v3_12 M_10 _ h
set_option maxRecDepth 100000 in
set_option maxHeartbeats 4000000 in
theorem o_L_readFrom {sc : List Int} {R : xR} {M : xM} {l0 : Nat} {l1 : Nat} {out : Int × xM} (h : f_L_readFrom R l0 l1 M = some out) : XR false 52 174 sc y_L_readFrom (0, [(0, (vR 3 l0)), (1, (vR 7 l1))], [], R, M, 174) ((some (vI out.1)), R, out.2) := by
  unfold f_L_readFrom at h
  obtain ⟨M_1, hM_1, h⟩ := xl_ex h
  obtain ⟨M_2, hM_2, h⟩ := xl_ex h
  refine s_L_readFrom [(0, .aload_n 0, 0, 0), (1, .iconst 0, 0, 0), (2, .putfield 9, 3, 0), (5, .aload_n 0, 0, 0), (6, .iconst 0, 0, 0), (7, .putfield 35, 3, 7), (10, .iconst 1, 0, 1), (11, .istore_n 2, 0, 0), (12, .iconst 0, 0, 0), (13, .istore_n 3, 0, 0)] (by decide +kernel) (z' := (14, [(3, (vI 0)), (2, (vI 1)), (0, (vR 3 l0)), (1, (vR 7 l1))], [], R, M_2, 174)) (cs := []) (by subst hM_1; subst hM_2; rfl) trivial (Nat.le_refl _) ?_
  refine XR.pick [2, 3, 1, 0] (ls' := [(0, (vR 3 l0)), (1, (vR 7 l1)), (2, (vI 1)), (3, (vI 0))]) rfl ?_
  refine o_L_readFrom_F14  xfu 1 0 M_2 _ h
set_option maxRecDepth 100000 in
set_option maxHeartbeats 4000000 in
theorem c_L_readFrom {sc : List Int} {R : xR} {M : xM} {l0 : Nat} {l1 : Nat} {out : Int × xM} (h : f_L_readFrom R l0 l1 M = some out) : XC false 52 sc y_L_readFrom [(vR 3 l0), (vR 7 l1)] R M 174 174 ((some (vI out.1)), R, out.2) := XC.of (by decide) (Nat.le_of_ble_eq_true rfl) (Nat.le_refl _) (Nat.le_refl _) (o_L_readFrom h)
def f_N_addWay (R : xR) (l0 : Nat) (l1 : Int) (l2 : Int) (l3 : Int) (M : xM) : Option xM :=
  xch (0 ≤ l1 ∧ l1 < 8) <|
  xl (M (R l0 9) (Int.toNat l1)) fun v4_2 =>
  if v4_2 < 8 then
    xch (0 ≤ w32 ((w32 (l1 * 8)) + v4_2) ∧ w32 ((w32 (l1 * 8)) + v4_2) < 64) <|
    xl (xu M (R l0 10) (Int.toNat (w32 ((w32 (l1 * 8)) + v4_2))) l2) fun M_5 =>
    xl (xu M_5 (R l0 11) (Int.toNat (w32 ((w32 (l1 * 8)) + v4_2))) l3) fun M_6 =>
    xl (xu M_6 (R l0 9) (Int.toNat l1) (w32 (v4_2 + 1))) fun M_7 =>
    some (M_7)
  else
    some (M)
set_option maxRecDepth 100000 in
set_option maxHeartbeats 4000000 in
theorem s_N_addWay {d : Nat} {sc : List Int} {z z' : xS} {out : xO} (qs : List xI) {cs : List Prop} (hq : qs.all (xqb 6 false y_N_addWay.2.2.1 y_N_addWay.2.1) = true) (h : xN false sc qs z = some (z', cs)) (hc : xAll cs) (hE : z'.2.2.2.2.2 ≤ 174) (k : XR false d 174 sc y_N_addWay z' out) : XR false d 174 sc y_N_addWay z out := XR.seg 6 false rfl (fun q => by cases q) qs hq h hc hE k
set_option maxRecDepth 100000 in
set_option maxHeartbeats 4000000 in
theorem o_N_addWay {sc : List Int} {R : xR} {M : xM} {l0 : Nat} {l1 : Int} {l2 : Int} {l3 : Int} {out : xM} (h : f_N_addWay R l0 l1 l2 l3 M = some out) : XR false 0 174 sc y_N_addWay (0, [(0, (vR 6 l0)), (1, (vI l1)), (2, (vI l2)), (3, (vI l3))], [], R, M, 174) (none, R, out) := by
  unfold f_N_addWay at h
  obtain ⟨c_1, h⟩ := xch_ex h
  obtain ⟨v4_2, hv4_2, h⟩ := xl_ex h
  refine s_N_addWay [(0, .aload_n 0, 0, 0), (1, .getfield 42, 6, 9), (4, .iload_n 1, 0, 0), (5, .iaload, 0, 0), (6, .istore 4, 0, 0), (8, .iload 4, 0, 0), (10, .bipush 8, 0, 8)] (by decide +kernel) (z' := (12, [(4, (vI v4_2)), (0, (vR 6 l0)), (1, (vI l1)), (2, (vI l2)), (3, (vI l3))], [(vI 8), (vI v4_2)], R, M, 174)) (cs := [xar 30 0, xidx l1 (xan 30)]) (by subst hv4_2; rfl) ⟨xar_30, xix_30 c_1, trivial⟩ (Nat.le_refl _) ?_
  rcases xif_ex h with ⟨c_3, h⟩ | ⟨c_3, h⟩
  · skip
    obtain ⟨c_4, h⟩ := xch_ex h
    obtain ⟨M_5, hM_5, h⟩ := xl_ex h
    obtain ⟨M_6, hM_6, h⟩ := xl_ex h
    obtain ⟨M_7, hM_7, h⟩ := xl_ex h
    refine s_N_addWay [(12, .if_icmp .ge 39, 0, (-1)), (15, .aload_n 0, 0, 0), (16, .getfield 45, 6, 10), (19, .iload_n 1, 0, 0), (20, .bipush 8, 0, 8), (22, .imul, 0, 0), (23, .iload 4, 0, 0), (25, .iadd, 0, 0), (26, .iload_n 2, 0, 0), (27, .iastore, 0, 0), (28, .aload_n 0, 0, 0), (29, .getfield 48, 6, 11), (32, .iload_n 1, 0, 0), (33, .bipush 8, 0, 8), (35, .imul, 0, 0), (36, .iload 4, 0, 0), (38, .iadd, 0, 0), (39, .iload_n 3, 0, 0), (40, .iastore, 0, 0), (41, .aload_n 0, 0, 0), (42, .getfield 42, 6, 9), (45, .iload_n 1, 0, 0), (46, .iload 4, 0, 0), (48, .iconst 1, 0, 1), (49, .iadd, 0, 0), (50, .iastore, 0, 0)] (by decide +kernel) (z' := (51, [(4, (vI v4_2)), (0, (vR 6 l0)), (1, (vI l1)), (2, (vI l2)), (3, (vI l3))], [], R, M_7, 174)) (cs := [¬ (8 ≤ v4_2), xar 38 0, xidx (w32 ((w32 (l1 * 8)) + v4_2)) (xan 38), xar 38 0, xidx (w32 ((w32 (l1 * 8)) + v4_2)) (xan 38), xar 30 0, xidx l1 (xan 30)]) (by subst hM_5; subst hM_6; subst hM_7; rfl) ⟨Int.not_le.mpr c_3, xar_38, xix_38 c_4, xar_38, xix_38 c_4, xar_30, xix_30 c_1, trivial⟩ (Nat.le_refl _) ?_
    obtain rfl := Option.some.inj h
    exact XR.retV rfl (by decide +kernel)
  · skip
    refine s_N_addWay [(12, .if_icmp .ge 39, 0, 51)] (by decide +kernel) (z' := (51, [(4, (vI v4_2)), (0, (vR 6 l0)), (1, (vI l1)), (2, (vI l2)), (3, (vI l3))], [], R, M, 174)) (cs := [8 ≤ v4_2]) (by rfl) ⟨Int.not_lt.mp c_3, trivial⟩ (Nat.le_refl _) ?_
    obtain rfl := Option.some.inj h
    exact XR.retV rfl (by decide +kernel)
set_option maxRecDepth 100000 in
set_option maxHeartbeats 4000000 in
theorem c_N_addWay {sc : List Int} {R : xR} {M : xM} {l0 : Nat} {l1 : Int} {l2 : Int} {l3 : Int} {out : xM} (h : f_N_addWay R l0 l1 l2 l3 M = some out) : XC false 0 sc y_N_addWay [(vR 6 l0), (vI l1), (vI l2), (vI l3)] R M 174 174 (none, R, out) := XC.of (by decide) (Nat.le_of_ble_eq_true rfl) (Nat.le_refl _) (Nat.le_refl _) (o_N_addWay h)
def N_cleanerNamed_F2 (R : xR) (M : xM) (l0 : Nat) (l1 : Int) : Nat → Int → Option Int
  | 0, _ => none
  | n + 1, v3 =>
    if v3 < M l0 0 then
      xch (0 ≤ v3 ∧ v3 < 8) <|
      if M (R l0 2) (Int.toNat v3) = l1 then
        some (v3)
      else
        xl (w32 (v3 + 1)) fun v3_4 =>
        N_cleanerNamed_F2 R M l0 l1  n v3_4
    else
      some (-1)
def f_N_cleanerNamed (R : xR) (l0 : Nat) (l1 : Int) (M : xM) : Option Int :=
  N_cleanerNamed_F2 R M l0 l1
    xfu 0
set_option maxRecDepth 100000 in
set_option maxHeartbeats 4000000 in
theorem s_N_cleanerNamed {d : Nat} {sc : List Int} {z z' : xS} {out : xO} (qs : List xI) {cs : List Prop} (hq : qs.all (xqb 6 false y_N_cleanerNamed.2.2.1 y_N_cleanerNamed.2.1) = true) (h : xN false sc qs z = some (z', cs)) (hc : xAll cs) (hE : z'.2.2.2.2.2 ≤ 174) (k : XR false d 174 sc y_N_cleanerNamed z' out) : XR false d 174 sc y_N_cleanerNamed z out := XR.seg 6 false rfl (fun q => by cases q) qs hq h hc hE k
set_option maxRecDepth 100000 in
set_option maxHeartbeats 4000000 in
theorem o_N_cleanerNamed_F2 {sc : List Int} {R : xR} {M : xM}  {l0 : Nat} {l1 : Int}  : ∀ (n : Nat) (v3 : Int) (out : Int), N_cleanerNamed_F2 R M l0 l1  n v3 = some out → XR false 0 174 sc y_N_cleanerNamed (2, [(0, (vR 6 l0)), (1, (vL l1)), (3, (vI v3))], [], R, M, 174) ((some (vI out)), R, M) := by
  intro n
  induction n with
  | zero => intro v3 out h; exact (xno h).elim
  | succ n ih =>
    intro v3 out h
    rw [N_cleanerNamed_F2] at h
    refine s_N_cleanerNamed [(2, .iload_n 3, 0, 0), (3, .aload_n 0, 0, 0), (4, .getfield 9, 6, 0)] (by decide +kernel) (z' := (7, [(0, (vR 6 l0)), (1, (vL l1)), (3, (vI v3))], [(vI (M l0 0)), (vI v3)], R, M, 174)) (cs := []) (by rfl) trivial (Nat.le_refl _) ?_
    rcases xif_ex h with ⟨c_1, h⟩ | ⟨c_1, h⟩
    · skip
      obtain ⟨c_2, h⟩ := xch_ex h
      refine s_N_cleanerNamed [(7, .if_icmp .ge 22, 0, (-1)), (10, .aload_n 0, 0, 0), (11, .getfield 18, 6, 2), (14, .iload_n 3, 0, 0), (15, .laload, 0, 0), (16, .lload_n 1, 0, 0), (17, .lcmp, 0, 0)] (by decide +kernel) (z' := (18, [(0, (vR 6 l0)), (1, (vL l1)), (3, (vI v3))], [(vI (xcmp (M (R l0 2) (Int.toNat v3)) l1))], R, M, 174)) (cs := [¬ (M l0 0 ≤ v3), xar 24 1, xidx v3 (xan 24)]) (by rfl) ⟨Int.not_le.mpr c_1, xar_24, xix_24 c_2, trivial⟩ (Nat.le_refl _) ?_
      rcases xif_ex h with ⟨c_3, h⟩ | ⟨c_3, h⟩
      · skip
        refine s_N_cleanerNamed [(18, .ifCond .ne 5, 0, (-1)), (21, .iload_n 3, 0, 0)] (by decide +kernel) (z' := (22, [(0, (vR 6 l0)), (1, (vL l1)), (3, (vI v3))], [(vI v3)], R, M, 174)) (cs := [¬ (xcmp (M (R l0 2) (Int.toNat v3)) l1 ≠ 0)]) (by rfl) ⟨fun q => q (xcmp_eq.mpr c_3), trivial⟩ (Nat.le_refl _) ?_
        obtain rfl := Option.some.inj h
        exact XR.retI .int rfl rfl (by decide +kernel)
      · skip
        obtain ⟨v3_4, hv3_4, h⟩ := xl_ex h
        refine s_N_cleanerNamed [(18, .ifCond .ne 5, 0, 23), (23, .iinc 3 1, 0, 0), (26, .goto (-24), 0, 2)] (by decide +kernel) (z' := (2, [(3, (vI v3_4)), (0, (vR 6 l0)), (1, (vL l1))], [], R, M, 174)) (cs := [xcmp (M (R l0 2) (Int.toNat v3)) l1 ≠ 0]) (by subst hv3_4; rfl) ⟨fun q => c_3 (xcmp_eq.mp q), trivial⟩ (Nat.le_refl _) ?_
        refine XR.pick [1, 2, 0] (ls' := [(0, (vR 6 l0)), (1, (vL l1)), (3, (vI v3_4))]) rfl ?_
        exact ih v3_4 _ h
    · skip
      refine s_N_cleanerNamed [(7, .if_icmp .ge 22, 0, 29), (29, .iconst (-1), 0, (-1))] (by decide +kernel) (z' := (30, [(0, (vR 6 l0)), (1, (vL l1)), (3, (vI v3))], [(vI (-1))], R, M, 174)) (cs := [M l0 0 ≤ v3]) (by rfl) ⟨Int.not_lt.mp c_1, trivial⟩ (Nat.le_refl _) ?_
      obtain rfl := Option.some.inj h
      exact XR.retI .int rfl rfl (by decide +kernel)
set_option maxRecDepth 100000 in
set_option maxHeartbeats 4000000 in
theorem o_N_cleanerNamed {sc : List Int} {R : xR} {M : xM} {l0 : Nat} {l1 : Int} {out : Int} (h : f_N_cleanerNamed R l0 l1 M = some out) : XR false 0 174 sc y_N_cleanerNamed (0, [(0, (vR 6 l0)), (1, (vL l1))], [], R, M, 174) ((some (vI out)), R, M) := by
  unfold f_N_cleanerNamed at h
  refine s_N_cleanerNamed [(0, .iconst 0, 0, 0), (1, .istore_n 3, 0, 0)] (by decide +kernel) (z' := (2, [(3, (vI 0)), (0, (vR 6 l0)), (1, (vL l1))], [], R, M, 174)) (cs := []) (by rfl) trivial (Nat.le_refl _) ?_
  refine XR.pick [1, 2, 0] (ls' := [(0, (vR 6 l0)), (1, (vL l1)), (3, (vI 0))]) rfl ?_
  refine o_N_cleanerNamed_F2  xfu 0 _ h
set_option maxRecDepth 100000 in
set_option maxHeartbeats 4000000 in
theorem c_N_cleanerNamed {sc : List Int} {R : xR} {M : xM} {l0 : Nat} {l1 : Int} {out : Int} (h : f_N_cleanerNamed R l0 l1 M = some out) : XC false 0 sc y_N_cleanerNamed [(vR 6 l0), (vL l1)] R M 174 174 ((some (vI out)), R, M) := XC.of (by decide) (Nat.le_of_ble_eq_true rfl) (Nat.le_refl _) (Nat.le_refl _) (o_N_cleanerNamed h)
def N_endJoin_F20 (R : xR) (l0 : Nat) (l1 : Nat) (l2 : Int) (q52 : Int → xM → Option (Int × xM)) : Nat → Int → Int → xM → Option (Int × xM)
  | 0, _, _, _ => none
  | n + 1, v3, v4, M =>
    xch (0 ≤ l2 ∧ l2 < 8) <|
    if v4 < M (R l0 9) (Int.toNat l2) then
      xch (0 ≤ w32 ((w32 (l2 * 8)) + v4) ∧ w32 ((w32 (l2 * 8)) + v4) < 64) <|
      xl (w32 (v3 + (M (R l0 11) (Int.toNat (w32 ((w32 (l2 * 8)) + v4)))))) fun v3_10 =>
      xl (w32 (v4 + 1)) fun v4_11 =>
      N_endJoin_F20 R l0 l1 l2 q52 n v3_10 v4_11 M
    else
      q52 v3 M
def f_N_endJoin (R : xR) (l0 : Nat) (l1 : Nat) (l2 : Int) (M : xM) : Option (Int × xM) :=
  xb1 (f_A_isSign l1 59 M) fun r_1 =>
  xb2 (f_A_stands l1 r_1 M) fun r_3 M_4 =>
  if r_3 = 0 then
    some (0, M_4)
  else
    N_endJoin_F20 R l0 l1 l2
      (fun (v3_12 : Int) (M_13 : xM) =>
        if v3_12 = 100 then
          xb1 (f_A_advance R l1 M_13) fun M_15 =>
          some (1, M_15)
        else
          xb2 (f_A_wrong l1 7 M_13) fun r_17 M_18 =>
          xch (r_17 = 0 ∨ r_17 = 1) <|
          some (r_17, M_18))
      xfu 0 0 M_4
set_option maxRecDepth 100000 in
set_option maxHeartbeats 4000000 in
theorem s_N_endJoin {d : Nat} {sc : List Int} {z z' : xS} {out : xO} (qs : List xI) {cs : List Prop} (hq : qs.all (xqb 6 false y_N_endJoin.2.2.1 y_N_endJoin.2.1) = true) (h : xN false sc qs z = some (z', cs)) (hc : xAll cs) (hE : z'.2.2.2.2.2 ≤ 174) (k : XR false d 174 sc y_N_endJoin z' out) : XR false d 174 sc y_N_endJoin z out := XR.seg 6 false rfl (fun q => by cases q) qs hq h hc hE k
set_option maxRecDepth 100000 in
set_option maxHeartbeats 4000000 in
theorem o_N_endJoin_F20 {sc : List Int} {R : xR}   {l0 : Nat} {l1 : Nat} {l2 : Int}  {q52 : Int → xM → Option (Int × xM)} (hq52 : ∀ (w3 : Int) (M : xM) (out : Int × xM), q52 w3 M = some out → XR false 6 174 sc y_N_endJoin (52, [(1, (vR 7 l1)), (3, (vI w3))], [], R, M, 174) ((some (vI out.1)), R, out.2)) : ∀ (n : Nat) (v3 : Int) (v4 : Int) (M : xM) (out : Int × xM), N_endJoin_F20 R l0 l1 l2 q52 n v3 v4 M = some out → XR false 6 174 sc y_N_endJoin (20, [(0, (vR 6 l0)), (1, (vR 7 l1)), (2, (vI l2)), (3, (vI v3)), (4, (vI v4))], [], R, M, 174) ((some (vI out.1)), R, out.2) := by
  intro n
  induction n with
  | zero => intro v3 v4 M out h; exact (xno h).elim
  | succ n ih =>
    intro v3 v4 M out h
    rw [N_endJoin_F20] at h
    obtain ⟨c_7, h⟩ := xch_ex h
    refine s_N_endJoin [(20, .iload 4, 0, 0), (22, .aload_n 0, 0, 0), (23, .getfield 42, 6, 9), (26, .iload_n 2, 0, 0), (27, .iaload, 0, 0)] (by decide +kernel) (z' := (28, [(0, (vR 6 l0)), (1, (vR 7 l1)), (2, (vI l2)), (3, (vI v3)), (4, (vI v4))], [(vI (M (R l0 9) (Int.toNat l2))), (vI v4)], R, M, 174)) (cs := [xar 30 0, xidx l2 (xan 30)]) (by rfl) ⟨xar_30, xix_30 c_7, trivial⟩ (Nat.le_refl _) ?_
    rcases xif_ex h with ⟨c_8, h⟩ | ⟨c_8, h⟩
    · skip
      obtain ⟨c_9, h⟩ := xch_ex h
      obtain ⟨v3_10, hv3_10, h⟩ := xl_ex h
      obtain ⟨v4_11, hv4_11, h⟩ := xl_ex h
      refine s_N_endJoin [(28, .if_icmp .ge 24, 0, (-1)), (31, .iload_n 3, 0, 0), (32, .aload_n 0, 0, 0), (33, .getfield 48, 6, 11), (36, .iload_n 2, 0, 0), (37, .bipush 8, 0, 8), (39, .imul, 0, 0), (40, .iload 4, 0, 0), (42, .iadd, 0, 0), (43, .iaload, 0, 0), (44, .iadd, 0, 0), (45, .istore_n 3, 0, 0), (46, .iinc 4 1, 0, 0), (49, .goto (-29), 0, 20)] (by decide +kernel) (z' := (20, [(4, (vI v4_11)), (3, (vI v3_10)), (0, (vR 6 l0)), (1, (vR 7 l1)), (2, (vI l2))], [], R, M, 174)) (cs := [¬ (M (R l0 9) (Int.toNat l2) ≤ v4), xar 38 0, xidx (w32 ((w32 (l2 * 8)) + v4)) (xan 38)]) (by subst hv3_10; subst hv4_11; rfl) ⟨Int.not_le.mpr c_8, xar_38, xix_38 c_9, trivial⟩ (Nat.le_refl _) ?_
      refine XR.pick [2, 3, 4, 1, 0] (ls' := [(0, (vR 6 l0)), (1, (vR 7 l1)), (2, (vI l2)), (3, (vI v3_10)), (4, (vI v4_11))]) rfl ?_
      exact ih v3_10 v4_11 M _ h
    · skip
      refine s_N_endJoin [(28, .if_icmp .ge 24, 0, 52)] (by decide +kernel) (z' := (52, [(0, (vR 6 l0)), (1, (vR 7 l1)), (2, (vI l2)), (3, (vI v3)), (4, (vI v4))], [], R, M, 174)) (cs := [M (R l0 9) (Int.toNat l2) ≤ v4]) (by rfl) ⟨Int.not_lt.mp c_8, trivial⟩ (Nat.le_refl _) ?_
      refine XR.pick [1, 3] (ls' := [(1, (vR 7 l1)), (3, (vI v3))]) rfl ?_
      exact hq52 v3 M _ h
set_option maxRecDepth 100000 in
set_option maxHeartbeats 4000000 in
theorem o_N_endJoin {sc : List Int} {R : xR} {M : xM} {l0 : Nat} {l1 : Nat} {l2 : Int} {out : Int × xM} (h : f_N_endJoin R l0 l1 l2 M = some out) : XR false 6 174 sc y_N_endJoin (0, [(0, (vR 6 l0)), (1, (vR 7 l1)), (2, (vI l2))], [], R, M, 174) ((some (vI out.1)), R, out.2) := by
  unfold f_N_endJoin at h
  refine s_N_endJoin [(0, .aload_n 1, 0, 0), (1, .aload_n 1, 0, 0), (2, .bipush 59, 0, 59)] (by decide +kernel) (z' := (4, [(0, (vR 6 l0)), (1, (vR 7 l1)), (2, (vI l2))], [(vI 59), (vR 7 l1), (vR 7 l1)], R, M, 174)) (cs := []) (by rfl) trivial (Nat.le_refl _) ?_
  obtain ⟨r_1, e_2, h⟩ := xb1_ex h
  refine XR.callV 6 rfl (rest := [(vR 7 l1)]) m_A_isSign k_6_135 7 l1 (Or.inl ⟨by decide, rfl⟩) [(vI 59)] rfl rfl (c_A_isSign e_2) (by decide) (Nat.le_of_ble_eq_true rfl) (by decide +kernel) (Nat.le_refl _) (Nat.le_refl _) ?_
  show XR false 6 174 sc y_N_endJoin (7, [(0, (vR 6 l0)), (1, (vR 7 l1)), (2, (vI l2))], [(vI r_1), (vR 7 l1)], R, M, 174) _
  obtain ⟨r_3, M_4, e_5, h⟩ := xb2_ex h
  refine XR.callV 6 rfl (rest := []) m_A_stands k_6_62 7 l1 (Or.inl ⟨by decide, rfl⟩) [(vI r_1)] rfl rfl (c_A_stands e_5) (by decide) (Nat.le_of_ble_eq_true rfl) (by decide +kernel) (Nat.le_refl _) (Nat.le_refl _) ?_
  show XR false 6 174 sc y_N_endJoin (10, [(0, (vR 6 l0)), (1, (vR 7 l1)), (2, (vI l2))], [(vI r_3)], R, M_4, 174) _
  rcases xif_ex h with ⟨c_6, h⟩ | ⟨c_6, h⟩
  · skip
    refine s_N_endJoin [(10, .ifCond .ne 5, 0, (-1)), (13, .iconst 0, 0, 0)] (by decide +kernel) (z' := (14, [(0, (vR 6 l0)), (1, (vR 7 l1)), (2, (vI l2))], [(vI 0)], R, M_4, 174)) (cs := [¬ (r_3 ≠ 0)]) (by rfl) ⟨fun q => q c_6, trivial⟩ (Nat.le_refl _) ?_
    obtain rfl := Option.some.inj h
    exact XR.retI .boolean rfl (xnar_z (by decide)) (by decide +kernel)
  · skip
    refine s_N_endJoin [(10, .ifCond .ne 5, 0, 15), (15, .iconst 0, 0, 0), (16, .istore_n 3, 0, 0), (17, .iconst 0, 0, 0), (18, .istore 4, 0, 0)] (by decide +kernel) (z' := (20, [(4, (vI 0)), (3, (vI 0)), (0, (vR 6 l0)), (1, (vR 7 l1)), (2, (vI l2))], [], R, M_4, 174)) (cs := [r_3 ≠ 0]) (by rfl) ⟨c_6, trivial⟩ (Nat.le_refl _) ?_
    refine XR.pick [2, 3, 4, 1, 0] (ls' := [(0, (vR 6 l0)), (1, (vR 7 l1)), (2, (vI l2)), (3, (vI 0)), (4, (vI 0))]) rfl ?_
    refine o_N_endJoin_F20 ?_ xfu 0 0 M_4 _ h
    · intro v3_12 M_13 out h
      refine s_N_endJoin [(52, .iload_n 3, 0, 0), (53, .bipush 100, 0, 100)] (by decide +kernel) (z' := (55, [(1, (vR 7 l1)), (3, (vI v3_12))], [(vI 100), (vI v3_12)], R, M_13, 174)) (cs := []) (by rfl) trivial (Nat.le_refl _) ?_
      rcases xif_ex h with ⟨c_14, h⟩ | ⟨c_14, h⟩
      · skip
        refine s_N_endJoin [(55, .if_icmp .eq 10, 0, 65), (65, .aload_n 1, 0, 0)] (by decide +kernel) (z' := (66, [(1, (vR 7 l1)), (3, (vI v3_12))], [(vR 7 l1)], R, M_13, 174)) (cs := [v3_12 = 100]) (by rfl) ⟨c_14, trivial⟩ (Nat.le_refl _) ?_
        obtain ⟨M_15, e_16, h⟩ := xb1_ex h
        refine XR.callV 6 rfl (rest := []) m_A_advance k_6_66 7 l1 (Or.inl ⟨by decide, rfl⟩) [] rfl rfl (c_A_advance e_16) (by decide) (Nat.le_of_ble_eq_true rfl) (by decide +kernel) (Nat.le_refl _) (Nat.le_refl _) ?_
        show XR false 6 174 sc y_N_endJoin (69, [(1, (vR 7 l1)), (3, (vI v3_12))], [], R, M_15, 174) _
        refine s_N_endJoin [(69, .iconst 1, 0, 1)] (by decide +kernel) (z' := (70, [(1, (vR 7 l1)), (3, (vI v3_12))], [(vI 1)], R, M_15, 174)) (cs := []) (by rfl) trivial (Nat.le_refl _) ?_
        obtain rfl := Option.some.inj h
        exact XR.retI .boolean rfl (xnar_z (by decide)) (by decide +kernel)
      · skip
        refine s_N_endJoin [(55, .if_icmp .eq 10, 0, (-1)), (58, .aload_n 1, 0, 0), (59, .bipush 7, 0, 7)] (by decide +kernel) (z' := (61, [(1, (vR 7 l1)), (3, (vI v3_12))], [(vI 7), (vR 7 l1)], R, M_13, 174)) (cs := [¬ (v3_12 = 100)]) (by rfl) ⟨c_14, trivial⟩ (Nat.le_refl _) ?_
        obtain ⟨r_17, M_18, e_19, h⟩ := xb2_ex h
        refine XR.callV 6 rfl (rest := []) m_A_wrong k_6_114 7 l1 (Or.inl ⟨by decide, rfl⟩) [(vI 7)] rfl rfl (c_A_wrong e_19) (by decide) (Nat.le_of_ble_eq_true rfl) (by decide +kernel) (Nat.le_refl _) (Nat.le_refl _) ?_
        show XR false 6 174 sc y_N_endJoin (64, [(1, (vR 7 l1)), (3, (vI v3_12))], [(vI r_17)], R, M_18, 174) _
        obtain ⟨c_20, h⟩ := xch_ex h
        obtain rfl := Option.some.inj h
        exact XR.retI .boolean rfl (xnar_z c_20) (by decide +kernel)
set_option maxRecDepth 100000 in
set_option maxHeartbeats 4000000 in
theorem c_N_endJoin {sc : List Int} {R : xR} {M : xM} {l0 : Nat} {l1 : Nat} {l2 : Int} {out : Int × xM} (h : f_N_endJoin R l0 l1 l2 M = some out) : XC false 6 sc y_N_endJoin [(vR 6 l0), (vR 7 l1), (vI l2)] R M 174 174 ((some (vI out.1)), R, out.2) := XC.of (by decide) (Nat.le_of_ble_eq_true rfl) (Nat.le_refl _) (Nat.le_refl _) (o_N_endJoin h)
def N_hasWay_F2 (R : xR) (M : xM) (l0 : Nat) (l1 : Int) (l2 : Int) : Nat → Int → Option Int
  | 0, _ => none
  | n + 1, v3 =>
    xch (0 ≤ l1 ∧ l1 < 8) <|
    if v3 < M (R l0 9) (Int.toNat l1) then
      xch (0 ≤ w32 ((w32 (l1 * 8)) + v3) ∧ w32 ((w32 (l1 * 8)) + v3) < 64) <|
      if M (R l0 10) (Int.toNat (w32 ((w32 (l1 * 8)) + v3))) = l2 then
        some (1)
      else
        xl (w32 (v3 + 1)) fun v3_5 =>
        N_hasWay_F2 R M l0 l1 l2  n v3_5
    else
      some (0)
def f_N_hasWay (R : xR) (l0 : Nat) (l1 : Int) (l2 : Int) (M : xM) : Option Int :=
  N_hasWay_F2 R M l0 l1 l2
    xfu 0
set_option maxRecDepth 100000 in
set_option maxHeartbeats 4000000 in
theorem s_N_hasWay {d : Nat} {sc : List Int} {z z' : xS} {out : xO} (qs : List xI) {cs : List Prop} (hq : qs.all (xqb 6 false y_N_hasWay.2.2.1 y_N_hasWay.2.1) = true) (h : xN false sc qs z = some (z', cs)) (hc : xAll cs) (hE : z'.2.2.2.2.2 ≤ 174) (k : XR false d 174 sc y_N_hasWay z' out) : XR false d 174 sc y_N_hasWay z out := XR.seg 6 false rfl (fun q => by cases q) qs hq h hc hE k
set_option maxRecDepth 100000 in
set_option maxHeartbeats 4000000 in
theorem o_N_hasWay_F2 {sc : List Int} {R : xR} {M : xM}  {l0 : Nat} {l1 : Int} {l2 : Int}  : ∀ (n : Nat) (v3 : Int) (out : Int), N_hasWay_F2 R M l0 l1 l2  n v3 = some out → XR false 0 174 sc y_N_hasWay (2, [(0, (vR 6 l0)), (1, (vI l1)), (2, (vI l2)), (3, (vI v3))], [], R, M, 174) ((some (vI out)), R, M) := by
  intro n
  induction n with
  | zero => intro v3 out h; exact (xno h).elim
  | succ n ih =>
    intro v3 out h
    rw [N_hasWay_F2] at h
    obtain ⟨c_1, h⟩ := xch_ex h
    refine s_N_hasWay [(2, .iload_n 3, 0, 0), (3, .aload_n 0, 0, 0), (4, .getfield 42, 6, 9), (7, .iload_n 1, 0, 0), (8, .iaload, 0, 0)] (by decide +kernel) (z' := (9, [(0, (vR 6 l0)), (1, (vI l1)), (2, (vI l2)), (3, (vI v3))], [(vI (M (R l0 9) (Int.toNat l1))), (vI v3)], R, M, 174)) (cs := [xar 30 0, xidx l1 (xan 30)]) (by rfl) ⟨xar_30, xix_30 c_1, trivial⟩ (Nat.le_refl _) ?_
    rcases xif_ex h with ⟨c_2, h⟩ | ⟨c_2, h⟩
    · skip
      obtain ⟨c_3, h⟩ := xch_ex h
      refine s_N_hasWay [(9, .if_icmp .ge 26, 0, (-1)), (12, .aload_n 0, 0, 0), (13, .getfield 45, 6, 10), (16, .iload_n 1, 0, 0), (17, .bipush 8, 0, 8), (19, .imul, 0, 0), (20, .iload_n 3, 0, 0), (21, .iadd, 0, 0), (22, .iaload, 0, 0), (23, .iload_n 2, 0, 0)] (by decide +kernel) (z' := (24, [(0, (vR 6 l0)), (1, (vI l1)), (2, (vI l2)), (3, (vI v3))], [(vI l2), (vI (M (R l0 10) (Int.toNat (w32 ((w32 (l1 * 8)) + v3)))))], R, M, 174)) (cs := [¬ (M (R l0 9) (Int.toNat l1) ≤ v3), xar 38 0, xidx (w32 ((w32 (l1 * 8)) + v3)) (xan 38)]) (by rfl) ⟨Int.not_le.mpr c_2, xar_38, xix_38 c_3, trivial⟩ (Nat.le_refl _) ?_
      rcases xif_ex h with ⟨c_4, h⟩ | ⟨c_4, h⟩
      · skip
        refine s_N_hasWay [(24, .if_icmp .ne 5, 0, (-1)), (27, .iconst 1, 0, 1)] (by decide +kernel) (z' := (28, [(0, (vR 6 l0)), (1, (vI l1)), (2, (vI l2)), (3, (vI v3))], [(vI 1)], R, M, 174)) (cs := [¬ (M (R l0 10) (Int.toNat (w32 ((w32 (l1 * 8)) + v3))) ≠ l2)]) (by rfl) ⟨fun q => q c_4, trivial⟩ (Nat.le_refl _) ?_
        obtain rfl := Option.some.inj h
        exact XR.retI .boolean rfl (xnar_z (by decide)) (by decide +kernel)
      · skip
        obtain ⟨v3_5, hv3_5, h⟩ := xl_ex h
        refine s_N_hasWay [(24, .if_icmp .ne 5, 0, 29), (29, .iinc 3 1, 0, 0), (32, .goto (-30), 0, 2)] (by decide +kernel) (z' := (2, [(3, (vI v3_5)), (0, (vR 6 l0)), (1, (vI l1)), (2, (vI l2))], [], R, M, 174)) (cs := [M (R l0 10) (Int.toNat (w32 ((w32 (l1 * 8)) + v3))) ≠ l2]) (by subst hv3_5; rfl) ⟨c_4, trivial⟩ (Nat.le_refl _) ?_
        refine XR.pick [1, 2, 3, 0] (ls' := [(0, (vR 6 l0)), (1, (vI l1)), (2, (vI l2)), (3, (vI v3_5))]) rfl ?_
        exact ih v3_5 _ h
    · skip
      refine s_N_hasWay [(9, .if_icmp .ge 26, 0, 35), (35, .iconst 0, 0, 0)] (by decide +kernel) (z' := (36, [(0, (vR 6 l0)), (1, (vI l1)), (2, (vI l2)), (3, (vI v3))], [(vI 0)], R, M, 174)) (cs := [M (R l0 9) (Int.toNat l1) ≤ v3]) (by rfl) ⟨Int.not_lt.mp c_2, trivial⟩ (Nat.le_refl _) ?_
      obtain rfl := Option.some.inj h
      exact XR.retI .boolean rfl (xnar_z (by decide)) (by decide +kernel)
set_option maxRecDepth 100000 in
set_option maxHeartbeats 4000000 in
theorem o_N_hasWay {sc : List Int} {R : xR} {M : xM} {l0 : Nat} {l1 : Int} {l2 : Int} {out : Int} (h : f_N_hasWay R l0 l1 l2 M = some out) : XR false 0 174 sc y_N_hasWay (0, [(0, (vR 6 l0)), (1, (vI l1)), (2, (vI l2))], [], R, M, 174) ((some (vI out)), R, M) := by
  unfold f_N_hasWay at h
  refine s_N_hasWay [(0, .iconst 0, 0, 0), (1, .istore_n 3, 0, 0)] (by decide +kernel) (z' := (2, [(3, (vI 0)), (0, (vR 6 l0)), (1, (vI l1)), (2, (vI l2))], [], R, M, 174)) (cs := []) (by rfl) trivial (Nat.le_refl _) ?_
  refine XR.pick [1, 2, 3, 0] (ls' := [(0, (vR 6 l0)), (1, (vI l1)), (2, (vI l2)), (3, (vI 0))]) rfl ?_
  refine o_N_hasWay_F2  xfu 0 _ h
set_option maxRecDepth 100000 in
set_option maxHeartbeats 4000000 in
theorem c_N_hasWay {sc : List Int} {R : xR} {M : xM} {l0 : Nat} {l1 : Int} {l2 : Int} {out : Int} (h : f_N_hasWay R l0 l1 l2 M = some out) : XC false 0 sc y_N_hasWay [(vR 6 l0), (vI l1), (vI l2)] R M 174 174 ((some (vI out)), R, M) := XC.of (by decide) (Nat.le_of_ble_eq_true rfl) (Nat.le_refl _) (Nat.le_refl _) (o_N_hasWay h)
def N_isWorksName_F2 (R : xR) (M : xM) (l0 : Nat) (l1 : Int) : Nat → Int → Option Int
  | 0, _ => none
  | n + 1, v3 =>
    if v3 < M l0 1 then
      xch (0 ≤ v3 ∧ v3 < 4) <|
      if M (R l0 3) (Int.toNat v3) = l1 then
        some (1)
      else
        xl (w32 (v3 + 1)) fun v3_4 =>
        N_isWorksName_F2 R M l0 l1  n v3_4
    else
      some (0)
def f_N_isWorksName (R : xR) (l0 : Nat) (l1 : Int) (M : xM) : Option Int :=
  N_isWorksName_F2 R M l0 l1
    xfu 0
set_option maxRecDepth 100000 in
set_option maxHeartbeats 4000000 in
theorem s_N_isWorksName {d : Nat} {sc : List Int} {z z' : xS} {out : xO} (qs : List xI) {cs : List Prop} (hq : qs.all (xqb 6 false y_N_isWorksName.2.2.1 y_N_isWorksName.2.1) = true) (h : xN false sc qs z = some (z', cs)) (hc : xAll cs) (hE : z'.2.2.2.2.2 ≤ 174) (k : XR false d 174 sc y_N_isWorksName z' out) : XR false d 174 sc y_N_isWorksName z out := XR.seg 6 false rfl (fun q => by cases q) qs hq h hc hE k
set_option maxRecDepth 100000 in
set_option maxHeartbeats 4000000 in
theorem o_N_isWorksName_F2 {sc : List Int} {R : xR} {M : xM}  {l0 : Nat} {l1 : Int}  : ∀ (n : Nat) (v3 : Int) (out : Int), N_isWorksName_F2 R M l0 l1  n v3 = some out → XR false 0 174 sc y_N_isWorksName (2, [(0, (vR 6 l0)), (1, (vL l1)), (3, (vI v3))], [], R, M, 174) ((some (vI out)), R, M) := by
  intro n
  induction n with
  | zero => intro v3 out h; exact (xno h).elim
  | succ n ih =>
    intro v3 out h
    rw [N_isWorksName_F2] at h
    refine s_N_isWorksName [(2, .iload_n 3, 0, 0), (3, .aload_n 0, 0, 0), (4, .getfield 15, 6, 1)] (by decide +kernel) (z' := (7, [(0, (vR 6 l0)), (1, (vL l1)), (3, (vI v3))], [(vI (M l0 1)), (vI v3)], R, M, 174)) (cs := []) (by rfl) trivial (Nat.le_refl _) ?_
    rcases xif_ex h with ⟨c_1, h⟩ | ⟨c_1, h⟩
    · skip
      obtain ⟨c_2, h⟩ := xch_ex h
      refine s_N_isWorksName [(7, .if_icmp .ge 22, 0, (-1)), (10, .aload_n 0, 0, 0), (11, .getfield 22, 6, 3), (14, .iload_n 3, 0, 0), (15, .laload, 0, 0), (16, .lload_n 1, 0, 0), (17, .lcmp, 0, 0)] (by decide +kernel) (z' := (18, [(0, (vR 6 l0)), (1, (vL l1)), (3, (vI v3))], [(vI (xcmp (M (R l0 3) (Int.toNat v3)) l1))], R, M, 174)) (cs := [¬ (M l0 1 ≤ v3), xar 36 1, xidx v3 (xan 36)]) (by rfl) ⟨Int.not_le.mpr c_1, xar_36, xix_36 c_2, trivial⟩ (Nat.le_refl _) ?_
      rcases xif_ex h with ⟨c_3, h⟩ | ⟨c_3, h⟩
      · skip
        refine s_N_isWorksName [(18, .ifCond .ne 5, 0, (-1)), (21, .iconst 1, 0, 1)] (by decide +kernel) (z' := (22, [(0, (vR 6 l0)), (1, (vL l1)), (3, (vI v3))], [(vI 1)], R, M, 174)) (cs := [¬ (xcmp (M (R l0 3) (Int.toNat v3)) l1 ≠ 0)]) (by rfl) ⟨fun q => q (xcmp_eq.mpr c_3), trivial⟩ (Nat.le_refl _) ?_
        obtain rfl := Option.some.inj h
        exact XR.retI .boolean rfl (xnar_z (by decide)) (by decide +kernel)
      · skip
        obtain ⟨v3_4, hv3_4, h⟩ := xl_ex h
        refine s_N_isWorksName [(18, .ifCond .ne 5, 0, 23), (23, .iinc 3 1, 0, 0), (26, .goto (-24), 0, 2)] (by decide +kernel) (z' := (2, [(3, (vI v3_4)), (0, (vR 6 l0)), (1, (vL l1))], [], R, M, 174)) (cs := [xcmp (M (R l0 3) (Int.toNat v3)) l1 ≠ 0]) (by subst hv3_4; rfl) ⟨fun q => c_3 (xcmp_eq.mp q), trivial⟩ (Nat.le_refl _) ?_
        refine XR.pick [1, 2, 0] (ls' := [(0, (vR 6 l0)), (1, (vL l1)), (3, (vI v3_4))]) rfl ?_
        exact ih v3_4 _ h
    · skip
      refine s_N_isWorksName [(7, .if_icmp .ge 22, 0, 29), (29, .iconst 0, 0, 0)] (by decide +kernel) (z' := (30, [(0, (vR 6 l0)), (1, (vL l1)), (3, (vI v3))], [(vI 0)], R, M, 174)) (cs := [M l0 1 ≤ v3]) (by rfl) ⟨Int.not_lt.mp c_1, trivial⟩ (Nat.le_refl _) ?_
      obtain rfl := Option.some.inj h
      exact XR.retI .boolean rfl (xnar_z (by decide)) (by decide +kernel)
set_option maxRecDepth 100000 in
set_option maxHeartbeats 4000000 in
theorem o_N_isWorksName {sc : List Int} {R : xR} {M : xM} {l0 : Nat} {l1 : Int} {out : Int} (h : f_N_isWorksName R l0 l1 M = some out) : XR false 0 174 sc y_N_isWorksName (0, [(0, (vR 6 l0)), (1, (vL l1))], [], R, M, 174) ((some (vI out)), R, M) := by
  unfold f_N_isWorksName at h
  refine s_N_isWorksName [(0, .iconst 0, 0, 0), (1, .istore_n 3, 0, 0)] (by decide +kernel) (z' := (2, [(3, (vI 0)), (0, (vR 6 l0)), (1, (vL l1))], [], R, M, 174)) (cs := []) (by rfl) trivial (Nat.le_refl _) ?_
  refine XR.pick [1, 2, 0] (ls' := [(0, (vR 6 l0)), (1, (vL l1)), (3, (vI 0))]) rfl ?_
  refine o_N_isWorksName_F2  xfu 0 _ h
set_option maxRecDepth 100000 in
set_option maxHeartbeats 4000000 in
theorem c_N_isWorksName {sc : List Int} {R : xR} {M : xM} {l0 : Nat} {l1 : Int} {out : Int} (h : f_N_isWorksName R l0 l1 M = some out) : XC false 0 sc y_N_isWorksName [(vR 6 l0), (vL l1)] R M 174 174 ((some (vI out)), R, M) := XC.of (by decide) (Nat.le_of_ble_eq_true rfl) (Nat.le_refl _) (Nat.le_refl _) (o_N_isWorksName h)
def f_N_isNewName (R : xR) (l0 : Nat) (l1 : Nat) (l2 : Int) (M : xM) : Option (Int × xM) :=
  xb1 (f_A_isName l1 M) fun r_1 =>
  xb2 (f_A_stands l1 r_1 M) fun r_3 M_4 =>
  if r_3 = 0 then
    some (0, M_4)
  else
    xb1 (f_N_cleanerNamed R l0 (M_4 l1 8) M_4) fun r_7 =>
    if r_7 = -1 then
      xb1 (f_N_isWorksName R l0 (M_4 l1 8) M_4) fun r_10 =>
      if r_10 = 0 then
        if l2 = 0 then
          some (1, M_4)
        else
          xb2 (f_A_wrong l1 6 M_4) fun r_14 M_15 =>
          if r_14 = 0 then
            some (0, M_15)
          else
            some (1, M_15)
      else
        xb2 (f_A_wrong l1 3 M_4) fun r_18 M_19 =>
        xch (r_18 = 0 ∨ r_18 = 1) <|
        some (r_18, M_19)
    else
      xb2 (f_A_wrong l1 3 M_4) fun r_22 M_23 =>
      xch (r_22 = 0 ∨ r_22 = 1) <|
      some (r_22, M_23)
set_option maxRecDepth 100000 in
set_option maxHeartbeats 4000000 in
theorem s_N_isNewName {d : Nat} {sc : List Int} {z z' : xS} {out : xO} (qs : List xI) {cs : List Prop} (hq : qs.all (xqb 6 false y_N_isNewName.2.2.1 y_N_isNewName.2.1) = true) (h : xN false sc qs z = some (z', cs)) (hc : xAll cs) (hE : z'.2.2.2.2.2 ≤ 174) (k : XR false d 174 sc y_N_isNewName z' out) : XR false d 174 sc y_N_isNewName z out := XR.seg 6 false rfl (fun q => by cases q) qs hq h hc hE k
set_option maxRecDepth 100000 in
set_option maxHeartbeats 4000000 in
theorem o_N_isNewName {sc : List Int} {R : xR} {M : xM} {l0 : Nat} {l1 : Nat} {l2 : Int} {out : Int × xM} (h : f_N_isNewName R l0 l1 l2 M = some out) : XR false 2 174 sc y_N_isNewName (0, [(0, (vR 6 l0)), (1, (vR 7 l1)), (2, (vI l2))], [], R, M, 174) ((some (vI out.1)), R, out.2) := by
  unfold f_N_isNewName at h
  refine s_N_isNewName [(0, .aload_n 1, 0, 0), (1, .aload_n 1, 0, 0)] (by decide +kernel) (z' := (2, [(0, (vR 6 l0)), (1, (vR 7 l1)), (2, (vI l2))], [(vR 7 l1), (vR 7 l1)], R, M, 174)) (cs := []) (by rfl) trivial (Nat.le_refl _) ?_
  obtain ⟨r_1, e_2, h⟩ := xb1_ex h
  refine XR.callV 6 rfl (rest := [(vR 7 l1)]) m_A_isName k_6_102 7 l1 (Or.inl ⟨by decide, rfl⟩) [] rfl rfl (c_A_isName e_2) (by decide) (Nat.le_of_ble_eq_true rfl) (by decide +kernel) (Nat.le_refl _) (Nat.le_refl _) ?_
  show XR false 2 174 sc y_N_isNewName (5, [(0, (vR 6 l0)), (1, (vR 7 l1)), (2, (vI l2))], [(vI r_1), (vR 7 l1)], R, M, 174) _
  obtain ⟨r_3, M_4, e_5, h⟩ := xb2_ex h
  refine XR.callV 6 rfl (rest := []) m_A_stands k_6_62 7 l1 (Or.inl ⟨by decide, rfl⟩) [(vI r_1)] rfl rfl (c_A_stands e_5) (by decide) (Nat.le_of_ble_eq_true rfl) (by decide +kernel) (Nat.le_refl _) (Nat.le_refl _) ?_
  show XR false 2 174 sc y_N_isNewName (8, [(0, (vR 6 l0)), (1, (vR 7 l1)), (2, (vI l2))], [(vI r_3)], R, M_4, 174) _
  rcases xif_ex h with ⟨c_6, h⟩ | ⟨c_6, h⟩
  · skip
    refine s_N_isNewName [(8, .ifCond .ne 5, 0, (-1)), (11, .iconst 0, 0, 0)] (by decide +kernel) (z' := (12, [(0, (vR 6 l0)), (1, (vR 7 l1)), (2, (vI l2))], [(vI 0)], R, M_4, 174)) (cs := [¬ (r_3 ≠ 0)]) (by rfl) ⟨fun q => q c_6, trivial⟩ (Nat.le_refl _) ?_
    obtain rfl := Option.some.inj h
    exact XR.retI .boolean rfl (xnar_z (by decide)) (by decide +kernel)
  · skip
    refine s_N_isNewName [(8, .ifCond .ne 5, 0, 13), (13, .aload_n 0, 0, 0), (14, .aload_n 1, 0, 0), (15, .getfield 84, 7, 8)] (by decide +kernel) (z' := (18, [(0, (vR 6 l0)), (1, (vR 7 l1)), (2, (vI l2))], [(vL (M_4 l1 8)), (vR 6 l0)], R, M_4, 174)) (cs := [r_3 ≠ 0]) (by rfl) ⟨c_6, trivial⟩ (Nat.le_refl _) ?_
    obtain ⟨r_7, e_8, h⟩ := xb1_ex h
    refine XR.callV 6 rfl (rest := []) m_N_cleanerNamed k_6_106 6 l0 (Or.inl ⟨by decide, rfl⟩) [(vL (M_4 l1 8))] rfl rfl (c_N_cleanerNamed e_8) (by decide) (Nat.le_of_ble_eq_true rfl) (by decide +kernel) (Nat.le_refl _) (Nat.le_refl _) ?_
    show XR false 2 174 sc y_N_isNewName (21, [(0, (vR 6 l0)), (1, (vR 7 l1)), (2, (vI l2))], [(vI r_7)], R, M_4, 174) _
    refine s_N_isNewName [(21, .iconst (-1), 0, (-1))] (by decide +kernel) (z' := (22, [(0, (vR 6 l0)), (1, (vR 7 l1)), (2, (vI l2))], [(vI (-1)), (vI r_7)], R, M_4, 174)) (cs := []) (by rfl) trivial (Nat.le_refl _) ?_
    rcases xif_ex h with ⟨c_9, h⟩ | ⟨c_9, h⟩
    · skip
      refine s_N_isNewName [(22, .if_icmp .ne 14, 0, (-1)), (25, .aload_n 0, 0, 0), (26, .aload_n 1, 0, 0), (27, .getfield 84, 7, 8)] (by decide +kernel) (z' := (30, [(0, (vR 6 l0)), (1, (vR 7 l1)), (2, (vI l2))], [(vL (M_4 l1 8)), (vR 6 l0)], R, M_4, 174)) (cs := [¬ (r_7 ≠ -1)]) (by rfl) ⟨fun q => q c_9, trivial⟩ (Nat.le_refl _) ?_
      obtain ⟨r_10, e_11, h⟩ := xb1_ex h
      refine XR.callV 6 rfl (rest := []) m_N_isWorksName k_6_110 6 l0 (Or.inl ⟨by decide, rfl⟩) [(vL (M_4 l1 8))] rfl rfl (c_N_isWorksName e_11) (by decide) (Nat.le_of_ble_eq_true rfl) (by decide +kernel) (Nat.le_refl _) (Nat.le_refl _) ?_
      show XR false 2 174 sc y_N_isNewName (33, [(0, (vR 6 l0)), (1, (vR 7 l1)), (2, (vI l2))], [(vI r_10)], R, M_4, 174) _
      rcases xif_ex h with ⟨c_12, h⟩ | ⟨c_12, h⟩
      · skip
        refine s_N_isNewName [(33, .ifCond .eq 9, 0, 42), (42, .iload_n 2, 0, 0)] (by decide +kernel) (z' := (43, [(0, (vR 6 l0)), (1, (vR 7 l1)), (2, (vI l2))], [(vI l2)], R, M_4, 174)) (cs := [r_10 = 0]) (by rfl) ⟨c_12, trivial⟩ (Nat.le_refl _) ?_
        rcases xif_ex h with ⟨c_13, h⟩ | ⟨c_13, h⟩
        · skip
          refine s_N_isNewName [(43, .ifCond .eq 12, 0, 55), (55, .iconst 1, 0, 1), (56, .goto 4, 0, 60)] (by decide +kernel) (z' := (60, [(0, (vR 6 l0)), (1, (vR 7 l1)), (2, (vI l2))], [(vI 1)], R, M_4, 174)) (cs := [l2 = 0]) (by rfl) ⟨c_13, trivial⟩ (Nat.le_refl _) ?_
          obtain rfl := Option.some.inj h
          exact XR.retI .boolean rfl (xnar_z (by decide)) (by decide +kernel)
        · skip
          refine s_N_isNewName [(43, .ifCond .eq 12, 0, (-1)), (46, .aload_n 1, 0, 0), (47, .bipush 6, 0, 6)] (by decide +kernel) (z' := (49, [(0, (vR 6 l0)), (1, (vR 7 l1)), (2, (vI l2))], [(vI 6), (vR 7 l1)], R, M_4, 174)) (cs := [¬ (l2 = 0)]) (by rfl) ⟨c_13, trivial⟩ (Nat.le_refl _) ?_
          obtain ⟨r_14, M_15, e_16, h⟩ := xb2_ex h
          refine XR.callV 6 rfl (rest := []) m_A_wrong k_6_114 7 l1 (Or.inl ⟨by decide, rfl⟩) [(vI 6)] rfl rfl (c_A_wrong e_16) (by decide) (Nat.le_of_ble_eq_true rfl) (by decide +kernel) (Nat.le_refl _) (Nat.le_refl _) ?_
          show XR false 2 174 sc y_N_isNewName (52, [(0, (vR 6 l0)), (1, (vR 7 l1)), (2, (vI l2))], [(vI r_14)], R, M_15, 174) _
          rcases xif_ex h with ⟨c_17, h⟩ | ⟨c_17, h⟩
          · skip
            refine s_N_isNewName [(52, .ifCond .eq 7, 0, 59), (59, .iconst 0, 0, 0)] (by decide +kernel) (z' := (60, [(0, (vR 6 l0)), (1, (vR 7 l1)), (2, (vI l2))], [(vI 0)], R, M_15, 174)) (cs := [r_14 = 0]) (by rfl) ⟨c_17, trivial⟩ (Nat.le_refl _) ?_
            obtain rfl := Option.some.inj h
            exact XR.retI .boolean rfl (xnar_z (by decide)) (by decide +kernel)
          · skip
            refine s_N_isNewName [(52, .ifCond .eq 7, 0, (-1)), (55, .iconst 1, 0, 1), (56, .goto 4, 0, 60)] (by decide +kernel) (z' := (60, [(0, (vR 6 l0)), (1, (vR 7 l1)), (2, (vI l2))], [(vI 1)], R, M_15, 174)) (cs := [¬ (r_14 = 0)]) (by rfl) ⟨c_17, trivial⟩ (Nat.le_refl _) ?_
            obtain rfl := Option.some.inj h
            exact XR.retI .boolean rfl (xnar_z (by decide)) (by decide +kernel)
      · skip
        refine s_N_isNewName [(33, .ifCond .eq 9, 0, (-1)), (36, .aload_n 1, 0, 0), (37, .iconst 3, 0, 3)] (by decide +kernel) (z' := (38, [(0, (vR 6 l0)), (1, (vR 7 l1)), (2, (vI l2))], [(vI 3), (vR 7 l1)], R, M_4, 174)) (cs := [¬ (r_10 = 0)]) (by rfl) ⟨c_12, trivial⟩ (Nat.le_refl _) ?_
        obtain ⟨r_18, M_19, e_20, h⟩ := xb2_ex h
        refine XR.callV 6 rfl (rest := []) m_A_wrong k_6_114 7 l1 (Or.inl ⟨by decide, rfl⟩) [(vI 3)] rfl rfl (c_A_wrong e_20) (by decide) (Nat.le_of_ble_eq_true rfl) (by decide +kernel) (Nat.le_refl _) (Nat.le_refl _) ?_
        show XR false 2 174 sc y_N_isNewName (41, [(0, (vR 6 l0)), (1, (vR 7 l1)), (2, (vI l2))], [(vI r_18)], R, M_19, 174) _
        obtain ⟨c_21, h⟩ := xch_ex h
        obtain rfl := Option.some.inj h
        exact XR.retI .boolean rfl (xnar_z c_21) (by decide +kernel)
    · skip
      refine s_N_isNewName [(22, .if_icmp .ne 14, 0, 36), (36, .aload_n 1, 0, 0), (37, .iconst 3, 0, 3)] (by decide +kernel) (z' := (38, [(0, (vR 6 l0)), (1, (vR 7 l1)), (2, (vI l2))], [(vI 3), (vR 7 l1)], R, M_4, 174)) (cs := [r_7 ≠ -1]) (by rfl) ⟨c_9, trivial⟩ (Nat.le_refl _) ?_
      obtain ⟨r_22, M_23, e_24, h⟩ := xb2_ex h
      refine XR.callV 6 rfl (rest := []) m_A_wrong k_6_114 7 l1 (Or.inl ⟨by decide, rfl⟩) [(vI 3)] rfl rfl (c_A_wrong e_24) (by decide) (Nat.le_of_ble_eq_true rfl) (by decide +kernel) (Nat.le_refl _) (Nat.le_refl _) ?_
      show XR false 2 174 sc y_N_isNewName (41, [(0, (vR 6 l0)), (1, (vR 7 l1)), (2, (vI l2))], [(vI r_22)], R, M_23, 174) _
      obtain ⟨c_25, h⟩ := xch_ex h
      obtain rfl := Option.some.inj h
      exact XR.retI .boolean rfl (xnar_z c_25) (by decide +kernel)
set_option maxRecDepth 100000 in
set_option maxHeartbeats 4000000 in
theorem c_N_isNewName {sc : List Int} {R : xR} {M : xM} {l0 : Nat} {l1 : Nat} {l2 : Int} {out : Int × xM} (h : f_N_isNewName R l0 l1 l2 M = some out) : XC false 2 sc y_N_isNewName [(vR 6 l0), (vR 7 l1), (vI l2)] R M 174 174 ((some (vI out.1)), R, out.2) := XC.of (by decide) (Nat.le_of_ble_eq_true rfl) (Nat.le_refl _) (Nat.le_refl _) (o_N_isNewName h)
def f_N_limitWord (l0 : Int) : Option Int :=
  if l0 = 1 then
    some (7)
  else
    if l0 = 2 then
      some (9)
    else
      some (10)
set_option maxRecDepth 100000 in
set_option maxHeartbeats 4000000 in
theorem s_N_limitWord {d : Nat} {sc : List Int} {z z' : xS} {out : xO} (qs : List xI) {cs : List Prop} (hq : qs.all (xqb 6 false y_N_limitWord.2.2.1 y_N_limitWord.2.1) = true) (h : xN false sc qs z = some (z', cs)) (hc : xAll cs) (hE : z'.2.2.2.2.2 ≤ 174) (k : XR false d 174 sc y_N_limitWord z' out) : XR false d 174 sc y_N_limitWord z out := XR.seg 6 false rfl (fun q => by cases q) qs hq h hc hE k
set_option maxRecDepth 100000 in
set_option maxHeartbeats 4000000 in
theorem o_N_limitWord {sc : List Int} {R : xR} {M : xM} {l0 : Int} {out : Int} (h : f_N_limitWord l0 = some out) : XR false 0 174 sc y_N_limitWord (0, [(0, (vI l0))], [], R, M, 174) ((some (vI out)), R, M) := by
  unfold f_N_limitWord at h
  refine s_N_limitWord [(0, .iload_n 0, 0, 0), (1, .iconst 1, 0, 1)] (by decide +kernel) (z' := (2, [(0, (vI l0))], [(vI 1), (vI l0)], R, M, 174)) (cs := []) (by rfl) trivial (Nat.le_refl _) ?_
  rcases xif_ex h with ⟨c_1, h⟩ | ⟨c_1, h⟩
  · skip
    refine s_N_limitWord [(2, .if_icmp .ne 6, 0, (-1)), (5, .bipush 7, 0, 7)] (by decide +kernel) (z' := (7, [(0, (vI l0))], [(vI 7)], R, M, 174)) (cs := [¬ (l0 ≠ 1)]) (by rfl) ⟨fun q => q c_1, trivial⟩ (Nat.le_refl _) ?_
    obtain rfl := Option.some.inj h
    exact XR.retI .int rfl rfl (by decide +kernel)
  · skip
    refine s_N_limitWord [(2, .if_icmp .ne 6, 0, 8), (8, .iload_n 0, 0, 0), (9, .iconst 2, 0, 2)] (by decide +kernel) (z' := (10, [(0, (vI l0))], [(vI 2), (vI l0)], R, M, 174)) (cs := [l0 ≠ 1]) (by rfl) ⟨c_1, trivial⟩ (Nat.le_refl _) ?_
    rcases xif_ex h with ⟨c_2, h⟩ | ⟨c_2, h⟩
    · skip
      refine s_N_limitWord [(10, .if_icmp .ne 8, 0, (-1)), (13, .bipush 9, 0, 9), (15, .goto 5, 0, 20)] (by decide +kernel) (z' := (20, [(0, (vI l0))], [(vI 9)], R, M, 174)) (cs := [¬ (l0 ≠ 2)]) (by rfl) ⟨fun q => q c_2, trivial⟩ (Nat.le_refl _) ?_
      obtain rfl := Option.some.inj h
      exact XR.retI .int rfl rfl (by decide +kernel)
    · skip
      refine s_N_limitWord [(10, .if_icmp .ne 8, 0, 18), (18, .bipush 10, 0, 10)] (by decide +kernel) (z' := (20, [(0, (vI l0))], [(vI 10)], R, M, 174)) (cs := [l0 ≠ 2]) (by rfl) ⟨c_2, trivial⟩ (Nat.le_refl _) ?_
      obtain rfl := Option.some.inj h
      exact XR.retI .int rfl rfl (by decide +kernel)
set_option maxRecDepth 100000 in
set_option maxHeartbeats 4000000 in
theorem c_N_limitWord {sc : List Int} {R : xR} {M : xM} {l0 : Int} {out : Int} (h : f_N_limitWord l0 = some out) : XC false 0 sc y_N_limitWord [(vI l0)] R M 174 174 ((some (vI out)), R, M) := XC.of (by decide) (Nat.le_of_ble_eq_true rfl) (Nat.le_refl _) (Nat.le_refl _) (o_N_limitWord h)
def N_readHolds_J33 (R : xR) (l0 : Nat) (l1 : Nat) (l2 : Int) (rc : Int → xM → Option (Int × xM)) (v3 : Int) (M : xM) : Option (Int × xM) :=
  xb2 (f_A_takeNumber R l1 0 100 4 M) fun r_11 M_12 =>
  if r_11 = 0 then
    some (0, M_12)
  else
    xch (0 ≤ w32 ((w32 (l2 * 4)) + v3) ∧ w32 ((w32 (l2 * 4)) + v3) < 32) <|
    xl (xu M_12 (R l0 5) (Int.toNat (w32 ((w32 (l2 * 4)) + v3))) (M_12 l1 11)) fun M_16 =>
    xl (w32 (v3 + 1)) fun v3_17 =>
    rc v3_17 M_16
def N_readHolds_F13 (R : xR) (l0 : Nat) (l1 : Nat) (l2 : Int) : Nat → Int → xM → Option (Int × xM)
  | 0, _, _ => none
  | n + 1, v3, M =>
    if v3 < 4 then
      if 0 < v3 then
        xb2 (f_A_takeSign R l1 44 M) fun r_7 M_8 =>
        if r_7 = 0 then
          some (0, M_8)
        else
          N_readHolds_J33 R l0 l1 l2 (N_readHolds_F13 R l0 l1 l2  n) v3 M_8
      else
        N_readHolds_J33 R l0 l1 l2 (N_readHolds_F13 R l0 l1 l2  n) v3 M
    else
      some (1, M)
def f_N_readHolds (R : xR) (l0 : Nat) (l1 : Nat) (l2 : Int) (M : xM) : Option (Int × xM) :=
  xb2 (f_A_takeKey R l1 6 M) fun r_1 M_2 =>
  if r_1 = 0 then
    some (0, M_2)
  else
    N_readHolds_F13 R l0 l1 l2
      xfu 0 M_2
set_option maxRecDepth 100000 in
set_option maxHeartbeats 4000000 in
theorem s_N_readHolds {d : Nat} {sc : List Int} {z z' : xS} {out : xO} (qs : List xI) {cs : List Prop} (hq : qs.all (xqb 6 false y_N_readHolds.2.2.1 y_N_readHolds.2.1) = true) (h : xN false sc qs z = some (z', cs)) (hc : xAll cs) (hE : z'.2.2.2.2.2 ≤ 174) (k : XR false d 174 sc y_N_readHolds z' out) : XR false d 174 sc y_N_readHolds z out := XR.seg 6 false rfl (fun q => by cases q) qs hq h hc hE k
set_option maxRecDepth 100000 in
set_option maxHeartbeats 4000000 in
theorem o_N_readHolds_J33 {sc : List Int} {R : xR}   {l0 : Nat} {l1 : Nat} {l2 : Int}  {rc : Int → xM → Option (Int × xM)} (hrc : ∀ (w3 : Int) (M : xM) (out : Int × xM), rc w3 M = some out → XR false 7 174 sc y_N_readHolds (13, [(0, (vR 6 l0)), (1, (vR 7 l1)), (2, (vI l2)), (3, (vI w3))], [], R, M, 174) ((some (vI out.1)), R, out.2)) {v3 : Int} {M : xM} {out : Int × xM} (h : N_readHolds_J33 R l0 l1 l2 rc v3 M = some out) : XR false 7 174 sc y_N_readHolds (33, [(0, (vR 6 l0)), (1, (vR 7 l1)), (2, (vI l2)), (3, (vI v3))], [], R, M, 174) ((some (vI out.1)), R, out.2) := by
  unfold N_readHolds_J33 at h
  refine s_N_readHolds [(33, .aload_n 1, 0, 0), (34, .iconst 0, 0, 0), (35, .bipush 100, 0, 100), (37, .iconst 4, 0, 4)] (by decide +kernel) (z' := (38, [(0, (vR 6 l0)), (1, (vR 7 l1)), (2, (vI l2)), (3, (vI v3))], [(vI 4), (vI 100), (vI 0), (vR 7 l1)], R, M, 174)) (cs := []) (by rfl) trivial (Nat.le_refl _) ?_
  obtain ⟨r_11, M_12, e_13, h⟩ := xb2_ex h
  refine XR.callV 6 rfl (rest := []) m_A_takeNumber k_6_121 7 l1 (Or.inl ⟨by decide, rfl⟩) [(vI 0), (vI 100), (vI 4)] rfl rfl (c_A_takeNumber e_13) (by decide) (Nat.le_of_ble_eq_true rfl) (by decide +kernel) (Nat.le_refl _) (Nat.le_refl _) ?_
  show XR false 7 174 sc y_N_readHolds (41, [(0, (vR 6 l0)), (1, (vR 7 l1)), (2, (vI l2)), (3, (vI v3))], [(vI r_11)], R, M_12, 174) _
  rcases xif_ex h with ⟨c_14, h⟩ | ⟨c_14, h⟩
  · skip
    refine s_N_readHolds [(41, .ifCond .ne 5, 0, (-1)), (44, .iconst 0, 0, 0)] (by decide +kernel) (z' := (45, [(0, (vR 6 l0)), (1, (vR 7 l1)), (2, (vI l2)), (3, (vI v3))], [(vI 0)], R, M_12, 174)) (cs := [¬ (r_11 ≠ 0)]) (by rfl) ⟨fun q => q c_14, trivial⟩ (Nat.le_refl _) ?_
    obtain rfl := Option.some.inj h
    exact XR.retI .boolean rfl (xnar_z (by decide)) (by decide +kernel)
  · skip
    obtain ⟨c_15, h⟩ := xch_ex h
    obtain ⟨M_16, hM_16, h⟩ := xl_ex h
    obtain ⟨v3_17, hv3_17, h⟩ := xl_ex h
    refine s_N_readHolds [(41, .ifCond .ne 5, 0, 46), (46, .aload_n 0, 0, 0), (47, .getfield 29, 6, 5), (50, .iload_n 2, 0, 0), (51, .iconst 4, 0, 4), (52, .imul, 0, 0), (53, .iload_n 3, 0, 0), (54, .iadd, 0, 0), (55, .aload_n 1, 0, 0), (56, .getfield 125, 7, 11), (59, .iastore, 0, 0), (60, .iinc 3 1, 0, 0), (63, .goto (-50), 0, 13)] (by decide +kernel) (z' := (13, [(3, (vI v3_17)), (0, (vR 6 l0)), (1, (vR 7 l1)), (2, (vI l2))], [], R, M_16, 174)) (cs := [r_11 ≠ 0, xar 27 0, xidx (w32 ((w32 (l2 * 4)) + v3)) (xan 27)]) (by subst hM_16; subst hv3_17; rfl) ⟨c_14, xar_27, xix_27 c_15, trivial⟩ (Nat.le_refl _) ?_
    refine XR.pick [1, 2, 3, 0] (ls' := [(0, (vR 6 l0)), (1, (vR 7 l1)), (2, (vI l2)), (3, (vI v3_17))]) rfl ?_
    exact hrc v3_17 M_16 _ h
set_option maxRecDepth 100000 in
set_option maxHeartbeats 4000000 in
theorem o_N_readHolds_F13 {sc : List Int} {R : xR}   {l0 : Nat} {l1 : Nat} {l2 : Int}  : ∀ (n : Nat) (v3 : Int) (M : xM) (out : Int × xM), N_readHolds_F13 R l0 l1 l2  n v3 M = some out → XR false 7 174 sc y_N_readHolds (13, [(0, (vR 6 l0)), (1, (vR 7 l1)), (2, (vI l2)), (3, (vI v3))], [], R, M, 174) ((some (vI out.1)), R, out.2) := by
  intro n
  induction n with
  | zero => intro v3 M out h; exact (xno h).elim
  | succ n ih =>
    intro v3 M out h
    rw [N_readHolds_F13] at h
    refine s_N_readHolds [(13, .iload_n 3, 0, 0), (14, .iconst 4, 0, 4)] (by decide +kernel) (z' := (15, [(0, (vR 6 l0)), (1, (vR 7 l1)), (2, (vI l2)), (3, (vI v3))], [(vI 4), (vI v3)], R, M, 174)) (cs := []) (by rfl) trivial (Nat.le_refl _) ?_
    rcases xif_ex h with ⟨c_5, h⟩ | ⟨c_5, h⟩
    · skip
      refine s_N_readHolds [(15, .if_icmp .ge 51, 0, (-1)), (18, .iload_n 3, 0, 0)] (by decide +kernel) (z' := (19, [(0, (vR 6 l0)), (1, (vR 7 l1)), (2, (vI l2)), (3, (vI v3))], [(vI v3)], R, M, 174)) (cs := [¬ (4 ≤ v3)]) (by rfl) ⟨Int.not_le.mpr c_5, trivial⟩ (Nat.le_refl _) ?_
      rcases xif_ex h with ⟨c_6, h⟩ | ⟨c_6, h⟩
      · skip
        refine s_N_readHolds [(19, .ifCond .le 14, 0, (-1)), (22, .aload_n 1, 0, 0), (23, .bipush 44, 0, 44)] (by decide +kernel) (z' := (25, [(0, (vR 6 l0)), (1, (vR 7 l1)), (2, (vI l2)), (3, (vI v3))], [(vI 44), (vR 7 l1)], R, M, 174)) (cs := [¬ (v3 ≤ 0)]) (by rfl) ⟨Int.not_le.mpr c_6, trivial⟩ (Nat.le_refl _) ?_
        obtain ⟨r_7, M_8, e_9, h⟩ := xb2_ex h
        refine XR.callV 6 rfl (rest := []) m_A_takeSign k_6_98 7 l1 (Or.inl ⟨by decide, rfl⟩) [(vI 44)] rfl rfl (c_A_takeSign e_9) (by decide) (Nat.le_of_ble_eq_true rfl) (by decide +kernel) (Nat.le_refl _) (Nat.le_refl _) ?_
        show XR false 7 174 sc y_N_readHolds (28, [(0, (vR 6 l0)), (1, (vR 7 l1)), (2, (vI l2)), (3, (vI v3))], [(vI r_7)], R, M_8, 174) _
        rcases xif_ex h with ⟨c_10, h⟩ | ⟨c_10, h⟩
        · skip
          refine s_N_readHolds [(28, .ifCond .ne 5, 0, (-1)), (31, .iconst 0, 0, 0)] (by decide +kernel) (z' := (32, [(0, (vR 6 l0)), (1, (vR 7 l1)), (2, (vI l2)), (3, (vI v3))], [(vI 0)], R, M_8, 174)) (cs := [¬ (r_7 ≠ 0)]) (by rfl) ⟨fun q => q c_10, trivial⟩ (Nat.le_refl _) ?_
          obtain rfl := Option.some.inj h
          exact XR.retI .boolean rfl (xnar_z (by decide)) (by decide +kernel)
        · skip
          refine s_N_readHolds [(28, .ifCond .ne 5, 0, 33)] (by decide +kernel) (z' := (33, [(0, (vR 6 l0)), (1, (vR 7 l1)), (2, (vI l2)), (3, (vI v3))], [], R, M_8, 174)) (cs := [r_7 ≠ 0]) (by rfl) ⟨c_10, trivial⟩ (Nat.le_refl _) ?_
          exact o_N_readHolds_J33 ih h
      · skip
        refine s_N_readHolds [(19, .ifCond .le 14, 0, 33)] (by decide +kernel) (z' := (33, [(0, (vR 6 l0)), (1, (vR 7 l1)), (2, (vI l2)), (3, (vI v3))], [], R, M, 174)) (cs := [v3 ≤ 0]) (by rfl) ⟨Int.not_lt.mp c_6, trivial⟩ (Nat.le_refl _) ?_
        exact o_N_readHolds_J33 ih h
    · skip
      refine s_N_readHolds [(15, .if_icmp .ge 51, 0, 66), (66, .iconst 1, 0, 1)] (by decide +kernel) (z' := (67, [(0, (vR 6 l0)), (1, (vR 7 l1)), (2, (vI l2)), (3, (vI v3))], [(vI 1)], R, M, 174)) (cs := [4 ≤ v3]) (by rfl) ⟨Int.not_lt.mp c_5, trivial⟩ (Nat.le_refl _) ?_
      obtain rfl := Option.some.inj h
      exact XR.retI .boolean rfl (xnar_z (by decide)) (by decide +kernel)
set_option maxRecDepth 100000 in
set_option maxHeartbeats 4000000 in
theorem o_N_readHolds {sc : List Int} {R : xR} {M : xM} {l0 : Nat} {l1 : Nat} {l2 : Int} {out : Int × xM} (h : f_N_readHolds R l0 l1 l2 M = some out) : XR false 7 174 sc y_N_readHolds (0, [(0, (vR 6 l0)), (1, (vR 7 l1)), (2, (vI l2))], [], R, M, 174) ((some (vI out.1)), R, out.2) := by
  unfold f_N_readHolds at h
  refine s_N_readHolds [(0, .aload_n 1, 0, 0), (1, .bipush 6, 0, 6)] (by decide +kernel) (z' := (3, [(0, (vR 6 l0)), (1, (vR 7 l1)), (2, (vI l2))], [(vI 6), (vR 7 l1)], R, M, 174)) (cs := []) (by rfl) trivial (Nat.le_refl _) ?_
  obtain ⟨r_1, M_2, e_3, h⟩ := xb2_ex h
  refine XR.callV 6 rfl (rest := []) m_A_takeKey k_6_118 7 l1 (Or.inl ⟨by decide, rfl⟩) [(vI 6)] rfl rfl (c_A_takeKey e_3) (by decide) (Nat.le_of_ble_eq_true rfl) (by decide +kernel) (Nat.le_refl _) (Nat.le_refl _) ?_
  show XR false 7 174 sc y_N_readHolds (6, [(0, (vR 6 l0)), (1, (vR 7 l1)), (2, (vI l2))], [(vI r_1)], R, M_2, 174) _
  rcases xif_ex h with ⟨c_4, h⟩ | ⟨c_4, h⟩
  · skip
    refine s_N_readHolds [(6, .ifCond .ne 5, 0, (-1)), (9, .iconst 0, 0, 0)] (by decide +kernel) (z' := (10, [(0, (vR 6 l0)), (1, (vR 7 l1)), (2, (vI l2))], [(vI 0)], R, M_2, 174)) (cs := [¬ (r_1 ≠ 0)]) (by rfl) ⟨fun q => q c_4, trivial⟩ (Nat.le_refl _) ?_
    obtain rfl := Option.some.inj h
    exact XR.retI .boolean rfl (xnar_z (by decide)) (by decide +kernel)
  · skip
    refine s_N_readHolds [(6, .ifCond .ne 5, 0, 11), (11, .iconst 0, 0, 0), (12, .istore_n 3, 0, 0)] (by decide +kernel) (z' := (13, [(3, (vI 0)), (0, (vR 6 l0)), (1, (vR 7 l1)), (2, (vI l2))], [], R, M_2, 174)) (cs := [r_1 ≠ 0]) (by rfl) ⟨c_4, trivial⟩ (Nat.le_refl _) ?_
    refine XR.pick [1, 2, 3, 0] (ls' := [(0, (vR 6 l0)), (1, (vR 7 l1)), (2, (vI l2)), (3, (vI 0))]) rfl ?_
    refine o_N_readHolds_F13  xfu 0 M_2 _ h
set_option maxRecDepth 100000 in
set_option maxHeartbeats 4000000 in
theorem c_N_readHolds {sc : List Int} {R : xR} {M : xM} {l0 : Nat} {l1 : Nat} {l2 : Int} {out : Int × xM} (h : f_N_readHolds R l0 l1 l2 M = some out) : XC false 7 sc y_N_readHolds [(vR 6 l0), (vR 7 l1), (vI l2)] R M 174 174 ((some (vI out.1)), R, out.2) := XC.of (by decide) (Nat.le_of_ble_eq_true rfl) (Nat.le_refl _) (Nat.le_refl _) (o_N_readHolds h)
def N_readLimit_J49 (R : xR) (l0 : Nat) (l1 : Nat) (l2 : Int) (v3 : Int) (s0 : Int) (s1 : Nat) (M : xM) : Option (Int × xM) :=
  xb2 (f_A_takeNumber R s1 s0 9999 4 M) fun r_13 M_14 =>
  if r_13 = 0 then
    some (0, M_14)
  else
    xch (0 ≤ l2 ∧ l2 < 8) <|
    xl (xu M_14 (R l0 6) (Int.toNat l2) (M_14 l1 11)) fun M_18 =>
    if v3 = 1 then
      xb2 (f_A_takeKey R l1 8 M_18) fun r_20 M_21 =>
      if r_20 = 0 then
        some (0, M_21)
      else
        xb2 (f_A_takeNumber R l1 0 100 4 M_21) fun r_24 M_25 =>
        if r_24 = 0 then
          some (0, M_25)
        else
          xl (xu M_25 (R l0 7) (Int.toNat l2) (M_25 l1 11)) fun M_28 =>
          some (1, M_28)
    else
      some (1, M_18)
def f_N_readLimit (R : xR) (l0 : Nat) (l1 : Nat) (l2 : Int) (M : xM) : Option (Int × xM) :=
  xch (0 ≤ l2 ∧ l2 < 8) <|
  xl (M (R l0 4) (Int.toNat l2)) fun v3_2 =>
  xl (xu M (R l0 6) (Int.toNat l2) 0) fun M_3 =>
  xl (xu M_3 (R l0 7) (Int.toNat l2) 0) fun M_4 =>
  if v3_2 = 0 then
    some (1, M_4)
  else
    xb1 (f_N_limitWord v3_2) fun r_6 =>
    xb2 (f_A_takeKey R l1 r_6 M_4) fun r_8 M_9 =>
    if r_8 = 0 then
      some (0, M_9)
    else
      if v3_2 = 3 then
        N_readLimit_J49 R l0 l1 l2 v3_2 0 l1 M_9
      else
        N_readLimit_J49 R l0 l1 l2 v3_2 1 l1 M_9
set_option maxRecDepth 100000 in
set_option maxHeartbeats 4000000 in
theorem s_N_readLimit {d : Nat} {sc : List Int} {z z' : xS} {out : xO} (qs : List xI) {cs : List Prop} (hq : qs.all (xqb 6 false y_N_readLimit.2.2.1 y_N_readLimit.2.1) = true) (h : xN false sc qs z = some (z', cs)) (hc : xAll cs) (hE : z'.2.2.2.2.2 ≤ 174) (k : XR false d 174 sc y_N_readLimit z' out) : XR false d 174 sc y_N_readLimit z out := XR.seg 6 false rfl (fun q => by cases q) qs hq h hc hE k
set_option maxRecDepth 100000 in
set_option maxHeartbeats 4000000 in
theorem o_N_readLimit_J49 {sc : List Int} {R : xR}   {l0 : Nat} {l1 : Nat} {l2 : Int}  {v3 : Int} {s0 : Int} {s1 : Nat} {M : xM} {out : Int × xM} (h : N_readLimit_J49 R l0 l1 l2  v3 s0 s1 M = some out) : XR false 7 174 sc y_N_readLimit (49, [(0, (vR 6 l0)), (1, (vR 7 l1)), (2, (vI l2)), (3, (vI v3))], [(vI s0), (vR 7 s1)], R, M, 174) ((some (vI out.1)), R, out.2) := by
  unfold N_readLimit_J49 at h
  refine s_N_readLimit [(49, .sipush 9999, 0, 9999), (52, .iconst 4, 0, 4)] (by decide +kernel) (z' := (53, [(0, (vR 6 l0)), (1, (vR 7 l1)), (2, (vI l2)), (3, (vI v3))], [(vI 4), (vI 9999), (vI s0), (vR 7 s1)], R, M, 174)) (cs := []) (by rfl) trivial (Nat.le_refl _) ?_
  obtain ⟨r_13, M_14, e_15, h⟩ := xb2_ex h
  refine XR.callV 6 rfl (rest := []) m_A_takeNumber k_6_121 7 s1 (Or.inl ⟨by decide, rfl⟩) [(vI s0), (vI 9999), (vI 4)] rfl rfl (c_A_takeNumber e_15) (by decide) (Nat.le_of_ble_eq_true rfl) (by decide +kernel) (Nat.le_refl _) (Nat.le_refl _) ?_
  show XR false 7 174 sc y_N_readLimit (56, [(0, (vR 6 l0)), (1, (vR 7 l1)), (2, (vI l2)), (3, (vI v3))], [(vI r_13)], R, M_14, 174) _
  rcases xif_ex h with ⟨c_16, h⟩ | ⟨c_16, h⟩
  · skip
    refine s_N_readLimit [(56, .ifCond .ne 5, 0, (-1)), (59, .iconst 0, 0, 0)] (by decide +kernel) (z' := (60, [(0, (vR 6 l0)), (1, (vR 7 l1)), (2, (vI l2)), (3, (vI v3))], [(vI 0)], R, M_14, 174)) (cs := [¬ (r_13 ≠ 0)]) (by rfl) ⟨fun q => q c_16, trivial⟩ (Nat.le_refl _) ?_
    obtain rfl := Option.some.inj h
    exact XR.retI .boolean rfl (xnar_z (by decide)) (by decide +kernel)
  · skip
    obtain ⟨c_17, h⟩ := xch_ex h
    obtain ⟨M_18, hM_18, h⟩ := xl_ex h
    refine s_N_readLimit [(56, .ifCond .ne 5, 0, 61), (61, .aload_n 0, 0, 0), (62, .getfield 32, 6, 6), (65, .iload_n 2, 0, 0), (66, .aload_n 1, 0, 0), (67, .getfield 125, 7, 11), (70, .iastore, 0, 0), (71, .iload_n 3, 0, 0), (72, .iconst 1, 0, 1)] (by decide +kernel) (z' := (73, [(0, (vR 6 l0)), (1, (vR 7 l1)), (2, (vI l2)), (3, (vI v3))], [(vI 1), (vI v3)], R, M_18, 174)) (cs := [r_13 ≠ 0, xar 30 0, xidx l2 (xan 30)]) (by subst hM_18; rfl) ⟨c_16, xar_30, xix_30 c_17, trivial⟩ (Nat.le_refl _) ?_
    rcases xif_ex h with ⟨c_19, h⟩ | ⟨c_19, h⟩
    · skip
      refine s_N_readLimit [(73, .if_icmp .eq 5, 0, 78), (78, .aload_n 1, 0, 0), (79, .bipush 8, 0, 8)] (by decide +kernel) (z' := (81, [(0, (vR 6 l0)), (1, (vR 7 l1)), (2, (vI l2)), (3, (vI v3))], [(vI 8), (vR 7 l1)], R, M_18, 174)) (cs := [v3 = 1]) (by rfl) ⟨c_19, trivial⟩ (Nat.le_refl _) ?_
      obtain ⟨r_20, M_21, e_22, h⟩ := xb2_ex h
      refine XR.callV 6 rfl (rest := []) m_A_takeKey k_6_118 7 l1 (Or.inl ⟨by decide, rfl⟩) [(vI 8)] rfl rfl (c_A_takeKey e_22) (by decide) (Nat.le_of_ble_eq_true rfl) (by decide +kernel) (Nat.le_refl _) (Nat.le_refl _) ?_
      show XR false 7 174 sc y_N_readLimit (84, [(0, (vR 6 l0)), (1, (vR 7 l1)), (2, (vI l2)), (3, (vI v3))], [(vI r_20)], R, M_21, 174) _
      rcases xif_ex h with ⟨c_23, h⟩ | ⟨c_23, h⟩
      · skip
        refine s_N_readLimit [(84, .ifCond .eq 14, 0, 98), (98, .iconst 0, 0, 0)] (by decide +kernel) (z' := (99, [(0, (vR 6 l0)), (1, (vR 7 l1)), (2, (vI l2)), (3, (vI v3))], [(vI 0)], R, M_21, 174)) (cs := [r_20 = 0]) (by rfl) ⟨c_23, trivial⟩ (Nat.le_refl _) ?_
        obtain rfl := Option.some.inj h
        exact XR.retI .boolean rfl (xnar_z (by decide)) (by decide +kernel)
      · skip
        refine s_N_readLimit [(84, .ifCond .eq 14, 0, (-1)), (87, .aload_n 1, 0, 0), (88, .iconst 0, 0, 0), (89, .bipush 100, 0, 100), (91, .iconst 4, 0, 4)] (by decide +kernel) (z' := (92, [(0, (vR 6 l0)), (1, (vR 7 l1)), (2, (vI l2)), (3, (vI v3))], [(vI 4), (vI 100), (vI 0), (vR 7 l1)], R, M_21, 174)) (cs := [¬ (r_20 = 0)]) (by rfl) ⟨c_23, trivial⟩ (Nat.le_refl _) ?_
        obtain ⟨r_24, M_25, e_26, h⟩ := xb2_ex h
        refine XR.callV 6 rfl (rest := []) m_A_takeNumber k_6_121 7 l1 (Or.inl ⟨by decide, rfl⟩) [(vI 0), (vI 100), (vI 4)] rfl rfl (c_A_takeNumber e_26) (by decide) (Nat.le_of_ble_eq_true rfl) (by decide +kernel) (Nat.le_refl _) (Nat.le_refl _) ?_
        show XR false 7 174 sc y_N_readLimit (95, [(0, (vR 6 l0)), (1, (vR 7 l1)), (2, (vI l2)), (3, (vI v3))], [(vI r_24)], R, M_25, 174) _
        rcases xif_ex h with ⟨c_27, h⟩ | ⟨c_27, h⟩
        · skip
          refine s_N_readLimit [(95, .ifCond .ne 5, 0, (-1)), (98, .iconst 0, 0, 0)] (by decide +kernel) (z' := (99, [(0, (vR 6 l0)), (1, (vR 7 l1)), (2, (vI l2)), (3, (vI v3))], [(vI 0)], R, M_25, 174)) (cs := [¬ (r_24 ≠ 0)]) (by rfl) ⟨fun q => q c_27, trivial⟩ (Nat.le_refl _) ?_
          obtain rfl := Option.some.inj h
          exact XR.retI .boolean rfl (xnar_z (by decide)) (by decide +kernel)
        · skip
          obtain ⟨M_28, hM_28, h⟩ := xl_ex h
          refine s_N_readLimit [(95, .ifCond .ne 5, 0, 100), (100, .aload_n 0, 0, 0), (101, .getfield 35, 6, 7), (104, .iload_n 2, 0, 0), (105, .aload_n 1, 0, 0), (106, .getfield 125, 7, 11), (109, .iastore, 0, 0), (110, .iconst 1, 0, 1)] (by decide +kernel) (z' := (111, [(0, (vR 6 l0)), (1, (vR 7 l1)), (2, (vI l2)), (3, (vI v3))], [(vI 1)], R, M_28, 174)) (cs := [r_24 ≠ 0, xar 30 0, xidx l2 (xan 30)]) (by subst hM_28; rfl) ⟨c_27, xar_30, xix_30 c_17, trivial⟩ (Nat.le_refl _) ?_
          obtain rfl := Option.some.inj h
          exact XR.retI .boolean rfl (xnar_z (by decide)) (by decide +kernel)
    · skip
      refine s_N_readLimit [(73, .if_icmp .eq 5, 0, (-1)), (76, .iconst 1, 0, 1)] (by decide +kernel) (z' := (77, [(0, (vR 6 l0)), (1, (vR 7 l1)), (2, (vI l2)), (3, (vI v3))], [(vI 1)], R, M_18, 174)) (cs := [¬ (v3 = 1)]) (by rfl) ⟨c_19, trivial⟩ (Nat.le_refl _) ?_
      obtain rfl := Option.some.inj h
      exact XR.retI .boolean rfl (xnar_z (by decide)) (by decide +kernel)
set_option maxRecDepth 100000 in
set_option maxHeartbeats 4000000 in
theorem o_N_readLimit {sc : List Int} {R : xR} {M : xM} {l0 : Nat} {l1 : Nat} {l2 : Int} {out : Int × xM} (h : f_N_readLimit R l0 l1 l2 M = some out) : XR false 7 174 sc y_N_readLimit (0, [(0, (vR 6 l0)), (1, (vR 7 l1)), (2, (vI l2))], [], R, M, 174) ((some (vI out.1)), R, out.2) := by
  unfold f_N_readLimit at h
  obtain ⟨c_1, h⟩ := xch_ex h
  obtain ⟨v3_2, hv3_2, h⟩ := xl_ex h
  obtain ⟨M_3, hM_3, h⟩ := xl_ex h
  obtain ⟨M_4, hM_4, h⟩ := xl_ex h
  refine s_N_readLimit [(0, .aload_n 0, 0, 0), (1, .getfield 25, 6, 4), (4, .iload_n 2, 0, 0), (5, .iaload, 0, 0), (6, .istore_n 3, 0, 0), (7, .aload_n 0, 0, 0), (8, .getfield 32, 6, 6), (11, .iload_n 2, 0, 0), (12, .iconst 0, 0, 0), (13, .iastore, 0, 0), (14, .aload_n 0, 0, 0), (15, .getfield 35, 6, 7), (18, .iload_n 2, 0, 0), (19, .iconst 0, 0, 0), (20, .iastore, 0, 0), (21, .iload_n 3, 0, 0)] (by decide +kernel) (z' := (22, [(3, (vI v3_2)), (0, (vR 6 l0)), (1, (vR 7 l1)), (2, (vI l2))], [(vI v3_2)], R, M_4, 174)) (cs := [xar 30 0, xidx l2 (xan 30), xar 30 0, xidx l2 (xan 30), xar 30 0, xidx l2 (xan 30)]) (by subst hv3_2; subst hM_3; subst hM_4; rfl) ⟨xar_30, xix_30 c_1, xar_30, xix_30 c_1, xar_30, xix_30 c_1, trivial⟩ (Nat.le_refl _) ?_
  rcases xif_ex h with ⟨c_5, h⟩ | ⟨c_5, h⟩
  · skip
    refine s_N_readLimit [(22, .ifCond .ne 5, 0, (-1)), (25, .iconst 1, 0, 1)] (by decide +kernel) (z' := (26, [(3, (vI v3_2)), (0, (vR 6 l0)), (1, (vR 7 l1)), (2, (vI l2))], [(vI 1)], R, M_4, 174)) (cs := [¬ (v3_2 ≠ 0)]) (by rfl) ⟨fun q => q c_5, trivial⟩ (Nat.le_refl _) ?_
    obtain rfl := Option.some.inj h
    exact XR.retI .boolean rfl (xnar_z (by decide)) (by decide +kernel)
  · skip
    refine s_N_readLimit [(22, .ifCond .ne 5, 0, 27), (27, .aload_n 1, 0, 0), (28, .iload_n 3, 0, 0)] (by decide +kernel) (z' := (29, [(3, (vI v3_2)), (0, (vR 6 l0)), (1, (vR 7 l1)), (2, (vI l2))], [(vI v3_2), (vR 7 l1)], R, M_4, 174)) (cs := [v3_2 ≠ 0]) (by rfl) ⟨c_5, trivial⟩ (Nat.le_refl _) ?_
    obtain ⟨r_6, e_7, h⟩ := xb1_ex h
    refine XR.callS 6 rfl (rest := [(vR 7 l1)]) m_N_limitWord k_6_128 [(vI v3_2)] rfl rfl (c_N_limitWord e_7) (by decide) (Nat.le_of_ble_eq_true rfl) (by decide +kernel) (Nat.le_refl _) (Nat.le_refl _) ?_
    show XR false 7 174 sc y_N_readLimit (32, [(3, (vI v3_2)), (0, (vR 6 l0)), (1, (vR 7 l1)), (2, (vI l2))], [(vI r_6), (vR 7 l1)], R, M_4, 174) _
    obtain ⟨r_8, M_9, e_10, h⟩ := xb2_ex h
    refine XR.callV 6 rfl (rest := []) m_A_takeKey k_6_118 7 l1 (Or.inl ⟨by decide, rfl⟩) [(vI r_6)] rfl rfl (c_A_takeKey e_10) (by decide) (Nat.le_of_ble_eq_true rfl) (by decide +kernel) (Nat.le_refl _) (Nat.le_refl _) ?_
    show XR false 7 174 sc y_N_readLimit (35, [(3, (vI v3_2)), (0, (vR 6 l0)), (1, (vR 7 l1)), (2, (vI l2))], [(vI r_8)], R, M_9, 174) _
    rcases xif_ex h with ⟨c_11, h⟩ | ⟨c_11, h⟩
    · skip
      refine s_N_readLimit [(35, .ifCond .eq 24, 0, 59), (59, .iconst 0, 0, 0)] (by decide +kernel) (z' := (60, [(3, (vI v3_2)), (0, (vR 6 l0)), (1, (vR 7 l1)), (2, (vI l2))], [(vI 0)], R, M_9, 174)) (cs := [r_8 = 0]) (by rfl) ⟨c_11, trivial⟩ (Nat.le_refl _) ?_
      obtain rfl := Option.some.inj h
      exact XR.retI .boolean rfl (xnar_z (by decide)) (by decide +kernel)
    · skip
      refine s_N_readLimit [(35, .ifCond .eq 24, 0, (-1)), (38, .aload_n 1, 0, 0), (39, .iload_n 3, 0, 0), (40, .iconst 3, 0, 3)] (by decide +kernel) (z' := (41, [(3, (vI v3_2)), (0, (vR 6 l0)), (1, (vR 7 l1)), (2, (vI l2))], [(vI 3), (vI v3_2), (vR 7 l1)], R, M_9, 174)) (cs := [¬ (r_8 = 0)]) (by rfl) ⟨c_11, trivial⟩ (Nat.le_refl _) ?_
      rcases xif_ex h with ⟨c_12, h⟩ | ⟨c_12, h⟩
      · skip
        refine s_N_readLimit [(41, .if_icmp .ne 7, 0, (-1)), (44, .iconst 0, 0, 0), (45, .goto 4, 0, 49)] (by decide +kernel) (z' := (49, [(3, (vI v3_2)), (0, (vR 6 l0)), (1, (vR 7 l1)), (2, (vI l2))], [(vI 0), (vR 7 l1)], R, M_9, 174)) (cs := [¬ (v3_2 ≠ 3)]) (by rfl) ⟨fun q => q c_12, trivial⟩ (Nat.le_refl _) ?_
        refine XR.pick [1, 2, 3, 0] (ls' := [(0, (vR 6 l0)), (1, (vR 7 l1)), (2, (vI l2)), (3, (vI v3_2))]) rfl ?_
        exact o_N_readLimit_J49  h
      · skip
        refine s_N_readLimit [(41, .if_icmp .ne 7, 0, 48), (48, .iconst 1, 0, 1)] (by decide +kernel) (z' := (49, [(3, (vI v3_2)), (0, (vR 6 l0)), (1, (vR 7 l1)), (2, (vI l2))], [(vI 1), (vR 7 l1)], R, M_9, 174)) (cs := [v3_2 ≠ 3]) (by rfl) ⟨c_12, trivial⟩ (Nat.le_refl _) ?_
        refine XR.pick [1, 2, 3, 0] (ls' := [(0, (vR 6 l0)), (1, (vR 7 l1)), (2, (vI l2)), (3, (vI v3_2))]) rfl ?_
        exact o_N_readLimit_J49  h
set_option maxRecDepth 100000 in
set_option maxHeartbeats 4000000 in
theorem c_N_readLimit {sc : List Int} {R : xR} {M : xM} {l0 : Nat} {l1 : Nat} {l2 : Int} {out : Int × xM} (h : f_N_readLimit R l0 l1 l2 M = some out) : XC false 7 sc y_N_readLimit [(vR 6 l0), (vR 7 l1), (vI l2)] R M 174 174 ((some (vI out.1)), R, out.2) := XC.of (by decide) (Nat.le_of_ble_eq_true rfl) (Nat.le_refl _) (Nat.le_refl _) (o_N_readLimit h)
