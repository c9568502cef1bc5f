def f_X_isTray (l0 : Int) : Option Int :=
  if l0 < 0 then
    some (0)
  else
    if l0 < 4 then
      some (1)
    else
      some (0)
set_option maxRecDepth 100000 in
set_option maxHeartbeats 4000000 in
theorem s_X_isTray {d : Nat} {sc : List Int} {z z' : xS} {out : xO} (qs : List xI) {cs : List Prop} (hq : qs.all (xqb 9 false y_X_isTray.2.2.1 y_X_isTray.2.1) = true) (h : xN false sc qs z = some (z', cs)) (hc : xAll cs) (hE : z'.2.2.2.2.2 ≤ 174) (k : XR false d 174 sc y_X_isTray z' out) : XR false d 174 sc y_X_isTray z out := XR.seg 9 false rfl (fun q => by cases q) qs hq h hc hE k
set_option maxRecDepth 100000 in
set_option maxHeartbeats 4000000 in
theorem o_X_isTray {sc : List Int} {R : xR} {M : xM} {l0 : Int} {out : Int} (h : f_X_isTray l0 = some out) : XR false 0 174 sc y_X_isTray (0, [(0, (vI l0))], [], R, M, 174) ((some (vI out)), R, M) := by
  unfold f_X_isTray at h
  refine s_X_isTray [(0, .iload_n 0, 0, 0)] (by decide +kernel) (z' := (1, [(0, (vI l0))], [(vI l0)], R, M, 174)) (cs := []) (by rfl) trivial (Nat.le_refl _) ?_
  rcases xif_ex h with ⟨c_1, h⟩ | ⟨c_1, h⟩
  · skip
    refine s_X_isTray [(1, .ifCond .lt 12, 0, 13), (13, .iconst 0, 0, 0)] (by decide +kernel) (z' := (14, [(0, (vI l0))], [(vI 0)], R, M, 174)) (cs := [l0 < 0]) (by rfl) ⟨c_1, trivial⟩ (Nat.le_refl _) ?_
    obtain rfl := Option.some.inj h
    exact XR.retI .boolean rfl (xnar_z (by decide)) (by decide +kernel)
  · skip
    refine s_X_isTray [(1, .ifCond .lt 12, 0, (-1)), (4, .iload_n 0, 0, 0), (5, .iconst 4, 0, 4)] (by decide +kernel) (z' := (6, [(0, (vI l0))], [(vI 4), (vI l0)], R, M, 174)) (cs := [¬ (l0 < 0)]) (by rfl) ⟨c_1, trivial⟩ (Nat.le_refl _) ?_
    rcases xif_ex h with ⟨c_2, h⟩ | ⟨c_2, h⟩
    · skip
      refine s_X_isTray [(6, .if_icmp .ge 7, 0, (-1)), (9, .iconst 1, 0, 1), (10, .goto 4, 0, 14)] (by decide +kernel) (z' := (14, [(0, (vI l0))], [(vI 1)], R, M, 174)) (cs := [¬ (4 ≤ l0)]) (by rfl) ⟨Int.not_le.mpr c_2, trivial⟩ (Nat.le_refl _) ?_
      obtain rfl := Option.some.inj h
      exact XR.retI .boolean rfl (xnar_z (by decide)) (by decide +kernel)
    · skip
      refine s_X_isTray [(6, .if_icmp .ge 7, 0, 13), (13, .iconst 0, 0, 0)] (by decide +kernel) (z' := (14, [(0, (vI l0))], [(vI 0)], R, M, 174)) (cs := [4 ≤ l0]) (by rfl) ⟨Int.not_lt.mp c_2, trivial⟩ (Nat.le_refl _) ?_
      obtain rfl := Option.some.inj h
      exact XR.retI .boolean rfl (xnar_z (by decide)) (by decide +kernel)
set_option maxRecDepth 100000 in
set_option maxHeartbeats 4000000 in
theorem c_X_isTray {sc : List Int} {R : xR} {M : xM} {l0 : Int} {out : Int} (h : f_X_isTray l0 = some out) : XC false 0 sc y_X_isTray [(vI l0)] R M 174 174 ((some (vI out)), R, M) := XC.of (by decide) (Nat.le_of_ble_eq_true rfl) (Nat.le_refl _) (Nat.le_refl _) (o_X_isTray h)
def f_X_refuse (l0 : Nat) (l1 : Int) (M : xM) : Option (Int × xM) :=
  xl (xu M l0 0 l1) fun M_1 =>
  some (-1, M_1)
set_option maxRecDepth 100000 in
set_option maxHeartbeats 4000000 in
theorem s_X_refuse {d : Nat} {sc : List Int} {z z' : xS} {out : xO} (qs : List xI) {cs : List Prop} (hq : qs.all (xqb 9 false y_X_refuse.2.2.1 y_X_refuse.2.1) = true) (h : xN false sc qs z = some (z', cs)) (hc : xAll cs) (hE : z'.2.2.2.2.2 ≤ 174) (k : XR false d 174 sc y_X_refuse z' out) : XR false d 174 sc y_X_refuse z out := XR.seg 9 false rfl (fun q => by cases q) qs hq h hc hE k
set_option maxRecDepth 100000 in
set_option maxHeartbeats 4000000 in
theorem o_X_refuse {sc : List Int} {R : xR} {M : xM} {l0 : Nat} {l1 : Int} {out : Int × xM} (h : f_X_refuse l0 l1 M = some out) : XR false 0 174 sc y_X_refuse (0, [(0, (vR 9 l0)), (1, (vI l1))], [], R, M, 174) ((some (vI out.1)), R, out.2) := by
  unfold f_X_refuse at h
  obtain ⟨M_1, hM_1, h⟩ := xl_ex h
  refine s_X_refuse [(0, .aload_n 0, 0, 0), (1, .iload_n 1, 0, 0), (2, .putfield 9, 9, 0), (5, .iconst (-1), 0, (-1))] (by decide +kernel) (z' := (6, [(0, (vR 9 l0)), (1, (vI l1))], [(vI (-1))], R, M_1, 174)) (cs := []) (by subst hM_1; rfl) trivial (Nat.le_refl _) ?_
  obtain rfl := Option.some.inj h
  exact XR.retI .int rfl rfl (by decide +kernel)
set_option maxRecDepth 100000 in
set_option maxHeartbeats 4000000 in
theorem c_X_refuse {sc : List Int} {R : xR} {M : xM} {l0 : Nat} {l1 : Int} {out : Int × xM} (h : f_X_refuse l0 l1 M = some out) : XC false 0 sc y_X_refuse [(vR 9 l0), (vI l1)] R M 174 174 ((some (vI out.1)), R, out.2) := XC.of (by decide) (Nat.le_of_ble_eq_true rfl) (Nat.le_refl _) (Nat.le_refl _) (o_X_refuse h)
def f_X_rowStatus (R : xR) (l0 : Nat) (l1 : Int) (l2 : Int) (M : xM) : Option Int :=
  xb1 (f_Y_isMissing R (R l0 2) l1 M) fun r_1 =>
  if r_1 = 0 then
    xb1 (f_Y_hasRun R (R l0 2) l1 0 l2 M) fun r_4 =>
    if r_4 = 0 then
      some (3)
    else
      some (0)
  else
    some (2)
set_option maxRecDepth 100000 in
set_option maxHeartbeats 4000000 in
theorem s_X_rowStatus {d : Nat} {sc : List Int} {z z' : xS} {out : xO} (qs : List xI) {cs : List Prop} (hq : qs.all (xqb 9 false y_X_rowStatus.2.2.1 y_X_rowStatus.2.1) = true) (h : xN false sc qs z = some (z', cs)) (hc : xAll cs) (hE : z'.2.2.2.2.2 ≤ 174) (k : XR false d 174 sc y_X_rowStatus z' out) : XR false d 174 sc y_X_rowStatus z out := XR.seg 9 false rfl (fun q => by cases q) qs hq h hc hE k
set_option maxRecDepth 100000 in
set_option maxHeartbeats 4000000 in
theorem o_X_rowStatus {sc : List Int} {R : xR} {M : xM} {l0 : Nat} {l1 : Int} {l2 : Int} {out : Int} (h : f_X_rowStatus R l0 l1 l2 M = some out) : XR false 1 174 sc y_X_rowStatus (0, [(0, (vR 9 l0)), (1, (vI l1)), (2, (vI l2))], [], R, M, 174) ((some (vI out)), R, M) := by
  unfold f_X_rowStatus at h
  refine s_X_rowStatus [(0, .aload_n 0, 0, 0), (1, .getfield 23, 9, 2), (4, .iload_n 1, 0, 0)] (by decide +kernel) (z' := (5, [(0, (vR 9 l0)), (1, (vI l1)), (2, (vI l2))], [(vI l1), (vR 8 (R l0 2))], R, M, 174)) (cs := []) (by rfl) trivial (Nat.le_refl _) ?_
  obtain ⟨r_1, e_2, h⟩ := xb1_ex h
  refine XR.callV 9 rfl (rest := []) m_Y_isMissing k_9_113 8 (R l0 2) (Or.inl ⟨by decide, rfl⟩) [(vI l1)] rfl rfl (c_Y_isMissing e_2) (by decide) (Nat.le_of_ble_eq_true rfl) (by decide +kernel) (Nat.le_refl _) (Nat.le_refl _) ?_
  show XR false 1 174 sc y_X_rowStatus (8, [(0, (vR 9 l0)), (1, (vI l1)), (2, (vI l2))], [(vI r_1)], R, M, 174) _
  rcases xif_ex h with ⟨c_3, h⟩ | ⟨c_3, h⟩
  · skip
    refine s_X_rowStatus [(8, .ifCond .eq 5, 0, 13), (13, .aload_n 0, 0, 0), (14, .getfield 23, 9, 2), (17, .iload_n 1, 0, 0), (18, .iconst 0, 0, 0), (19, .iload_n 2, 0, 0)] (by decide +kernel) (z' := (20, [(0, (vR 9 l0)), (1, (vI l1)), (2, (vI l2))], [(vI l2), (vI 0), (vI l1), (vR 8 (R l0 2))], R, M, 174)) (cs := [r_1 = 0]) (by rfl) ⟨c_3, trivial⟩ (Nat.le_refl _) ?_
    obtain ⟨r_4, e_5, h⟩ := xb1_ex h
    refine XR.callV 9 rfl (rest := []) m_Y_hasRun k_9_120 8 (R l0 2) (Or.inl ⟨by decide, rfl⟩) [(vI l1), (vI 0), (vI l2)] rfl rfl (c_Y_hasRun e_5) (by decide) (Nat.le_of_ble_eq_true rfl) (by decide +kernel) (Nat.le_refl _) (Nat.le_refl _) ?_
    show XR false 1 174 sc y_X_rowStatus (23, [(0, (vR 9 l0)), (1, (vI l1)), (2, (vI l2))], [(vI r_4)], R, M, 174) _
    rcases xif_ex h with ⟨c_6, h⟩ | ⟨c_6, h⟩
    · skip
      refine s_X_rowStatus [(23, .ifCond .eq 7, 0, 30), (30, .iconst 3, 0, 3)] (by decide +kernel) (z' := (31, [(0, (vR 9 l0)), (1, (vI l1)), (2, (vI l2))], [(vI 3)], R, M, 174)) (cs := [r_4 = 0]) (by rfl) ⟨c_6, trivial⟩ (Nat.le_refl _) ?_
      obtain rfl := Option.some.inj h
      exact XR.retI .int rfl rfl (by decide +kernel)
    · skip
      refine s_X_rowStatus [(23, .ifCond .eq 7, 0, (-1)), (26, .iconst 0, 0, 0), (27, .goto 4, 0, 31)] (by decide +kernel) (z' := (31, [(0, (vR 9 l0)), (1, (vI l1)), (2, (vI l2))], [(vI 0)], R, M, 174)) (cs := [¬ (r_4 = 0)]) (by rfl) ⟨c_6, trivial⟩ (Nat.le_refl _) ?_
      obtain rfl := Option.some.inj h
      exact XR.retI .int rfl rfl (by decide +kernel)
  · skip
    refine s_X_rowStatus [(8, .ifCond .eq 5, 0, (-1)), (11, .iconst 2, 0, 2)] (by decide +kernel) (z' := (12, [(0, (vR 9 l0)), (1, (vI l1)), (2, (vI l2))], [(vI 2)], R, M, 174)) (cs := [¬ (r_1 = 0)]) (by rfl) ⟨c_3, trivial⟩ (Nat.le_refl _) ?_
    obtain rfl := Option.some.inj h
    exact XR.retI .int rfl rfl (by decide +kernel)
set_option maxRecDepth 100000 in
set_option maxHeartbeats 4000000 in
theorem c_X_rowStatus {sc : List Int} {R : xR} {M : xM} {l0 : Nat} {l1 : Int} {l2 : Int} {out : Int} (h : f_X_rowStatus R l0 l1 l2 M = some out) : XC false 1 sc y_X_rowStatus [(vR 9 l0), (vI l1), (vI l2)] R M 174 174 ((some (vI out)), R, M) := XC.of (by decide) (Nat.le_of_ble_eq_true rfl) (Nat.le_refl _) (Nat.le_refl _) (o_X_rowStatus h)
def f_X_answer (l0 : Nat) (l1 : Int) (M : xM) : Option (Int × xM) :=
  xl (xu M l0 0 0) fun M_1 =>
  some (l1, M_1)
set_option maxRecDepth 100000 in
set_option maxHeartbeats 4000000 in
theorem s_X_answer {d : Nat} {sc : List Int} {z z' : xS} {out : xO} (qs : List xI) {cs : List Prop} (hq : qs.all (xqb 9 false y_X_answer.2.2.1 y_X_answer.2.1) = true) (h : xN false sc qs z = some (z', cs)) (hc : xAll cs) (hE : z'.2.2.2.2.2 ≤ 174) (k : XR false d 174 sc y_X_answer z' out) : XR false d 174 sc y_X_answer z out := XR.seg 9 false rfl (fun q => by cases q) qs hq h hc hE k
set_option maxRecDepth 100000 in
set_option maxHeartbeats 4000000 in
theorem o_X_answer {sc : List Int} {R : xR} {M : xM} {l0 : Nat} {l1 : Int} {out : Int × xM} (h : f_X_answer l0 l1 M = some out) : XR false 0 174 sc y_X_answer (0, [(0, (vR 9 l0)), (1, (vI l1))], [], R, M, 174) ((some (vI out.1)), R, out.2) := by
  unfold f_X_answer at h
  obtain ⟨M_1, hM_1, h⟩ := xl_ex h
  refine s_X_answer [(0, .aload_n 0, 0, 0), (1, .iconst 0, 0, 0), (2, .putfield 9, 9, 0), (5, .iload_n 1, 0, 0)] (by decide +kernel) (z' := (6, [(0, (vR 9 l0)), (1, (vI l1))], [(vI l1)], R, M_1, 174)) (cs := []) (by subst hM_1; rfl) trivial (Nat.le_refl _) ?_
  obtain rfl := Option.some.inj h
  exact XR.retI .int rfl rfl (by decide +kernel)
set_option maxRecDepth 100000 in
set_option maxHeartbeats 4000000 in
theorem c_X_answer {sc : List Int} {R : xR} {M : xM} {l0 : Nat} {l1 : Int} {out : Int × xM} (h : f_X_answer l0 l1 M = some out) : XC false 0 sc y_X_answer [(vR 9 l0), (vI l1)] R M 174 174 ((some (vI out.1)), R, out.2) := XC.of (by decide) (Nat.le_of_ble_eq_true rfl) (Nat.le_refl _) (Nat.le_refl _) (o_X_answer h)
def f_X_air (R : xR) (l0 : Nat) (l1 : Int) (l2 : Int) (l3 : Int) (l4 : Int) (M : xM) : Option (Int × xM) :=
  xb1 (f_X_isTray l1) fun r_1 =>
  if r_1 = 0 then
    xb2 (f_X_refuse l0 1 M) fun r_4 M_5 =>
    some (r_4, M_5)
  else
    if l2 < 1 then
      xb2 (f_X_refuse l0 1 M) fun r_8 M_9 =>
      some (r_8, M_9)
    else
      if 8 < l2 then
        xb2 (f_X_refuse l0 1 M) fun r_12 M_13 =>
        some (r_12, M_13)
      else
        if l3 < 0 then
          xb2 (f_X_refuse l0 1 M) fun r_16 M_17 =>
          some (r_16, M_17)
        else
          if 200 < l3 then
            xb2 (f_X_refuse l0 1 M) fun r_20 M_21 =>
            some (r_20, M_21)
          else
            if l4 < 0 then
              xb2 (f_X_refuse l0 1 M) fun r_24 M_25 =>
              some (r_24, M_25)
            else
              if l4 < l2 then
                xb1 (f_X_rowStatus R l0 l1 l2 M) fun r_28 =>
                if r_28 = 0 then
                  xb2 (f_P_takeHindrances R (R l0 11) (R l0 2) l1 l2 M) fun r_31 M_32 =>
                  if r_31 = 0 then
                    xb2 (f_X_refuse l0 1 M_32) fun r_35 M_36 =>
                    some (r_35, M_36)
                  else
                    xb1 (f_P_partAir R (R l0 11) l2 l3 M_32) fun M_38 =>
                    xch (0 ≤ l4 ∧ l4 < 8) <|
                    xb2 (f_X_answer l0 (M_38 (R (R l0 11) 8) (Int.toNat l4)) M_38) fun r_41 M_42 =>
                    some (r_41, M_42)
                else
                  xb2 (f_X_refuse l0 r_28 M) fun r_44 M_45 =>
                  some (r_44, M_45)
              else
                xb2 (f_X_refuse l0 1 M) fun r_47 M_48 =>
                some (r_47, M_48)
set_option maxRecDepth 100000 in
set_option maxHeartbeats 4000000 in
theorem s_X_air {d : Nat} {sc : List Int} {z z' : xS} {out : xO} (qs : List xI) {cs : List Prop} (hq : qs.all (xqb 9 false y_X_air.2.2.1 y_X_air.2.1) = true) (h : xN false sc qs z = some (z', cs)) (hc : xAll cs) (hE : z'.2.2.2.2.2 ≤ 174) (k : XR false d 174 sc y_X_air z' out) : XR false d 174 sc y_X_air z out := XR.seg 9 false rfl (fun q => by cases q) qs hq h hc hE k
set_option maxRecDepth 100000 in
set_option maxHeartbeats 4000000 in
theorem o_X_air {sc : List Int} {R : xR} {M : xM} {l0 : Nat} {l1 : Int} {l2 : Int} {l3 : Int} {l4 : Int} {out : Int × xM} (h : f_X_air R l0 l1 l2 l3 l4 M = some out) : XR false 2 174 sc y_X_air (0, [(0, (vR 9 l0)), (1, (vI l1)), (2, (vI l2)), (3, (vI l3)), (4, (vI l4))], [], R, M, 174) ((some (vI out.1)), R, out.2) := by
  unfold f_X_air at h
  refine s_X_air [(0, .iload_n 1, 0, 0)] (by decide +kernel) (z' := (1, [(0, (vR 9 l0)), (1, (vI l1)), (2, (vI l2)), (3, (vI l3)), (4, (vI l4))], [(vI l1)], R, M, 174)) (cs := []) (by rfl) trivial (Nat.le_refl _) ?_
  obtain ⟨r_1, e_2, h⟩ := xb1_ex h
  refine XR.callS 9 rfl (rest := []) m_X_isTray k_9_82 [(vI l1)] rfl rfl (c_X_isTray e_2) (by decide) (Nat.le_of_ble_eq_true rfl) (by decide +kernel) (Nat.le_refl _) (Nat.le_refl _) ?_
  show XR false 2 174 sc y_X_air (4, [(0, (vR 9 l0)), (1, (vI l1)), (2, (vI l2)), (3, (vI l3)), (4, (vI l4))], [(vI r_1)], R, M, 174) _
  rcases xif_ex h with ⟨c_3, h⟩ | ⟨c_3, h⟩
  · skip
    refine s_X_air [(4, .ifCond .eq 36, 0, 40), (40, .aload_n 0, 0, 0), (41, .iconst 1, 0, 1)] (by decide +kernel) (z' := (42, [(0, (vR 9 l0)), (1, (vI l1)), (2, (vI l2)), (3, (vI l3)), (4, (vI l4))], [(vI 1), (vR 9 l0)], R, M, 174)) (cs := [r_1 = 0]) (by rfl) ⟨c_3, trivial⟩ (Nat.le_refl _) ?_
    obtain ⟨r_4, M_5, e_6, h⟩ := xb2_ex h
    refine XR.callV 9 rfl (rest := []) m_X_refuse k_9_105 9 l0 (Or.inl ⟨by decide, rfl⟩) [(vI 1)] rfl rfl (c_X_refuse e_6) (by decide) (Nat.le_of_ble_eq_true rfl) (by decide +kernel) (Nat.le_refl _) (Nat.le_refl _) ?_
    show XR false 2 174 sc y_X_air (45, [(0, (vR 9 l0)), (1, (vI l1)), (2, (vI l2)), (3, (vI l3)), (4, (vI l4))], [(vI r_4)], R, M_5, 174) _
    obtain rfl := Option.some.inj h
    exact XR.retI .int rfl rfl (by decide +kernel)
  · skip
    refine s_X_air [(4, .ifCond .eq 36, 0, (-1)), (7, .iload_n 2, 0, 0), (8, .iconst 1, 0, 1)] (by decide +kernel) (z' := (9, [(0, (vR 9 l0)), (1, (vI l1)), (2, (vI l2)), (3, (vI l3)), (4, (vI l4))], [(vI 1), (vI l2)], R, M, 174)) (cs := [¬ (r_1 = 0)]) (by rfl) ⟨c_3, trivial⟩ (Nat.le_refl _) ?_
    rcases xif_ex h with ⟨c_7, h⟩ | ⟨c_7, h⟩
    · skip
      refine s_X_air [(9, .if_icmp .lt 31, 0, 40), (40, .aload_n 0, 0, 0), (41, .iconst 1, 0, 1)] (by decide +kernel) (z' := (42, [(0, (vR 9 l0)), (1, (vI l1)), (2, (vI l2)), (3, (vI l3)), (4, (vI l4))], [(vI 1), (vR 9 l0)], R, M, 174)) (cs := [l2 < 1]) (by rfl) ⟨c_7, trivial⟩ (Nat.le_refl _) ?_
      obtain ⟨r_8, M_9, e_10, h⟩ := xb2_ex h
      refine XR.callV 9 rfl (rest := []) m_X_refuse k_9_105 9 l0 (Or.inl ⟨by decide, rfl⟩) [(vI 1)] rfl rfl (c_X_refuse e_10) (by decide) (Nat.le_of_ble_eq_true rfl) (by decide +kernel) (Nat.le_refl _) (Nat.le_refl _) ?_
      show XR false 2 174 sc y_X_air (45, [(0, (vR 9 l0)), (1, (vI l1)), (2, (vI l2)), (3, (vI l3)), (4, (vI l4))], [(vI r_8)], R, M_9, 174) _
      obtain rfl := Option.some.inj h
      exact XR.retI .int rfl rfl (by decide +kernel)
    · skip
      refine s_X_air [(9, .if_icmp .lt 31, 0, (-1)), (12, .iload_n 2, 0, 0), (13, .bipush 8, 0, 8)] (by decide +kernel) (z' := (15, [(0, (vR 9 l0)), (1, (vI l1)), (2, (vI l2)), (3, (vI l3)), (4, (vI l4))], [(vI 8), (vI l2)], R, M, 174)) (cs := [¬ (l2 < 1)]) (by rfl) ⟨c_7, trivial⟩ (Nat.le_refl _) ?_
      rcases xif_ex h with ⟨c_11, h⟩ | ⟨c_11, h⟩
      · skip
        refine s_X_air [(15, .if_icmp .gt 25, 0, 40), (40, .aload_n 0, 0, 0), (41, .iconst 1, 0, 1)] (by decide +kernel) (z' := (42, [(0, (vR 9 l0)), (1, (vI l1)), (2, (vI l2)), (3, (vI l3)), (4, (vI l4))], [(vI 1), (vR 9 l0)], R, M, 174)) (cs := [8 < l2]) (by rfl) ⟨c_11, trivial⟩ (Nat.le_refl _) ?_
        obtain ⟨r_12, M_13, e_14, h⟩ := xb2_ex h
        refine XR.callV 9 rfl (rest := []) m_X_refuse k_9_105 9 l0 (Or.inl ⟨by decide, rfl⟩) [(vI 1)] rfl rfl (c_X_refuse e_14) (by decide) (Nat.le_of_ble_eq_true rfl) (by decide +kernel) (Nat.le_refl _) (Nat.le_refl _) ?_
        show XR false 2 174 sc y_X_air (45, [(0, (vR 9 l0)), (1, (vI l1)), (2, (vI l2)), (3, (vI l3)), (4, (vI l4))], [(vI r_12)], R, M_13, 174) _
        obtain rfl := Option.some.inj h
        exact XR.retI .int rfl rfl (by decide +kernel)
      · skip
        refine s_X_air [(15, .if_icmp .gt 25, 0, (-1)), (18, .iload_n 3, 0, 0)] (by decide +kernel) (z' := (19, [(0, (vR 9 l0)), (1, (vI l1)), (2, (vI l2)), (3, (vI l3)), (4, (vI l4))], [(vI l3)], R, M, 174)) (cs := [¬ (8 < l2)]) (by rfl) ⟨c_11, trivial⟩ (Nat.le_refl _) ?_
        rcases xif_ex h with ⟨c_15, h⟩ | ⟨c_15, h⟩
        · skip
          refine s_X_air [(19, .ifCond .lt 21, 0, 40), (40, .aload_n 0, 0, 0), (41, .iconst 1, 0, 1)] (by decide +kernel) (z' := (42, [(0, (vR 9 l0)), (1, (vI l1)), (2, (vI l2)), (3, (vI l3)), (4, (vI l4))], [(vI 1), (vR 9 l0)], R, M, 174)) (cs := [l3 < 0]) (by rfl) ⟨c_15, trivial⟩ (Nat.le_refl _) ?_
          obtain ⟨r_16, M_17, e_18, h⟩ := xb2_ex h
          refine XR.callV 9 rfl (rest := []) m_X_refuse k_9_105 9 l0 (Or.inl ⟨by decide, rfl⟩) [(vI 1)] rfl rfl (c_X_refuse e_18) (by decide) (Nat.le_of_ble_eq_true rfl) (by decide +kernel) (Nat.le_refl _) (Nat.le_refl _) ?_
          show XR false 2 174 sc y_X_air (45, [(0, (vR 9 l0)), (1, (vI l1)), (2, (vI l2)), (3, (vI l3)), (4, (vI l4))], [(vI r_16)], R, M_17, 174) _
          obtain rfl := Option.some.inj h
          exact XR.retI .int rfl rfl (by decide +kernel)
        · skip
          refine s_X_air [(19, .ifCond .lt 21, 0, (-1)), (22, .iload_n 3, 0, 0), (23, .sipush 200, 0, 200)] (by decide +kernel) (z' := (26, [(0, (vR 9 l0)), (1, (vI l1)), (2, (vI l2)), (3, (vI l3)), (4, (vI l4))], [(vI 200), (vI l3)], R, M, 174)) (cs := [¬ (l3 < 0)]) (by rfl) ⟨c_15, trivial⟩ (Nat.le_refl _) ?_
          rcases xif_ex h with ⟨c_19, h⟩ | ⟨c_19, h⟩
          · skip
            refine s_X_air [(26, .if_icmp .gt 14, 0, 40), (40, .aload_n 0, 0, 0), (41, .iconst 1, 0, 1)] (by decide +kernel) (z' := (42, [(0, (vR 9 l0)), (1, (vI l1)), (2, (vI l2)), (3, (vI l3)), (4, (vI l4))], [(vI 1), (vR 9 l0)], R, M, 174)) (cs := [200 < l3]) (by rfl) ⟨c_19, trivial⟩ (Nat.le_refl _) ?_
            obtain ⟨r_20, M_21, e_22, h⟩ := xb2_ex h
            refine XR.callV 9 rfl (rest := []) m_X_refuse k_9_105 9 l0 (Or.inl ⟨by decide, rfl⟩) [(vI 1)] rfl rfl (c_X_refuse e_22) (by decide) (Nat.le_of_ble_eq_true rfl) (by decide +kernel) (Nat.le_refl _) (Nat.le_refl _) ?_
            show XR false 2 174 sc y_X_air (45, [(0, (vR 9 l0)), (1, (vI l1)), (2, (vI l2)), (3, (vI l3)), (4, (vI l4))], [(vI r_20)], R, M_21, 174) _
            obtain rfl := Option.some.inj h
            exact XR.retI .int rfl rfl (by decide +kernel)
          · skip
            refine s_X_air [(26, .if_icmp .gt 14, 0, (-1)), (29, .iload 4, 0, 0)] (by decide +kernel) (z' := (31, [(0, (vR 9 l0)), (1, (vI l1)), (2, (vI l2)), (3, (vI l3)), (4, (vI l4))], [(vI l4)], R, M, 174)) (cs := [¬ (200 < l3)]) (by rfl) ⟨c_19, trivial⟩ (Nat.le_refl _) ?_
            rcases xif_ex h with ⟨c_23, h⟩ | ⟨c_23, h⟩
            · skip
              refine s_X_air [(31, .ifCond .lt 9, 0, 40), (40, .aload_n 0, 0, 0), (41, .iconst 1, 0, 1)] (by decide +kernel) (z' := (42, [(0, (vR 9 l0)), (1, (vI l1)), (2, (vI l2)), (3, (vI l3)), (4, (vI l4))], [(vI 1), (vR 9 l0)], R, M, 174)) (cs := [l4 < 0]) (by rfl) ⟨c_23, trivial⟩ (Nat.le_refl _) ?_
              obtain ⟨r_24, M_25, e_26, h⟩ := xb2_ex h
              refine XR.callV 9 rfl (rest := []) m_X_refuse k_9_105 9 l0 (Or.inl ⟨by decide, rfl⟩) [(vI 1)] rfl rfl (c_X_refuse e_26) (by decide) (Nat.le_of_ble_eq_true rfl) (by decide +kernel) (Nat.le_refl _) (Nat.le_refl _) ?_
              show XR false 2 174 sc y_X_air (45, [(0, (vR 9 l0)), (1, (vI l1)), (2, (vI l2)), (3, (vI l3)), (4, (vI l4))], [(vI r_24)], R, M_25, 174) _
              obtain rfl := Option.some.inj h
              exact XR.retI .int rfl rfl (by decide +kernel)
            · skip
              refine s_X_air [(31, .ifCond .lt 9, 0, (-1)), (34, .iload 4, 0, 0), (36, .iload_n 2, 0, 0)] (by decide +kernel) (z' := (37, [(0, (vR 9 l0)), (1, (vI l1)), (2, (vI l2)), (3, (vI l3)), (4, (vI l4))], [(vI l2), (vI l4)], R, M, 174)) (cs := [¬ (l4 < 0)]) (by rfl) ⟨c_23, trivial⟩ (Nat.le_refl _) ?_
              rcases xif_ex h with ⟨c_27, h⟩ | ⟨c_27, h⟩
              · skip
                refine s_X_air [(37, .if_icmp .lt 9, 0, 46), (46, .aload_n 0, 0, 0), (47, .iload_n 1, 0, 0), (48, .iload_n 2, 0, 0)] (by decide +kernel) (z' := (49, [(0, (vR 9 l0)), (1, (vI l1)), (2, (vI l2)), (3, (vI l3)), (4, (vI l4))], [(vI l2), (vI l1), (vR 9 l0)], R, M, 174)) (cs := [l4 < l2]) (by rfl) ⟨c_27, trivial⟩ (Nat.le_refl _) ?_
                obtain ⟨r_28, e_29, h⟩ := xb1_ex h
                refine XR.callV 9 rfl (rest := []) m_X_rowStatus k_9_274 9 l0 (Or.inl ⟨by decide, rfl⟩) [(vI l1), (vI l2)] rfl rfl (c_X_rowStatus e_29) (by decide) (Nat.le_of_ble_eq_true rfl) (by decide +kernel) (Nat.le_refl _) (Nat.le_refl _) ?_
                show XR false 2 174 sc y_X_air (52, [(0, (vR 9 l0)), (1, (vI l1)), (2, (vI l2)), (3, (vI l3)), (4, (vI l4))], [(vI r_28)], R, M, 174) _
                refine s_X_air [(52, .istore 5, 0, 0), (54, .iload 5, 0, 0)] (by decide +kernel) (z' := (56, [(5, (vI r_28)), (0, (vR 9 l0)), (1, (vI l1)), (2, (vI l2)), (3, (vI l3)), (4, (vI l4))], [(vI r_28)], R, M, 174)) (cs := []) (by rfl) trivial (Nat.le_refl _) ?_
                rcases xif_ex h with ⟨c_30, h⟩ | ⟨c_30, h⟩
                · skip
                  refine s_X_air [(56, .ifCond .eq 10, 0, 66), (66, .aload_n 0, 0, 0), (67, .getfield 78, 9, 11), (70, .aload_n 0, 0, 0), (71, .getfield 23, 9, 2), (74, .iload_n 1, 0, 0), (75, .iload_n 2, 0, 0)] (by decide +kernel) (z' := (76, [(5, (vI r_28)), (0, (vR 9 l0)), (1, (vI l1)), (2, (vI l2)), (3, (vI l3)), (4, (vI l4))], [(vI l2), (vI l1), (vR 8 (R l0 2)), (vR 4 (R l0 11))], R, M, 174)) (cs := [r_28 = 0]) (by rfl) ⟨c_30, trivial⟩ (Nat.le_refl _) ?_
                  obtain ⟨r_31, M_32, e_33, h⟩ := xb2_ex h
                  refine XR.callV 9 rfl (rest := []) m_P_takeHindrances k_9_338 4 (R l0 11) (Or.inl ⟨by decide, rfl⟩) [(vR 8 (R l0 2)), (vI l1), (vI l2)] rfl rfl (c_P_takeHindrances e_33) (by decide) (Nat.le_of_ble_eq_true rfl) (by decide +kernel) (Nat.le_refl _) (Nat.le_refl _) ?_
                  show XR false 2 174 sc y_X_air (79, [(5, (vI r_28)), (0, (vR 9 l0)), (1, (vI l1)), (2, (vI l2)), (3, (vI l3)), (4, (vI l4))], [(vI r_31)], R, M_32, 174) _
                  rcases xif_ex h with ⟨c_34, h⟩ | ⟨c_34, h⟩
                  · skip
                    refine s_X_air [(79, .ifCond .ne 9, 0, (-1)), (82, .aload_n 0, 0, 0), (83, .iconst 1, 0, 1)] (by decide +kernel) (z' := (84, [(5, (vI r_28)), (0, (vR 9 l0)), (1, (vI l1)), (2, (vI l2)), (3, (vI l3)), (4, (vI l4))], [(vI 1), (vR 9 l0)], R, M_32, 174)) (cs := [¬ (r_31 ≠ 0)]) (by rfl) ⟨fun q => q c_34, trivial⟩ (Nat.le_refl _) ?_
                    obtain ⟨r_35, M_36, e_37, h⟩ := xb2_ex h
                    refine XR.callV 9 rfl (rest := []) m_X_refuse k_9_105 9 l0 (Or.inl ⟨by decide, rfl⟩) [(vI 1)] rfl rfl (c_X_refuse e_37) (by decide) (Nat.le_of_ble_eq_true rfl) (by decide +kernel) (Nat.le_refl _) (Nat.le_refl _) ?_
                    show XR false 2 174 sc y_X_air (87, [(5, (vI r_28)), (0, (vR 9 l0)), (1, (vI l1)), (2, (vI l2)), (3, (vI l3)), (4, (vI l4))], [(vI r_35)], R, M_36, 174) _
                    obtain rfl := Option.some.inj h
                    exact XR.retI .int rfl rfl (by decide +kernel)
                  · skip
                    refine s_X_air [(79, .ifCond .ne 9, 0, 88), (88, .aload_n 0, 0, 0), (89, .getfield 78, 9, 11), (92, .iload_n 2, 0, 0), (93, .iload_n 3, 0, 0)] (by decide +kernel) (z' := (94, [(5, (vI r_28)), (0, (vR 9 l0)), (1, (vI l1)), (2, (vI l2)), (3, (vI l3)), (4, (vI l4))], [(vI l3), (vI l2), (vR 4 (R l0 11))], R, M_32, 174)) (cs := [r_31 ≠ 0]) (by rfl) ⟨c_34, trivial⟩ (Nat.le_refl _) ?_
                    obtain ⟨M_38, e_39, h⟩ := xb1_ex h
                    refine XR.callV 9 rfl (rest := []) m_P_partAir k_9_341 4 (R l0 11) (Or.inl ⟨by decide, rfl⟩) [(vI l2), (vI l3)] rfl rfl (c_P_partAir e_39) (by decide) (Nat.le_of_ble_eq_true rfl) (by decide +kernel) (Nat.le_refl _) (Nat.le_refl _) ?_
                    show XR false 2 174 sc y_X_air (97, [(5, (vI r_28)), (0, (vR 9 l0)), (1, (vI l1)), (2, (vI l2)), (3, (vI l3)), (4, (vI l4))], [], R, M_38, 174) _
                    obtain ⟨c_40, h⟩ := xch_ex h
                    refine s_X_air [(97, .aload_n 0, 0, 0), (98, .aload_n 0, 0, 0), (99, .getfield 78, 9, 11), (102, .getfield 344, 4, 8), (105, .iload 4, 0, 0), (107, .iaload, 0, 0)] (by decide +kernel) (z' := (108, [(5, (vI r_28)), (0, (vR 9 l0)), (1, (vI l1)), (2, (vI l2)), (3, (vI l3)), (4, (vI l4))], [(vI (M_38 (R (R l0 11) 8) (Int.toNat l4))), (vR 9 l0)], R, M_38, 174)) (cs := [xar 30 0, xidx l4 (xan 30)]) (by rfl) ⟨xar_30, xix_30 c_40, trivial⟩ (Nat.le_refl _) ?_
                    obtain ⟨r_41, M_42, e_43, h⟩ := xb2_ex h
                    refine XR.callV 9 rfl (rest := []) m_X_answer k_9_156 9 l0 (Or.inl ⟨by decide, rfl⟩) [(vI (M_38 (R (R l0 11) 8) (Int.toNat l4)))] rfl rfl (c_X_answer e_43) (by decide) (Nat.le_of_ble_eq_true rfl) (by decide +kernel) (Nat.le_refl _) (Nat.le_refl _) ?_
                    show XR false 2 174 sc y_X_air (111, [(5, (vI r_28)), (0, (vR 9 l0)), (1, (vI l1)), (2, (vI l2)), (3, (vI l3)), (4, (vI l4))], [(vI r_41)], R, M_42, 174) _
                    obtain rfl := Option.some.inj h
                    exact XR.retI .int rfl rfl (by decide +kernel)
                · skip
                  refine s_X_air [(56, .ifCond .eq 10, 0, (-1)), (59, .aload_n 0, 0, 0), (60, .iload 5, 0, 0)] (by decide +kernel) (z' := (62, [(5, (vI r_28)), (0, (vR 9 l0)), (1, (vI l1)), (2, (vI l2)), (3, (vI l3)), (4, (vI l4))], [(vI r_28), (vR 9 l0)], R, M, 174)) (cs := [¬ (r_28 = 0)]) (by rfl) ⟨c_30, trivial⟩ (Nat.le_refl _) ?_
                  obtain ⟨r_44, M_45, e_46, h⟩ := xb2_ex h
                  refine XR.callV 9 rfl (rest := []) m_X_refuse k_9_105 9 l0 (Or.inl ⟨by decide, rfl⟩) [(vI r_28)] rfl rfl (c_X_refuse e_46) (by decide) (Nat.le_of_ble_eq_true rfl) (by decide +kernel) (Nat.le_refl _) (Nat.le_refl _) ?_
                  show XR false 2 174 sc y_X_air (65, [(5, (vI r_28)), (0, (vR 9 l0)), (1, (vI l1)), (2, (vI l2)), (3, (vI l3)), (4, (vI l4))], [(vI r_44)], R, M_45, 174) _
                  obtain rfl := Option.some.inj h
                  exact XR.retI .int rfl rfl (by decide +kernel)
              · skip
                refine s_X_air [(37, .if_icmp .lt 9, 0, (-1)), (40, .aload_n 0, 0, 0), (41, .iconst 1, 0, 1)] (by decide +kernel) (z' := (42, [(0, (vR 9 l0)), (1, (vI l1)), (2, (vI l2)), (3, (vI l3)), (4, (vI l4))], [(vI 1), (vR 9 l0)], R, M, 174)) (cs := [¬ (l4 < l2)]) (by rfl) ⟨c_27, trivial⟩ (Nat.le_refl _) ?_
                obtain ⟨r_47, M_48, e_49, h⟩ := xb2_ex h
                refine XR.callV 9 rfl (rest := []) m_X_refuse k_9_105 9 l0 (Or.inl ⟨by decide, rfl⟩) [(vI 1)] rfl rfl (c_X_refuse e_49) (by decide) (Nat.le_of_ble_eq_true rfl) (by decide +kernel) (Nat.le_refl _) (Nat.le_refl _) ?_
                show XR false 2 174 sc y_X_air (45, [(0, (vR 9 l0)), (1, (vI l1)), (2, (vI l2)), (3, (vI l3)), (4, (vI l4))], [(vI r_47)], R, M_48, 174) _
                obtain rfl := Option.some.inj h
                exact XR.retI .int rfl rfl (by decide +kernel)
set_option maxRecDepth 100000 in
set_option maxHeartbeats 4000000 in
theorem c_X_air {sc : List Int} {R : xR} {M : xM} {l0 : Nat} {l1 : Int} {l2 : Int} {l3 : Int} {l4 : Int} {out : Int × xM} (h : f_X_air R l0 l1 l2 l3 l4 M = some out) : XC false 2 sc y_X_air [(vR 9 l0), (vI l1), (vI l2), (vI l3), (vI l4)] R M 174 174 ((some (vI out.1)), R, out.2) := XC.of (by decide) (Nat.le_of_ble_eq_true rfl) (Nat.le_refl _) (Nat.le_refl _) (o_X_air h)
def f_X_isKnownHour (l0 : Int) : Option Int :=
  if l0 < 0 then
    some (0)
  else
    if 99 < l0 then
      some (0)
    else
      some (1)
set_option maxRecDepth 100000 in
set_option maxHeartbeats 4000000 in
theorem s_X_isKnownHour {d : Nat} {sc : List Int} {z z' : xS} {out : xO} (qs : List xI) {cs : List Prop} (hq : qs.all (xqb 9 false y_X_isKnownHour.2.2.1 y_X_isKnownHour.2.1) = true) (h : xN false sc qs z = some (z', cs)) (hc : xAll cs) (hE : z'.2.2.2.2.2 ≤ 174) (k : XR false d 174 sc y_X_isKnownHour z' out) : XR false d 174 sc y_X_isKnownHour z out := XR.seg 9 false rfl (fun q => by cases q) qs hq h hc hE k
set_option maxRecDepth 100000 in
set_option maxHeartbeats 4000000 in
theorem o_X_isKnownHour {sc : List Int} {R : xR} {M : xM} {l0 : Int} {out : Int} (h : f_X_isKnownHour l0 = some out) : XR false 0 174 sc y_X_isKnownHour (0, [(0, (vI l0))], [], R, M, 174) ((some (vI out)), R, M) := by
  unfold f_X_isKnownHour at h
  refine s_X_isKnownHour [(0, .iload_n 0, 0, 0)] (by decide +kernel) (z' := (1, [(0, (vI l0))], [(vI l0)], R, M, 174)) (cs := []) (by rfl) trivial (Nat.le_refl _) ?_
  rcases xif_ex h with ⟨c_1, h⟩ | ⟨c_1, h⟩
  · skip
    refine s_X_isKnownHour [(1, .ifCond .lt 13, 0, 14), (14, .iconst 0, 0, 0)] (by decide +kernel) (z' := (15, [(0, (vI l0))], [(vI 0)], R, M, 174)) (cs := [l0 < 0]) (by rfl) ⟨c_1, trivial⟩ (Nat.le_refl _) ?_
    obtain rfl := Option.some.inj h
    exact XR.retI .boolean rfl (xnar_z (by decide)) (by decide +kernel)
  · skip
    refine s_X_isKnownHour [(1, .ifCond .lt 13, 0, (-1)), (4, .iload_n 0, 0, 0), (5, .bipush 99, 0, 99)] (by decide +kernel) (z' := (7, [(0, (vI l0))], [(vI 99), (vI l0)], R, M, 174)) (cs := [¬ (l0 < 0)]) (by rfl) ⟨c_1, trivial⟩ (Nat.le_refl _) ?_
    rcases xif_ex h with ⟨c_2, h⟩ | ⟨c_2, h⟩
    · skip
      refine s_X_isKnownHour [(7, .if_icmp .gt 7, 0, 14), (14, .iconst 0, 0, 0)] (by decide +kernel) (z' := (15, [(0, (vI l0))], [(vI 0)], R, M, 174)) (cs := [99 < l0]) (by rfl) ⟨c_2, trivial⟩ (Nat.le_refl _) ?_
      obtain rfl := Option.some.inj h
      exact XR.retI .boolean rfl (xnar_z (by decide)) (by decide +kernel)
    · skip
      refine s_X_isKnownHour [(7, .if_icmp .gt 7, 0, (-1)), (10, .iconst 1, 0, 1), (11, .goto 4, 0, 15)] (by decide +kernel) (z' := (15, [(0, (vI l0))], [(vI 1)], R, M, 174)) (cs := [¬ (99 < l0)]) (by rfl) ⟨c_2, trivial⟩ (Nat.le_refl _) ?_
      obtain rfl := Option.some.inj h
      exact XR.retI .boolean rfl (xnar_z (by decide)) (by decide +kernel)
set_option maxRecDepth 100000 in
set_option maxHeartbeats 4000000 in
theorem c_X_isKnownHour {sc : List Int} {R : xR} {M : xM} {l0 : Int} {out : Int} (h : f_X_isKnownHour l0 = some out) : XC false 0 sc y_X_isKnownHour [(vI l0)] R M 174 174 ((some (vI out)), R, M) := XC.of (by decide) (Nat.le_of_ble_eq_true rfl) (Nat.le_refl _) (Nat.le_refl _) (o_X_isKnownHour h)
def f_X_deny (l0 : Nat) (l1 : Int) (M : xM) : Option (Int × xM) :=
  xl (xu M l0 0 l1) fun M_1 =>
  some (0, M_1)
set_option maxRecDepth 100000 in
set_option maxHeartbeats 4000000 in
theorem s_X_deny {d : Nat} {sc : List Int} {z z' : xS} {out : xO} (qs : List xI) {cs : List Prop} (hq : qs.all (xqb 9 false y_X_deny.2.2.1 y_X_deny.2.1) = true) (h : xN false sc qs z = some (z', cs)) (hc : xAll cs) (hE : z'.2.2.2.2.2 ≤ 174) (k : XR false d 174 sc y_X_deny z' out) : XR false d 174 sc y_X_deny z out := XR.seg 9 false rfl (fun q => by cases q) qs hq h hc hE k
set_option maxRecDepth 100000 in
set_option maxHeartbeats 4000000 in
theorem o_X_deny {sc : List Int} {R : xR} {M : xM} {l0 : Nat} {l1 : Int} {out : Int × xM} (h : f_X_deny l0 l1 M = some out) : XR false 0 174 sc y_X_deny (0, [(0, (vR 9 l0)), (1, (vI l1))], [], R, M, 174) ((some (vI out.1)), R, out.2) := by
  unfold f_X_deny at h
  obtain ⟨M_1, hM_1, h⟩ := xl_ex h
  refine s_X_deny [(0, .aload_n 0, 0, 0), (1, .iload_n 1, 0, 0), (2, .putfield 9, 9, 0), (5, .iconst 0, 0, 0)] (by decide +kernel) (z' := (6, [(0, (vR 9 l0)), (1, (vI l1))], [(vI 0)], R, M_1, 174)) (cs := []) (by subst hM_1; rfl) trivial (Nat.le_refl _) ?_
  obtain rfl := Option.some.inj h
  exact XR.retI .boolean rfl (xnar_z (by decide)) (by decide +kernel)
set_option maxRecDepth 100000 in
set_option maxHeartbeats 4000000 in
theorem c_X_deny {sc : List Int} {R : xR} {M : xM} {l0 : Nat} {l1 : Int} {out : Int × xM} (h : f_X_deny l0 l1 M = some out) : XC false 0 sc y_X_deny [(vR 9 l0), (vI l1)] R M 174 174 ((some (vI out.1)), R, out.2) := XC.of (by decide) (Nat.le_of_ble_eq_true rfl) (Nat.le_refl _) (Nat.le_refl _) (o_X_deny h)
def f_X_done (l0 : Nat) (M : xM) : Option (Int × xM) :=
  xl (xu M l0 0 0) fun M_1 =>
  some (1, M_1)
set_option maxRecDepth 100000 in
set_option maxHeartbeats 4000000 in
theorem s_X_done {d : Nat} {sc : List Int} {z z' : xS} {out : xO} (qs : List xI) {cs : List Prop} (hq : qs.all (xqb 9 false y_X_done.2.2.1 y_X_done.2.1) = true) (h : xN false sc qs z = some (z', cs)) (hc : xAll cs) (hE : z'.2.2.2.2.2 ≤ 174) (k : XR false d 174 sc y_X_done z' out) : XR false d 174 sc y_X_done z out := XR.seg 9 false rfl (fun q => by cases q) qs hq h hc hE k
set_option maxRecDepth 100000 in
set_option maxHeartbeats 4000000 in
theorem o_X_done {sc : List Int} {R : xR} {M : xM} {l0 : Nat} {out : Int × xM} (h : f_X_done l0 M = some out) : XR false 0 174 sc y_X_done (0, [(0, (vR 9 l0))], [], R, M, 174) ((some (vI out.1)), R, out.2) := by
  unfold f_X_done at h
  obtain ⟨M_1, hM_1, h⟩ := xl_ex h
  refine s_X_done [(0, .aload_n 0, 0, 0), (1, .iconst 0, 0, 0), (2, .putfield 9, 9, 0), (5, .iconst 1, 0, 1)] (by decide +kernel) (z' := (6, [(0, (vR 9 l0))], [(vI 1)], R, M_1, 174)) (cs := []) (by subst hM_1; rfl) trivial (Nat.le_refl _) ?_
  obtain rfl := Option.some.inj h
  exact XR.retI .boolean rfl (xnar_z (by decide)) (by decide +kernel)
set_option maxRecDepth 100000 in
set_option maxHeartbeats 4000000 in
theorem c_X_done {sc : List Int} {R : xR} {M : xM} {l0 : Nat} {out : Int × xM} (h : f_X_done l0 M = some out) : XC false 0 sc y_X_done [(vR 9 l0)] R M 174 174 ((some (vI out.1)), R, out.2) := XC.of (by decide) (Nat.le_of_ble_eq_true rfl) (Nat.le_refl _) (Nat.le_refl _) (o_X_done h)
def f_X_asof (R : xR) (l0 : Nat) (l1 : Int) (M : xM) : Option (Int × xM) :=
  xb1 (f_X_isKnownHour l1) fun r_1 =>
  if r_1 = 0 then
    xb2 (f_X_deny l0 1 M) fun r_4 M_5 =>
    xch (r_4 = 0 ∨ r_4 = 1) <|
    some (r_4, M_5)
  else
    xb1 (f_B_setAsOf (R l0 7) l1 M) fun M_8 =>
    xb2 (f_X_done l0 M_8) fun r_10 M_11 =>
    xch (r_10 = 0 ∨ r_10 = 1) <|
    some (r_10, M_11)
set_option maxRecDepth 100000 in
set_option maxHeartbeats 4000000 in
theorem s_X_asof {d : Nat} {sc : List Int} {z z' : xS} {out : xO} (qs : List xI) {cs : List Prop} (hq : qs.all (xqb 9 false y_X_asof.2.2.1 y_X_asof.2.1) = true) (h : xN false sc qs z = some (z', cs)) (hc : xAll cs) (hE : z'.2.2.2.2.2 ≤ 174) (k : XR false d 174 sc y_X_asof z' out) : XR false d 174 sc y_X_asof z out := XR.seg 9 false rfl (fun q => by cases q) qs hq h hc hE k
set_option maxRecDepth 100000 in
set_option maxHeartbeats 4000000 in
theorem o_X_asof {sc : List Int} {R : xR} {M : xM} {l0 : Nat} {l1 : Int} {out : Int × xM} (h : f_X_asof R l0 l1 M = some out) : XR false 1 174 sc y_X_asof (0, [(0, (vR 9 l0)), (1, (vI l1))], [], R, M, 174) ((some (vI out.1)), R, out.2) := by
  unfold f_X_asof at h
  refine s_X_asof [(0, .iload_n 1, 0, 0)] (by decide +kernel) (z' := (1, [(0, (vR 9 l0)), (1, (vI l1))], [(vI l1)], R, M, 174)) (cs := []) (by rfl) trivial (Nat.le_refl _) ?_
  obtain ⟨r_1, e_2, h⟩ := xb1_ex h
  refine XR.callS 9 rfl (rest := []) m_X_isKnownHour k_9_196 [(vI l1)] rfl rfl (c_X_isKnownHour e_2) (by decide) (Nat.le_of_ble_eq_true rfl) (by decide +kernel) (Nat.le_refl _) (Nat.le_refl _) ?_
  show XR false 1 174 sc y_X_asof (4, [(0, (vR 9 l0)), (1, (vI l1))], [(vI r_1)], R, M, 174) _
  rcases xif_ex h with ⟨c_3, h⟩ | ⟨c_3, h⟩
  · skip
    refine s_X_asof [(4, .ifCond .ne 9, 0, (-1)), (7, .aload_n 0, 0, 0), (8, .iconst 1, 0, 1)] (by decide +kernel) (z' := (9, [(0, (vR 9 l0)), (1, (vI l1))], [(vI 1), (vR 9 l0)], R, M, 174)) (cs := [¬ (r_1 ≠ 0)]) (by rfl) ⟨fun q => q c_3, trivial⟩ (Nat.le_refl _) ?_
    obtain ⟨r_4, M_5, e_6, h⟩ := xb2_ex h
    refine XR.callV 9 rfl (rest := []) m_X_deny k_9_86 9 l0 (Or.inl ⟨by decide, rfl⟩) [(vI 1)] rfl rfl (c_X_deny e_6) (by decide) (Nat.le_of_ble_eq_true rfl) (by decide +kernel) (Nat.le_refl _) (Nat.le_refl _) ?_
    show XR false 1 174 sc y_X_asof (12, [(0, (vR 9 l0)), (1, (vI l1))], [(vI r_4)], R, M_5, 174) _
    obtain ⟨c_7, h⟩ := xch_ex h
    obtain rfl := Option.some.inj h
    exact XR.retI .boolean rfl (xnar_z c_7) (by decide +kernel)
  · skip
    refine s_X_asof [(4, .ifCond .ne 9, 0, 13), (13, .aload_n 0, 0, 0), (14, .getfield 50, 9, 7), (17, .iload_n 1, 0, 0)] (by decide +kernel) (z' := (18, [(0, (vR 9 l0)), (1, (vI l1))], [(vI l1), (vR 0 (R l0 7))], R, M, 174)) (cs := [r_1 ≠ 0]) (by rfl) ⟨c_3, trivial⟩ (Nat.le_refl _) ?_
    obtain ⟨M_8, e_9, h⟩ := xb1_ex h
    refine XR.callV 9 rfl (rest := []) m_B_setAsOf k_9_222 0 (R l0 7) (Or.inl ⟨by decide, rfl⟩) [(vI l1)] rfl rfl (c_B_setAsOf e_9) (by decide) (Nat.le_of_ble_eq_true rfl) (by decide +kernel) (Nat.le_refl _) (Nat.le_refl _) ?_
    show XR false 1 174 sc y_X_asof (21, [(0, (vR 9 l0)), (1, (vI l1))], [], R, M_8, 174) _
    refine s_X_asof [(21, .aload_n 0, 0, 0)] (by decide +kernel) (z' := (22, [(0, (vR 9 l0)), (1, (vI l1))], [(vR 9 l0)], R, M_8, 174)) (cs := []) (by rfl) trivial (Nat.le_refl _) ?_
    obtain ⟨r_10, M_11, e_12, h⟩ := xb2_ex h
    refine XR.callV 9 rfl (rest := []) m_X_done k_9_93 9 l0 (Or.inl ⟨by decide, rfl⟩) [] rfl rfl (c_X_done e_12) (by decide) (Nat.le_of_ble_eq_true rfl) (by decide +kernel) (Nat.le_refl _) (Nat.le_refl _) ?_
    show XR false 1 174 sc y_X_asof (25, [(0, (vR 9 l0)), (1, (vI l1))], [(vI r_10)], R, M_11, 174) _
    obtain ⟨c_13, h⟩ := xch_ex h
    obtain rfl := Option.some.inj h
    exact XR.retI .boolean rfl (xnar_z c_13) (by decide +kernel)
set_option maxRecDepth 100000 in
set_option maxHeartbeats 4000000 in
theorem c_X_asof {sc : List Int} {R : xR} {M : xM} {l0 : Nat} {l1 : Int} {out : Int × xM} (h : f_X_asof R l0 l1 M = some out) : XC false 1 sc y_X_asof [(vR 9 l0), (vI l1)] R M 174 174 ((some (vI out.1)), R, out.2) := XC.of (by decide) (Nat.le_of_ble_eq_true rfl) (Nat.le_refl _) (Nat.le_refl _) (o_X_asof h)
def f_X_isCleaner (R : xR) (l0 : Nat) (l1 : Int) (M : xM) : Option Int :=
  if l1 < 0 then
    some (0)
  else
    if l1 < M (R l0 3) 0 then
      some (1)
    else
      some (0)
set_option maxRecDepth 100000 in
set_option maxHeartbeats 4000000 in
theorem s_X_isCleaner {d : Nat} {sc : List Int} {z z' : xS} {out : xO} (qs : List xI) {cs : List Prop} (hq : qs.all (xqb 9 false y_X_isCleaner.2.2.1 y_X_isCleaner.2.1) = true) (h : xN false sc qs z = some (z', cs)) (hc : xAll cs) (hE : z'.2.2.2.2.2 ≤ 174) (k : XR false d 174 sc y_X_isCleaner z' out) : XR false d 174 sc y_X_isCleaner z out := XR.seg 9 false rfl (fun q => by cases q) qs hq h hc hE k
set_option maxRecDepth 100000 in
set_option maxHeartbeats 4000000 in
theorem o_X_isCleaner {sc : List Int} {R : xR} {M : xM} {l0 : Nat} {l1 : Int} {out : Int} (h : f_X_isCleaner R l0 l1 M = some out) : XR false 0 174 sc y_X_isCleaner (0, [(0, (vR 9 l0)), (1, (vI l1))], [], R, M, 174) ((some (vI out)), R, M) := by
  unfold f_X_isCleaner at h
  refine s_X_isCleaner [(0, .iload_n 1, 0, 0)] (by decide +kernel) (z' := (1, [(0, (vR 9 l0)), (1, (vI l1))], [(vI l1)], R, M, 174)) (cs := []) (by rfl) trivial (Nat.le_refl _) ?_
  rcases xif_ex h with ⟨c_1, h⟩ | ⟨c_1, h⟩
  · skip
    refine s_X_isCleaner [(1, .ifCond .lt 18, 0, 19), (19, .iconst 0, 0, 0)] (by decide +kernel) (z' := (20, [(0, (vR 9 l0)), (1, (vI l1))], [(vI 0)], R, M, 174)) (cs := [l1 < 0]) (by rfl) ⟨c_1, trivial⟩ (Nat.le_refl _) ?_
    obtain rfl := Option.some.inj h
    exact XR.retI .boolean rfl (xnar_z (by decide)) (by decide +kernel)
  · skip
    refine s_X_isCleaner [(1, .ifCond .lt 18, 0, (-1)), (4, .iload_n 1, 0, 0), (5, .aload_n 0, 0, 0), (6, .getfield 30, 9, 3), (9, .getfield 153, 6, 0)] (by decide +kernel) (z' := (12, [(0, (vR 9 l0)), (1, (vI l1))], [(vI (M (R l0 3) 0)), (vI l1)], R, M, 174)) (cs := [¬ (l1 < 0)]) (by rfl) ⟨c_1, trivial⟩ (Nat.le_refl _) ?_
    rcases xif_ex h with ⟨c_2, h⟩ | ⟨c_2, h⟩
    · skip
      refine s_X_isCleaner [(12, .if_icmp .ge 7, 0, (-1)), (15, .iconst 1, 0, 1), (16, .goto 4, 0, 20)] (by decide +kernel) (z' := (20, [(0, (vR 9 l0)), (1, (vI l1))], [(vI 1)], R, M, 174)) (cs := [¬ (M (R l0 3) 0 ≤ l1)]) (by rfl) ⟨Int.not_le.mpr c_2, trivial⟩ (Nat.le_refl _) ?_
      obtain rfl := Option.some.inj h
      exact XR.retI .boolean rfl (xnar_z (by decide)) (by decide +kernel)
    · skip
      refine s_X_isCleaner [(12, .if_icmp .ge 7, 0, 19), (19, .iconst 0, 0, 0)] (by decide +kernel) (z' := (20, [(0, (vR 9 l0)), (1, (vI l1))], [(vI 0)], R, M, 174)) (cs := [M (R l0 3) 0 ≤ l1]) (by rfl) ⟨Int.not_lt.mp c_2, trivial⟩ (Nat.le_refl _) ?_
      obtain rfl := Option.some.inj h
      exact XR.retI .boolean rfl (xnar_z (by decide)) (by decide +kernel)
set_option maxRecDepth 100000 in
set_option maxHeartbeats 4000000 in
theorem c_X_isCleaner {sc : List Int} {R : xR} {M : xM} {l0 : Nat} {l1 : Int} {out : Int} (h : f_X_isCleaner R l0 l1 M = some out) : XC false 0 sc y_X_isCleaner [(vR 9 l0), (vI l1)] R M 174 174 ((some (vI out)), R, M) := XC.of (by decide) (Nat.le_of_ble_eq_true rfl) (Nat.le_refl _) (Nat.le_refl _) (o_X_isCleaner h)
def f_X_isHour (l0 : Int) : Option Int :=
  if l0 < 0 then
    some (0)
  else
    if l0 < 48 then
      some (1)
    else
      some (0)
set_option maxRecDepth 100000 in
set_option maxHeartbeats 4000000 in
theorem s_X_isHour {d : Nat} {sc : List Int} {z z' : xS} {out : xO} (qs : List xI) {cs : List Prop} (hq : qs.all (xqb 9 false y_X_isHour.2.2.1 y_X_isHour.2.1) = true) (h : xN false sc qs z = some (z', cs)) (hc : xAll cs) (hE : z'.2.2.2.2.2 ≤ 174) (k : XR false d 174 sc y_X_isHour z' out) : XR false d 174 sc y_X_isHour z out := XR.seg 9 false rfl (fun q => by cases q) qs hq h hc hE k
set_option maxRecDepth 100000 in
set_option maxHeartbeats 4000000 in
theorem o_X_isHour {sc : List Int} {R : xR} {M : xM} {l0 : Int} {out : Int} (h : f_X_isHour l0 = some out) : XR false 0 174 sc y_X_isHour (0, [(0, (vI l0))], [], R, M, 174) ((some (vI out)), R, M) := by
  unfold f_X_isHour at h
  refine s_X_isHour [(0, .iload_n 0, 0, 0)] (by decide +kernel) (z' := (1, [(0, (vI l0))], [(vI l0)], R, M, 174)) (cs := []) (by rfl) trivial (Nat.le_refl _) ?_
  rcases xif_ex h with ⟨c_1, h⟩ | ⟨c_1, h⟩
  · skip
    refine s_X_isHour [(1, .ifCond .lt 13, 0, 14), (14, .iconst 0, 0, 0)] (by decide +kernel) (z' := (15, [(0, (vI l0))], [(vI 0)], R, M, 174)) (cs := [l0 < 0]) (by rfl) ⟨c_1, trivial⟩ (Nat.le_refl _) ?_
    obtain rfl := Option.some.inj h
    exact XR.retI .boolean rfl (xnar_z (by decide)) (by decide +kernel)
  · skip
    refine s_X_isHour [(1, .ifCond .lt 13, 0, (-1)), (4, .iload_n 0, 0, 0), (5, .bipush 48, 0, 48)] (by decide +kernel) (z' := (7, [(0, (vI l0))], [(vI 48), (vI l0)], R, M, 174)) (cs := [¬ (l0 < 0)]) (by rfl) ⟨c_1, trivial⟩ (Nat.le_refl _) ?_
    rcases xif_ex h with ⟨c_2, h⟩ | ⟨c_2, h⟩
    · skip
      refine s_X_isHour [(7, .if_icmp .ge 7, 0, (-1)), (10, .iconst 1, 0, 1), (11, .goto 4, 0, 15)] (by decide +kernel) (z' := (15, [(0, (vI l0))], [(vI 1)], R, M, 174)) (cs := [¬ (48 ≤ l0)]) (by rfl) ⟨Int.not_le.mpr c_2, trivial⟩ (Nat.le_refl _) ?_
      obtain rfl := Option.some.inj h
      exact XR.retI .boolean rfl (xnar_z (by decide)) (by decide +kernel)
    · skip
      refine s_X_isHour [(7, .if_icmp .ge 7, 0, 14), (14, .iconst 0, 0, 0)] (by decide +kernel) (z' := (15, [(0, (vI l0))], [(vI 0)], R, M, 174)) (cs := [48 ≤ l0]) (by rfl) ⟨Int.not_lt.mp c_2, trivial⟩ (Nat.le_refl _) ?_
      obtain rfl := Option.some.inj h
      exact XR.retI .boolean rfl (xnar_z (by decide)) (by decide +kernel)
set_option maxRecDepth 100000 in
set_option maxHeartbeats 4000000 in
theorem c_X_isHour {sc : List Int} {R : xR} {M : xM} {l0 : Int} {out : Int} (h : f_X_isHour l0 = some out) : XC false 0 sc y_X_isHour [(vI l0)] R M 174 174 ((some (vI out)), R, M) := XC.of (by decide) (Nat.le_of_ble_eq_true rfl) (Nat.le_refl _) (Nat.le_refl _) (o_X_isHour h)
def f_X_isSize (l0 : Int) : Option Int :=
  if l0 < 0 then
    some (0)
  else
    if l0 < 4 then
      some (1)
    else
      some (0)
set_option maxRecDepth 100000 in
set_option maxHeartbeats 4000000 in
theorem s_X_isSize {d : Nat} {sc : List Int} {z z' : xS} {out : xO} (qs : List xI) {cs : List Prop} (hq : qs.all (xqb 9 false y_X_isSize.2.2.1 y_X_isSize.2.1) = true) (h : xN false sc qs z = some (z', cs)) (hc : xAll cs) (hE : z'.2.2.2.2.2 ≤ 174) (k : XR false d 174 sc y_X_isSize z' out) : XR false d 174 sc y_X_isSize z out := XR.seg 9 false rfl (fun q => by cases q) qs hq h hc hE k
set_option maxRecDepth 100000 in
set_option maxHeartbeats 4000000 in
theorem o_X_isSize {sc : List Int} {R : xR} {M : xM} {l0 : Int} {out : Int} (h : f_X_isSize l0 = some out) : XR false 0 174 sc y_X_isSize (0, [(0, (vI l0))], [], R, M, 174) ((some (vI out)), R, M) := by
  unfold f_X_isSize at h
  refine s_X_isSize [(0, .iload_n 0, 0, 0)] (by decide +kernel) (z' := (1, [(0, (vI l0))], [(vI l0)], R, M, 174)) (cs := []) (by rfl) trivial (Nat.le_refl _) ?_
  rcases xif_ex h with ⟨c_1, h⟩ | ⟨c_1, h⟩
  · skip
    refine s_X_isSize [(1, .ifCond .lt 12, 0, 13), (13, .iconst 0, 0, 0)] (by decide +kernel) (z' := (14, [(0, (vI l0))], [(vI 0)], R, M, 174)) (cs := [l0 < 0]) (by rfl) ⟨c_1, trivial⟩ (Nat.le_refl _) ?_
    obtain rfl := Option.some.inj h
    exact XR.retI .boolean rfl (xnar_z (by decide)) (by decide +kernel)
  · skip
    refine s_X_isSize [(1, .ifCond .lt 12, 0, (-1)), (4, .iload_n 0, 0, 0), (5, .iconst 4, 0, 4)] (by decide +kernel) (z' := (6, [(0, (vI l0))], [(vI 4), (vI l0)], R, M, 174)) (cs := [¬ (l0 < 0)]) (by rfl) ⟨c_1, trivial⟩ (Nat.le_refl _) ?_
    rcases xif_ex h with ⟨c_2, h⟩ | ⟨c_2, h⟩
    · skip
      refine s_X_isSize [(6, .if_icmp .ge 7, 0, (-1)), (9, .iconst 1, 0, 1), (10, .goto 4, 0, 14)] (by decide +kernel) (z' := (14, [(0, (vI l0))], [(vI 1)], R, M, 174)) (cs := [¬ (4 ≤ l0)]) (by rfl) ⟨Int.not_le.mpr c_2, trivial⟩ (Nat.le_refl _) ?_
      obtain rfl := Option.some.inj h
      exact XR.retI .boolean rfl (xnar_z (by decide)) (by decide +kernel)
    · skip
      refine s_X_isSize [(6, .if_icmp .ge 7, 0, 13), (13, .iconst 0, 0, 0)] (by decide +kernel) (z' := (14, [(0, (vI l0))], [(vI 0)], R, M, 174)) (cs := [4 ≤ l0]) (by rfl) ⟨Int.not_lt.mp c_2, trivial⟩ (Nat.le_refl _) ?_
      obtain rfl := Option.some.inj h
      exact XR.retI .boolean rfl (xnar_z (by decide)) (by decide +kernel)
set_option maxRecDepth 100000 in
set_option maxHeartbeats 4000000 in
theorem c_X_isSize {sc : List Int} {R : xR} {M : xM} {l0 : Int} {out : Int} (h : f_X_isSize l0 = some out) : XC false 0 sc y_X_isSize [(vI l0)] R M 174 174 ((some (vI out)), R, M) := XC.of (by decide) (Nat.le_of_ble_eq_true rfl) (Nat.le_refl _) (Nat.le_refl _) (o_X_isSize h)
def f_X_isSizeOrAll (l0 : Int) : Option Int :=
  if l0 = -1 then
    some (1)
  else
    xb1 (f_X_isSize l0) fun r_2 =>
    if r_2 = 0 then
      some (0)
    else
      some (1)
set_option maxRecDepth 100000 in
set_option maxHeartbeats 4000000 in
theorem s_X_isSizeOrAll {d : Nat} {sc : List Int} {z z' : xS} {out : xO} (qs : List xI) {cs : List Prop} (hq : qs.all (xqb 9 false y_X_isSizeOrAll.2.2.1 y_X_isSizeOrAll.2.1) = true) (h : xN false sc qs z = some (z', cs)) (hc : xAll cs) (hE : z'.2.2.2.2.2 ≤ 174) (k : XR false d 174 sc y_X_isSizeOrAll z' out) : XR false d 174 sc y_X_isSizeOrAll z out := XR.seg 9 false rfl (fun q => by cases q) qs hq h hc hE k
set_option maxRecDepth 100000 in
set_option maxHeartbeats 4000000 in
theorem o_X_isSizeOrAll {sc : List Int} {R : xR} {M : xM} {l0 : Int} {out : Int} (h : f_X_isSizeOrAll l0 = some out) : XR false 1 174 sc y_X_isSizeOrAll (0, [(0, (vI l0))], [], R, M, 174) ((some (vI out)), R, M) := by
  unfold f_X_isSizeOrAll at h
  refine s_X_isSizeOrAll [(0, .iload_n 0, 0, 0), (1, .iconst (-1), 0, (-1))] (by decide +kernel) (z' := (2, [(0, (vI l0))], [(vI (-1)), (vI l0)], R, M, 174)) (cs := []) (by rfl) trivial (Nat.le_refl _) ?_
  rcases xif_ex h with ⟨c_1, h⟩ | ⟨c_1, h⟩
  · skip
    refine s_X_isSizeOrAll [(2, .if_icmp .eq 10, 0, 12), (12, .iconst 1, 0, 1), (13, .goto 4, 0, 17)] (by decide +kernel) (z' := (17, [(0, (vI l0))], [(vI 1)], R, M, 174)) (cs := [l0 = -1]) (by rfl) ⟨c_1, trivial⟩ (Nat.le_refl _) ?_
    obtain rfl := Option.some.inj h
    exact XR.retI .boolean rfl (xnar_z (by decide)) (by decide +kernel)
  · skip
    refine s_X_isSizeOrAll [(2, .if_icmp .eq 10, 0, (-1)), (5, .iload_n 0, 0, 0)] (by decide +kernel) (z' := (6, [(0, (vI l0))], [(vI l0)], R, M, 174)) (cs := [¬ (l0 = -1)]) (by rfl) ⟨c_1, trivial⟩ (Nat.le_refl _) ?_
    obtain ⟨r_2, e_3, h⟩ := xb1_ex h
    refine XR.callS 9 rfl (rest := []) m_X_isSize k_9_193 [(vI l0)] rfl rfl (c_X_isSize e_3) (by decide) (Nat.le_of_ble_eq_true rfl) (by decide +kernel) (Nat.le_refl _) (Nat.le_refl _) ?_
    show XR false 1 174 sc y_X_isSizeOrAll (9, [(0, (vI l0))], [(vI r_2)], R, M, 174) _
    rcases xif_ex h with ⟨c_4, h⟩ | ⟨c_4, h⟩
    · skip
      refine s_X_isSizeOrAll [(9, .ifCond .eq 7, 0, 16), (16, .iconst 0, 0, 0)] (by decide +kernel) (z' := (17, [(0, (vI l0))], [(vI 0)], R, M, 174)) (cs := [r_2 = 0]) (by rfl) ⟨c_4, trivial⟩ (Nat.le_refl _) ?_
      obtain rfl := Option.some.inj h
      exact XR.retI .boolean rfl (xnar_z (by decide)) (by decide +kernel)
    · skip
      refine s_X_isSizeOrAll [(9, .ifCond .eq 7, 0, (-1)), (12, .iconst 1, 0, 1), (13, .goto 4, 0, 17)] (by decide +kernel) (z' := (17, [(0, (vI l0))], [(vI 1)], R, M, 174)) (cs := [¬ (r_2 = 0)]) (by rfl) ⟨c_4, trivial⟩ (Nat.le_refl _) ?_
      obtain rfl := Option.some.inj h
      exact XR.retI .boolean rfl (xnar_z (by decide)) (by decide +kernel)
set_option maxRecDepth 100000 in
set_option maxHeartbeats 4000000 in
theorem c_X_isSizeOrAll {sc : List Int} {R : xR} {M : xM} {l0 : Int} {out : Int} (h : f_X_isSizeOrAll l0 = some out) : XC false 1 sc y_X_isSizeOrAll [(vI l0)] R M 174 174 ((some (vI out)), R, M) := XC.of (by decide) (Nat.le_of_ble_eq_true rfl) (Nat.le_refl _) (Nat.le_refl _) (o_X_isSizeOrAll h)
def f_X_freshen (R : xR) (l0 : Nat) (M : xM) : Option xM :=
  if M (R l0 7) 13 = 0 then
    some (M)
  else
    xb1 (f_B_gather R (R l0 7) M) fun M_2 =>
    xb1 (f_F_restart R (R l0 8) M_2) fun M_4 =>
    some (M_4)
set_option maxRecDepth 100000 in
set_option maxHeartbeats 4000000 in
theorem s_X_freshen {d : Nat} {sc : List Int} {z z' : xS} {out : xO} (qs : List xI) {cs : List Prop} (hq : qs.all (xqb 9 false y_X_freshen.2.2.1 y_X_freshen.2.1) = true) (h : xN false sc qs z = some (z', cs)) (hc : xAll cs) (hE : z'.2.2.2.2.2 ≤ 174) (k : XR false d 174 sc y_X_freshen z' out) : XR false d 174 sc y_X_freshen z out := XR.seg 9 false rfl (fun q => by cases q) qs hq h hc hE k
set_option maxRecDepth 100000 in
set_option maxHeartbeats 4000000 in
theorem o_X_freshen {sc : List Int} {R : xR} {M : xM} {l0 : Nat} {out : xM} (h : f_X_freshen R l0 M = some out) : XR false 2 174 sc y_X_freshen (0, [(0, (vR 9 l0))], [], R, M, 174) (none, R, out) := by
  unfold f_X_freshen at h
  refine s_X_freshen [(0, .aload_n 0, 0, 0), (1, .getfield 50, 9, 7), (4, .getfield 370, 0, 13)] (by decide +kernel) (z' := (7, [(0, (vR 9 l0))], [(vI (M (R l0 7) 13))], R, M, 174)) (cs := []) (by rfl) trivial (Nat.le_refl _) ?_
  rcases xif_ex h with ⟨c_1, h⟩ | ⟨c_1, h⟩
  · skip
    refine s_X_freshen [(7, .ifCond .eq 17, 0, 24)] (by decide +kernel) (z' := (24, [(0, (vR 9 l0))], [], R, M, 174)) (cs := [M (R l0 7) 13 = 0]) (by rfl) ⟨c_1, trivial⟩ (Nat.le_refl _) ?_
    obtain rfl := Option.some.inj h
    exact XR.retV rfl (by decide +kernel)
  · skip
    refine s_X_freshen [(7, .ifCond .eq 17, 0, (-1)), (10, .aload_n 0, 0, 0), (11, .getfield 50, 9, 7)] (by decide +kernel) (z' := (14, [(0, (vR 9 l0))], [(vR 0 (R l0 7))], R, M, 174)) (cs := [¬ (M (R l0 7) 13 = 0)]) (by rfl) ⟨c_1, trivial⟩ (Nat.le_refl _) ?_
    obtain ⟨M_2, e_3, h⟩ := xb1_ex h
    refine XR.callV 9 rfl (rest := []) m_B_gather k_9_374 0 (R l0 7) (Or.inl ⟨by decide, rfl⟩) [] rfl rfl (c_B_gather e_3) (by decide) (Nat.le_of_ble_eq_true rfl) (by decide +kernel) (Nat.le_refl _) (Nat.le_refl _) ?_
    show XR false 2 174 sc y_X_freshen (17, [(0, (vR 9 l0))], [], R, M_2, 174) _
    refine s_X_freshen [(17, .aload_n 0, 0, 0), (18, .getfield 57, 9, 8)] (by decide +kernel) (z' := (21, [(0, (vR 9 l0))], [(vR 1 (R l0 8))], R, M_2, 174)) (cs := []) (by rfl) trivial (Nat.le_refl _) ?_
    obtain ⟨M_4, e_5, h⟩ := xb1_ex h
    refine XR.callV 9 rfl (rest := []) m_F_restart k_9_377 1 (R l0 8) (Or.inl ⟨by decide, rfl⟩) [] rfl rfl (c_F_restart e_5) (by decide) (Nat.le_of_ble_eq_true rfl) (by decide +kernel) (Nat.le_refl _) (Nat.le_refl _) ?_
    show XR false 2 174 sc y_X_freshen (24, [(0, (vR 9 l0))], [], R, M_4, 174) _
    obtain rfl := Option.some.inj h
    exact XR.retV rfl (by decide +kernel)
set_option maxRecDepth 100000 in
set_option maxHeartbeats 4000000 in
theorem c_X_freshen {sc : List Int} {R : xR} {M : xM} {l0 : Nat} {out : xM} (h : f_X_freshen R l0 M = some out) : XC false 2 sc y_X_freshen [(vR 9 l0)] R M 174 174 (none, R, out) := XC.of (by decide) (Nat.le_of_ble_eq_true rfl) (Nat.le_refl _) (Nat.le_refl _) (o_X_freshen h)
def X_stepThrough_F12 (R : xR) (l0 : Nat) (l1 : Int) : Nat → Int → xM → Option xM
  | 0, _, _ => none
  | n + 1, v2, M =>
    if l1 < v2 then
      some (M)
    else
      xb1 (f_F_step R (R l0 8) (R l0 3) (R l0 7) M) fun M_5 =>
      xl (w32 (v2 + 1)) fun v2_7 =>
      X_stepThrough_F12 R l0 l1  n v2_7 M_5
def f_X_stepThrough (R : xR) (l0 : Nat) (l1 : Int) (M : xM) : Option xM :=
  xb1 (f_X_freshen R l0 M) fun M_1 =>
  xl (M_1 (R l0 8) 0) fun v2_3 =>
  X_stepThrough_F12 R l0 l1
    xfu v2_3 M_1
set_option maxRecDepth 100000 in
set_option maxHeartbeats 4000000 in
theorem s_X_stepThrough {d : Nat} {sc : List Int} {z z' : xS} {out : xO} (qs : List xI) {cs : List Prop} (hq : qs.all (xqb 9 false y_X_stepThrough.2.2.1 y_X_stepThrough.2.1) = true) (h : xN false sc qs z = some (z', cs)) (hc : xAll cs) (hE : z'.2.2.2.2.2 ≤ 174) (k : XR false d 174 sc y_X_stepThrough z' out) : XR false d 174 sc y_X_stepThrough z out := XR.seg 9 false rfl (fun q => by cases q) qs hq h hc hE k
set_option maxRecDepth 100000 in
set_option maxHeartbeats 4000000 in
theorem o_X_stepThrough_F12 {sc : List Int} {R : xR}   {l0 : Nat} {l1 : Int}  : ∀ (n : Nat) (v2 : Int) (M : xM) (out : xM), X_stepThrough_F12 R l0 l1  n v2 M = some out → XR false 4 174 sc y_X_stepThrough (12, [(0, (vR 9 l0)), (1, (vI l1)), (2, (vI v2))], [], R, M, 174) (none, R, out) := by
  intro n
  induction n with
  | zero => intro v2 M out h; exact (xno h).elim
  | succ n ih =>
    intro v2 M out h
    rw [X_stepThrough_F12] at h
    refine s_X_stepThrough [(12, .iload_n 2, 0, 0), (13, .iload_n 1, 0, 0)] (by decide +kernel) (z' := (14, [(0, (vR 9 l0)), (1, (vI l1)), (2, (vI v2))], [(vI l1), (vI v2)], R, M, 174)) (cs := []) (by rfl) trivial (Nat.le_refl _) ?_
    rcases xif_ex h with ⟨c_4, h⟩ | ⟨c_4, h⟩
    · skip
      refine s_X_stepThrough [(14, .if_icmp .gt 24, 0, 38)] (by decide +kernel) (z' := (38, [(0, (vR 9 l0)), (1, (vI l1)), (2, (vI v2))], [], R, M, 174)) (cs := [l1 < v2]) (by rfl) ⟨c_4, trivial⟩ (Nat.le_refl _) ?_
      obtain rfl := Option.some.inj h
      exact XR.retV rfl (by decide +kernel)
    · skip
      refine s_X_stepThrough [(14, .if_icmp .gt 24, 0, (-1)), (17, .aload_n 0, 0, 0), (18, .getfield 57, 9, 8), (21, .aload_n 0, 0, 0), (22, .getfield 30, 9, 3), (25, .aload_n 0, 0, 0), (26, .getfield 50, 9, 7)] (by decide +kernel) (z' := (29, [(0, (vR 9 l0)), (1, (vI l1)), (2, (vI v2))], [(vR 0 (R l0 7)), (vR 6 (R l0 3)), (vR 1 (R l0 8))], R, M, 174)) (cs := [¬ (l1 < v2)]) (by rfl) ⟨c_4, trivial⟩ (Nat.le_refl _) ?_
      obtain ⟨M_5, e_6, h⟩ := xb1_ex h
      refine XR.callV 9 rfl (rest := []) m_F_step k_9_383 1 (R l0 8) (Or.inl ⟨by decide, rfl⟩) [(vR 6 (R l0 3)), (vR 0 (R l0 7))] rfl rfl (c_F_step e_6) (by decide) (Nat.le_of_ble_eq_true rfl) (by decide +kernel) (Nat.le_refl _) (Nat.le_refl _) ?_
      show XR false 4 174 sc y_X_stepThrough (32, [(0, (vR 9 l0)), (1, (vI l1)), (2, (vI v2))], [], R, M_5, 174) _
      obtain ⟨v2_7, hv2_7, h⟩ := xl_ex h
      refine s_X_stepThrough [(32, .iinc 2 1, 0, 0), (35, .goto (-23), 0, 12)] (by decide +kernel) (z' := (12, [(2, (vI v2_7)), (0, (vR 9 l0)), (1, (vI l1))], [], R, M_5, 174)) (cs := []) (by subst hv2_7; rfl) trivial (Nat.le_refl _) ?_
      refine XR.pick [1, 2, 0] (ls' := [(0, (vR 9 l0)), (1, (vI l1)), (2, (vI v2_7))]) rfl ?_
      exact ih v2_7 M_5 _ h
set_option maxRecDepth 100000 in
set_option maxHeartbeats 4000000 in
theorem o_X_stepThrough {sc : List Int} {R : xR} {M : xM} {l0 : Nat} {l1 : Int} {out : xM} (h : f_X_stepThrough R l0 l1 M = some out) : XR false 4 174 sc y_X_stepThrough (0, [(0, (vR 9 l0)), (1, (vI l1))], [], R, M, 174) (none, R, out) := by
  unfold f_X_stepThrough at h
  refine s_X_stepThrough [(0, .aload_n 0, 0, 0)] (by decide +kernel) (z' := (1, [(0, (vR 9 l0)), (1, (vI l1))], [(vR 9 l0)], R, M, 174)) (cs := []) (by rfl) trivial (Nat.le_refl _) ?_
  obtain ⟨M_1, e_2, h⟩ := xb1_ex h
  refine XR.callV 9 rfl (rest := []) m_X_freshen k_9_276 9 l0 (Or.inl ⟨by decide, rfl⟩) [] rfl rfl (c_X_freshen e_2) (by decide) (Nat.le_of_ble_eq_true rfl) (by decide +kernel) (Nat.le_refl _) (Nat.le_refl _) ?_
  show XR false 4 174 sc y_X_stepThrough (4, [(0, (vR 9 l0)), (1, (vI l1))], [], R, M_1, 174) _
  obtain ⟨v2_3, hv2_3, h⟩ := xl_ex h
  refine s_X_stepThrough [(4, .aload_n 0, 0, 0), (5, .getfield 57, 9, 8), (8, .getfield 380, 1, 0), (11, .istore_n 2, 0, 0)] (by decide +kernel) (z' := (12, [(2, (vI v2_3)), (0, (vR 9 l0)), (1, (vI l1))], [], R, M_1, 174)) (cs := []) (by subst hv2_3; rfl) trivial (Nat.le_refl _) ?_
  refine XR.pick [1, 2, 0] (ls' := [(0, (vR 9 l0)), (1, (vI l1)), (2, (vI v2_3))]) rfl ?_
  refine o_X_stepThrough_F12  xfu v2_3 M_1 _ h
set_option maxRecDepth 100000 in
set_option maxHeartbeats 4000000 in
theorem c_X_stepThrough {sc : List Int} {R : xR} {M : xM} {l0 : Nat} {l1 : Int} {out : xM} (h : f_X_stepThrough R l0 l1 M = some out) : XC false 4 sc y_X_stepThrough [(vR 9 l0), (vI l1)] R M 174 174 (none, R, out) := XC.of (by decide) (Nat.le_of_ble_eq_true rfl) (Nat.le_refl _) (Nat.le_refl _) (o_X_stepThrough h)
def f_X_stepToEndOf (R : xR) (l0 : Nat) (l1 : Int) (M : xM) : Option xM :=
  if w32 (l1 + 1) < M (R l0 8) 0 then
    xb1 (f_F_restart R (R l0 8) M) fun M_2 =>
    xb1 (f_X_stepThrough R l0 l1 M_2) fun M_4 =>
    some (M_4)
  else
    xb1 (f_X_stepThrough R l0 l1 M) fun M_6 =>
    some (M_6)
set_option maxRecDepth 100000 in
set_option maxHeartbeats 4000000 in
theorem s_X_stepToEndOf {d : Nat} {sc : List Int} {z z' : xS} {out : xO} (qs : List xI) {cs : List Prop} (hq : qs.all (xqb 9 false y_X_stepToEndOf.2.2.1 y_X_stepToEndOf.2.1) = true) (h : xN false sc qs z = some (z', cs)) (hc : xAll cs) (hE : z'.2.2.2.2.2 ≤ 174) (k : XR false d 174 sc y_X_stepToEndOf z' out) : XR false d 174 sc y_X_stepToEndOf z out := XR.seg 9 false rfl (fun q => by cases q) qs hq h hc hE k
set_option maxRecDepth 100000 in
set_option maxHeartbeats 4000000 in
theorem o_X_stepToEndOf {sc : List Int} {R : xR} {M : xM} {l0 : Nat} {l1 : Int} {out : xM} (h : f_X_stepToEndOf R l0 l1 M = some out) : XR false 5 174 sc y_X_stepToEndOf (0, [(0, (vR 9 l0)), (1, (vI l1))], [], R, M, 174) (none, R, out) := by
  unfold f_X_stepToEndOf at h
  refine s_X_stepToEndOf [(0, .aload_n 0, 0, 0), (1, .getfield 57, 9, 8), (4, .getfield 380, 1, 0), (7, .iload_n 1, 0, 0), (8, .iconst 1, 0, 1), (9, .iadd, 0, 0)] (by decide +kernel) (z' := (10, [(0, (vR 9 l0)), (1, (vI l1))], [(vI (w32 (l1 + 1))), (vI (M (R l0 8) 0))], R, M, 174)) (cs := []) (by rfl) trivial (Nat.le_refl _) ?_
  rcases xif_ex h with ⟨c_1, h⟩ | ⟨c_1, h⟩
  · skip
    refine s_X_stepToEndOf [(10, .if_icmp .le 10, 0, (-1)), (13, .aload_n 0, 0, 0), (14, .getfield 57, 9, 8)] (by decide +kernel) (z' := (17, [(0, (vR 9 l0)), (1, (vI l1))], [(vR 1 (R l0 8))], R, M, 174)) (cs := [¬ (M (R l0 8) 0 ≤ w32 (l1 + 1))]) (by rfl) ⟨Int.not_le.mpr c_1, trivial⟩ (Nat.le_refl _) ?_
    obtain ⟨M_2, e_3, h⟩ := xb1_ex h
    refine XR.callV 9 rfl (rest := []) m_F_restart k_9_377 1 (R l0 8) (Or.inl ⟨by decide, rfl⟩) [] rfl rfl (c_F_restart e_3) (by decide) (Nat.le_of_ble_eq_true rfl) (by decide +kernel) (Nat.le_refl _) (Nat.le_refl _) ?_
    show XR false 5 174 sc y_X_stepToEndOf (20, [(0, (vR 9 l0)), (1, (vI l1))], [], R, M_2, 174) _
    refine s_X_stepToEndOf [(20, .aload_n 0, 0, 0), (21, .iload_n 1, 0, 0)] (by decide +kernel) (z' := (22, [(0, (vR 9 l0)), (1, (vI l1))], [(vI l1), (vR 9 l0)], R, M_2, 174)) (cs := []) (by rfl) trivial (Nat.le_refl _) ?_
    obtain ⟨M_4, e_5, h⟩ := xb1_ex h
    refine XR.callV 9 rfl (rest := []) m_X_stepThrough k_9_228 9 l0 (Or.inl ⟨by decide, rfl⟩) [(vI l1)] rfl rfl (c_X_stepThrough e_5) (by decide) (Nat.le_of_ble_eq_true rfl) (by decide +kernel) (Nat.le_refl _) (Nat.le_refl _) ?_
    show XR false 5 174 sc y_X_stepToEndOf (25, [(0, (vR 9 l0)), (1, (vI l1))], [], R, M_4, 174) _
    obtain rfl := Option.some.inj h
    exact XR.retV rfl (by decide +kernel)
  · skip
    refine s_X_stepToEndOf [(10, .if_icmp .le 10, 0, 20), (20, .aload_n 0, 0, 0), (21, .iload_n 1, 0, 0)] (by decide +kernel) (z' := (22, [(0, (vR 9 l0)), (1, (vI l1))], [(vI l1), (vR 9 l0)], R, M, 174)) (cs := [M (R l0 8) 0 ≤ w32 (l1 + 1)]) (by rfl) ⟨Int.not_lt.mp c_1, trivial⟩ (Nat.le_refl _) ?_
    obtain ⟨M_6, e_7, h⟩ := xb1_ex h
    refine XR.callV 9 rfl (rest := []) m_X_stepThrough k_9_228 9 l0 (Or.inl ⟨by decide, rfl⟩) [(vI l1)] rfl rfl (c_X_stepThrough e_7) (by decide) (Nat.le_of_ble_eq_true rfl) (by decide +kernel) (Nat.le_refl _) (Nat.le_refl _) ?_
    show XR false 5 174 sc y_X_stepToEndOf (25, [(0, (vR 9 l0)), (1, (vI l1))], [], R, M_6, 174) _
    obtain rfl := Option.some.inj h
    exact XR.retV rfl (by decide +kernel)
set_option maxRecDepth 100000 in
set_option maxHeartbeats 4000000 in
theorem c_X_stepToEndOf {sc : List Int} {R : xR} {M : xM} {l0 : Nat} {l1 : Int} {out : xM} (h : f_X_stepToEndOf R l0 l1 M = some out) : XC false 5 sc y_X_stepToEndOf [(vR 9 l0), (vI l1)] R M 174 174 (none, R, out) := XC.of (by decide) (Nat.le_of_ble_eq_true rfl) (Nat.le_refl _) (Nat.le_refl _) (o_X_stepToEndOf h)
def f_X_at (R : xR) (l0 : Nat) (l1 : Int) (l2 : Int) (l3 : Int) (l4 : Int) (M : xM) : Option (Int × xM) :=
  xb1 (f_X_isCleaner R l0 l1 M) fun r_1 =>
  if r_1 = 0 then
    xb2 (f_X_refuse l0 1 M) fun r_4 M_5 =>
    some (r_4, M_5)
  else
    xb1 (f_X_isHour l2) fun r_7 =>
    if r_7 = 0 then
      xb2 (f_X_refuse l0 1 M) fun r_10 M_11 =>
      some (r_10, M_11)
    else
      xb1 (f_X_isSizeOrAll l3) fun r_13 =>
      if r_13 = 0 then
        xb2 (f_X_refuse l0 1 M) fun r_16 M_17 =>
        some (r_16, M_17)
      else
        if l4 < 0 then
          xb2 (f_X_refuse l0 1 M) fun r_20 M_21 =>
          some (r_20, M_21)
        else
          if 4 < l4 then
            xb2 (f_X_refuse l0 1 M) fun r_24 M_25 =>
            some (r_24, M_25)
          else
            xb1 (f_X_stepToEndOf R l0 l2 M) fun M_27 =>
            xb1 (f_F_amountOf R (R l0 8) l1 l3 l4 M_27) fun r_29 =>
            xb2 (f_X_answer l0 r_29 M_27) fun r_31 M_32 =>
            some (r_31, M_32)
set_option maxRecDepth 100000 in
set_option maxHeartbeats 4000000 in
theorem s_X_at {d : Nat} {sc : List Int} {z z' : xS} {out : xO} (qs : List xI) {cs : List Prop} (hq : qs.all (xqb 9 false y_X_at.2.2.1 y_X_at.2.1) = true) (h : xN false sc qs z = some (z', cs)) (hc : xAll cs) (hE : z'.2.2.2.2.2 ≤ 174) (k : XR false d 174 sc y_X_at z' out) : XR false d 174 sc y_X_at z out := XR.seg 9 false rfl (fun q => by cases q) qs hq h hc hE k
set_option maxRecDepth 100000 in
set_option maxHeartbeats 4000000 in
theorem o_X_at {sc : List Int} {R : xR} {M : xM} {l0 : Nat} {l1 : Int} {l2 : Int} {l3 : Int} {l4 : Int} {out : Int × xM} (h : f_X_at R l0 l1 l2 l3 l4 M = some out) : XR false 6 174 sc y_X_at (0, [(0, (vR 9 l0)), (1, (vI l1)), (2, (vI l2)), (3, (vI l3)), (4, (vI l4))], [], R, M, 174) ((some (vI out.1)), R, out.2) := by
  unfold f_X_at at h
  refine s_X_at [(0, .aload_n 0, 0, 0), (1, .iload_n 1, 0, 0)] (by decide +kernel) (z' := (2, [(0, (vR 9 l0)), (1, (vI l1)), (2, (vI l2)), (3, (vI l3)), (4, (vI l4))], [(vI l1), (vR 9 l0)], R, M, 174)) (cs := []) (by rfl) trivial (Nat.le_refl _) ?_
  obtain ⟨r_1, e_2, h⟩ := xb1_ex h
  refine XR.callV 9 rfl (rest := []) m_X_isCleaner k_9_171 9 l0 (Or.inl ⟨by decide, rfl⟩) [(vI l1)] rfl rfl (c_X_isCleaner e_2) (by decide) (Nat.le_of_ble_eq_true rfl) (by decide +kernel) (Nat.le_refl _) (Nat.le_refl _) ?_
  show XR false 6 174 sc y_X_at (5, [(0, (vR 9 l0)), (1, (vI l1)), (2, (vI l2)), (3, (vI l3)), (4, (vI l4))], [(vI r_1)], R, M, 174) _
  rcases xif_ex h with ⟨c_3, h⟩ | ⟨c_3, h⟩
  · skip
    refine s_X_at [(5, .ifCond .eq 28, 0, 33), (33, .aload_n 0, 0, 0), (34, .iconst 1, 0, 1)] (by decide +kernel) (z' := (35, [(0, (vR 9 l0)), (1, (vI l1)), (2, (vI l2)), (3, (vI l3)), (4, (vI l4))], [(vI 1), (vR 9 l0)], R, M, 174)) (cs := [r_1 = 0]) (by rfl) ⟨c_3, trivial⟩ (Nat.le_refl _) ?_
    obtain ⟨r_4, M_5, e_6, h⟩ := xb2_ex h
    refine XR.callV 9 rfl (rest := []) m_X_refuse k_9_105 9 l0 (Or.inl ⟨by decide, rfl⟩) [(vI 1)] rfl rfl (c_X_refuse e_6) (by decide) (Nat.le_of_ble_eq_true rfl) (by decide +kernel) (Nat.le_refl _) (Nat.le_refl _) ?_
    show XR false 6 174 sc y_X_at (38, [(0, (vR 9 l0)), (1, (vI l1)), (2, (vI l2)), (3, (vI l3)), (4, (vI l4))], [(vI r_4)], R, M_5, 174) _
    obtain rfl := Option.some.inj h
    exact XR.retI .int rfl rfl (by decide +kernel)
  · skip
    refine s_X_at [(5, .ifCond .eq 28, 0, (-1)), (8, .iload_n 2, 0, 0)] (by decide +kernel) (z' := (9, [(0, (vR 9 l0)), (1, (vI l1)), (2, (vI l2)), (3, (vI l3)), (4, (vI l4))], [(vI l2)], R, M, 174)) (cs := [¬ (r_1 = 0)]) (by rfl) ⟨c_3, trivial⟩ (Nat.le_refl _) ?_
    obtain ⟨r_7, e_8, h⟩ := xb1_ex h
    refine XR.callS 9 rfl (rest := []) m_X_isHour k_9_190 [(vI l2)] rfl rfl (c_X_isHour e_8) (by decide) (Nat.le_of_ble_eq_true rfl) (by decide +kernel) (Nat.le_refl _) (Nat.le_refl _) ?_
    show XR false 6 174 sc y_X_at (12, [(0, (vR 9 l0)), (1, (vI l1)), (2, (vI l2)), (3, (vI l3)), (4, (vI l4))], [(vI r_7)], R, M, 174) _
    rcases xif_ex h with ⟨c_9, h⟩ | ⟨c_9, h⟩
    · skip
      refine s_X_at [(12, .ifCond .eq 21, 0, 33), (33, .aload_n 0, 0, 0), (34, .iconst 1, 0, 1)] (by decide +kernel) (z' := (35, [(0, (vR 9 l0)), (1, (vI l1)), (2, (vI l2)), (3, (vI l3)), (4, (vI l4))], [(vI 1), (vR 9 l0)], R, M, 174)) (cs := [r_7 = 0]) (by rfl) ⟨c_9, trivial⟩ (Nat.le_refl _) ?_
      obtain ⟨r_10, M_11, e_12, h⟩ := xb2_ex h
      refine XR.callV 9 rfl (rest := []) m_X_refuse k_9_105 9 l0 (Or.inl ⟨by decide, rfl⟩) [(vI 1)] rfl rfl (c_X_refuse e_12) (by decide) (Nat.le_of_ble_eq_true rfl) (by decide +kernel) (Nat.le_refl _) (Nat.le_refl _) ?_
      show XR false 6 174 sc y_X_at (38, [(0, (vR 9 l0)), (1, (vI l1)), (2, (vI l2)), (3, (vI l3)), (4, (vI l4))], [(vI r_10)], R, M_11, 174) _
      obtain rfl := Option.some.inj h
      exact XR.retI .int rfl rfl (by decide +kernel)
    · skip
      refine s_X_at [(12, .ifCond .eq 21, 0, (-1)), (15, .iload_n 3, 0, 0)] (by decide +kernel) (z' := (16, [(0, (vR 9 l0)), (1, (vI l1)), (2, (vI l2)), (3, (vI l3)), (4, (vI l4))], [(vI l3)], R, M, 174)) (cs := [¬ (r_7 = 0)]) (by rfl) ⟨c_9, trivial⟩ (Nat.le_refl _) ?_
      obtain ⟨r_13, e_14, h⟩ := xb1_ex h
      refine XR.callS 9 rfl (rest := []) m_X_isSizeOrAll k_9_225 [(vI l3)] rfl rfl (c_X_isSizeOrAll e_14) (by decide) (Nat.le_of_ble_eq_true rfl) (by decide +kernel) (Nat.le_refl _) (Nat.le_refl _) ?_
      show XR false 6 174 sc y_X_at (19, [(0, (vR 9 l0)), (1, (vI l1)), (2, (vI l2)), (3, (vI l3)), (4, (vI l4))], [(vI r_13)], R, M, 174) _
      rcases xif_ex h with ⟨c_15, h⟩ | ⟨c_15, h⟩
      · skip
        refine s_X_at [(19, .ifCond .eq 14, 0, 33), (33, .aload_n 0, 0, 0), (34, .iconst 1, 0, 1)] (by decide +kernel) (z' := (35, [(0, (vR 9 l0)), (1, (vI l1)), (2, (vI l2)), (3, (vI l3)), (4, (vI l4))], [(vI 1), (vR 9 l0)], R, M, 174)) (cs := [r_13 = 0]) (by rfl) ⟨c_15, trivial⟩ (Nat.le_refl _) ?_
        obtain ⟨r_16, M_17, e_18, h⟩ := xb2_ex h
        refine XR.callV 9 rfl (rest := []) m_X_refuse k_9_105 9 l0 (Or.inl ⟨by decide, rfl⟩) [(vI 1)] rfl rfl (c_X_refuse e_18) (by decide) (Nat.le_of_ble_eq_true rfl) (by decide +kernel) (Nat.le_refl _) (Nat.le_refl _) ?_
        show XR false 6 174 sc y_X_at (38, [(0, (vR 9 l0)), (1, (vI l1)), (2, (vI l2)), (3, (vI l3)), (4, (vI l4))], [(vI r_16)], R, M_17, 174) _
        obtain rfl := Option.some.inj h
        exact XR.retI .int rfl rfl (by decide +kernel)
      · skip
        refine s_X_at [(19, .ifCond .eq 14, 0, (-1)), (22, .iload 4, 0, 0)] (by decide +kernel) (z' := (24, [(0, (vR 9 l0)), (1, (vI l1)), (2, (vI l2)), (3, (vI l3)), (4, (vI l4))], [(vI l4)], R, M, 174)) (cs := [¬ (r_13 = 0)]) (by rfl) ⟨c_15, trivial⟩ (Nat.le_refl _) ?_
        rcases xif_ex h with ⟨c_19, h⟩ | ⟨c_19, h⟩
        · skip
          refine s_X_at [(24, .ifCond .lt 9, 0, 33), (33, .aload_n 0, 0, 0), (34, .iconst 1, 0, 1)] (by decide +kernel) (z' := (35, [(0, (vR 9 l0)), (1, (vI l1)), (2, (vI l2)), (3, (vI l3)), (4, (vI l4))], [(vI 1), (vR 9 l0)], R, M, 174)) (cs := [l4 < 0]) (by rfl) ⟨c_19, trivial⟩ (Nat.le_refl _) ?_
          obtain ⟨r_20, M_21, e_22, h⟩ := xb2_ex h
          refine XR.callV 9 rfl (rest := []) m_X_refuse k_9_105 9 l0 (Or.inl ⟨by decide, rfl⟩) [(vI 1)] rfl rfl (c_X_refuse e_22) (by decide) (Nat.le_of_ble_eq_true rfl) (by decide +kernel) (Nat.le_refl _) (Nat.le_refl _) ?_
          show XR false 6 174 sc y_X_at (38, [(0, (vR 9 l0)), (1, (vI l1)), (2, (vI l2)), (3, (vI l3)), (4, (vI l4))], [(vI r_20)], R, M_21, 174) _
          obtain rfl := Option.some.inj h
          exact XR.retI .int rfl rfl (by decide +kernel)
        · skip
          refine s_X_at [(24, .ifCond .lt 9, 0, (-1)), (27, .iload 4, 0, 0), (29, .iconst 4, 0, 4)] (by decide +kernel) (z' := (30, [(0, (vR 9 l0)), (1, (vI l1)), (2, (vI l2)), (3, (vI l3)), (4, (vI l4))], [(vI 4), (vI l4)], R, M, 174)) (cs := [¬ (l4 < 0)]) (by rfl) ⟨c_19, trivial⟩ (Nat.le_refl _) ?_
          rcases xif_ex h with ⟨c_23, h⟩ | ⟨c_23, h⟩
          · skip
            refine s_X_at [(30, .if_icmp .le 9, 0, (-1)), (33, .aload_n 0, 0, 0), (34, .iconst 1, 0, 1)] (by decide +kernel) (z' := (35, [(0, (vR 9 l0)), (1, (vI l1)), (2, (vI l2)), (3, (vI l3)), (4, (vI l4))], [(vI 1), (vR 9 l0)], R, M, 174)) (cs := [¬ (l4 ≤ 4)]) (by rfl) ⟨Int.not_le.mpr c_23, trivial⟩ (Nat.le_refl _) ?_
            obtain ⟨r_24, M_25, e_26, h⟩ := xb2_ex h
            refine XR.callV 9 rfl (rest := []) m_X_refuse k_9_105 9 l0 (Or.inl ⟨by decide, rfl⟩) [(vI 1)] rfl rfl (c_X_refuse e_26) (by decide) (Nat.le_of_ble_eq_true rfl) (by decide +kernel) (Nat.le_refl _) (Nat.le_refl _) ?_
            show XR false 6 174 sc y_X_at (38, [(0, (vR 9 l0)), (1, (vI l1)), (2, (vI l2)), (3, (vI l3)), (4, (vI l4))], [(vI r_24)], R, M_25, 174) _
            obtain rfl := Option.some.inj h
            exact XR.retI .int rfl rfl (by decide +kernel)
          · skip
            refine s_X_at [(30, .if_icmp .le 9, 0, 39), (39, .aload_n 0, 0, 0), (40, .iload_n 2, 0, 0)] (by decide +kernel) (z' := (41, [(0, (vR 9 l0)), (1, (vI l1)), (2, (vI l2)), (3, (vI l3)), (4, (vI l4))], [(vI l2), (vR 9 l0)], R, M, 174)) (cs := [l4 ≤ 4]) (by rfl) ⟨Int.not_lt.mp c_23, trivial⟩ (Nat.le_refl _) ?_
            obtain ⟨M_27, e_28, h⟩ := xb1_ex h
            refine XR.callV 9 rfl (rest := []) m_X_stepToEndOf k_9_234 9 l0 (Or.inl ⟨by decide, rfl⟩) [(vI l2)] rfl rfl (c_X_stepToEndOf e_28) (by decide) (Nat.le_of_ble_eq_true rfl) (by decide +kernel) (Nat.le_refl _) (Nat.le_refl _) ?_
            show XR false 6 174 sc y_X_at (44, [(0, (vR 9 l0)), (1, (vI l1)), (2, (vI l2)), (3, (vI l3)), (4, (vI l4))], [], R, M_27, 174) _
            refine s_X_at [(44, .aload_n 0, 0, 0), (45, .aload_n 0, 0, 0), (46, .getfield 57, 9, 8), (49, .iload_n 1, 0, 0), (50, .iload_n 3, 0, 0), (51, .iload 4, 0, 0)] (by decide +kernel) (z' := (53, [(0, (vR 9 l0)), (1, (vI l1)), (2, (vI l2)), (3, (vI l3)), (4, (vI l4))], [(vI l4), (vI l3), (vI l1), (vR 1 (R l0 8)), (vR 9 l0)], R, M_27, 174)) (cs := []) (by rfl) trivial (Nat.le_refl _) ?_
            obtain ⟨r_29, e_30, h⟩ := xb1_ex h
            refine XR.callV 9 rfl (rest := [(vR 9 l0)]) m_F_amountOf k_9_237 1 (R l0 8) (Or.inl ⟨by decide, rfl⟩) [(vI l1), (vI l3), (vI l4)] rfl rfl (c_F_amountOf e_30) (by decide) (Nat.le_of_ble_eq_true rfl) (by decide +kernel) (Nat.le_refl _) (Nat.le_refl _) ?_
            show XR false 6 174 sc y_X_at (56, [(0, (vR 9 l0)), (1, (vI l1)), (2, (vI l2)), (3, (vI l3)), (4, (vI l4))], [(vI r_29), (vR 9 l0)], R, M_27, 174) _
            obtain ⟨r_31, M_32, e_33, h⟩ := xb2_ex h
            refine XR.callV 9 rfl (rest := []) m_X_answer k_9_156 9 l0 (Or.inl ⟨by decide, rfl⟩) [(vI r_29)] rfl rfl (c_X_answer e_33) (by decide) (Nat.le_of_ble_eq_true rfl) (by decide +kernel) (Nat.le_refl _) (Nat.le_refl _) ?_
            show XR false 6 174 sc y_X_at (59, [(0, (vR 9 l0)), (1, (vI l1)), (2, (vI l2)), (3, (vI l3)), (4, (vI l4))], [(vI r_31)], R, M_32, 174) _
            obtain rfl := Option.some.inj h
            exact XR.retI .int rfl rfl (by decide +kernel)
set_option maxRecDepth 100000 in
set_option maxHeartbeats 4000000 in
theorem c_X_at {sc : List Int} {R : xR} {M : xM} {l0 : Nat} {l1 : Int} {l2 : Int} {l3 : Int} {l4 : Int} {out : Int × xM} (h : f_X_at R l0 l1 l2 l3 l4 M = some out) : XC false 6 sc y_X_at [(vR 9 l0), (vI l1), (vI l2), (vI l3), (vI l4)] R M 174 174 ((some (vI out.1)), R, out.2) := XC.of (by decide) (Nat.le_of_ble_eq_true rfl) (Nat.le_refl _) (Nat.le_refl _) (o_X_at h)
def f_X_bothStatus (R : xR) (l0 : Nat) (l1 : Int) (l2 : Int) (l3 : Int) (l4 : Int) (M : xM) : Option Int :=
  xb1 (f_Y_isMissing R (R l0 2) l1 M) fun r_1 =>
  if r_1 = 0 then
    xb1 (f_Y_isMissing R (R l0 2) l3 M) fun r_4 =>
    if r_4 = 0 then
      xb1 (f_Y_hasRun R (R l0 2) l1 0 l2 M) fun r_7 =>
      if r_7 = 0 then
        some (3)
      else
        xb1 (f_Y_hasRun R (R l0 2) l3 0 l4 M) fun r_10 =>
        if r_10 = 0 then
          some (3)
        else
          some (0)
    else
      some (2)
  else
    some (2)
set_option maxRecDepth 100000 in
set_option maxHeartbeats 4000000 in
theorem s_X_bothStatus {d : Nat} {sc : List Int} {z z' : xS} {out : xO} (qs : List xI) {cs : List Prop} (hq : qs.all (xqb 9 false y_X_bothStatus.2.2.1 y_X_bothStatus.2.1) = true) (h : xN false sc qs z = some (z', cs)) (hc : xAll cs) (hE : z'.2.2.2.2.2 ≤ 174) (k : XR false d 174 sc y_X_bothStatus z' out) : XR false d 174 sc y_X_bothStatus z out := XR.seg 9 false rfl (fun q => by cases q) qs hq h hc hE k
set_option maxRecDepth 100000 in
set_option maxHeartbeats 4000000 in
theorem o_X_bothStatus {sc : List Int} {R : xR} {M : xM} {l0 : Nat} {l1 : Int} {l2 : Int} {l3 : Int} {l4 : Int} {out : Int} (h : f_X_bothStatus R l0 l1 l2 l3 l4 M = some out) : XR false 1 174 sc y_X_bothStatus (0, [(0, (vR 9 l0)), (1, (vI l1)), (2, (vI l2)), (3, (vI l3)), (4, (vI l4))], [], R, M, 174) ((some (vI out)), R, M) := by
  unfold f_X_bothStatus at h
  refine s_X_bothStatus [(0, .aload_n 0, 0, 0), (1, .getfield 23, 9, 2), (4, .iload_n 1, 0, 0)] (by decide +kernel) (z' := (5, [(0, (vR 9 l0)), (1, (vI l1)), (2, (vI l2)), (3, (vI l3)), (4, (vI l4))], [(vI l1), (vR 8 (R l0 2))], R, M, 174)) (cs := []) (by rfl) trivial (Nat.le_refl _) ?_
  obtain ⟨r_1, e_2, h⟩ := xb1_ex h
  refine XR.callV 9 rfl (rest := []) m_Y_isMissing k_9_113 8 (R l0 2) (Or.inl ⟨by decide, rfl⟩) [(vI l1)] rfl rfl (c_Y_isMissing e_2) (by decide) (Nat.le_of_ble_eq_true rfl) (by decide +kernel) (Nat.le_refl _) (Nat.le_refl _) ?_
  show XR false 1 174 sc y_X_bothStatus (8, [(0, (vR 9 l0)), (1, (vI l1)), (2, (vI l2)), (3, (vI l3)), (4, (vI l4))], [(vI r_1)], R, M, 174) _
  rcases xif_ex h with ⟨c_3, h⟩ | ⟨c_3, h⟩
  · skip
    refine s_X_bothStatus [(8, .ifCond .ne 14, 0, (-1)), (11, .aload_n 0, 0, 0), (12, .getfield 23, 9, 2), (15, .iload_n 3, 0, 0)] (by decide +kernel) (z' := (16, [(0, (vR 9 l0)), (1, (vI l1)), (2, (vI l2)), (3, (vI l3)), (4, (vI l4))], [(vI l3), (vR 8 (R l0 2))], R, M, 174)) (cs := [¬ (r_1 ≠ 0)]) (by rfl) ⟨fun q => q c_3, trivial⟩ (Nat.le_refl _) ?_
    obtain ⟨r_4, e_5, h⟩ := xb1_ex h
    refine XR.callV 9 rfl (rest := []) m_Y_isMissing k_9_113 8 (R l0 2) (Or.inl ⟨by decide, rfl⟩) [(vI l3)] rfl rfl (c_Y_isMissing e_5) (by decide) (Nat.le_of_ble_eq_true rfl) (by decide +kernel) (Nat.le_refl _) (Nat.le_refl _) ?_
    show XR false 1 174 sc y_X_bothStatus (19, [(0, (vR 9 l0)), (1, (vI l1)), (2, (vI l2)), (3, (vI l3)), (4, (vI l4))], [(vI r_4)], R, M, 174) _
    rcases xif_ex h with ⟨c_6, h⟩ | ⟨c_6, h⟩
    · skip
      refine s_X_bothStatus [(19, .ifCond .eq 5, 0, 24), (24, .aload_n 0, 0, 0), (25, .getfield 23, 9, 2), (28, .iload_n 1, 0, 0), (29, .iconst 0, 0, 0), (30, .iload_n 2, 0, 0)] (by decide +kernel) (z' := (31, [(0, (vR 9 l0)), (1, (vI l1)), (2, (vI l2)), (3, (vI l3)), (4, (vI l4))], [(vI l2), (vI 0), (vI l1), (vR 8 (R l0 2))], R, M, 174)) (cs := [r_4 = 0]) (by rfl) ⟨c_6, trivial⟩ (Nat.le_refl _) ?_
      obtain ⟨r_7, e_8, h⟩ := xb1_ex h
      refine XR.callV 9 rfl (rest := []) m_Y_hasRun k_9_120 8 (R l0 2) (Or.inl ⟨by decide, rfl⟩) [(vI l1), (vI 0), (vI l2)] rfl rfl (c_Y_hasRun e_8) (by decide) (Nat.le_of_ble_eq_true rfl) (by decide +kernel) (Nat.le_refl _) (Nat.le_refl _) ?_
      show XR false 1 174 sc y_X_bothStatus (34, [(0, (vR 9 l0)), (1, (vI l1)), (2, (vI l2)), (3, (vI l3)), (4, (vI l4))], [(vI r_7)], R, M, 174) _
      rcases xif_ex h with ⟨c_9, h⟩ | ⟨c_9, h⟩
      · skip
        refine s_X_bothStatus [(34, .ifCond .eq 21, 0, 55), (55, .iconst 3, 0, 3)] (by decide +kernel) (z' := (56, [(0, (vR 9 l0)), (1, (vI l1)), (2, (vI l2)), (3, (vI l3)), (4, (vI l4))], [(vI 3)], R, M, 174)) (cs := [r_7 = 0]) (by rfl) ⟨c_9, trivial⟩ (Nat.le_refl _) ?_
        obtain rfl := Option.some.inj h
        exact XR.retI .int rfl rfl (by decide +kernel)
      · skip
        refine s_X_bothStatus [(34, .ifCond .eq 21, 0, (-1)), (37, .aload_n 0, 0, 0), (38, .getfield 23, 9, 2), (41, .iload_n 3, 0, 0), (42, .iconst 0, 0, 0), (43, .iload 4, 0, 0)] (by decide +kernel) (z' := (45, [(0, (vR 9 l0)), (1, (vI l1)), (2, (vI l2)), (3, (vI l3)), (4, (vI l4))], [(vI l4), (vI 0), (vI l3), (vR 8 (R l0 2))], R, M, 174)) (cs := [¬ (r_7 = 0)]) (by rfl) ⟨c_9, trivial⟩ (Nat.le_refl _) ?_
        obtain ⟨r_10, e_11, h⟩ := xb1_ex h
        refine XR.callV 9 rfl (rest := []) m_Y_hasRun k_9_120 8 (R l0 2) (Or.inl ⟨by decide, rfl⟩) [(vI l3), (vI 0), (vI l4)] rfl rfl (c_Y_hasRun e_11) (by decide) (Nat.le_of_ble_eq_true rfl) (by decide +kernel) (Nat.le_refl _) (Nat.le_refl _) ?_
        show XR false 1 174 sc y_X_bothStatus (48, [(0, (vR 9 l0)), (1, (vI l1)), (2, (vI l2)), (3, (vI l3)), (4, (vI l4))], [(vI r_10)], R, M, 174) _
        rcases xif_ex h with ⟨c_12, h⟩ | ⟨c_12, h⟩
        · skip
          refine s_X_bothStatus [(48, .ifCond .eq 7, 0, 55), (55, .iconst 3, 0, 3)] (by decide +kernel) (z' := (56, [(0, (vR 9 l0)), (1, (vI l1)), (2, (vI l2)), (3, (vI l3)), (4, (vI l4))], [(vI 3)], R, M, 174)) (cs := [r_10 = 0]) (by rfl) ⟨c_12, trivial⟩ (Nat.le_refl _) ?_
          obtain rfl := Option.some.inj h
          exact XR.retI .int rfl rfl (by decide +kernel)
        · skip
          refine s_X_bothStatus [(48, .ifCond .eq 7, 0, (-1)), (51, .iconst 0, 0, 0), (52, .goto 4, 0, 56)] (by decide +kernel) (z' := (56, [(0, (vR 9 l0)), (1, (vI l1)), (2, (vI l2)), (3, (vI l3)), (4, (vI l4))], [(vI 0)], R, M, 174)) (cs := [¬ (r_10 = 0)]) (by rfl) ⟨c_12, trivial⟩ (Nat.le_refl _) ?_
          obtain rfl := Option.some.inj h
          exact XR.retI .int rfl rfl (by decide +kernel)
    · skip
      refine s_X_bothStatus [(19, .ifCond .eq 5, 0, (-1)), (22, .iconst 2, 0, 2)] (by decide +kernel) (z' := (23, [(0, (vR 9 l0)), (1, (vI l1)), (2, (vI l2)), (3, (vI l3)), (4, (vI l4))], [(vI 2)], R, M, 174)) (cs := [¬ (r_4 = 0)]) (by rfl) ⟨c_6, trivial⟩ (Nat.le_refl _) ?_
      obtain rfl := Option.some.inj h
      exact XR.retI .int rfl rfl (by decide +kernel)
  · skip
    refine s_X_bothStatus [(8, .ifCond .ne 14, 0, 22), (22, .iconst 2, 0, 2)] (by decide +kernel) (z' := (23, [(0, (vR 9 l0)), (1, (vI l1)), (2, (vI l2)), (3, (vI l3)), (4, (vI l4))], [(vI 2)], R, M, 174)) (cs := [r_1 ≠ 0]) (by rfl) ⟨c_3, trivial⟩ (Nat.le_refl _) ?_
    obtain rfl := Option.some.inj h
    exact XR.retI .int rfl rfl (by decide +kernel)
set_option maxRecDepth 100000 in
set_option maxHeartbeats 4000000 in
theorem c_X_bothStatus {sc : List Int} {R : xR} {M : xM} {l0 : Nat} {l1 : Int} {l2 : Int} {l3 : Int} {l4 : Int} {out : Int} (h : f_X_bothStatus R l0 l1 l2 l3 l4 M = some out) : XC false 1 sc y_X_bothStatus [(vR 9 l0), (vI l1), (vI l2), (vI l3), (vI l4)] R M 174 174 ((some (vI out)), R, M) := XC.of (by decide) (Nat.le_of_ble_eq_true rfl) (Nat.le_refl _) (Nat.le_refl _) (o_X_bothStatus h)
def X_breach_J84 (R : xR) (l0 : Nat) (l1 : Int) (rc : Int → Int → Int → xM → Option (Int × xM)) (q90 : Int → Int → xM → Option (Int × xM)) (v2 : Int) (v3 : Int) (v4 : Int) (M : xM) : Option (Int × xM) :=
  xl (w32 (v4 + 1)) fun v4_16 =>
  rc v2 v3 v4_16 M
def X_breach_F29 (R : xR) (l0 : Nat) (l1 : Int) (q90 : Int → Int → xM → Option (Int × xM)) : Nat → Int → Int → Int → xM → Option (Int × xM)
  | 0, _, _, _, _ => none
  | n + 1, v2, v3, v4, M =>
    if v4 < M (R l0 5) 0 then
      xb2 (f_L_firstBroken R (R l0 5) v4 (R (R l0 8) 1) (R (R l0 7) 12) M) fun r_12 M_13 =>
      if r_12 = -1 then
        X_breach_J84 R l0 l1 (X_breach_F29 R l0 l1 q90 n) q90 v2 v3 v4 M_13
      else
        if r_12 < v3 then
          X_breach_J84 R l0 l1 (X_breach_F29 R l0 l1 q90 n) q90 v4 r_12 v4 M_13
        else
          X_breach_J84 R l0 l1 (X_breach_F29 R l0 l1 q90 n) q90 v2 v3 v4 M_13
    else
      q90 v2 v3 M
def f_X_breach (R : xR) (l0 : Nat) (l1 : Int) (M : xM) : Option (Int × xM) :=
  if l1 < 0 then
    xb2 (f_X_refuse l0 1 M) fun r_2 M_3 =>
    some (r_2, M_3)
  else
    if 1 < l1 then
      xb2 (f_X_refuse l0 1 M) fun r_6 M_7 =>
      some (r_6, M_7)
    else
      xb1 (f_X_stepThrough R l0 47 M) fun M_9 =>
      X_breach_F29 R l0 l1
        (fun (v2_18 : Int) (v3_19 : Int) (M_20 : xM) =>
          if v2_18 = -1 then
            xb2 (f_X_refuse l0 6 M_20) fun r_22 M_23 =>
            some (r_22, M_23)
          else
            if l1 = 0 then
              xb2 (f_X_answer l0 v3_19 M_20) fun r_26 M_27 =>
              some (r_26, M_27)
            else
              xb2 (f_X_answer l0 v2_18 M_20) fun r_29 M_30 =>
              some (r_29, M_30))
        xfu (-1) 48 0 M_9
set_option maxRecDepth 100000 in
set_option maxHeartbeats 4000000 in
theorem s_X_breach {d : Nat} {sc : List Int} {z z' : xS} {out : xO} (qs : List xI) {cs : List Prop} (hq : qs.all (xqb 9 false y_X_breach.2.2.1 y_X_breach.2.1) = true) (h : xN false sc qs z = some (z', cs)) (hc : xAll cs) (hE : z'.2.2.2.2.2 ≤ 174) (k : XR false d 174 sc y_X_breach z' out) : XR false d 174 sc y_X_breach z out := XR.seg 9 false rfl (fun q => by cases q) qs hq h hc hE k
set_option maxRecDepth 100000 in
set_option maxHeartbeats 4000000 in
theorem o_X_breach_J84 {sc : List Int} {R : xR}   {l0 : Nat} {l1 : Int}  {rc : Int → Int → Int → xM → Option (Int × xM)} {q90 : Int → Int → xM → Option (Int × xM)} (hrc : ∀ (w2 : Int) (w3 : Int) (w4 : Int) (M : xM) (out : Int × xM), rc w2 w3 w4 M = some out → XR false 5 174 sc y_X_breach (29, [(0, (vR 9 l0)), (1, (vI l1)), (2, (vI w2)), (3, (vI w3)), (4, (vI w4))], [], R, M, 174) ((some (vI out.1)), R, out.2)) (hq90 : ∀ (w2 : Int) (w3 : Int) (M : xM) (out : Int × xM), q90 w2 w3 M = some out → XR false 5 174 sc y_X_breach (90, [(0, (vR 9 l0)), (1, (vI l1)), (2, (vI w2)), (3, (vI w3))], [], R, M, 174) ((some (vI out.1)), R, out.2)) {v2 : Int} {v3 : Int} {v4 : Int} {M : xM} {out : Int × xM} (h : X_breach_J84 R l0 l1 rc q90 v2 v3 v4 M = some out) : XR false 5 174 sc y_X_breach (84, [(0, (vR 9 l0)), (1, (vI l1)), (2, (vI v2)), (3, (vI v3)), (4, (vI v4))], [], R, M, 174) ((some (vI out.1)), R, out.2) := by
  unfold X_breach_J84 at h
  obtain ⟨v4_16, hv4_16, h⟩ := xl_ex h
  refine s_X_breach [(84, .iinc 4 1, 0, 0), (87, .goto (-58), 0, 29)] (by decide +kernel) (z' := (29, [(4, (vI v4_16)), (0, (vR 9 l0)), (1, (vI l1)), (2, (vI v2)), (3, (vI v3))], [], R, M, 174)) (cs := []) (by subst hv4_16; rfl) trivial (Nat.le_refl _) ?_
  refine XR.pick [1, 2, 3, 4, 0] (ls' := [(0, (vR 9 l0)), (1, (vI l1)), (2, (vI v2)), (3, (vI v3)), (4, (vI v4_16))]) rfl ?_
  exact hrc v2 v3 v4_16 M _ h
set_option maxRecDepth 100000 in
set_option maxHeartbeats 4000000 in
theorem o_X_breach_F29 {sc : List Int} {R : xR}   {l0 : Nat} {l1 : Int}  {q90 : Int → Int → xM → Option (Int × xM)} (hq90 : ∀ (w2 : Int) (w3 : Int) (M : xM) (out : Int × xM), q90 w2 w3 M = some out → XR false 5 174 sc y_X_breach (90, [(0, (vR 9 l0)), (1, (vI l1)), (2, (vI w2)), (3, (vI w3))], [], R, M, 174) ((some (vI out.1)), R, out.2)) : ∀ (n : Nat) (v2 : Int) (v3 : Int) (v4 : Int) (M : xM) (out : Int × xM), X_breach_F29 R l0 l1 q90 n v2 v3 v4 M = some out → XR false 5 174 sc y_X_breach (29, [(0, (vR 9 l0)), (1, (vI l1)), (2, (vI v2)), (3, (vI v3)), (4, (vI v4))], [], R, M, 174) ((some (vI out.1)), R, out.2) := by
  intro n
  induction n with
  | zero => intro v2 v3 v4 M out h; exact (xno h).elim
  | succ n ih =>
    intro v2 v3 v4 M out h
    rw [X_breach_F29] at h
    refine s_X_breach [(29, .iload 4, 0, 0), (31, .aload_n 0, 0, 0), (32, .getfield 40, 9, 5), (35, .getfield 164, 3, 0)] (by decide +kernel) (z' := (38, [(0, (vR 9 l0)), (1, (vI l1)), (2, (vI v2)), (3, (vI v3)), (4, (vI v4))], [(vI (M (R l0 5) 0)), (vI v4)], R, M, 174)) (cs := []) (by rfl) trivial (Nat.le_refl _) ?_
    rcases xif_ex h with ⟨c_11, h⟩ | ⟨c_11, h⟩
    · skip
      refine s_X_breach [(38, .if_icmp .ge 52, 0, (-1)), (41, .aload_n 0, 0, 0), (42, .getfield 40, 9, 5), (45, .iload 4, 0, 0), (47, .aload_n 0, 0, 0), (48, .getfield 57, 9, 8), (51, .getfield 257, 1, 1), (54, .aload_n 0, 0, 0), (55, .getfield 50, 9, 7), (58, .getfield 260, 0, 12)] (by decide +kernel) (z' := (61, [(0, (vR 9 l0)), (1, (vI l1)), (2, (vI v2)), (3, (vI v3)), (4, (vI v4))], [(vR 22 (R (R l0 7) 12)), (vR 26 (R (R l0 8) 1)), (vI v4), (vR 3 (R l0 5))], R, M, 174)) (cs := [¬ (M (R l0 5) 0 ≤ v4)]) (by rfl) ⟨Int.not_le.mpr c_11, trivial⟩ (Nat.le_refl _) ?_
      obtain ⟨r_12, M_13, e_14, h⟩ := xb2_ex h
      refine XR.callV 9 rfl (rest := []) m_L_firstBroken k_9_267 3 (R l0 5) (Or.inl ⟨by decide, rfl⟩) [(vI v4), (vR 26 (R (R l0 8) 1)), (vR 22 (R (R l0 7) 12))] rfl rfl (c_L_firstBroken e_14) (by decide) (Nat.le_of_ble_eq_true rfl) (by decide +kernel) (Nat.le_refl _) (Nat.le_refl _) ?_
      show XR false 5 174 sc y_X_breach (64, [(0, (vR 9 l0)), (1, (vI l1)), (2, (vI v2)), (3, (vI v3)), (4, (vI v4))], [(vI r_12)], R, M_13, 174) _
      refine s_X_breach [(64, .istore 5, 0, 0), (66, .iload 5, 0, 0), (68, .iconst (-1), 0, (-1))] (by decide +kernel) (z' := (69, [(5, (vI r_12)), (0, (vR 9 l0)), (1, (vI l1)), (2, (vI v2)), (3, (vI v3)), (4, (vI v4))], [(vI (-1)), (vI r_12)], R, M_13, 174)) (cs := []) (by rfl) trivial (Nat.le_refl _) ?_
      rcases xif_ex h with ⟨c_15, h⟩ | ⟨c_15, h⟩
      · skip
        refine s_X_breach [(69, .if_icmp .eq 15, 0, 84)] (by decide +kernel) (z' := (84, [(5, (vI r_12)), (0, (vR 9 l0)), (1, (vI l1)), (2, (vI v2)), (3, (vI v3)), (4, (vI v4))], [], R, M_13, 174)) (cs := [r_12 = -1]) (by rfl) ⟨c_15, trivial⟩ (Nat.le_refl _) ?_
        refine XR.pick [1, 2, 3, 4, 5] (ls' := [(0, (vR 9 l0)), (1, (vI l1)), (2, (vI v2)), (3, (vI v3)), (4, (vI v4))]) rfl ?_
        exact o_X_breach_J84 ih hq90 h
      · skip
        refine s_X_breach [(69, .if_icmp .eq 15, 0, (-1)), (72, .iload 5, 0, 0), (74, .iload_n 3, 0, 0)] (by decide +kernel) (z' := (75, [(5, (vI r_12)), (0, (vR 9 l0)), (1, (vI l1)), (2, (vI v2)), (3, (vI v3)), (4, (vI v4))], [(vI v3), (vI r_12)], R, M_13, 174)) (cs := [¬ (r_12 = -1)]) (by rfl) ⟨c_15, trivial⟩ (Nat.le_refl _) ?_
        rcases xif_ex h with ⟨c_17, h⟩ | ⟨c_17, h⟩
        · skip
          refine s_X_breach [(75, .if_icmp .ge 9, 0, (-1)), (78, .iload 5, 0, 0), (80, .istore_n 3, 0, 0), (81, .iload 4, 0, 0), (83, .istore_n 2, 0, 0)] (by decide +kernel) (z' := (84, [(2, (vI v4)), (3, (vI r_12)), (5, (vI r_12)), (0, (vR 9 l0)), (1, (vI l1)), (4, (vI v4))], [], R, M_13, 174)) (cs := [¬ (v3 ≤ r_12)]) (by rfl) ⟨Int.not_le.mpr c_17, trivial⟩ (Nat.le_refl _) ?_
          refine XR.pick [3, 4, 0, 1, 5] (ls' := [(0, (vR 9 l0)), (1, (vI l1)), (2, (vI v4)), (3, (vI r_12)), (4, (vI v4))]) rfl ?_
          exact o_X_breach_J84 ih hq90 h
        · skip
          refine s_X_breach [(75, .if_icmp .ge 9, 0, 84)] (by decide +kernel) (z' := (84, [(5, (vI r_12)), (0, (vR 9 l0)), (1, (vI l1)), (2, (vI v2)), (3, (vI v3)), (4, (vI v4))], [], R, M_13, 174)) (cs := [v3 ≤ r_12]) (by rfl) ⟨Int.not_lt.mp c_17, trivial⟩ (Nat.le_refl _) ?_
          refine XR.pick [1, 2, 3, 4, 5] (ls' := [(0, (vR 9 l0)), (1, (vI l1)), (2, (vI v2)), (3, (vI v3)), (4, (vI v4))]) rfl ?_
          exact o_X_breach_J84 ih hq90 h
    · skip
      refine s_X_breach [(38, .if_icmp .ge 52, 0, 90)] (by decide +kernel) (z' := (90, [(0, (vR 9 l0)), (1, (vI l1)), (2, (vI v2)), (3, (vI v3)), (4, (vI v4))], [], R, M, 174)) (cs := [M (R l0 5) 0 ≤ v4]) (by rfl) ⟨Int.not_lt.mp c_11, trivial⟩ (Nat.le_refl _) ?_
      refine XR.pick [0, 1, 2, 3] (ls' := [(0, (vR 9 l0)), (1, (vI l1)), (2, (vI v2)), (3, (vI v3))]) rfl ?_
      exact hq90 v2 v3 M _ h
set_option maxRecDepth 100000 in
set_option maxHeartbeats 4000000 in
theorem o_X_breach {sc : List Int} {R : xR} {M : xM} {l0 : Nat} {l1 : Int} {out : Int × xM} (h : f_X_breach R l0 l1 M = some out) : XR false 5 174 sc y_X_breach (0, [(0, (vR 9 l0)), (1, (vI l1))], [], R, M, 174) ((some (vI out.1)), R, out.2) := by
  unfold f_X_breach at h
  refine s_X_breach [(0, .iload_n 1, 0, 0)] (by decide +kernel) (z' := (1, [(0, (vR 9 l0)), (1, (vI l1))], [(vI l1)], R, M, 174)) (cs := []) (by rfl) trivial (Nat.le_refl _) ?_
  rcases xif_ex h with ⟨c_1, h⟩ | ⟨c_1, h⟩
  · skip
    refine s_X_breach [(1, .ifCond .lt 8, 0, 9), (9, .aload_n 0, 0, 0), (10, .iconst 1, 0, 1)] (by decide +kernel) (z' := (11, [(0, (vR 9 l0)), (1, (vI l1))], [(vI 1), (vR 9 l0)], R, M, 174)) (cs := [l1 < 0]) (by rfl) ⟨c_1, trivial⟩ (Nat.le_refl _) ?_
    obtain ⟨r_2, M_3, e_4, h⟩ := xb2_ex h
    refine XR.callV 9 rfl (rest := []) m_X_refuse k_9_105 9 l0 (Or.inl ⟨by decide, rfl⟩) [(vI 1)] rfl rfl (c_X_refuse e_4) (by decide) (Nat.le_of_ble_eq_true rfl) (by decide +kernel) (Nat.le_refl _) (Nat.le_refl _) ?_
    show XR false 5 174 sc y_X_breach (14, [(0, (vR 9 l0)), (1, (vI l1))], [(vI r_2)], R, M_3, 174) _
    obtain rfl := Option.some.inj h
    exact XR.retI .int rfl rfl (by decide +kernel)
  · skip
    refine s_X_breach [(1, .ifCond .lt 8, 0, (-1)), (4, .iload_n 1, 0, 0), (5, .iconst 1, 0, 1)] (by decide +kernel) (z' := (6, [(0, (vR 9 l0)), (1, (vI l1))], [(vI 1), (vI l1)], R, M, 174)) (cs := [¬ (l1 < 0)]) (by rfl) ⟨c_1, trivial⟩ (Nat.le_refl _) ?_
    rcases xif_ex h with ⟨c_5, h⟩ | ⟨c_5, h⟩
    · skip
      refine s_X_breach [(6, .if_icmp .le 9, 0, (-1)), (9, .aload_n 0, 0, 0), (10, .iconst 1, 0, 1)] (by decide +kernel) (z' := (11, [(0, (vR 9 l0)), (1, (vI l1))], [(vI 1), (vR 9 l0)], R, M, 174)) (cs := [¬ (l1 ≤ 1)]) (by rfl) ⟨Int.not_le.mpr c_5, trivial⟩ (Nat.le_refl _) ?_
      obtain ⟨r_6, M_7, e_8, h⟩ := xb2_ex h
      refine XR.callV 9 rfl (rest := []) m_X_refuse k_9_105 9 l0 (Or.inl ⟨by decide, rfl⟩) [(vI 1)] rfl rfl (c_X_refuse e_8) (by decide) (Nat.le_of_ble_eq_true rfl) (by decide +kernel) (Nat.le_refl _) (Nat.le_refl _) ?_
      show XR false 5 174 sc y_X_breach (14, [(0, (vR 9 l0)), (1, (vI l1))], [(vI r_6)], R, M_7, 174) _
      obtain rfl := Option.some.inj h
      exact XR.retI .int rfl rfl (by decide +kernel)
    · skip
      refine s_X_breach [(6, .if_icmp .le 9, 0, 15), (15, .aload_n 0, 0, 0), (16, .bipush 47, 0, 47)] (by decide +kernel) (z' := (18, [(0, (vR 9 l0)), (1, (vI l1))], [(vI 47), (vR 9 l0)], R, M, 174)) (cs := [l1 ≤ 1]) (by rfl) ⟨Int.not_lt.mp c_5, trivial⟩ (Nat.le_refl _) ?_
      obtain ⟨M_9, e_10, h⟩ := xb1_ex h
      refine XR.callV 9 rfl (rest := []) m_X_stepThrough k_9_228 9 l0 (Or.inl ⟨by decide, rfl⟩) [(vI 47)] rfl rfl (c_X_stepThrough e_10) (by decide) (Nat.le_of_ble_eq_true rfl) (by decide +kernel) (Nat.le_refl _) (Nat.le_refl _) ?_
      show XR false 5 174 sc y_X_breach (21, [(0, (vR 9 l0)), (1, (vI l1))], [], R, M_9, 174) _
      refine s_X_breach [(21, .iconst (-1), 0, (-1)), (22, .istore_n 2, 0, 0), (23, .bipush 48, 0, 48), (25, .istore_n 3, 0, 0), (26, .iconst 0, 0, 0), (27, .istore 4, 0, 0)] (by decide +kernel) (z' := (29, [(4, (vI 0)), (3, (vI 48)), (2, (vI (-1))), (0, (vR 9 l0)), (1, (vI l1))], [], R, M_9, 174)) (cs := []) (by rfl) trivial (Nat.le_refl _) ?_
      refine XR.pick [3, 4, 2, 1, 0] (ls' := [(0, (vR 9 l0)), (1, (vI l1)), (2, (vI (-1))), (3, (vI 48)), (4, (vI 0))]) rfl ?_
      refine o_X_breach_F29 ?_ xfu (-1) 48 0 M_9 _ h
      · intro v2_18 v3_19 M_20 out h
        refine s_X_breach [(90, .iload_n 2, 0, 0), (91, .iconst (-1), 0, (-1))] (by decide +kernel) (z' := (92, [(0, (vR 9 l0)), (1, (vI l1)), (2, (vI v2_18)), (3, (vI v3_19))], [(vI (-1)), (vI v2_18)], R, M_20, 174)) (cs := []) (by rfl) trivial (Nat.le_refl _) ?_
        rcases xif_ex h with ⟨c_21, h⟩ | ⟨c_21, h⟩
        · skip
          refine s_X_breach [(92, .if_icmp .ne 10, 0, (-1)), (95, .aload_n 0, 0, 0), (96, .bipush 6, 0, 6)] (by decide +kernel) (z' := (98, [(0, (vR 9 l0)), (1, (vI l1)), (2, (vI v2_18)), (3, (vI v3_19))], [(vI 6), (vR 9 l0)], R, M_20, 174)) (cs := [¬ (v2_18 ≠ -1)]) (by rfl) ⟨fun q => q c_21, trivial⟩ (Nat.le_refl _) ?_
          obtain ⟨r_22, M_23, e_24, h⟩ := xb2_ex h
          refine XR.callV 9 rfl (rest := []) m_X_refuse k_9_105 9 l0 (Or.inl ⟨by decide, rfl⟩) [(vI 6)] rfl rfl (c_X_refuse e_24) (by decide) (Nat.le_of_ble_eq_true rfl) (by decide +kernel) (Nat.le_refl _) (Nat.le_refl _) ?_
          show XR false 5 174 sc y_X_breach (101, [(0, (vR 9 l0)), (1, (vI l1)), (2, (vI v2_18)), (3, (vI v3_19))], [(vI r_22)], R, M_23, 174) _
          obtain rfl := Option.some.inj h
          exact XR.retI .int rfl rfl (by decide +kernel)
        · skip
          refine s_X_breach [(92, .if_icmp .ne 10, 0, 102), (102, .aload_n 0, 0, 0), (103, .iload_n 1, 0, 0)] (by decide +kernel) (z' := (104, [(0, (vR 9 l0)), (1, (vI l1)), (2, (vI v2_18)), (3, (vI v3_19))], [(vI l1), (vR 9 l0)], R, M_20, 174)) (cs := [v2_18 ≠ -1]) (by rfl) ⟨c_21, trivial⟩ (Nat.le_refl _) ?_
          rcases xif_ex h with ⟨c_25, h⟩ | ⟨c_25, h⟩
          · skip
            refine s_X_breach [(104, .ifCond .ne 7, 0, (-1)), (107, .iload_n 3, 0, 0), (108, .goto 4, 0, 112)] (by decide +kernel) (z' := (112, [(0, (vR 9 l0)), (1, (vI l1)), (2, (vI v2_18)), (3, (vI v3_19))], [(vI v3_19), (vR 9 l0)], R, M_20, 174)) (cs := [¬ (l1 ≠ 0)]) (by rfl) ⟨fun q => q c_25, trivial⟩ (Nat.le_refl _) ?_
            obtain ⟨r_26, M_27, e_28, h⟩ := xb2_ex h
            refine XR.callV 9 rfl (rest := []) m_X_answer k_9_156 9 l0 (Or.inl ⟨by decide, rfl⟩) [(vI v3_19)] rfl rfl (c_X_answer e_28) (by decide) (Nat.le_of_ble_eq_true rfl) (by decide +kernel) (Nat.le_refl _) (Nat.le_refl _) ?_
            show XR false 5 174 sc y_X_breach (115, [(0, (vR 9 l0)), (1, (vI l1)), (2, (vI v2_18)), (3, (vI v3_19))], [(vI r_26)], R, M_27, 174) _
            obtain rfl := Option.some.inj h
            exact XR.retI .int rfl rfl (by decide +kernel)
          · skip
            refine s_X_breach [(104, .ifCond .ne 7, 0, 111), (111, .iload_n 2, 0, 0)] (by decide +kernel) (z' := (112, [(0, (vR 9 l0)), (1, (vI l1)), (2, (vI v2_18)), (3, (vI v3_19))], [(vI v2_18), (vR 9 l0)], R, M_20, 174)) (cs := [l1 ≠ 0]) (by rfl) ⟨c_25, trivial⟩ (Nat.le_refl _) ?_
            obtain ⟨r_29, M_30, e_31, h⟩ := xb2_ex h
            refine XR.callV 9 rfl (rest := []) m_X_answer k_9_156 9 l0 (Or.inl ⟨by decide, rfl⟩) [(vI v2_18)] rfl rfl (c_X_answer e_31) (by decide) (Nat.le_of_ble_eq_true rfl) (by decide +kernel) (Nat.le_refl _) (Nat.le_refl _) ?_
            show XR false 5 174 sc y_X_breach (115, [(0, (vR 9 l0)), (1, (vI l1)), (2, (vI v2_18)), (3, (vI v3_19))], [(vI r_29)], R, M_30, 174) _
            obtain rfl := Option.some.inj h
            exact XR.retI .int rfl rfl (by decide +kernel)
set_option maxRecDepth 100000 in
set_option maxHeartbeats 4000000 in
theorem c_X_breach {sc : List Int} {R : xR} {M : xM} {l0 : Nat} {l1 : Int} {out : Int × xM} (h : f_X_breach R l0 l1 M = some out) : XC false 5 sc y_X_breach [(vR 9 l0), (vI l1)] R M 174 174 ((some (vI out.1)), R, out.2) := XC.of (by decide) (Nat.le_of_ble_eq_true rfl) (Nat.le_refl _) (Nat.le_refl _) (o_X_breach h)
def f_X_broken (R : xR) (l0 : Nat) (l1 : Int) (l2 : Int) (M : xM) : Option (Int × xM) :=
  if l1 < 0 then
    xb2 (f_X_refuse l0 1 M) fun r_2 M_3 =>
    some (r_2, M_3)
  else
    if l1 < M (R l0 5) 0 then
      xb1 (f_X_isHour l2) fun r_6 =>
      if r_6 = 0 then
        xb2 (f_X_refuse l0 1 M) fun r_9 M_10 =>
        some (r_9, M_10)
      else
        xb1 (f_X_stepThrough R l0 l2 M) fun M_12 =>
        xb2 (f_L_isBroken R (R l0 5) l1 l2 (R (R l0 8) 1) (R (R l0 7) 12) M_12) fun r_14 M_15 =>
        if r_14 = 0 then
          xb2 (f_X_answer l0 0 M_15) fun r_18 M_19 =>
          some (r_18, M_19)
        else
          xb2 (f_X_answer l0 1 M_15) fun r_21 M_22 =>
          some (r_21, M_22)
    else
      xb2 (f_X_refuse l0 1 M) fun r_24 M_25 =>
      some (r_24, M_25)
set_option maxRecDepth 100000 in
set_option maxHeartbeats 4000000 in
theorem s_X_broken {d : Nat} {sc : List Int} {z z' : xS} {out : xO} (qs : List xI) {cs : List Prop} (hq : qs.all (xqb 9 false y_X_broken.2.2.1 y_X_broken.2.1) = true) (h : xN false sc qs z = some (z', cs)) (hc : xAll cs) (hE : z'.2.2.2.2.2 ≤ 174) (k : XR false d 174 sc y_X_broken z' out) : XR false d 174 sc y_X_broken z out := XR.seg 9 false rfl (fun q => by cases q) qs hq h hc hE k
set_option maxRecDepth 100000 in
set_option maxHeartbeats 4000000 in
theorem o_X_broken {sc : List Int} {R : xR} {M : xM} {l0 : Nat} {l1 : Int} {l2 : Int} {out : Int × xM} (h : f_X_broken R l0 l1 l2 M = some out) : XR false 5 174 sc y_X_broken (0, [(0, (vR 9 l0)), (1, (vI l1)), (2, (vI l2))], [], R, M, 174) ((some (vI out.1)), R, out.2) := by
  unfold f_X_broken at h
  refine s_X_broken [(0, .iload_n 1, 0, 0)] (by decide +kernel) (z' := (1, [(0, (vR 9 l0)), (1, (vI l1)), (2, (vI l2))], [(vI l1)], R, M, 174)) (cs := []) (by rfl) trivial (Nat.le_refl _) ?_
  rcases xif_ex h with ⟨c_1, h⟩ | ⟨c_1, h⟩
  · skip
    refine s_X_broken [(1, .ifCond .lt 21, 0, 22), (22, .aload_n 0, 0, 0), (23, .iconst 1, 0, 1)] (by decide +kernel) (z' := (24, [(0, (vR 9 l0)), (1, (vI l1)), (2, (vI l2))], [(vI 1), (vR 9 l0)], R, M, 174)) (cs := [l1 < 0]) (by rfl) ⟨c_1, trivial⟩ (Nat.le_refl _) ?_
    obtain ⟨r_2, M_3, e_4, h⟩ := xb2_ex h
    refine XR.callV 9 rfl (rest := []) m_X_refuse k_9_105 9 l0 (Or.inl ⟨by decide, rfl⟩) [(vI 1)] rfl rfl (c_X_refuse e_4) (by decide) (Nat.le_of_ble_eq_true rfl) (by decide +kernel) (Nat.le_refl _) (Nat.le_refl _) ?_
    show XR false 5 174 sc y_X_broken (27, [(0, (vR 9 l0)), (1, (vI l1)), (2, (vI l2))], [(vI r_2)], R, M_3, 174) _
    obtain rfl := Option.some.inj h
    exact XR.retI .int rfl rfl (by decide +kernel)
  · skip
    refine s_X_broken [(1, .ifCond .lt 21, 0, (-1)), (4, .iload_n 1, 0, 0), (5, .aload_n 0, 0, 0), (6, .getfield 40, 9, 5), (9, .getfield 164, 3, 0)] (by decide +kernel) (z' := (12, [(0, (vR 9 l0)), (1, (vI l1)), (2, (vI l2))], [(vI (M (R l0 5) 0)), (vI l1)], R, M, 174)) (cs := [¬ (l1 < 0)]) (by rfl) ⟨c_1, trivial⟩ (Nat.le_refl _) ?_
    rcases xif_ex h with ⟨c_5, h⟩ | ⟨c_5, h⟩
    · skip
      refine s_X_broken [(12, .if_icmp .ge 10, 0, (-1)), (15, .iload_n 2, 0, 0)] (by decide +kernel) (z' := (16, [(0, (vR 9 l0)), (1, (vI l1)), (2, (vI l2))], [(vI l2)], R, M, 174)) (cs := [¬ (M (R l0 5) 0 ≤ l1)]) (by rfl) ⟨Int.not_le.mpr c_5, trivial⟩ (Nat.le_refl _) ?_
      obtain ⟨r_6, e_7, h⟩ := xb1_ex h
      refine XR.callS 9 rfl (rest := []) m_X_isHour k_9_190 [(vI l2)] rfl rfl (c_X_isHour e_7) (by decide) (Nat.le_of_ble_eq_true rfl) (by decide +kernel) (Nat.le_refl _) (Nat.le_refl _) ?_
      show XR false 5 174 sc y_X_broken (19, [(0, (vR 9 l0)), (1, (vI l1)), (2, (vI l2))], [(vI r_6)], R, M, 174) _
      rcases xif_ex h with ⟨c_8, h⟩ | ⟨c_8, h⟩
      · skip
        refine s_X_broken [(19, .ifCond .ne 9, 0, (-1)), (22, .aload_n 0, 0, 0), (23, .iconst 1, 0, 1)] (by decide +kernel) (z' := (24, [(0, (vR 9 l0)), (1, (vI l1)), (2, (vI l2))], [(vI 1), (vR 9 l0)], R, M, 174)) (cs := [¬ (r_6 ≠ 0)]) (by rfl) ⟨fun q => q c_8, trivial⟩ (Nat.le_refl _) ?_
        obtain ⟨r_9, M_10, e_11, h⟩ := xb2_ex h
        refine XR.callV 9 rfl (rest := []) m_X_refuse k_9_105 9 l0 (Or.inl ⟨by decide, rfl⟩) [(vI 1)] rfl rfl (c_X_refuse e_11) (by decide) (Nat.le_of_ble_eq_true rfl) (by decide +kernel) (Nat.le_refl _) (Nat.le_refl _) ?_
        show XR false 5 174 sc y_X_broken (27, [(0, (vR 9 l0)), (1, (vI l1)), (2, (vI l2))], [(vI r_9)], R, M_10, 174) _
        obtain rfl := Option.some.inj h
        exact XR.retI .int rfl rfl (by decide +kernel)
      · skip
        refine s_X_broken [(19, .ifCond .ne 9, 0, 28), (28, .aload_n 0, 0, 0), (29, .iload_n 2, 0, 0)] (by decide +kernel) (z' := (30, [(0, (vR 9 l0)), (1, (vI l1)), (2, (vI l2))], [(vI l2), (vR 9 l0)], R, M, 174)) (cs := [r_6 ≠ 0]) (by rfl) ⟨c_8, trivial⟩ (Nat.le_refl _) ?_
        obtain ⟨M_12, e_13, h⟩ := xb1_ex h
        refine XR.callV 9 rfl (rest := []) m_X_stepThrough k_9_228 9 l0 (Or.inl ⟨by decide, rfl⟩) [(vI l2)] rfl rfl (c_X_stepThrough e_13) (by decide) (Nat.le_of_ble_eq_true rfl) (by decide +kernel) (Nat.le_refl _) (Nat.le_refl _) ?_
        show XR false 5 174 sc y_X_broken (33, [(0, (vR 9 l0)), (1, (vI l1)), (2, (vI l2))], [], R, M_12, 174) _
        refine s_X_broken [(33, .aload_n 0, 0, 0), (34, .aload_n 0, 0, 0), (35, .getfield 40, 9, 5), (38, .iload_n 1, 0, 0), (39, .iload_n 2, 0, 0), (40, .aload_n 0, 0, 0), (41, .getfield 57, 9, 8), (44, .getfield 257, 1, 1), (47, .aload_n 0, 0, 0), (48, .getfield 50, 9, 7), (51, .getfield 260, 0, 12)] (by decide +kernel) (z' := (54, [(0, (vR 9 l0)), (1, (vI l1)), (2, (vI l2))], [(vR 22 (R (R l0 7) 12)), (vR 26 (R (R l0 8) 1)), (vI l2), (vI l1), (vR 3 (R l0 5)), (vR 9 l0)], R, M_12, 174)) (cs := []) (by rfl) trivial (Nat.le_refl _) ?_
        obtain ⟨r_14, M_15, e_16, h⟩ := xb2_ex h
        refine XR.callV 9 rfl (rest := [(vR 9 l0)]) m_L_isBroken k_9_263 3 (R l0 5) (Or.inl ⟨by decide, rfl⟩) [(vI l1), (vI l2), (vR 26 (R (R l0 8) 1)), (vR 22 (R (R l0 7) 12))] rfl rfl (c_L_isBroken e_16) (by decide) (Nat.le_of_ble_eq_true rfl) (by decide +kernel) (Nat.le_refl _) (Nat.le_refl _) ?_
        show XR false 5 174 sc y_X_broken (57, [(0, (vR 9 l0)), (1, (vI l1)), (2, (vI l2))], [(vI r_14), (vR 9 l0)], R, M_15, 174) _
        rcases xif_ex h with ⟨c_17, h⟩ | ⟨c_17, h⟩
        · skip
          refine s_X_broken [(57, .ifCond .eq 7, 0, 64), (64, .iconst 0, 0, 0)] (by decide +kernel) (z' := (65, [(0, (vR 9 l0)), (1, (vI l1)), (2, (vI l2))], [(vI 0), (vR 9 l0)], R, M_15, 174)) (cs := [r_14 = 0]) (by rfl) ⟨c_17, trivial⟩ (Nat.le_refl _) ?_
          obtain ⟨r_18, M_19, e_20, h⟩ := xb2_ex h
          refine XR.callV 9 rfl (rest := []) m_X_answer k_9_156 9 l0 (Or.inl ⟨by decide, rfl⟩) [(vI 0)] rfl rfl (c_X_answer e_20) (by decide) (Nat.le_of_ble_eq_true rfl) (by decide +kernel) (Nat.le_refl _) (Nat.le_refl _) ?_
          show XR false 5 174 sc y_X_broken (68, [(0, (vR 9 l0)), (1, (vI l1)), (2, (vI l2))], [(vI r_18)], R, M_19, 174) _
          obtain rfl := Option.some.inj h
          exact XR.retI .int rfl rfl (by decide +kernel)
        · skip
          refine s_X_broken [(57, .ifCond .eq 7, 0, (-1)), (60, .iconst 1, 0, 1), (61, .goto 4, 0, 65)] (by decide +kernel) (z' := (65, [(0, (vR 9 l0)), (1, (vI l1)), (2, (vI l2))], [(vI 1), (vR 9 l0)], R, M_15, 174)) (cs := [¬ (r_14 = 0)]) (by rfl) ⟨c_17, trivial⟩ (Nat.le_refl _) ?_
          obtain ⟨r_21, M_22, e_23, h⟩ := xb2_ex h
          refine XR.callV 9 rfl (rest := []) m_X_answer k_9_156 9 l0 (Or.inl ⟨by decide, rfl⟩) [(vI 1)] rfl rfl (c_X_answer e_23) (by decide) (Nat.le_of_ble_eq_true rfl) (by decide +kernel) (Nat.le_refl _) (Nat.le_refl _) ?_
          show XR false 5 174 sc y_X_broken (68, [(0, (vR 9 l0)), (1, (vI l1)), (2, (vI l2))], [(vI r_21)], R, M_22, 174) _
          obtain rfl := Option.some.inj h
          exact XR.retI .int rfl rfl (by decide +kernel)
    · skip
      refine s_X_broken [(12, .if_icmp .ge 10, 0, 22), (22, .aload_n 0, 0, 0), (23, .iconst 1, 0, 1)] (by decide +kernel) (z' := (24, [(0, (vR 9 l0)), (1, (vI l1)), (2, (vI l2))], [(vI 1), (vR 9 l0)], R, M, 174)) (cs := [M (R l0 5) 0 ≤ l1]) (by rfl) ⟨Int.not_lt.mp c_5, trivial⟩ (Nat.le_refl _) ?_
      obtain ⟨r_24, M_25, e_26, h⟩ := xb2_ex h
      refine XR.callV 9 rfl (rest := []) m_X_refuse k_9_105 9 l0 (Or.inl ⟨by decide, rfl⟩) [(vI 1)] rfl rfl (c_X_refuse e_26) (by decide) (Nat.le_of_ble_eq_true rfl) (by decide +kernel) (Nat.le_refl _) (Nat.le_refl _) ?_
      show XR false 5 174 sc y_X_broken (27, [(0, (vR 9 l0)), (1, (vI l1)), (2, (vI l2))], [(vI r_24)], R, M_25, 174) _
      obtain rfl := Option.some.inj h
      exact XR.retI .int rfl rfl (by decide +kernel)
set_option maxRecDepth 100000 in
set_option maxHeartbeats 4000000 in
theorem c_X_broken {sc : List Int} {R : xR} {M : xM} {l0 : Nat} {l1 : Int} {l2 : Int} {out : Int × xM} (h : f_X_broken R l0 l1 l2 M = some out) : XC false 5 sc y_X_broken [(vR 9 l0), (vI l1), (vI l2)] R M 174 174 ((some (vI out.1)), R, out.2) := XC.of (by decide) (Nat.le_of_ble_eq_true rfl) (Nat.le_refl _) (Nat.le_refl _) (o_X_broken h)
def f_X_cleaner (R : xR) (l0 : Nat) (l1 : Int) (l2 : Int) (M : xM) : Option (Int × xM) :=
  xb1 (f_X_isCleaner R l0 l1 M) fun r_1 =>
  if r_1 = 0 then
    xb2 (f_X_refuse l0 1 M) fun r_4 M_5 =>
    some (r_4, M_5)
  else
    if l2 < 0 then
      xb2 (f_X_refuse l0 1 M) fun r_8 M_9 =>
      some (r_8, M_9)
    else
      if 5 < l2 then
        xb2 (f_X_refuse l0 1 M) fun r_12 M_13 =>
        some (r_12, M_13)
      else
        if l2 = 0 then
          xch (0 ≤ l1 ∧ l1 < 8) <|
          xb2 (f_X_answer l0 (M (R (R l0 3) 4) (Int.toNat l1)) M) fun r_17 M_18 =>
          some (r_17, M_18)
        else
          if l2 = 1 then
            xch (0 ≤ l1 ∧ l1 < 8) <|
            xb2 (f_X_answer l0 (M (R (R l0 3) 9) (Int.toNat l1)) M) fun r_22 M_23 =>
            some (r_22, M_23)
          else
            xch (0 ≤ w32 ((w32 ((w32 (l1 * 4)) + l2)) - 2) ∧ w32 ((w32 ((w32 (l1 * 4)) + l2)) - 2) < 32) <|
            xb2 (f_X_answer l0 (M (R (R l0 3) 5) (Int.toNat (w32 ((w32 ((w32 (l1 * 4)) + l2)) - 2)))) M) fun r_26 M_27 =>
            some (r_26, M_27)
set_option maxRecDepth 100000 in
set_option maxHeartbeats 4000000 in
theorem s_X_cleaner {d : Nat} {sc : List Int} {z z' : xS} {out : xO} (qs : List xI) {cs : List Prop} (hq : qs.all (xqb 9 false y_X_cleaner.2.2.1 y_X_cleaner.2.1) = true) (h : xN false sc qs z = some (z', cs)) (hc : xAll cs) (hE : z'.2.2.2.2.2 ≤ 174) (k : XR false d 174 sc y_X_cleaner z' out) : XR false d 174 sc y_X_cleaner z out := XR.seg 9 false rfl (fun q => by cases q) qs hq h hc hE k
set_option maxRecDepth 100000 in
set_option maxHeartbeats 4000000 in
theorem o_X_cleaner {sc : List Int} {R : xR} {M : xM} {l0 : Nat} {l1 : Int} {l2 : Int} {out : Int × xM} (h : f_X_cleaner R l0 l1 l2 M = some out) : XR false 1 174 sc y_X_cleaner (0, [(0, (vR 9 l0)), (1, (vI l1)), (2, (vI l2))], [], R, M, 174) ((some (vI out.1)), R, out.2) := by
  unfold f_X_cleaner at h
  refine s_X_cleaner [(0, .aload_n 0, 0, 0), (1, .iload_n 1, 0, 0)] (by decide +kernel) (z' := (2, [(0, (vR 9 l0)), (1, (vI l1)), (2, (vI l2))], [(vI l1), (vR 9 l0)], R, M, 174)) (cs := []) (by rfl) trivial (Nat.le_refl _) ?_
  obtain ⟨r_1, e_2, h⟩ := xb1_ex h
  refine XR.callV 9 rfl (rest := []) m_X_isCleaner k_9_171 9 l0 (Or.inl ⟨by decide, rfl⟩) [(vI l1)] rfl rfl (c_X_isCleaner e_2) (by decide) (Nat.le_of_ble_eq_true rfl) (by decide +kernel) (Nat.le_refl _) (Nat.le_refl _) ?_
  show XR false 1 174 sc y_X_cleaner (5, [(0, (vR 9 l0)), (1, (vI l1)), (2, (vI l2))], [(vI r_1)], R, M, 174) _
  rcases xif_ex h with ⟨c_3, h⟩ | ⟨c_3, h⟩
  · skip
    refine s_X_cleaner [(5, .ifCond .eq 12, 0, 17), (17, .aload_n 0, 0, 0), (18, .iconst 1, 0, 1)] (by decide +kernel) (z' := (19, [(0, (vR 9 l0)), (1, (vI l1)), (2, (vI l2))], [(vI 1), (vR 9 l0)], R, M, 174)) (cs := [r_1 = 0]) (by rfl) ⟨c_3, trivial⟩ (Nat.le_refl _) ?_
    obtain ⟨r_4, M_5, e_6, h⟩ := xb2_ex h
    refine XR.callV 9 rfl (rest := []) m_X_refuse k_9_105 9 l0 (Or.inl ⟨by decide, rfl⟩) [(vI 1)] rfl rfl (c_X_refuse e_6) (by decide) (Nat.le_of_ble_eq_true rfl) (by decide +kernel) (Nat.le_refl _) (Nat.le_refl _) ?_
    show XR false 1 174 sc y_X_cleaner (22, [(0, (vR 9 l0)), (1, (vI l1)), (2, (vI l2))], [(vI r_4)], R, M_5, 174) _
    obtain rfl := Option.some.inj h
    exact XR.retI .int rfl rfl (by decide +kernel)
  · skip
    refine s_X_cleaner [(5, .ifCond .eq 12, 0, (-1)), (8, .iload_n 2, 0, 0)] (by decide +kernel) (z' := (9, [(0, (vR 9 l0)), (1, (vI l1)), (2, (vI l2))], [(vI l2)], R, M, 174)) (cs := [¬ (r_1 = 0)]) (by rfl) ⟨c_3, trivial⟩ (Nat.le_refl _) ?_
    rcases xif_ex h with ⟨c_7, h⟩ | ⟨c_7, h⟩
    · skip
      refine s_X_cleaner [(9, .ifCond .lt 8, 0, 17), (17, .aload_n 0, 0, 0), (18, .iconst 1, 0, 1)] (by decide +kernel) (z' := (19, [(0, (vR 9 l0)), (1, (vI l1)), (2, (vI l2))], [(vI 1), (vR 9 l0)], R, M, 174)) (cs := [l2 < 0]) (by rfl) ⟨c_7, trivial⟩ (Nat.le_refl _) ?_
      obtain ⟨r_8, M_9, e_10, h⟩ := xb2_ex h
      refine XR.callV 9 rfl (rest := []) m_X_refuse k_9_105 9 l0 (Or.inl ⟨by decide, rfl⟩) [(vI 1)] rfl rfl (c_X_refuse e_10) (by decide) (Nat.le_of_ble_eq_true rfl) (by decide +kernel) (Nat.le_refl _) (Nat.le_refl _) ?_
      show XR false 1 174 sc y_X_cleaner (22, [(0, (vR 9 l0)), (1, (vI l1)), (2, (vI l2))], [(vI r_8)], R, M_9, 174) _
      obtain rfl := Option.some.inj h
      exact XR.retI .int rfl rfl (by decide +kernel)
    · skip
      refine s_X_cleaner [(9, .ifCond .lt 8, 0, (-1)), (12, .iload_n 2, 0, 0), (13, .iconst 5, 0, 5)] (by decide +kernel) (z' := (14, [(0, (vR 9 l0)), (1, (vI l1)), (2, (vI l2))], [(vI 5), (vI l2)], R, M, 174)) (cs := [¬ (l2 < 0)]) (by rfl) ⟨c_7, trivial⟩ (Nat.le_refl _) ?_
      rcases xif_ex h with ⟨c_11, h⟩ | ⟨c_11, h⟩
      · skip
        refine s_X_cleaner [(14, .if_icmp .le 9, 0, (-1)), (17, .aload_n 0, 0, 0), (18, .iconst 1, 0, 1)] (by decide +kernel) (z' := (19, [(0, (vR 9 l0)), (1, (vI l1)), (2, (vI l2))], [(vI 1), (vR 9 l0)], R, M, 174)) (cs := [¬ (l2 ≤ 5)]) (by rfl) ⟨Int.not_le.mpr c_11, trivial⟩ (Nat.le_refl _) ?_
        obtain ⟨r_12, M_13, e_14, h⟩ := xb2_ex h
        refine XR.callV 9 rfl (rest := []) m_X_refuse k_9_105 9 l0 (Or.inl ⟨by decide, rfl⟩) [(vI 1)] rfl rfl (c_X_refuse e_14) (by decide) (Nat.le_of_ble_eq_true rfl) (by decide +kernel) (Nat.le_refl _) (Nat.le_refl _) ?_
        show XR false 1 174 sc y_X_cleaner (22, [(0, (vR 9 l0)), (1, (vI l1)), (2, (vI l2))], [(vI r_12)], R, M_13, 174) _
        obtain rfl := Option.some.inj h
        exact XR.retI .int rfl rfl (by decide +kernel)
      · skip
        refine s_X_cleaner [(14, .if_icmp .le 9, 0, 23), (23, .iload_n 2, 0, 0)] (by decide +kernel) (z' := (24, [(0, (vR 9 l0)), (1, (vI l1)), (2, (vI l2))], [(vI l2)], R, M, 174)) (cs := [l2 ≤ 5]) (by rfl) ⟨Int.not_lt.mp c_11, trivial⟩ (Nat.le_refl _) ?_
        rcases xif_ex h with ⟨c_15, h⟩ | ⟨c_15, h⟩
        · skip
          obtain ⟨c_16, h⟩ := xch_ex h
          refine s_X_cleaner [(24, .ifCond .ne 17, 0, (-1)), (27, .aload_n 0, 0, 0), (28, .aload_n 0, 0, 0), (29, .getfield 30, 9, 3), (32, .getfield 174, 6, 4), (35, .iload_n 1, 0, 0), (36, .iaload, 0, 0)] (by decide +kernel) (z' := (37, [(0, (vR 9 l0)), (1, (vI l1)), (2, (vI l2))], [(vI (M (R (R l0 3) 4) (Int.toNat l1))), (vR 9 l0)], R, M, 174)) (cs := [¬ (l2 ≠ 0), xar 30 0, xidx l1 (xan 30)]) (by rfl) ⟨fun q => q c_15, xar_30, xix_30 c_16, trivial⟩ (Nat.le_refl _) ?_
          obtain ⟨r_17, M_18, e_19, h⟩ := xb2_ex h
          refine XR.callV 9 rfl (rest := []) m_X_answer k_9_156 9 l0 (Or.inl ⟨by decide, rfl⟩) [(vI (M (R (R l0 3) 4) (Int.toNat l1)))] rfl rfl (c_X_answer e_19) (by decide) (Nat.le_of_ble_eq_true rfl) (by decide +kernel) (Nat.le_refl _) (Nat.le_refl _) ?_
          show XR false 1 174 sc y_X_cleaner (40, [(0, (vR 9 l0)), (1, (vI l1)), (2, (vI l2))], [(vI r_17)], R, M_18, 174) _
          obtain rfl := Option.some.inj h
          exact XR.retI .int rfl rfl (by decide +kernel)
        · skip
          refine s_X_cleaner [(24, .ifCond .ne 17, 0, 41), (41, .iload_n 2, 0, 0), (42, .iconst 1, 0, 1)] (by decide +kernel) (z' := (43, [(0, (vR 9 l0)), (1, (vI l1)), (2, (vI l2))], [(vI 1), (vI l2)], R, M, 174)) (cs := [l2 ≠ 0]) (by rfl) ⟨c_15, trivial⟩ (Nat.le_refl _) ?_
          rcases xif_ex h with ⟨c_20, h⟩ | ⟨c_20, h⟩
          · skip
            obtain ⟨c_21, h⟩ := xch_ex h
            refine s_X_cleaner [(43, .if_icmp .ne 17, 0, (-1)), (46, .aload_n 0, 0, 0), (47, .aload_n 0, 0, 0), (48, .getfield 30, 9, 3), (51, .getfield 178, 6, 9), (54, .iload_n 1, 0, 0), (55, .iaload, 0, 0)] (by decide +kernel) (z' := (56, [(0, (vR 9 l0)), (1, (vI l1)), (2, (vI l2))], [(vI (M (R (R l0 3) 9) (Int.toNat l1))), (vR 9 l0)], R, M, 174)) (cs := [¬ (l2 ≠ 1), xar 30 0, xidx l1 (xan 30)]) (by rfl) ⟨fun q => q c_20, xar_30, xix_30 c_21, trivial⟩ (Nat.le_refl _) ?_
            obtain ⟨r_22, M_23, e_24, h⟩ := xb2_ex h
            refine XR.callV 9 rfl (rest := []) m_X_answer k_9_156 9 l0 (Or.inl ⟨by decide, rfl⟩) [(vI (M (R (R l0 3) 9) (Int.toNat l1)))] rfl rfl (c_X_answer e_24) (by decide) (Nat.le_of_ble_eq_true rfl) (by decide +kernel) (Nat.le_refl _) (Nat.le_refl _) ?_
            show XR false 1 174 sc y_X_cleaner (59, [(0, (vR 9 l0)), (1, (vI l1)), (2, (vI l2))], [(vI r_22)], R, M_23, 174) _
            obtain rfl := Option.some.inj h
            exact XR.retI .int rfl rfl (by decide +kernel)
          · skip
            obtain ⟨c_25, h⟩ := xch_ex h
            refine s_X_cleaner [(43, .if_icmp .ne 17, 0, 60), (60, .aload_n 0, 0, 0), (61, .aload_n 0, 0, 0), (62, .getfield 30, 9, 3), (65, .getfield 181, 6, 5), (68, .iload_n 1, 0, 0), (69, .iconst 4, 0, 4), (70, .imul, 0, 0), (71, .iload_n 2, 0, 0), (72, .iadd, 0, 0), (73, .iconst 2, 0, 2), (74, .isub, 0, 0), (75, .iaload, 0, 0)] (by decide +kernel) (z' := (76, [(0, (vR 9 l0)), (1, (vI l1)), (2, (vI l2))], [(vI (M (R (R l0 3) 5) (Int.toNat (w32 ((w32 ((w32 (l1 * 4)) + l2)) - 2))))), (vR 9 l0)], R, M, 174)) (cs := [l2 ≠ 1, xar 27 0, xidx (w32 ((w32 ((w32 (l1 * 4)) + l2)) - 2)) (xan 27)]) (by rfl) ⟨c_20, xar_27, xix_27 c_25, trivial⟩ (Nat.le_refl _) ?_
            obtain ⟨r_26, M_27, e_28, h⟩ := xb2_ex h
            refine XR.callV 9 rfl (rest := []) m_X_answer k_9_156 9 l0 (Or.inl ⟨by decide, rfl⟩) [(vI (M (R (R l0 3) 5) (Int.toNat (w32 ((w32 ((w32 (l1 * 4)) + l2)) - 2)))))] rfl rfl (c_X_answer e_28) (by decide) (Nat.le_of_ble_eq_true rfl) (by decide +kernel) (Nat.le_refl _) (Nat.le_refl _) ?_
            show XR false 1 174 sc y_X_cleaner (79, [(0, (vR 9 l0)), (1, (vI l1)), (2, (vI l2))], [(vI r_26)], R, M_27, 174) _
            obtain rfl := Option.some.inj h
            exact XR.retI .int rfl rfl (by decide +kernel)
set_option maxRecDepth 100000 in
set_option maxHeartbeats 4000000 in
theorem c_X_cleaner {sc : List Int} {R : xR} {M : xM} {l0 : Nat} {l1 : Int} {l2 : Int} {out : Int × xM} (h : f_X_cleaner R l0 l1 l2 M = some out) : XC false 1 sc y_X_cleaner [(vR 9 l0), (vI l1), (vI l2)] R M 174 174 ((some (vI out.1)), R, out.2) := XC.of (by decide) (Nat.le_of_ble_eq_true rfl) (Nat.le_refl _) (Nat.le_refl _) (o_X_cleaner h)
def f_X_fault (R : xR) (l0 : Nat) (l1 : Int) (M : xM) : Option Int :=
  if l1 = 0 then
    some (M (R l0 1) 12)
  else
    if l1 = 1 then
      some (M (R l0 1) 13)
    else
      some (-1)
set_option maxRecDepth 100000 in
set_option maxHeartbeats 4000000 in
theorem s_X_fault {d : Nat} {sc : List Int} {z z' : xS} {out : xO} (qs : List xI) {cs : List Prop} (hq : qs.all (xqb 9 false y_X_fault.2.2.1 y_X_fault.2.1) = true) (h : xN false sc qs z = some (z', cs)) (hc : xAll cs) (hE : z'.2.2.2.2.2 ≤ 174) (k : XR false d 174 sc y_X_fault z' out) : XR false d 174 sc y_X_fault z out := XR.seg 9 false rfl (fun q => by cases q) qs hq h hc hE k
set_option maxRecDepth 100000 in
set_option maxHeartbeats 4000000 in
theorem o_X_fault {sc : List Int} {R : xR} {M : xM} {l0 : Nat} {l1 : Int} {out : Int} (h : f_X_fault R l0 l1 M = some out) : XR false 0 174 sc y_X_fault (0, [(0, (vR 9 l0)), (1, (vI l1))], [], R, M, 174) ((some (vI out)), R, M) := by
  unfold f_X_fault at h
  refine s_X_fault [(0, .iload_n 1, 0, 0)] (by decide +kernel) (z' := (1, [(0, (vR 9 l0)), (1, (vI l1))], [(vI l1)], R, M, 174)) (cs := []) (by rfl) trivial (Nat.le_refl _) ?_
  rcases xif_ex h with ⟨c_1, h⟩ | ⟨c_1, h⟩
  · skip
    refine s_X_fault [(1, .ifCond .ne 11, 0, (-1)), (4, .aload_n 0, 0, 0), (5, .getfield 16, 9, 1), (8, .getfield 165, 7, 12)] (by decide +kernel) (z' := (11, [(0, (vR 9 l0)), (1, (vI l1))], [(vI (M (R l0 1) 12))], R, M, 174)) (cs := [¬ (l1 ≠ 0)]) (by rfl) ⟨fun q => q c_1, trivial⟩ (Nat.le_refl _) ?_
    obtain rfl := Option.some.inj h
    exact XR.retI .int rfl rfl (by decide +kernel)
  · skip
    refine s_X_fault [(1, .ifCond .ne 11, 0, 12), (12, .iload_n 1, 0, 0), (13, .iconst 1, 0, 1)] (by decide +kernel) (z' := (14, [(0, (vR 9 l0)), (1, (vI l1))], [(vI 1), (vI l1)], R, M, 174)) (cs := [l1 ≠ 0]) (by rfl) ⟨c_1, trivial⟩ (Nat.le_refl _) ?_
    rcases xif_ex h with ⟨c_2, h⟩ | ⟨c_2, h⟩
    · skip
      refine s_X_fault [(14, .if_icmp .ne 13, 0, (-1)), (17, .aload_n 0, 0, 0), (18, .getfield 16, 9, 1), (21, .getfield 168, 7, 13), (24, .goto 4, 0, 28)] (by decide +kernel) (z' := (28, [(0, (vR 9 l0)), (1, (vI l1))], [(vI (M (R l0 1) 13))], R, M, 174)) (cs := [¬ (l1 ≠ 1)]) (by rfl) ⟨fun q => q c_2, trivial⟩ (Nat.le_refl _) ?_
      obtain rfl := Option.some.inj h
      exact XR.retI .int rfl rfl (by decide +kernel)
    · skip
      refine s_X_fault [(14, .if_icmp .ne 13, 0, 27), (27, .iconst (-1), 0, (-1))] (by decide +kernel) (z' := (28, [(0, (vR 9 l0)), (1, (vI l1))], [(vI (-1))], R, M, 174)) (cs := [l1 ≠ 1]) (by rfl) ⟨c_2, trivial⟩ (Nat.le_refl _) ?_
      obtain rfl := Option.some.inj h
      exact XR.retI .int rfl rfl (by decide +kernel)
set_option maxRecDepth 100000 in
set_option maxHeartbeats 4000000 in
theorem c_X_fault {sc : List Int} {R : xR} {M : xM} {l0 : Nat} {l1 : Int} {out : Int} (h : f_X_fault R l0 l1 M = some out) : XC false 0 sc y_X_fault [(vR 9 l0), (vI l1)] R M 174 174 ((some (vI out)), R, M) := XC.of (by decide) (Nat.le_of_ble_eq_true rfl) (Nat.le_refl _) (Nat.le_refl _) (o_X_fault h)
