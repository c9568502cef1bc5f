def N_readCleaner_J16 (R : xR) (l0 : Nat) (l1 : Nat) (l2 : Int) (s0 : Int) (s1 : Nat) (s2 : Nat) (M : xM) : Option (Int × xM) :=
  xb2 (f_N_isNewName R s2 s1 s0 M) fun r_2 M_3 =>
  if r_2 = 0 then
    some (0, M_3)
  else
    xl (M_3 l0 0) fun v3_6 =>
    xl (xu M_3 l0 0 (w32 ((M_3 l0 0) + 1))) fun M_7 =>
    xch (0 ≤ v3_6 ∧ v3_6 < 8) <|
    xl (xu M_7 (R l0 2) (Int.toNat v3_6) (M_7 l1 8)) fun M_9 =>
    xl (xu M_9 (R l0 4) (Int.toNat v3_6) l2) fun M_10 =>
    xl (xu M_10 (R l0 8) (Int.toNat v3_6) 0) fun M_11 =>
    xl (xu M_11 (R l0 9) (Int.toNat v3_6) 0) fun M_12 =>
    xb1 (f_N_addWay R l0 v3_6 (-1) 100 M_12) fun M_13 =>
    xb1 (f_A_advance R l1 M_13) fun M_15 =>
    xb2 (f_N_readHolds R l0 l1 v3_6 M_15) fun r_17 M_18 =>
    if r_17 = 0 then
      some (0, M_18)
    else
      xb2 (f_N_readLimit R l0 l1 v3_6 M_18) fun r_21 M_22 =>
      if r_21 = 0 then
        some (0, M_22)
      else
        xb2 (f_A_takeSign R l1 59 M_22) fun r_25 M_26 =>
        if r_25 = 0 then
          some (0, M_26)
        else
          some (1, M_26)
def f_N_readCleaner (R : xR) (l0 : Nat) (l1 : Nat) (l2 : Int) (M : xM) : Option (Int × xM) :=
  if M l0 0 < 8 then
    N_readCleaner_J16 R l0 l1 l2 0 l1 l0 M
  else
    N_readCleaner_J16 R l0 l1 l2 1 l1 l0 M
set_option maxRecDepth 100000 in
set_option maxHeartbeats 4000000 in
theorem s_N_readCleaner {d : Nat} {sc : List Int} {z z' : xS} {out : xO} (qs : List xI) {cs : List Prop} (hq : qs.all (xqb 6 false y_N_readCleaner.2.2.1 y_N_readCleaner.2.1) = true) (h : xN false sc qs z = some (z', cs)) (hc : xAll cs) (hE : z'.2.2.2.2.2 ≤ 174) (k : XR false d 174 sc y_N_readCleaner z' out) : XR false d 174 sc y_N_readCleaner z out := XR.seg 6 false rfl (fun q => by cases q) qs hq h hc hE k
set_option maxRecDepth 100000 in
set_option maxHeartbeats 4000000 in
theorem o_N_readCleaner_J16 {sc : List Int} {R : xR}   {l0 : Nat} {l1 : Nat} {l2 : Int}  {s0 : Int} {s1 : Nat} {s2 : Nat} {M : xM} {out : Int × xM} (h : N_readCleaner_J16 R l0 l1 l2  s0 s1 s2 M = some out) : XR false 8 174 sc y_N_readCleaner (16, [(0, (vR 6 l0)), (1, (vR 7 l1)), (2, (vI l2))], [(vI s0), (vR 7 s1), (vR 6 s2)], R, M, 174) ((some (vI out.1)), R, out.2) := by
  unfold N_readCleaner_J16 at h
  obtain ⟨r_2, M_3, e_4, h⟩ := xb2_ex h
  refine XR.callV 6 rfl (rest := []) m_N_isNewName k_6_80 6 s2 (Or.inl ⟨by decide, rfl⟩) [(vR 7 s1), (vI s0)] rfl rfl (c_N_isNewName e_4) (by decide) (Nat.le_of_ble_eq_true rfl) (by decide +kernel) (Nat.le_refl _) (Nat.le_refl _) ?_
  show XR false 8 174 sc y_N_readCleaner (19, [(0, (vR 6 l0)), (1, (vR 7 l1)), (2, (vI l2))], [(vI r_2)], R, M_3, 174) _
  rcases xif_ex h with ⟨c_5, h⟩ | ⟨c_5, h⟩
  · skip
    refine s_N_readCleaner [(19, .ifCond .ne 5, 0, (-1)), (22, .iconst 0, 0, 0)] (by decide +kernel) (z' := (23, [(0, (vR 6 l0)), (1, (vR 7 l1)), (2, (vI l2))], [(vI 0)], R, M_3, 174)) (cs := [¬ (r_2 ≠ 0)]) (by rfl) ⟨fun q => q c_5, trivial⟩ (Nat.le_refl _) ?_
    obtain rfl := Option.some.inj h
    exact XR.retI .boolean rfl (xnar_z (by decide)) (by decide +kernel)
  · skip
    obtain ⟨v3_6, hv3_6, h⟩ := xl_ex h
    obtain ⟨M_7, hM_7, h⟩ := xl_ex h
    obtain ⟨c_8, h⟩ := xch_ex h
    obtain ⟨M_9, hM_9, h⟩ := xl_ex h
    obtain ⟨M_10, hM_10, h⟩ := xl_ex h
    obtain ⟨M_11, hM_11, h⟩ := xl_ex h
    obtain ⟨M_12, hM_12, h⟩ := xl_ex h
    refine s_N_readCleaner [(19, .ifCond .ne 5, 0, 24), (24, .aload_n 0, 0, 0), (25, .getfield 9, 6, 0), (28, .istore_n 3, 0, 0), (29, .aload_n 0, 0, 0), (30, .dup, 0, 0), (31, .getfield 9, 6, 0), (34, .iconst 1, 0, 1), (35, .iadd, 0, 0), (36, .putfield 9, 6, 0), (39, .aload_n 0, 0, 0), (40, .getfield 18, 6, 2), (43, .iload_n 3, 0, 0), (44, .aload_n 1, 0, 0), (45, .getfield 84, 7, 8), (48, .lastore, 0, 0), (49, .aload_n 0, 0, 0), (50, .getfield 25, 6, 4), (53, .iload_n 3, 0, 0), (54, .iload_n 2, 0, 0), (55, .iastore, 0, 0), (56, .aload_n 0, 0, 0), (57, .getfield 38, 6, 8), (60, .iload_n 3, 0, 0), (61, .iconst 0, 0, 0), (62, .bastore, 3, 0), (63, .aload_n 0, 0, 0), (64, .getfield 42, 6, 9), (67, .iload_n 3, 0, 0), (68, .iconst 0, 0, 0), (69, .iastore, 0, 0), (70, .aload_n 0, 0, 0), (71, .iload_n 3, 0, 0), (72, .iconst (-1), 0, (-1)), (73, .bipush 100, 0, 100)] (by decide +kernel) (z' := (75, [(3, (vI v3_6)), (0, (vR 6 l0)), (1, (vR 7 l1)), (2, (vI l2))], [(vI 100), (vI (-1)), (vI v3_6), (vR 6 l0)], R, M_12, 174)) (cs := [r_2 ≠ 0, xar 24 1, xidx v3_6 (xan 24), xar 30 0, xidx v3_6 (xan 30), xar 37 3, xidx v3_6 (xan 37), (0 : Int) = 0 ∨ (0 : Int) = 1, xar 30 0, xidx v3_6 (xan 30)]) (by subst hv3_6; subst hM_7; subst hM_9; subst hM_10; subst hM_11; subst hM_12; rfl) ⟨c_5, xar_24, xix_24 c_8, xar_30, xix_30 c_8, xar_37, xix_37 c_8, by decide, xar_30, xix_30 c_8, trivial⟩ (Nat.le_refl _) ?_
    obtain ⟨M_13, e_14, h⟩ := xb1_ex h
    refine XR.callV 6 rfl (rest := []) m_N_addWay k_6_88 6 l0 (Or.inl ⟨by decide, rfl⟩) [(vI v3_6), (vI (-1)), (vI 100)] rfl rfl (c_N_addWay e_14) (by decide) (Nat.le_of_ble_eq_true rfl) (by decide +kernel) (Nat.le_refl _) (Nat.le_refl _) ?_
    show XR false 8 174 sc y_N_readCleaner (78, [(3, (vI v3_6)), (0, (vR 6 l0)), (1, (vR 7 l1)), (2, (vI l2))], [], R, M_13, 174) _
    refine s_N_readCleaner [(78, .aload_n 1, 0, 0)] (by decide +kernel) (z' := (79, [(3, (vI v3_6)), (0, (vR 6 l0)), (1, (vR 7 l1)), (2, (vI l2))], [(vR 7 l1)], R, M_13, 174)) (cs := []) (by rfl) trivial (Nat.le_refl _) ?_
    obtain ⟨M_15, e_16, h⟩ := xb1_ex h
    refine XR.callV 6 rfl (rest := []) m_A_advance k_6_66 7 l1 (Or.inl ⟨by decide, rfl⟩) [] rfl rfl (c_A_advance e_16) (by decide) (Nat.le_of_ble_eq_true rfl) (by decide +kernel) (Nat.le_refl _) (Nat.le_refl _) ?_
    show XR false 8 174 sc y_N_readCleaner (82, [(3, (vI v3_6)), (0, (vR 6 l0)), (1, (vR 7 l1)), (2, (vI l2))], [], R, M_15, 174) _
    refine s_N_readCleaner [(82, .aload_n 0, 0, 0), (83, .aload_n 1, 0, 0), (84, .iload_n 3, 0, 0)] (by decide +kernel) (z' := (85, [(3, (vI v3_6)), (0, (vR 6 l0)), (1, (vR 7 l1)), (2, (vI l2))], [(vI v3_6), (vR 7 l1), (vR 6 l0)], R, M_15, 174)) (cs := []) (by rfl) trivial (Nat.le_refl _) ?_
    obtain ⟨r_17, M_18, e_19, h⟩ := xb2_ex h
    refine XR.callV 6 rfl (rest := []) m_N_readHolds k_6_92 6 l0 (Or.inl ⟨by decide, rfl⟩) [(vR 7 l1), (vI v3_6)] rfl rfl (c_N_readHolds e_19) (by decide) (Nat.le_of_ble_eq_true rfl) (by decide +kernel) (Nat.le_refl _) (Nat.le_refl _) ?_
    show XR false 8 174 sc y_N_readCleaner (88, [(3, (vI v3_6)), (0, (vR 6 l0)), (1, (vR 7 l1)), (2, (vI l2))], [(vI r_17)], R, M_18, 174) _
    rcases xif_ex h with ⟨c_20, h⟩ | ⟨c_20, h⟩
    · skip
      refine s_N_readCleaner [(88, .ifCond .eq 25, 0, 113), (113, .iconst 0, 0, 0)] (by decide +kernel) (z' := (114, [(3, (vI v3_6)), (0, (vR 6 l0)), (1, (vR 7 l1)), (2, (vI l2))], [(vI 0)], R, M_18, 174)) (cs := [r_17 = 0]) (by rfl) ⟨c_20, trivial⟩ (Nat.le_refl _) ?_
      obtain rfl := Option.some.inj h
      exact XR.retI .boolean rfl (xnar_z (by decide)) (by decide +kernel)
    · skip
      refine s_N_readCleaner [(88, .ifCond .eq 25, 0, (-1)), (91, .aload_n 0, 0, 0), (92, .aload_n 1, 0, 0), (93, .iload_n 3, 0, 0)] (by decide +kernel) (z' := (94, [(3, (vI v3_6)), (0, (vR 6 l0)), (1, (vR 7 l1)), (2, (vI l2))], [(vI v3_6), (vR 7 l1), (vR 6 l0)], R, M_18, 174)) (cs := [¬ (r_17 = 0)]) (by rfl) ⟨c_20, trivial⟩ (Nat.le_refl _) ?_
      obtain ⟨r_21, M_22, e_23, h⟩ := xb2_ex h
      refine XR.callV 6 rfl (rest := []) m_N_readLimit k_6_95 6 l0 (Or.inl ⟨by decide, rfl⟩) [(vR 7 l1), (vI v3_6)] rfl rfl (c_N_readLimit e_23) (by decide) (Nat.le_of_ble_eq_true rfl) (by decide +kernel) (Nat.le_refl _) (Nat.le_refl _) ?_
      show XR false 8 174 sc y_N_readCleaner (97, [(3, (vI v3_6)), (0, (vR 6 l0)), (1, (vR 7 l1)), (2, (vI l2))], [(vI r_21)], R, M_22, 174) _
      rcases xif_ex h with ⟨c_24, h⟩ | ⟨c_24, h⟩
      · skip
        refine s_N_readCleaner [(97, .ifCond .eq 16, 0, 113), (113, .iconst 0, 0, 0)] (by decide +kernel) (z' := (114, [(3, (vI v3_6)), (0, (vR 6 l0)), (1, (vR 7 l1)), (2, (vI l2))], [(vI 0)], R, M_22, 174)) (cs := [r_21 = 0]) (by rfl) ⟨c_24, trivial⟩ (Nat.le_refl _) ?_
        obtain rfl := Option.some.inj h
        exact XR.retI .boolean rfl (xnar_z (by decide)) (by decide +kernel)
      · skip
        refine s_N_readCleaner [(97, .ifCond .eq 16, 0, (-1)), (100, .aload_n 1, 0, 0), (101, .bipush 59, 0, 59)] (by decide +kernel) (z' := (103, [(3, (vI v3_6)), (0, (vR 6 l0)), (1, (vR 7 l1)), (2, (vI l2))], [(vI 59), (vR 7 l1)], R, M_22, 174)) (cs := [¬ (r_21 = 0)]) (by rfl) ⟨c_24, trivial⟩ (Nat.le_refl _) ?_
        obtain ⟨r_25, M_26, e_27, h⟩ := xb2_ex h
        refine XR.callV 6 rfl (rest := []) m_A_takeSign k_6_98 7 l1 (Or.inl ⟨by decide, rfl⟩) [(vI 59)] rfl rfl (c_A_takeSign e_27) (by decide) (Nat.le_of_ble_eq_true rfl) (by decide +kernel) (Nat.le_refl _) (Nat.le_refl _) ?_
        show XR false 8 174 sc y_N_readCleaner (106, [(3, (vI v3_6)), (0, (vR 6 l0)), (1, (vR 7 l1)), (2, (vI l2))], [(vI r_25)], R, M_26, 174) _
        rcases xif_ex h with ⟨c_28, h⟩ | ⟨c_28, h⟩
        · skip
          refine s_N_readCleaner [(106, .ifCond .eq 7, 0, 113), (113, .iconst 0, 0, 0)] (by decide +kernel) (z' := (114, [(3, (vI v3_6)), (0, (vR 6 l0)), (1, (vR 7 l1)), (2, (vI l2))], [(vI 0)], R, M_26, 174)) (cs := [r_25 = 0]) (by rfl) ⟨c_28, trivial⟩ (Nat.le_refl _) ?_
          obtain rfl := Option.some.inj h
          exact XR.retI .boolean rfl (xnar_z (by decide)) (by decide +kernel)
        · skip
          refine s_N_readCleaner [(106, .ifCond .eq 7, 0, (-1)), (109, .iconst 1, 0, 1), (110, .goto 4, 0, 114)] (by decide +kernel) (z' := (114, [(3, (vI v3_6)), (0, (vR 6 l0)), (1, (vR 7 l1)), (2, (vI l2))], [(vI 1)], R, M_26, 174)) (cs := [¬ (r_25 = 0)]) (by rfl) ⟨c_28, trivial⟩ (Nat.le_refl _) ?_
          obtain rfl := Option.some.inj h
          exact XR.retI .boolean rfl (xnar_z (by decide)) (by decide +kernel)
set_option maxRecDepth 100000 in
set_option maxHeartbeats 4000000 in
theorem o_N_readCleaner {sc : List Int} {R : xR} {M : xM} {l0 : Nat} {l1 : Nat} {l2 : Int} {out : Int × xM} (h : f_N_readCleaner R l0 l1 l2 M = some out) : XR false 8 174 sc y_N_readCleaner (0, [(0, (vR 6 l0)), (1, (vR 7 l1)), (2, (vI l2))], [], R, M, 174) ((some (vI out.1)), R, out.2) := by
  unfold f_N_readCleaner at h
  refine s_N_readCleaner [(0, .aload_n 0, 0, 0), (1, .aload_n 1, 0, 0), (2, .aload_n 0, 0, 0), (3, .getfield 9, 6, 0), (6, .bipush 8, 0, 8)] (by decide +kernel) (z' := (8, [(0, (vR 6 l0)), (1, (vR 7 l1)), (2, (vI l2))], [(vI 8), (vI (M l0 0)), (vR 7 l1), (vR 6 l0)], R, M, 174)) (cs := []) (by rfl) trivial (Nat.le_refl _) ?_
  rcases xif_ex h with ⟨c_1, h⟩ | ⟨c_1, h⟩
  · skip
    refine s_N_readCleaner [(8, .if_icmp .lt 7, 0, 15), (15, .iconst 0, 0, 0)] (by decide +kernel) (z' := (16, [(0, (vR 6 l0)), (1, (vR 7 l1)), (2, (vI l2))], [(vI 0), (vR 7 l1), (vR 6 l0)], R, M, 174)) (cs := [M l0 0 < 8]) (by rfl) ⟨c_1, trivial⟩ (Nat.le_refl _) ?_
    exact o_N_readCleaner_J16  h
  · skip
    refine s_N_readCleaner [(8, .if_icmp .lt 7, 0, (-1)), (11, .iconst 1, 0, 1), (12, .goto 4, 0, 16)] (by decide +kernel) (z' := (16, [(0, (vR 6 l0)), (1, (vR 7 l1)), (2, (vI l2))], [(vI 1), (vR 7 l1), (vR 6 l0)], R, M, 174)) (cs := [¬ (M l0 0 < 8)]) (by rfl) ⟨c_1, trivial⟩ (Nat.le_refl _) ?_
    exact o_N_readCleaner_J16  h
set_option maxRecDepth 100000 in
set_option maxHeartbeats 4000000 in
theorem c_N_readCleaner {sc : List Int} {R : xR} {M : xM} {l0 : Nat} {l1 : Nat} {l2 : Int} {out : Int × xM} (h : f_N_readCleaner R l0 l1 l2 M = some out) : XC false 8 sc y_N_readCleaner [(vR 6 l0), (vR 7 l1), (vI l2)] R M 174 174 ((some (vI out.1)), R, out.2) := XC.of (by decide) (Nat.le_of_ble_eq_true rfl) (Nat.le_refl _) (Nat.le_refl _) (o_N_readCleaner h)
def N_readWay_J100 (R : xR) (l0 : Nat) (l1 : Nat) (l2 : Int) (v4 : Int) (M : xM) : Option (Int × xM) :=
  xb1 (f_A_advance R l1 M) fun M_24 =>
  xb2 (f_A_takeKey R l1 13 M_24) fun r_26 M_27 =>
  if r_26 = 0 then
    some (0, M_27)
  else
    xb2 (f_A_takeNumber R l1 0 100 4 M_27) fun r_30 M_31 =>
    if r_30 = 0 then
      some (0, M_31)
    else
      xb1 (f_N_addWay R l0 l2 v4 (M_31 l1 11) M_31) fun M_34 =>
      some (1, M_34)
def N_readWay_J74 (R : xR) (l0 : Nat) (l1 : Nat) (l2 : Int) (v3 : Int) (v4 : Int) (M : xM) : Option (Int × xM) :=
  xb1 (f_N_hasWay R l0 l2 v4 M) fun r_19 =>
  if r_19 = 0 then
    if v3 = 0 then
      if l2 < v4 then
        N_readWay_J100 R l0 l1 l2 v4 M
      else
        xb2 (f_A_wrong l1 5 M) fun r_36 M_37 =>
        xch (r_36 = 0 ∨ r_36 = 1) <|
        some (r_36, M_37)
    else
      N_readWay_J100 R l0 l1 l2 v4 M
  else
    xb2 (f_A_wrong l1 5 M) fun r_40 M_41 =>
    xch (r_40 = 0 ∨ r_40 = 1) <|
    some (r_40, M_41)
def N_readWay_J56 (R : xR) (l0 : Nat) (l1 : Nat) (l2 : Int) (v3 : Int) (s0 : Int) (M : xM) : Option (Int × xM) :=
  if v3 = 0 then
    if s0 = -1 then
      xb2 (f_A_wrong l1 3 M) fun r_15 M_16 =>
      xch (r_15 = 0 ∨ r_15 = 1) <|
      some (r_15, M_16)
    else
      N_readWay_J74 R l0 l1 l2 v3 s0 M
  else
    N_readWay_J74 R l0 l1 l2 v3 s0 M
def N_readWay_J32 (R : xR) (l0 : Nat) (l1 : Nat) (l2 : Int) (v3 : Int) (s0 : Int) (s1 : Nat) (M : xM) : Option (Int × xM) :=
  xb2 (f_A_stands s1 s0 M) fun r_6 M_7 =>
  if r_6 = 0 then
    some (0, M_7)
  else
    if v3 = 0 then
      xb1 (f_N_cleanerNamed R l0 (M_7 l1 8) M_7) fun r_11 =>
      N_readWay_J56 R l0 l1 l2 v3 r_11 M_7
    else
      N_readWay_J56 R l0 l1 l2 v3 (-1) M_7
def N_readWay_J27 (R : xR) (l0 : Nat) (l1 : Nat) (l2 : Int) (v3 : Int) (s0 : Nat) (M : xM) : Option (Int × xM) :=
  N_readWay_J32 R l0 l1 l2 v3 1 s0 M
def N_readWay_J14 (R : xR) (l0 : Nat) (l1 : Nat) (l2 : Int) (s0 : Int) (M : xM) : Option (Int × xM) :=
  if s0 = 0 then
    xb1 (f_A_isName l1 M) fun r_3 =>
    if r_3 = 0 then
      N_readWay_J32 R l0 l1 l2 s0 0 l1 M
    else
      N_readWay_J27 R l0 l1 l2 s0 l1 M
  else
    N_readWay_J27 R l0 l1 l2 s0 l1 M
def f_N_readWay (R : xR) (l0 : Nat) (l1 : Nat) (l2 : Int) (M : xM) : Option (Int × xM) :=
  if M l1 9 = 14 then
    N_readWay_J14 R l0 l1 l2 1 M
  else
    N_readWay_J14 R l0 l1 l2 0 M
set_option maxRecDepth 100000 in
set_option maxHeartbeats 4000000 in
theorem s_N_readWay {d : Nat} {sc : List Int} {z z' : xS} {out : xO} (qs : List xI) {cs : List Prop} (hq : qs.all (xqb 6 false y_N_readWay.2.2.1 y_N_readWay.2.1) = true) (h : xN false sc qs z = some (z', cs)) (hc : xAll cs) (hE : z'.2.2.2.2.2 ≤ 174) (k : XR false d 174 sc y_N_readWay z' out) : XR false d 174 sc y_N_readWay z out := XR.seg 6 false rfl (fun q => by cases q) qs hq h hc hE k
set_option maxRecDepth 100000 in
set_option maxHeartbeats 4000000 in
theorem o_N_readWay_J100 {sc : List Int} {R : xR}   {l0 : Nat} {l1 : Nat} {l2 : Int}  {v4 : Int} {M : xM} {out : Int × xM} (h : N_readWay_J100 R l0 l1 l2  v4 M = some out) : XR false 7 174 sc y_N_readWay (100, [(0, (vR 6 l0)), (1, (vR 7 l1)), (2, (vI l2)), (4, (vI v4))], [], R, M, 174) ((some (vI out.1)), R, out.2) := by
  unfold N_readWay_J100 at h
  refine s_N_readWay [(100, .aload_n 1, 0, 0)] (by decide +kernel) (z' := (101, [(0, (vR 6 l0)), (1, (vR 7 l1)), (2, (vI l2)), (4, (vI v4))], [(vR 7 l1)], R, M, 174)) (cs := []) (by rfl) trivial (Nat.le_refl _) ?_
  obtain ⟨M_24, e_25, h⟩ := xb1_ex h
  refine XR.callV 6 rfl (rest := []) m_A_advance k_6_66 7 l1 (Or.inl ⟨by decide, rfl⟩) [] rfl rfl (c_A_advance e_25) (by decide) (Nat.le_of_ble_eq_true rfl) (by decide +kernel) (Nat.le_refl _) (Nat.le_refl _) ?_
  show XR false 7 174 sc y_N_readWay (104, [(0, (vR 6 l0)), (1, (vR 7 l1)), (2, (vI l2)), (4, (vI v4))], [], R, M_24, 174) _
  refine s_N_readWay [(104, .aload_n 1, 0, 0), (105, .bipush 13, 0, 13)] (by decide +kernel) (z' := (107, [(0, (vR 6 l0)), (1, (vR 7 l1)), (2, (vI l2)), (4, (vI v4))], [(vI 13), (vR 7 l1)], R, M_24, 174)) (cs := []) (by rfl) trivial (Nat.le_refl _) ?_
  obtain ⟨r_26, M_27, e_28, h⟩ := xb2_ex h
  refine XR.callV 6 rfl (rest := []) m_A_takeKey k_6_118 7 l1 (Or.inl ⟨by decide, rfl⟩) [(vI 13)] rfl rfl (c_A_takeKey e_28) (by decide) (Nat.le_of_ble_eq_true rfl) (by decide +kernel) (Nat.le_refl _) (Nat.le_refl _) ?_
  show XR false 7 174 sc y_N_readWay (110, [(0, (vR 6 l0)), (1, (vR 7 l1)), (2, (vI l2)), (4, (vI v4))], [(vI r_26)], R, M_27, 174) _
  rcases xif_ex h with ⟨c_29, h⟩ | ⟨c_29, h⟩
  · skip
    refine s_N_readWay [(110, .ifCond .eq 14, 0, 124), (124, .iconst 0, 0, 0)] (by decide +kernel) (z' := (125, [(0, (vR 6 l0)), (1, (vR 7 l1)), (2, (vI l2)), (4, (vI v4))], [(vI 0)], R, M_27, 174)) (cs := [r_26 = 0]) (by rfl) ⟨c_29, trivial⟩ (Nat.le_refl _) ?_
    obtain rfl := Option.some.inj h
    exact XR.retI .boolean rfl (xnar_z (by decide)) (by decide +kernel)
  · skip
    refine s_N_readWay [(110, .ifCond .eq 14, 0, (-1)), (113, .aload_n 1, 0, 0), (114, .iconst 0, 0, 0), (115, .bipush 100, 0, 100), (117, .iconst 4, 0, 4)] (by decide +kernel) (z' := (118, [(0, (vR 6 l0)), (1, (vR 7 l1)), (2, (vI l2)), (4, (vI v4))], [(vI 4), (vI 100), (vI 0), (vR 7 l1)], R, M_27, 174)) (cs := [¬ (r_26 = 0)]) (by rfl) ⟨c_29, trivial⟩ (Nat.le_refl _) ?_
    obtain ⟨r_30, M_31, e_32, h⟩ := xb2_ex h
    refine XR.callV 6 rfl (rest := []) m_A_takeNumber k_6_121 7 l1 (Or.inl ⟨by decide, rfl⟩) [(vI 0), (vI 100), (vI 4)] rfl rfl (c_A_takeNumber e_32) (by decide) (Nat.le_of_ble_eq_true rfl) (by decide +kernel) (Nat.le_refl _) (Nat.le_refl _) ?_
    show XR false 7 174 sc y_N_readWay (121, [(0, (vR 6 l0)), (1, (vR 7 l1)), (2, (vI l2)), (4, (vI v4))], [(vI r_30)], R, M_31, 174) _
    rcases xif_ex h with ⟨c_33, h⟩ | ⟨c_33, h⟩
    · skip
      refine s_N_readWay [(121, .ifCond .ne 5, 0, (-1)), (124, .iconst 0, 0, 0)] (by decide +kernel) (z' := (125, [(0, (vR 6 l0)), (1, (vR 7 l1)), (2, (vI l2)), (4, (vI v4))], [(vI 0)], R, M_31, 174)) (cs := [¬ (r_30 ≠ 0)]) (by rfl) ⟨fun q => q c_33, trivial⟩ (Nat.le_refl _) ?_
      obtain rfl := Option.some.inj h
      exact XR.retI .boolean rfl (xnar_z (by decide)) (by decide +kernel)
    · skip
      refine s_N_readWay [(121, .ifCond .ne 5, 0, 126), (126, .aload_n 0, 0, 0), (127, .iload_n 2, 0, 0), (128, .iload 4, 0, 0), (130, .aload_n 1, 0, 0), (131, .getfield 125, 7, 11)] (by decide +kernel) (z' := (134, [(0, (vR 6 l0)), (1, (vR 7 l1)), (2, (vI l2)), (4, (vI v4))], [(vI (M_31 l1 11)), (vI v4), (vI l2), (vR 6 l0)], R, M_31, 174)) (cs := [r_30 ≠ 0]) (by rfl) ⟨c_33, trivial⟩ (Nat.le_refl _) ?_
      obtain ⟨M_34, e_35, h⟩ := xb1_ex h
      refine XR.callV 6 rfl (rest := []) m_N_addWay k_6_88 6 l0 (Or.inl ⟨by decide, rfl⟩) [(vI l2), (vI v4), (vI (M_31 l1 11))] rfl rfl (c_N_addWay e_35) (by decide) (Nat.le_of_ble_eq_true rfl) (by decide +kernel) (Nat.le_refl _) (Nat.le_refl _) ?_
      show XR false 7 174 sc y_N_readWay (137, [(0, (vR 6 l0)), (1, (vR 7 l1)), (2, (vI l2)), (4, (vI v4))], [], R, M_34, 174) _
      refine s_N_readWay [(137, .iconst 1, 0, 1)] (by decide +kernel) (z' := (138, [(0, (vR 6 l0)), (1, (vR 7 l1)), (2, (vI l2)), (4, (vI v4))], [(vI 1)], R, M_34, 174)) (cs := []) (by rfl) trivial (Nat.le_refl _) ?_
      obtain rfl := Option.some.inj h
      exact XR.retI .boolean rfl (xnar_z (by decide)) (by decide +kernel)
set_option maxRecDepth 100000 in
set_option maxHeartbeats 4000000 in
theorem o_N_readWay_J74 {sc : List Int} {R : xR}   {l0 : Nat} {l1 : Nat} {l2 : Int}  {v3 : Int} {v4 : Int} {M : xM} {out : Int × xM} (h : N_readWay_J74 R l0 l1 l2  v3 v4 M = some out) : XR false 7 174 sc y_N_readWay (74, [(0, (vR 6 l0)), (1, (vR 7 l1)), (2, (vI l2)), (3, (vI v3)), (4, (vI v4))], [], R, M, 174) ((some (vI out.1)), R, out.2) := by
  unfold N_readWay_J74 at h
  refine s_N_readWay [(74, .aload_n 0, 0, 0), (75, .iload_n 2, 0, 0), (76, .iload 4, 0, 0)] (by decide +kernel) (z' := (78, [(0, (vR 6 l0)), (1, (vR 7 l1)), (2, (vI l2)), (3, (vI v3)), (4, (vI v4))], [(vI v4), (vI l2), (vR 6 l0)], R, M, 174)) (cs := []) (by rfl) trivial (Nat.le_refl _) ?_
  obtain ⟨r_19, e_20, h⟩ := xb1_ex h
  refine XR.callV 6 rfl (rest := []) m_N_hasWay k_6_141 6 l0 (Or.inl ⟨by decide, rfl⟩) [(vI l2), (vI v4)] rfl rfl (c_N_hasWay e_20) (by decide) (Nat.le_of_ble_eq_true rfl) (by decide +kernel) (Nat.le_refl _) (Nat.le_refl _) ?_
  show XR false 7 174 sc y_N_readWay (81, [(0, (vR 6 l0)), (1, (vR 7 l1)), (2, (vI l2)), (3, (vI v3)), (4, (vI v4))], [(vI r_19)], R, M, 174) _
  rcases xif_ex h with ⟨c_21, h⟩ | ⟨c_21, h⟩
  · skip
    refine s_N_readWay [(81, .ifCond .ne 13, 0, (-1)), (84, .iload_n 3, 0, 0)] (by decide +kernel) (z' := (85, [(0, (vR 6 l0)), (1, (vR 7 l1)), (2, (vI l2)), (3, (vI v3)), (4, (vI v4))], [(vI v3)], R, M, 174)) (cs := [¬ (r_19 ≠ 0)]) (by rfl) ⟨fun q => q c_21, trivial⟩ (Nat.le_refl _) ?_
    rcases xif_ex h with ⟨c_22, h⟩ | ⟨c_22, h⟩
    · skip
      refine s_N_readWay [(85, .ifCond .ne 15, 0, (-1)), (88, .iload 4, 0, 0), (90, .iload_n 2, 0, 0)] (by decide +kernel) (z' := (91, [(0, (vR 6 l0)), (1, (vR 7 l1)), (2, (vI l2)), (3, (vI v3)), (4, (vI v4))], [(vI l2), (vI v4)], R, M, 174)) (cs := [¬ (v3 ≠ 0)]) (by rfl) ⟨fun q => q c_22, trivial⟩ (Nat.le_refl _) ?_
      rcases xif_ex h with ⟨c_23, h⟩ | ⟨c_23, h⟩
      · skip
        refine s_N_readWay [(91, .if_icmp .gt 9, 0, 100)] (by decide +kernel) (z' := (100, [(0, (vR 6 l0)), (1, (vR 7 l1)), (2, (vI l2)), (3, (vI v3)), (4, (vI v4))], [], R, M, 174)) (cs := [l2 < v4]) (by rfl) ⟨c_23, trivial⟩ (Nat.le_refl _) ?_
        refine XR.pick [0, 1, 2, 4] (ls' := [(0, (vR 6 l0)), (1, (vR 7 l1)), (2, (vI l2)), (4, (vI v4))]) rfl ?_
        exact o_N_readWay_J100  h
      · skip
        refine s_N_readWay [(91, .if_icmp .gt 9, 0, (-1)), (94, .aload_n 1, 0, 0), (95, .iconst 5, 0, 5)] (by decide +kernel) (z' := (96, [(0, (vR 6 l0)), (1, (vR 7 l1)), (2, (vI l2)), (3, (vI v3)), (4, (vI v4))], [(vI 5), (vR 7 l1)], R, M, 174)) (cs := [¬ (l2 < v4)]) (by rfl) ⟨c_23, trivial⟩ (Nat.le_refl _) ?_
        obtain ⟨r_36, M_37, e_38, h⟩ := xb2_ex h
        refine XR.callV 6 rfl (rest := []) m_A_wrong k_6_114 7 l1 (Or.inl ⟨by decide, rfl⟩) [(vI 5)] rfl rfl (c_A_wrong e_38) (by decide) (Nat.le_of_ble_eq_true rfl) (by decide +kernel) (Nat.le_refl _) (Nat.le_refl _) ?_
        show XR false 7 174 sc y_N_readWay (99, [(0, (vR 6 l0)), (1, (vR 7 l1)), (2, (vI l2)), (3, (vI v3)), (4, (vI v4))], [(vI r_36)], R, M_37, 174) _
        obtain ⟨c_39, h⟩ := xch_ex h
        obtain rfl := Option.some.inj h
        exact XR.retI .boolean rfl (xnar_z c_39) (by decide +kernel)
    · skip
      refine s_N_readWay [(85, .ifCond .ne 15, 0, 100)] (by decide +kernel) (z' := (100, [(0, (vR 6 l0)), (1, (vR 7 l1)), (2, (vI l2)), (3, (vI v3)), (4, (vI v4))], [], R, M, 174)) (cs := [v3 ≠ 0]) (by rfl) ⟨c_22, trivial⟩ (Nat.le_refl _) ?_
      refine XR.pick [0, 1, 2, 4] (ls' := [(0, (vR 6 l0)), (1, (vR 7 l1)), (2, (vI l2)), (4, (vI v4))]) rfl ?_
      exact o_N_readWay_J100  h
  · skip
    refine s_N_readWay [(81, .ifCond .ne 13, 0, 94), (94, .aload_n 1, 0, 0), (95, .iconst 5, 0, 5)] (by decide +kernel) (z' := (96, [(0, (vR 6 l0)), (1, (vR 7 l1)), (2, (vI l2)), (3, (vI v3)), (4, (vI v4))], [(vI 5), (vR 7 l1)], R, M, 174)) (cs := [r_19 ≠ 0]) (by rfl) ⟨c_21, trivial⟩ (Nat.le_refl _) ?_
    obtain ⟨r_40, M_41, e_42, h⟩ := xb2_ex h
    refine XR.callV 6 rfl (rest := []) m_A_wrong k_6_114 7 l1 (Or.inl ⟨by decide, rfl⟩) [(vI 5)] rfl rfl (c_A_wrong e_42) (by decide) (Nat.le_of_ble_eq_true rfl) (by decide +kernel) (Nat.le_refl _) (Nat.le_refl _) ?_
    show XR false 7 174 sc y_N_readWay (99, [(0, (vR 6 l0)), (1, (vR 7 l1)), (2, (vI l2)), (3, (vI v3)), (4, (vI v4))], [(vI r_40)], R, M_41, 174) _
    obtain ⟨c_43, h⟩ := xch_ex h
    obtain rfl := Option.some.inj h
    exact XR.retI .boolean rfl (xnar_z c_43) (by decide +kernel)
set_option maxRecDepth 100000 in
set_option maxHeartbeats 4000000 in
theorem o_N_readWay_J56 {sc : List Int} {R : xR}   {l0 : Nat} {l1 : Nat} {l2 : Int}  {v3 : Int} {s0 : Int} {M : xM} {out : Int × xM} (h : N_readWay_J56 R l0 l1 l2  v3 s0 M = some out) : XR false 7 174 sc y_N_readWay (56, [(0, (vR 6 l0)), (1, (vR 7 l1)), (2, (vI l2)), (3, (vI v3))], [(vI s0)], R, M, 174) ((some (vI out.1)), R, out.2) := by
  unfold N_readWay_J56 at h
  refine s_N_readWay [(56, .istore 4, 0, 0), (58, .iload_n 3, 0, 0)] (by decide +kernel) (z' := (59, [(4, (vI s0)), (0, (vR 6 l0)), (1, (vR 7 l1)), (2, (vI l2)), (3, (vI v3))], [(vI v3)], R, M, 174)) (cs := []) (by rfl) trivial (Nat.le_refl _) ?_
  rcases xif_ex h with ⟨c_13, h⟩ | ⟨c_13, h⟩
  · skip
    refine s_N_readWay [(59, .ifCond .ne 15, 0, (-1)), (62, .iload 4, 0, 0), (64, .iconst (-1), 0, (-1))] (by decide +kernel) (z' := (65, [(4, (vI s0)), (0, (vR 6 l0)), (1, (vR 7 l1)), (2, (vI l2)), (3, (vI v3))], [(vI (-1)), (vI s0)], R, M, 174)) (cs := [¬ (v3 ≠ 0)]) (by rfl) ⟨fun q => q c_13, trivial⟩ (Nat.le_refl _) ?_
    rcases xif_ex h with ⟨c_14, h⟩ | ⟨c_14, h⟩
    · skip
      refine s_N_readWay [(65, .if_icmp .ne 9, 0, (-1)), (68, .aload_n 1, 0, 0), (69, .iconst 3, 0, 3)] (by decide +kernel) (z' := (70, [(4, (vI s0)), (0, (vR 6 l0)), (1, (vR 7 l1)), (2, (vI l2)), (3, (vI v3))], [(vI 3), (vR 7 l1)], R, M, 174)) (cs := [¬ (s0 ≠ -1)]) (by rfl) ⟨fun q => q c_14, trivial⟩ (Nat.le_refl _) ?_
      obtain ⟨r_15, M_16, e_17, h⟩ := xb2_ex h
      refine XR.callV 6 rfl (rest := []) m_A_wrong k_6_114 7 l1 (Or.inl ⟨by decide, rfl⟩) [(vI 3)] rfl rfl (c_A_wrong e_17) (by decide) (Nat.le_of_ble_eq_true rfl) (by decide +kernel) (Nat.le_refl _) (Nat.le_refl _) ?_
      show XR false 7 174 sc y_N_readWay (73, [(4, (vI s0)), (0, (vR 6 l0)), (1, (vR 7 l1)), (2, (vI l2)), (3, (vI v3))], [(vI r_15)], R, M_16, 174) _
      obtain ⟨c_18, h⟩ := xch_ex h
      obtain rfl := Option.some.inj h
      exact XR.retI .boolean rfl (xnar_z c_18) (by decide +kernel)
    · skip
      refine s_N_readWay [(65, .if_icmp .ne 9, 0, 74)] (by decide +kernel) (z' := (74, [(4, (vI s0)), (0, (vR 6 l0)), (1, (vR 7 l1)), (2, (vI l2)), (3, (vI v3))], [], R, M, 174)) (cs := [s0 ≠ -1]) (by rfl) ⟨c_14, trivial⟩ (Nat.le_refl _) ?_
      refine XR.pick [1, 2, 3, 4, 0] (ls' := [(0, (vR 6 l0)), (1, (vR 7 l1)), (2, (vI l2)), (3, (vI v3)), (4, (vI s0))]) rfl ?_
      exact o_N_readWay_J74  h
  · skip
    refine s_N_readWay [(59, .ifCond .ne 15, 0, 74)] (by decide +kernel) (z' := (74, [(4, (vI s0)), (0, (vR 6 l0)), (1, (vR 7 l1)), (2, (vI l2)), (3, (vI v3))], [], R, M, 174)) (cs := [v3 ≠ 0]) (by rfl) ⟨c_13, trivial⟩ (Nat.le_refl _) ?_
    refine XR.pick [1, 2, 3, 4, 0] (ls' := [(0, (vR 6 l0)), (1, (vR 7 l1)), (2, (vI l2)), (3, (vI v3)), (4, (vI s0))]) rfl ?_
    exact o_N_readWay_J74  h
set_option maxRecDepth 100000 in
set_option maxHeartbeats 4000000 in
theorem o_N_readWay_J32 {sc : List Int} {R : xR}   {l0 : Nat} {l1 : Nat} {l2 : Int}  {v3 : Int} {s0 : Int} {s1 : Nat} {M : xM} {out : Int × xM} (h : N_readWay_J32 R l0 l1 l2  v3 s0 s1 M = some out) : XR false 7 174 sc y_N_readWay (32, [(0, (vR 6 l0)), (1, (vR 7 l1)), (2, (vI l2)), (3, (vI v3))], [(vI s0), (vR 7 s1)], R, M, 174) ((some (vI out.1)), R, out.2) := by
  unfold N_readWay_J32 at h
  obtain ⟨r_6, M_7, e_8, h⟩ := xb2_ex h
  refine XR.callV 6 rfl (rest := []) m_A_stands k_6_62 7 s1 (Or.inl ⟨by decide, rfl⟩) [(vI s0)] rfl rfl (c_A_stands e_8) (by decide) (Nat.le_of_ble_eq_true rfl) (by decide +kernel) (Nat.le_refl _) (Nat.le_refl _) ?_
  show XR false 7 174 sc y_N_readWay (35, [(0, (vR 6 l0)), (1, (vR 7 l1)), (2, (vI l2)), (3, (vI v3))], [(vI r_6)], R, M_7, 174) _
  rcases xif_ex h with ⟨c_9, h⟩ | ⟨c_9, h⟩
  · skip
    refine s_N_readWay [(35, .ifCond .ne 5, 0, (-1)), (38, .iconst 0, 0, 0)] (by decide +kernel) (z' := (39, [(0, (vR 6 l0)), (1, (vR 7 l1)), (2, (vI l2)), (3, (vI v3))], [(vI 0)], R, M_7, 174)) (cs := [¬ (r_6 ≠ 0)]) (by rfl) ⟨fun q => q c_9, trivial⟩ (Nat.le_refl _) ?_
    obtain rfl := Option.some.inj h
    exact XR.retI .boolean rfl (xnar_z (by decide)) (by decide +kernel)
  · skip
    refine s_N_readWay [(35, .ifCond .ne 5, 0, 40), (40, .iload_n 3, 0, 0)] (by decide +kernel) (z' := (41, [(0, (vR 6 l0)), (1, (vR 7 l1)), (2, (vI l2)), (3, (vI v3))], [(vI v3)], R, M_7, 174)) (cs := [r_6 ≠ 0]) (by rfl) ⟨c_9, trivial⟩ (Nat.le_refl _) ?_
    rcases xif_ex h with ⟨c_10, h⟩ | ⟨c_10, h⟩
    · skip
      refine s_N_readWay [(41, .ifCond .eq 7, 0, 48), (48, .aload_n 0, 0, 0), (49, .aload_n 1, 0, 0), (50, .getfield 84, 7, 8)] (by decide +kernel) (z' := (53, [(0, (vR 6 l0)), (1, (vR 7 l1)), (2, (vI l2)), (3, (vI v3))], [(vL (M_7 l1 8)), (vR 6 l0)], R, M_7, 174)) (cs := [v3 = 0]) (by rfl) ⟨c_10, trivial⟩ (Nat.le_refl _) ?_
      obtain ⟨r_11, e_12, h⟩ := xb1_ex h
      refine XR.callV 6 rfl (rest := []) m_N_cleanerNamed k_6_106 6 l0 (Or.inl ⟨by decide, rfl⟩) [(vL (M_7 l1 8))] rfl rfl (c_N_cleanerNamed e_12) (by decide) (Nat.le_of_ble_eq_true rfl) (by decide +kernel) (Nat.le_refl _) (Nat.le_refl _) ?_
      show XR false 7 174 sc y_N_readWay (56, [(0, (vR 6 l0)), (1, (vR 7 l1)), (2, (vI l2)), (3, (vI v3))], [(vI r_11)], R, M_7, 174) _
      exact o_N_readWay_J56  h
    · skip
      refine s_N_readWay [(41, .ifCond .eq 7, 0, (-1)), (44, .iconst (-1), 0, (-1)), (45, .goto 11, 0, 56)] (by decide +kernel) (z' := (56, [(0, (vR 6 l0)), (1, (vR 7 l1)), (2, (vI l2)), (3, (vI v3))], [(vI (-1))], R, M_7, 174)) (cs := [¬ (v3 = 0)]) (by rfl) ⟨c_10, trivial⟩ (Nat.le_refl _) ?_
      exact o_N_readWay_J56  h
set_option maxRecDepth 100000 in
set_option maxHeartbeats 4000000 in
theorem o_N_readWay_J27 {sc : List Int} {R : xR}   {l0 : Nat} {l1 : Nat} {l2 : Int}  {v3 : Int} {s0 : Nat} {M : xM} {out : Int × xM} (h : N_readWay_J27 R l0 l1 l2  v3 s0 M = some out) : XR false 7 174 sc y_N_readWay (27, [(0, (vR 6 l0)), (1, (vR 7 l1)), (2, (vI l2)), (3, (vI v3))], [(vR 7 s0)], R, M, 174) ((some (vI out.1)), R, out.2) := by
  unfold N_readWay_J27 at h
  refine s_N_readWay [(27, .iconst 1, 0, 1), (28, .goto 4, 0, 32)] (by decide +kernel) (z' := (32, [(0, (vR 6 l0)), (1, (vR 7 l1)), (2, (vI l2)), (3, (vI v3))], [(vI 1), (vR 7 s0)], R, M, 174)) (cs := []) (by rfl) trivial (Nat.le_refl _) ?_
  exact o_N_readWay_J32  h
set_option maxRecDepth 100000 in
set_option maxHeartbeats 4000000 in
theorem o_N_readWay_J14 {sc : List Int} {R : xR}   {l0 : Nat} {l1 : Nat} {l2 : Int}  {s0 : Int} {M : xM} {out : Int × xM} (h : N_readWay_J14 R l0 l1 l2  s0 M = some out) : XR false 7 174 sc y_N_readWay (14, [(0, (vR 6 l0)), (1, (vR 7 l1)), (2, (vI l2))], [(vI s0)], R, M, 174) ((some (vI out.1)), R, out.2) := by
  unfold N_readWay_J14 at h
  refine s_N_readWay [(14, .istore_n 3, 0, 0), (15, .aload_n 1, 0, 0), (16, .iload_n 3, 0, 0)] (by decide +kernel) (z' := (17, [(3, (vI s0)), (0, (vR 6 l0)), (1, (vR 7 l1)), (2, (vI l2))], [(vI s0), (vR 7 l1)], R, M, 174)) (cs := []) (by rfl) trivial (Nat.le_refl _) ?_
  rcases xif_ex h with ⟨c_2, h⟩ | ⟨c_2, h⟩
  · skip
    refine s_N_readWay [(17, .ifCond .ne 10, 0, (-1)), (20, .aload_n 1, 0, 0)] (by decide +kernel) (z' := (21, [(3, (vI s0)), (0, (vR 6 l0)), (1, (vR 7 l1)), (2, (vI l2))], [(vR 7 l1), (vR 7 l1)], R, M, 174)) (cs := [¬ (s0 ≠ 0)]) (by rfl) ⟨fun q => q c_2, trivial⟩ (Nat.le_refl _) ?_
    obtain ⟨r_3, e_4, h⟩ := xb1_ex h
    refine XR.callV 6 rfl (rest := [(vR 7 l1)]) m_A_isName k_6_102 7 l1 (Or.inl ⟨by decide, rfl⟩) [] rfl rfl (c_A_isName e_4) (by decide) (Nat.le_of_ble_eq_true rfl) (by decide +kernel) (Nat.le_refl _) (Nat.le_refl _) ?_
    show XR false 7 174 sc y_N_readWay (24, [(3, (vI s0)), (0, (vR 6 l0)), (1, (vR 7 l1)), (2, (vI l2))], [(vI r_3), (vR 7 l1)], R, M, 174) _
    rcases xif_ex h with ⟨c_5, h⟩ | ⟨c_5, h⟩
    · skip
      refine s_N_readWay [(24, .ifCond .eq 7, 0, 31), (31, .iconst 0, 0, 0)] (by decide +kernel) (z' := (32, [(3, (vI s0)), (0, (vR 6 l0)), (1, (vR 7 l1)), (2, (vI l2))], [(vI 0), (vR 7 l1)], R, M, 174)) (cs := [r_3 = 0]) (by rfl) ⟨c_5, trivial⟩ (Nat.le_refl _) ?_
      refine XR.pick [1, 2, 3, 0] (ls' := [(0, (vR 6 l0)), (1, (vR 7 l1)), (2, (vI l2)), (3, (vI s0))]) rfl ?_
      exact o_N_readWay_J32  h
    · skip
      refine s_N_readWay [(24, .ifCond .eq 7, 0, (-1))] (by decide +kernel) (z' := (27, [(3, (vI s0)), (0, (vR 6 l0)), (1, (vR 7 l1)), (2, (vI l2))], [(vR 7 l1)], R, M, 174)) (cs := [¬ (r_3 = 0)]) (by rfl) ⟨c_5, trivial⟩ (Nat.le_refl _) ?_
      refine XR.pick [1, 2, 3, 0] (ls' := [(0, (vR 6 l0)), (1, (vR 7 l1)), (2, (vI l2)), (3, (vI s0))]) rfl ?_
      exact o_N_readWay_J27  h
  · skip
    refine s_N_readWay [(17, .ifCond .ne 10, 0, 27)] (by decide +kernel) (z' := (27, [(3, (vI s0)), (0, (vR 6 l0)), (1, (vR 7 l1)), (2, (vI l2))], [(vR 7 l1)], R, M, 174)) (cs := [s0 ≠ 0]) (by rfl) ⟨c_2, trivial⟩ (Nat.le_refl _) ?_
    refine XR.pick [1, 2, 3, 0] (ls' := [(0, (vR 6 l0)), (1, (vR 7 l1)), (2, (vI l2)), (3, (vI s0))]) rfl ?_
    exact o_N_readWay_J27  h
set_option maxRecDepth 100000 in
set_option maxHeartbeats 4000000 in
theorem o_N_readWay {sc : List Int} {R : xR} {M : xM} {l0 : Nat} {l1 : Nat} {l2 : Int} {out : Int × xM} (h : f_N_readWay R l0 l1 l2 M = some out) : XR false 7 174 sc y_N_readWay (0, [(0, (vR 6 l0)), (1, (vR 7 l1)), (2, (vI l2))], [], R, M, 174) ((some (vI out.1)), R, out.2) := by
  unfold f_N_readWay at h
  refine s_N_readWay [(0, .aload_n 1, 0, 0), (1, .getfield 59, 7, 9), (4, .bipush 14, 0, 14)] (by decide +kernel) (z' := (6, [(0, (vR 6 l0)), (1, (vR 7 l1)), (2, (vI l2))], [(vI 14), (vI (M l1 9))], R, M, 174)) (cs := []) (by rfl) trivial (Nat.le_refl _) ?_
  rcases xif_ex h with ⟨c_1, h⟩ | ⟨c_1, h⟩
  · skip
    refine s_N_readWay [(6, .if_icmp .ne 7, 0, (-1)), (9, .iconst 1, 0, 1), (10, .goto 4, 0, 14)] (by decide +kernel) (z' := (14, [(0, (vR 6 l0)), (1, (vR 7 l1)), (2, (vI l2))], [(vI 1)], R, M, 174)) (cs := [¬ (M l1 9 ≠ 14)]) (by rfl) ⟨fun q => q c_1, trivial⟩ (Nat.le_refl _) ?_
    exact o_N_readWay_J14  h
  · skip
    refine s_N_readWay [(6, .if_icmp .ne 7, 0, 13), (13, .iconst 0, 0, 0)] (by decide +kernel) (z' := (14, [(0, (vR 6 l0)), (1, (vR 7 l1)), (2, (vI l2))], [(vI 0)], R, M, 174)) (cs := [M l1 9 ≠ 14]) (by rfl) ⟨c_1, trivial⟩ (Nat.le_refl _) ?_
    exact o_N_readWay_J14  h
set_option maxRecDepth 100000 in
set_option maxHeartbeats 4000000 in
theorem c_N_readWay {sc : List Int} {R : xR} {M : xM} {l0 : Nat} {l1 : Nat} {l2 : Int} {out : Int × xM} (h : f_N_readWay R l0 l1 l2 M = some out) : XC false 7 sc y_N_readWay [(vR 6 l0), (vR 7 l1), (vI l2)] R M 174 174 ((some (vI out.1)), R, out.2) := XC.of (by decide) (Nat.le_of_ble_eq_true rfl) (Nat.le_refl _) (Nat.le_refl _) (o_N_readWay h)
def N_readJoin_F93 (R : xR) (l0 : Nat) (l1 : Nat) (q130 : Int → Int → xM → Option (Int × xM)) : Nat → Int → Int → Int → xM → Option (Int × xM)
  | 0, _, _, _, _ => none
  | n + 1, v2, v3, v4, M =>
    if v3 = 0 then
      q130 v2 v3 M
    else
      xb1 (f_A_isSign l1 44 M) fun r_25 =>
      if r_25 = 0 then
        q130 v2 v3 M
      else
        if v4 < 8 then
          xb1 (f_A_advance R l1 M) fun M_29 =>
          xb2 (f_N_readWay R l0 l1 v2 M_29) fun r_31 M_32 =>
          xl (w32 (v4 + 1)) fun v4_34 =>
          N_readJoin_F93 R l0 l1 q130 n v2 r_31 v4_34 M_32
        else
          q130 v2 v3 M
def N_readJoin_J130 (R : xR) (l0 : Nat) (l1 : Nat) (v2 : Int) (v3 : Int) (M : xM) : Option (Int × xM) :=
  if v3 = 0 then
    some (0, M)
  else
    xb2 (f_N_endJoin R l0 l1 v2 M) fun r_39 M_40 =>
    if r_39 = 0 then
      some (0, M_40)
    else
      some (1, M_40)
def N_readJoin_J89 (R : xR) (l0 : Nat) (l1 : Nat) (v2 : Int) (s0 : Int) (M : xM) : Option (Int × xM) :=
  N_readJoin_F93 R l0 l1
    (fun (v2_35 : Int) (v3_36 : Int) (M_37 : xM) =>
      N_readJoin_J130 R l0 l1 v2_35 v3_36 M_37)
    xfu v2 s0 0 M
def f_N_readJoin (R : xR) (l0 : Nat) (l1 : Nat) (M : xM) : Option (Int × xM) :=
  xb1 (f_A_isName l1 M) fun r_1 =>
  xb2 (f_A_stands l1 r_1 M) fun r_3 M_4 =>
  if r_3 = 0 then
    some (0, M_4)
  else
    xb1 (f_N_cleanerNamed R l0 (M_4 l1 8) M_4) fun r_7 =>
    if r_7 = -1 then
      xb2 (f_A_wrong l1 3 M_4) fun r_10 M_11 =>
      xch (r_10 = 0 ∨ r_10 = 1) <|
      some (r_10, M_11)
    else
      xch (0 ≤ r_7 ∧ r_7 < 8) <|
      if M_4 (R l0 8) (Int.toNat r_7) = 0 then
        xl (xu M_4 (R l0 8) (Int.toNat r_7) 1) fun M_16 =>
        xl (xu M_16 (R l0 9) (Int.toNat r_7) 0) fun M_17 =>
        xb1 (f_A_advance R l1 M_17) fun M_18 =>
        xb2 (f_A_takeKey R l1 11 M_18) fun r_20 M_21 =>
        if r_20 = 0 then
          N_readJoin_J89 R l0 l1 r_7 0 M_21
        else
          xb2 (f_N_readWay R l0 l1 r_7 M_21) fun r_43 M_44 =>
          if r_43 = 0 then
            N_readJoin_J89 R l0 l1 r_7 0 M_44
          else
            N_readJoin_J89 R l0 l1 r_7 1 M_44
      else
        xb2 (f_A_wrong l1 5 M_4) fun r_47 M_48 =>
        xch (r_47 = 0 ∨ r_47 = 1) <|
        some (r_47, M_48)
set_option maxRecDepth 100000 in
set_option maxHeartbeats 4000000 in
theorem s_N_readJoin {d : Nat} {sc : List Int} {z z' : xS} {out : xO} (qs : List xI) {cs : List Prop} (hq : qs.all (xqb 6 false y_N_readJoin.2.2.1 y_N_readJoin.2.1) = true) (h : xN false sc qs z = some (z', cs)) (hc : xAll cs) (hE : z'.2.2.2.2.2 ≤ 174) (k : XR false d 174 sc y_N_readJoin z' out) : XR false d 174 sc y_N_readJoin z out := XR.seg 6 false rfl (fun q => by cases q) qs hq h hc hE k
set_option maxRecDepth 100000 in
set_option maxHeartbeats 4000000 in
theorem o_N_readJoin_F93 {sc : List Int} {R : xR}   {l0 : Nat} {l1 : Nat}  {q130 : Int → Int → xM → Option (Int × xM)} (hq130 : ∀ (w2 : Int) (w3 : Int) (M : xM) (out : Int × xM), q130 w2 w3 M = some out → XR false 8 174 sc y_N_readJoin (130, [(0, (vR 6 l0)), (1, (vR 7 l1)), (2, (vI w2)), (3, (vI w3))], [], R, M, 174) ((some (vI out.1)), R, out.2)) : ∀ (n : Nat) (v2 : Int) (v3 : Int) (v4 : Int) (M : xM) (out : Int × xM), N_readJoin_F93 R l0 l1 q130 n v2 v3 v4 M = some out → XR false 8 174 sc y_N_readJoin (93, [(0, (vR 6 l0)), (1, (vR 7 l1)), (2, (vI v2)), (3, (vI v3)), (4, (vI v4))], [], R, M, 174) ((some (vI out.1)), R, out.2) := by
  intro n
  induction n with
  | zero => intro v2 v3 v4 M out h; exact (xno h).elim
  | succ n ih =>
    intro v2 v3 v4 M out h
    rw [N_readJoin_F93] at h
    refine s_N_readJoin [(93, .iload_n 3, 0, 0)] (by decide +kernel) (z' := (94, [(0, (vR 6 l0)), (1, (vR 7 l1)), (2, (vI v2)), (3, (vI v3)), (4, (vI v4))], [(vI v3)], R, M, 174)) (cs := []) (by rfl) trivial (Nat.le_refl _) ?_
    rcases xif_ex h with ⟨c_24, h⟩ | ⟨c_24, h⟩
    · skip
      refine s_N_readJoin [(94, .ifCond .eq 36, 0, 130)] (by decide +kernel) (z' := (130, [(0, (vR 6 l0)), (1, (vR 7 l1)), (2, (vI v2)), (3, (vI v3)), (4, (vI v4))], [], R, M, 174)) (cs := [v3 = 0]) (by rfl) ⟨c_24, trivial⟩ (Nat.le_refl _) ?_
      refine XR.pick [0, 1, 2, 3] (ls' := [(0, (vR 6 l0)), (1, (vR 7 l1)), (2, (vI v2)), (3, (vI v3))]) rfl ?_
      exact hq130 v2 v3 M _ h
    · skip
      refine s_N_readJoin [(94, .ifCond .eq 36, 0, (-1)), (97, .aload_n 1, 0, 0), (98, .bipush 44, 0, 44)] (by decide +kernel) (z' := (100, [(0, (vR 6 l0)), (1, (vR 7 l1)), (2, (vI v2)), (3, (vI v3)), (4, (vI v4))], [(vI 44), (vR 7 l1)], R, M, 174)) (cs := [¬ (v3 = 0)]) (by rfl) ⟨c_24, trivial⟩ (Nat.le_refl _) ?_
      obtain ⟨r_25, e_26, h⟩ := xb1_ex h
      refine XR.callV 6 rfl (rest := []) m_A_isSign k_6_135 7 l1 (Or.inl ⟨by decide, rfl⟩) [(vI 44)] rfl rfl (c_A_isSign e_26) (by decide) (Nat.le_of_ble_eq_true rfl) (by decide +kernel) (Nat.le_refl _) (Nat.le_refl _) ?_
      show XR false 8 174 sc y_N_readJoin (103, [(0, (vR 6 l0)), (1, (vR 7 l1)), (2, (vI v2)), (3, (vI v3)), (4, (vI v4))], [(vI r_25)], R, M, 174) _
      rcases xif_ex h with ⟨c_27, h⟩ | ⟨c_27, h⟩
      · skip
        refine s_N_readJoin [(103, .ifCond .eq 27, 0, 130)] (by decide +kernel) (z' := (130, [(0, (vR 6 l0)), (1, (vR 7 l1)), (2, (vI v2)), (3, (vI v3)), (4, (vI v4))], [], R, M, 174)) (cs := [r_25 = 0]) (by rfl) ⟨c_27, trivial⟩ (Nat.le_refl _) ?_
        refine XR.pick [0, 1, 2, 3] (ls' := [(0, (vR 6 l0)), (1, (vR 7 l1)), (2, (vI v2)), (3, (vI v3))]) rfl ?_
        exact hq130 v2 v3 M _ h
      · skip
        refine s_N_readJoin [(103, .ifCond .eq 27, 0, (-1)), (106, .iload 4, 0, 0), (108, .bipush 8, 0, 8)] (by decide +kernel) (z' := (110, [(0, (vR 6 l0)), (1, (vR 7 l1)), (2, (vI v2)), (3, (vI v3)), (4, (vI v4))], [(vI 8), (vI v4)], R, M, 174)) (cs := [¬ (r_25 = 0)]) (by rfl) ⟨c_27, trivial⟩ (Nat.le_refl _) ?_
        rcases xif_ex h with ⟨c_28, h⟩ | ⟨c_28, h⟩
        · skip
          refine s_N_readJoin [(110, .if_icmp .ge 20, 0, (-1)), (113, .aload_n 1, 0, 0)] (by decide +kernel) (z' := (114, [(0, (vR 6 l0)), (1, (vR 7 l1)), (2, (vI v2)), (3, (vI v3)), (4, (vI v4))], [(vR 7 l1)], R, M, 174)) (cs := [¬ (8 ≤ v4)]) (by rfl) ⟨Int.not_le.mpr c_28, trivial⟩ (Nat.le_refl _) ?_
          obtain ⟨M_29, e_30, h⟩ := xb1_ex h
          refine XR.callV 6 rfl (rest := []) m_A_advance k_6_66 7 l1 (Or.inl ⟨by decide, rfl⟩) [] rfl rfl (c_A_advance e_30) (by decide) (Nat.le_of_ble_eq_true rfl) (by decide +kernel) (Nat.le_refl _) (Nat.le_refl _) ?_
          show XR false 8 174 sc y_N_readJoin (117, [(0, (vR 6 l0)), (1, (vR 7 l1)), (2, (vI v2)), (3, (vI v3)), (4, (vI v4))], [], R, M_29, 174) _
          refine s_N_readJoin [(117, .aload_n 0, 0, 0), (118, .aload_n 1, 0, 0), (119, .iload_n 2, 0, 0)] (by decide +kernel) (z' := (120, [(0, (vR 6 l0)), (1, (vR 7 l1)), (2, (vI v2)), (3, (vI v3)), (4, (vI v4))], [(vI v2), (vR 7 l1), (vR 6 l0)], R, M_29, 174)) (cs := []) (by rfl) trivial (Nat.le_refl _) ?_
          obtain ⟨r_31, M_32, e_33, h⟩ := xb2_ex h
          refine XR.callV 6 rfl (rest := []) m_N_readWay k_6_132 6 l0 (Or.inl ⟨by decide, rfl⟩) [(vR 7 l1), (vI v2)] rfl rfl (c_N_readWay e_33) (by decide) (Nat.le_of_ble_eq_true rfl) (by decide +kernel) (Nat.le_refl _) (Nat.le_refl _) ?_
          show XR false 8 174 sc y_N_readJoin (123, [(0, (vR 6 l0)), (1, (vR 7 l1)), (2, (vI v2)), (3, (vI v3)), (4, (vI v4))], [(vI r_31)], R, M_32, 174) _
          obtain ⟨v4_34, hv4_34, h⟩ := xl_ex h
          refine s_N_readJoin [(123, .istore_n 3, 0, 0), (124, .iinc 4 1, 0, 0), (127, .goto (-34), 0, 93)] (by decide +kernel) (z' := (93, [(4, (vI v4_34)), (3, (vI r_31)), (0, (vR 6 l0)), (1, (vR 7 l1)), (2, (vI v2))], [], R, M_32, 174)) (cs := []) (by subst hv4_34; rfl) trivial (Nat.le_refl _) ?_
          refine XR.pick [2, 3, 4, 1, 0] (ls' := [(0, (vR 6 l0)), (1, (vR 7 l1)), (2, (vI v2)), (3, (vI r_31)), (4, (vI v4_34))]) rfl ?_
          exact ih v2 r_31 v4_34 M_32 _ h
        · skip
          refine s_N_readJoin [(110, .if_icmp .ge 20, 0, 130)] (by decide +kernel) (z' := (130, [(0, (vR 6 l0)), (1, (vR 7 l1)), (2, (vI v2)), (3, (vI v3)), (4, (vI v4))], [], R, M, 174)) (cs := [8 ≤ v4]) (by rfl) ⟨Int.not_lt.mp c_28, trivial⟩ (Nat.le_refl _) ?_
          refine XR.pick [0, 1, 2, 3] (ls' := [(0, (vR 6 l0)), (1, (vR 7 l1)), (2, (vI v2)), (3, (vI v3))]) rfl ?_
          exact hq130 v2 v3 M _ h
set_option maxRecDepth 100000 in
set_option maxHeartbeats 4000000 in
theorem o_N_readJoin_J130 {sc : List Int} {R : xR}   {l0 : Nat} {l1 : Nat}  {v2 : Int} {v3 : Int} {M : xM} {out : Int × xM} (h : N_readJoin_J130 R l0 l1  v2 v3 M = some out) : XR false 8 174 sc y_N_readJoin (130, [(0, (vR 6 l0)), (1, (vR 7 l1)), (2, (vI v2)), (3, (vI v3))], [], R, M, 174) ((some (vI out.1)), R, out.2) := by
  unfold N_readJoin_J130 at h
  refine s_N_readJoin [(130, .iload_n 3, 0, 0)] (by decide +kernel) (z' := (131, [(0, (vR 6 l0)), (1, (vR 7 l1)), (2, (vI v2)), (3, (vI v3))], [(vI v3)], R, M, 174)) (cs := []) (by rfl) trivial (Nat.le_refl _) ?_
  rcases xif_ex h with ⟨c_38, h⟩ | ⟨c_38, h⟩
  · skip
    refine s_N_readJoin [(131, .ifCond .eq 16, 0, 147), (147, .iconst 0, 0, 0)] (by decide +kernel) (z' := (148, [(0, (vR 6 l0)), (1, (vR 7 l1)), (2, (vI v2)), (3, (vI v3))], [(vI 0)], R, M, 174)) (cs := [v3 = 0]) (by rfl) ⟨c_38, trivial⟩ (Nat.le_refl _) ?_
    obtain rfl := Option.some.inj h
    exact XR.retI .boolean rfl (xnar_z (by decide)) (by decide +kernel)
  · skip
    refine s_N_readJoin [(131, .ifCond .eq 16, 0, (-1)), (134, .aload_n 0, 0, 0), (135, .aload_n 1, 0, 0), (136, .iload_n 2, 0, 0)] (by decide +kernel) (z' := (137, [(0, (vR 6 l0)), (1, (vR 7 l1)), (2, (vI v2)), (3, (vI v3))], [(vI v2), (vR 7 l1), (vR 6 l0)], R, M, 174)) (cs := [¬ (v3 = 0)]) (by rfl) ⟨c_38, trivial⟩ (Nat.le_refl _) ?_
    obtain ⟨r_39, M_40, e_41, h⟩ := xb2_ex h
    refine XR.callV 6 rfl (rest := []) m_N_endJoin k_6_138 6 l0 (Or.inl ⟨by decide, rfl⟩) [(vR 7 l1), (vI v2)] rfl rfl (c_N_endJoin e_41) (by decide) (Nat.le_of_ble_eq_true rfl) (by decide +kernel) (Nat.le_refl _) (Nat.le_refl _) ?_
    show XR false 8 174 sc y_N_readJoin (140, [(0, (vR 6 l0)), (1, (vR 7 l1)), (2, (vI v2)), (3, (vI v3))], [(vI r_39)], R, M_40, 174) _
    rcases xif_ex h with ⟨c_42, h⟩ | ⟨c_42, h⟩
    · skip
      refine s_N_readJoin [(140, .ifCond .eq 7, 0, 147), (147, .iconst 0, 0, 0)] (by decide +kernel) (z' := (148, [(0, (vR 6 l0)), (1, (vR 7 l1)), (2, (vI v2)), (3, (vI v3))], [(vI 0)], R, M_40, 174)) (cs := [r_39 = 0]) (by rfl) ⟨c_42, trivial⟩ (Nat.le_refl _) ?_
      obtain rfl := Option.some.inj h
      exact XR.retI .boolean rfl (xnar_z (by decide)) (by decide +kernel)
    · skip
      refine s_N_readJoin [(140, .ifCond .eq 7, 0, (-1)), (143, .iconst 1, 0, 1), (144, .goto 4, 0, 148)] (by decide +kernel) (z' := (148, [(0, (vR 6 l0)), (1, (vR 7 l1)), (2, (vI v2)), (3, (vI v3))], [(vI 1)], R, M_40, 174)) (cs := [¬ (r_39 = 0)]) (by rfl) ⟨c_42, trivial⟩ (Nat.le_refl _) ?_
      obtain rfl := Option.some.inj h
      exact XR.retI .boolean rfl (xnar_z (by decide)) (by decide +kernel)
set_option maxRecDepth 100000 in
set_option maxHeartbeats 4000000 in
theorem o_N_readJoin_J89 {sc : List Int} {R : xR}   {l0 : Nat} {l1 : Nat}  {v2 : Int} {s0 : Int} {M : xM} {out : Int × xM} (h : N_readJoin_J89 R l0 l1  v2 s0 M = some out) : XR false 8 174 sc y_N_readJoin (89, [(0, (vR 6 l0)), (1, (vR 7 l1)), (2, (vI v2))], [(vI s0)], R, M, 174) ((some (vI out.1)), R, out.2) := by
  unfold N_readJoin_J89 at h
  refine s_N_readJoin [(89, .istore_n 3, 0, 0), (90, .iconst 0, 0, 0), (91, .istore 4, 0, 0)] (by decide +kernel) (z' := (93, [(4, (vI 0)), (3, (vI s0)), (0, (vR 6 l0)), (1, (vR 7 l1)), (2, (vI v2))], [], R, M, 174)) (cs := []) (by rfl) trivial (Nat.le_refl _) ?_
  refine XR.pick [2, 3, 4, 1, 0] (ls' := [(0, (vR 6 l0)), (1, (vR 7 l1)), (2, (vI v2)), (3, (vI s0)), (4, (vI 0))]) rfl ?_
  refine o_N_readJoin_F93 ?_ xfu v2 s0 0 M _ h
  · intro v2_35 v3_36 M_37 out h
    exact o_N_readJoin_J130  h
set_option maxRecDepth 100000 in
set_option maxHeartbeats 4000000 in
theorem o_N_readJoin {sc : List Int} {R : xR} {M : xM} {l0 : Nat} {l1 : Nat} {out : Int × xM} (h : f_N_readJoin R l0 l1 M = some out) : XR false 8 174 sc y_N_readJoin (0, [(0, (vR 6 l0)), (1, (vR 7 l1))], [], R, M, 174) ((some (vI out.1)), R, out.2) := by
  unfold f_N_readJoin at h
  refine s_N_readJoin [(0, .aload_n 1, 0, 0), (1, .aload_n 1, 0, 0)] (by decide +kernel) (z' := (2, [(0, (vR 6 l0)), (1, (vR 7 l1))], [(vR 7 l1), (vR 7 l1)], R, M, 174)) (cs := []) (by rfl) trivial (Nat.le_refl _) ?_
  obtain ⟨r_1, e_2, h⟩ := xb1_ex h
  refine XR.callV 6 rfl (rest := [(vR 7 l1)]) m_A_isName k_6_102 7 l1 (Or.inl ⟨by decide, rfl⟩) [] rfl rfl (c_A_isName e_2) (by decide) (Nat.le_of_ble_eq_true rfl) (by decide +kernel) (Nat.le_refl _) (Nat.le_refl _) ?_
  show XR false 8 174 sc y_N_readJoin (5, [(0, (vR 6 l0)), (1, (vR 7 l1))], [(vI r_1), (vR 7 l1)], R, M, 174) _
  obtain ⟨r_3, M_4, e_5, h⟩ := xb2_ex h
  refine XR.callV 6 rfl (rest := []) m_A_stands k_6_62 7 l1 (Or.inl ⟨by decide, rfl⟩) [(vI r_1)] rfl rfl (c_A_stands e_5) (by decide) (Nat.le_of_ble_eq_true rfl) (by decide +kernel) (Nat.le_refl _) (Nat.le_refl _) ?_
  show XR false 8 174 sc y_N_readJoin (8, [(0, (vR 6 l0)), (1, (vR 7 l1))], [(vI r_3)], R, M_4, 174) _
  rcases xif_ex h with ⟨c_6, h⟩ | ⟨c_6, h⟩
  · skip
    refine s_N_readJoin [(8, .ifCond .ne 5, 0, (-1)), (11, .iconst 0, 0, 0)] (by decide +kernel) (z' := (12, [(0, (vR 6 l0)), (1, (vR 7 l1))], [(vI 0)], R, M_4, 174)) (cs := [¬ (r_3 ≠ 0)]) (by rfl) ⟨fun q => q c_6, trivial⟩ (Nat.le_refl _) ?_
    obtain rfl := Option.some.inj h
    exact XR.retI .boolean rfl (xnar_z (by decide)) (by decide +kernel)
  · skip
    refine s_N_readJoin [(8, .ifCond .ne 5, 0, 13), (13, .aload_n 0, 0, 0), (14, .aload_n 1, 0, 0), (15, .getfield 84, 7, 8)] (by decide +kernel) (z' := (18, [(0, (vR 6 l0)), (1, (vR 7 l1))], [(vL (M_4 l1 8)), (vR 6 l0)], R, M_4, 174)) (cs := [r_3 ≠ 0]) (by rfl) ⟨c_6, trivial⟩ (Nat.le_refl _) ?_
    obtain ⟨r_7, e_8, h⟩ := xb1_ex h
    refine XR.callV 6 rfl (rest := []) m_N_cleanerNamed k_6_106 6 l0 (Or.inl ⟨by decide, rfl⟩) [(vL (M_4 l1 8))] rfl rfl (c_N_cleanerNamed e_8) (by decide) (Nat.le_of_ble_eq_true rfl) (by decide +kernel) (Nat.le_refl _) (Nat.le_refl _) ?_
    show XR false 8 174 sc y_N_readJoin (21, [(0, (vR 6 l0)), (1, (vR 7 l1))], [(vI r_7)], R, M_4, 174) _
    refine s_N_readJoin [(21, .istore_n 2, 0, 0), (22, .iload_n 2, 0, 0), (23, .iconst (-1), 0, (-1))] (by decide +kernel) (z' := (24, [(2, (vI r_7)), (0, (vR 6 l0)), (1, (vR 7 l1))], [(vI (-1)), (vI r_7)], R, M_4, 174)) (cs := []) (by rfl) trivial (Nat.le_refl _) ?_
    rcases xif_ex h with ⟨c_9, h⟩ | ⟨c_9, h⟩
    · skip
      refine s_N_readJoin [(24, .if_icmp .ne 9, 0, (-1)), (27, .aload_n 1, 0, 0), (28, .iconst 3, 0, 3)] (by decide +kernel) (z' := (29, [(2, (vI r_7)), (0, (vR 6 l0)), (1, (vR 7 l1))], [(vI 3), (vR 7 l1)], R, M_4, 174)) (cs := [¬ (r_7 ≠ -1)]) (by rfl) ⟨fun q => q c_9, trivial⟩ (Nat.le_refl _) ?_
      obtain ⟨r_10, M_11, e_12, h⟩ := xb2_ex h
      refine XR.callV 6 rfl (rest := []) m_A_wrong k_6_114 7 l1 (Or.inl ⟨by decide, rfl⟩) [(vI 3)] rfl rfl (c_A_wrong e_12) (by decide) (Nat.le_of_ble_eq_true rfl) (by decide +kernel) (Nat.le_refl _) (Nat.le_refl _) ?_
      show XR false 8 174 sc y_N_readJoin (32, [(2, (vI r_7)), (0, (vR 6 l0)), (1, (vR 7 l1))], [(vI r_10)], R, M_11, 174) _
      obtain ⟨c_13, h⟩ := xch_ex h
      obtain rfl := Option.some.inj h
      exact XR.retI .boolean rfl (xnar_z c_13) (by decide +kernel)
    · skip
      obtain ⟨c_14, h⟩ := xch_ex h
      refine s_N_readJoin [(24, .if_icmp .ne 9, 0, 33), (33, .aload_n 0, 0, 0), (34, .getfield 38, 6, 8), (37, .iload_n 2, 0, 0), (38, .baload, 3, 0)] (by decide +kernel) (z' := (39, [(2, (vI r_7)), (0, (vR 6 l0)), (1, (vR 7 l1))], [(vI (M_4 (R l0 8) (Int.toNat r_7)))], R, M_4, 174)) (cs := [r_7 ≠ -1, xar 37 3, xidx r_7 (xan 37)]) (by rfl) ⟨c_9, xar_37, xix_37 c_14, trivial⟩ (Nat.le_refl _) ?_
      rcases xif_ex h with ⟨c_15, h⟩ | ⟨c_15, h⟩
      · skip
        obtain ⟨M_16, hM_16, h⟩ := xl_ex h
        obtain ⟨M_17, hM_17, h⟩ := xl_ex h
        refine s_N_readJoin [(39, .ifCond .eq 9, 0, 48), (48, .aload_n 0, 0, 0), (49, .getfield 38, 6, 8), (52, .iload_n 2, 0, 0), (53, .iconst 1, 0, 1), (54, .bastore, 3, 0), (55, .aload_n 0, 0, 0), (56, .getfield 42, 6, 9), (59, .iload_n 2, 0, 0), (60, .iconst 0, 0, 0), (61, .iastore, 0, 0), (62, .aload_n 1, 0, 0)] (by decide +kernel) (z' := (63, [(2, (vI r_7)), (0, (vR 6 l0)), (1, (vR 7 l1))], [(vR 7 l1)], R, M_17, 174)) (cs := [M_4 (R l0 8) (Int.toNat r_7) = 0, xar 37 3, xidx r_7 (xan 37), (1 : Int) = 0 ∨ (1 : Int) = 1, xar 30 0, xidx r_7 (xan 30)]) (by subst hM_16; subst hM_17; rfl) ⟨c_15, xar_37, xix_37 c_14, by decide, xar_30, xix_30 c_14, trivial⟩ (Nat.le_refl _) ?_
        obtain ⟨M_18, e_19, h⟩ := xb1_ex h
        refine XR.callV 6 rfl (rest := []) m_A_advance k_6_66 7 l1 (Or.inl ⟨by decide, rfl⟩) [] rfl rfl (c_A_advance e_19) (by decide) (Nat.le_of_ble_eq_true rfl) (by decide +kernel) (Nat.le_refl _) (Nat.le_refl _) ?_
        show XR false 8 174 sc y_N_readJoin (66, [(2, (vI r_7)), (0, (vR 6 l0)), (1, (vR 7 l1))], [], R, M_18, 174) _
        refine s_N_readJoin [(66, .aload_n 1, 0, 0), (67, .bipush 11, 0, 11)] (by decide +kernel) (z' := (69, [(2, (vI r_7)), (0, (vR 6 l0)), (1, (vR 7 l1))], [(vI 11), (vR 7 l1)], R, M_18, 174)) (cs := []) (by rfl) trivial (Nat.le_refl _) ?_
        obtain ⟨r_20, M_21, e_22, h⟩ := xb2_ex h
        refine XR.callV 6 rfl (rest := []) m_A_takeKey k_6_118 7 l1 (Or.inl ⟨by decide, rfl⟩) [(vI 11)] rfl rfl (c_A_takeKey e_22) (by decide) (Nat.le_of_ble_eq_true rfl) (by decide +kernel) (Nat.le_refl _) (Nat.le_refl _) ?_
        show XR false 8 174 sc y_N_readJoin (72, [(2, (vI r_7)), (0, (vR 6 l0)), (1, (vR 7 l1))], [(vI r_20)], R, M_21, 174) _
        rcases xif_ex h with ⟨c_23, h⟩ | ⟨c_23, h⟩
        · skip
          refine s_N_readJoin [(72, .ifCond .eq 16, 0, 88), (88, .iconst 0, 0, 0)] (by decide +kernel) (z' := (89, [(2, (vI r_7)), (0, (vR 6 l0)), (1, (vR 7 l1))], [(vI 0)], R, M_21, 174)) (cs := [r_20 = 0]) (by rfl) ⟨c_23, trivial⟩ (Nat.le_refl _) ?_
          refine XR.pick [1, 2, 0] (ls' := [(0, (vR 6 l0)), (1, (vR 7 l1)), (2, (vI r_7))]) rfl ?_
          exact o_N_readJoin_J89  h
        · skip
          refine s_N_readJoin [(72, .ifCond .eq 16, 0, (-1)), (75, .aload_n 0, 0, 0), (76, .aload_n 1, 0, 0), (77, .iload_n 2, 0, 0)] (by decide +kernel) (z' := (78, [(2, (vI r_7)), (0, (vR 6 l0)), (1, (vR 7 l1))], [(vI r_7), (vR 7 l1), (vR 6 l0)], R, M_21, 174)) (cs := [¬ (r_20 = 0)]) (by rfl) ⟨c_23, trivial⟩ (Nat.le_refl _) ?_
          obtain ⟨r_43, M_44, e_45, h⟩ := xb2_ex h
          refine XR.callV 6 rfl (rest := []) m_N_readWay k_6_132 6 l0 (Or.inl ⟨by decide, rfl⟩) [(vR 7 l1), (vI r_7)] rfl rfl (c_N_readWay e_45) (by decide) (Nat.le_of_ble_eq_true rfl) (by decide +kernel) (Nat.le_refl _) (Nat.le_refl _) ?_
          show XR false 8 174 sc y_N_readJoin (81, [(2, (vI r_7)), (0, (vR 6 l0)), (1, (vR 7 l1))], [(vI r_43)], R, M_44, 174) _
          rcases xif_ex h with ⟨c_46, h⟩ | ⟨c_46, h⟩
          · skip
            refine s_N_readJoin [(81, .ifCond .eq 7, 0, 88), (88, .iconst 0, 0, 0)] (by decide +kernel) (z' := (89, [(2, (vI r_7)), (0, (vR 6 l0)), (1, (vR 7 l1))], [(vI 0)], R, M_44, 174)) (cs := [r_43 = 0]) (by rfl) ⟨c_46, trivial⟩ (Nat.le_refl _) ?_
            refine XR.pick [1, 2, 0] (ls' := [(0, (vR 6 l0)), (1, (vR 7 l1)), (2, (vI r_7))]) rfl ?_
            exact o_N_readJoin_J89  h
          · skip
            refine s_N_readJoin [(81, .ifCond .eq 7, 0, (-1)), (84, .iconst 1, 0, 1), (85, .goto 4, 0, 89)] (by decide +kernel) (z' := (89, [(2, (vI r_7)), (0, (vR 6 l0)), (1, (vR 7 l1))], [(vI 1)], R, M_44, 174)) (cs := [¬ (r_43 = 0)]) (by rfl) ⟨c_46, trivial⟩ (Nat.le_refl _) ?_
            refine XR.pick [1, 2, 0] (ls' := [(0, (vR 6 l0)), (1, (vR 7 l1)), (2, (vI r_7))]) rfl ?_
            exact o_N_readJoin_J89  h
      · skip
        refine s_N_readJoin [(39, .ifCond .eq 9, 0, (-1)), (42, .aload_n 1, 0, 0), (43, .iconst 5, 0, 5)] (by decide +kernel) (z' := (44, [(2, (vI r_7)), (0, (vR 6 l0)), (1, (vR 7 l1))], [(vI 5), (vR 7 l1)], R, M_4, 174)) (cs := [¬ (M_4 (R l0 8) (Int.toNat r_7) = 0)]) (by rfl) ⟨c_15, trivial⟩ (Nat.le_refl _) ?_
        obtain ⟨r_47, M_48, e_49, h⟩ := xb2_ex h
        refine XR.callV 6 rfl (rest := []) m_A_wrong k_6_114 7 l1 (Or.inl ⟨by decide, rfl⟩) [(vI 5)] rfl rfl (c_A_wrong e_49) (by decide) (Nat.le_of_ble_eq_true rfl) (by decide +kernel) (Nat.le_refl _) (Nat.le_refl _) ?_
        show XR false 8 174 sc y_N_readJoin (47, [(2, (vI r_7)), (0, (vR 6 l0)), (1, (vR 7 l1))], [(vI r_47)], R, M_48, 174) _
        obtain ⟨c_50, h⟩ := xch_ex h
        obtain rfl := Option.some.inj h
        exact XR.retI .boolean rfl (xnar_z c_50) (by decide +kernel)
set_option maxRecDepth 100000 in
set_option maxHeartbeats 4000000 in
theorem c_N_readJoin {sc : List Int} {R : xR} {M : xM} {l0 : Nat} {l1 : Nat} {out : Int × xM} (h : f_N_readJoin R l0 l1 M = some out) : XC false 8 sc y_N_readJoin [(vR 6 l0), (vR 7 l1)] R M 174 174 ((some (vI out.1)), R, out.2) := XC.of (by decide) (Nat.le_of_ble_eq_true rfl) (Nat.le_refl _) (Nat.le_refl _) (o_N_readJoin h)
def N_readWorks_J15 (R : xR) (l0 : Nat) (l1 : Nat) (s0 : Int) (s1 : Nat) (s2 : Nat) (M : xM) : Option (Int × xM) :=
  xb2 (f_N_isNewName R s2 s1 s0 M) fun r_2 M_3 =>
  if r_2 = 0 then
    some (0, M_3)
  else
    xl (M_3 l0 1) fun v2_6 =>
    xl (xu M_3 l0 1 (w32 ((M_3 l0 1) + 1))) fun M_7 =>
    xch (0 ≤ v2_6 ∧ v2_6 < 4) <|
    xl (xu M_7 (R l0 3) (Int.toNat v2_6) (M_7 l1 8)) fun M_9 =>
    xb1 (f_A_advance R l1 M_9) fun M_10 =>
    xb2 (f_A_takeKey R l1 12 M_10) fun r_12 M_13 =>
    if r_12 = 0 then
      some (0, M_13)
    else
      xb1 (f_A_isName l1 M_13) fun r_16 =>
      xb2 (f_A_stands l1 r_16 M_13) fun r_18 M_19 =>
      if r_18 = 0 then
        some (0, M_19)
      else
        xb1 (f_N_cleanerNamed R l0 (M_19 l1 8) M_19) fun r_22 =>
        if r_22 = -1 then
          xb2 (f_A_wrong l1 3 M_19) fun r_25 M_26 =>
          xch (r_25 = 0 ∨ r_25 = 1) <|
          some (r_25, M_26)
        else
          xl (xu M_19 (R l0 12) (Int.toNat v2_6) r_22) fun M_29 =>
          xb1 (f_A_advance R l1 M_29) fun M_30 =>
          xb2 (f_A_takeSign R l1 59 M_30) fun r_32 M_33 =>
          xch (r_32 = 0 ∨ r_32 = 1) <|
          some (r_32, M_33)
def f_N_readWorks (R : xR) (l0 : Nat) (l1 : Nat) (M : xM) : Option (Int × xM) :=
  if M l0 1 < 4 then
    N_readWorks_J15 R l0 l1 0 l1 l0 M
  else
    N_readWorks_J15 R l0 l1 1 l1 l0 M
set_option maxRecDepth 100000 in
set_option maxHeartbeats 4000000 in
theorem s_N_readWorks {d : Nat} {sc : List Int} {z z' : xS} {out : xO} (qs : List xI) {cs : List Prop} (hq : qs.all (xqb 6 false y_N_readWorks.2.2.1 y_N_readWorks.2.1) = true) (h : xN false sc qs z = some (z', cs)) (hc : xAll cs) (hE : z'.2.2.2.2.2 ≤ 174) (k : XR false d 174 sc y_N_readWorks z' out) : XR false d 174 sc y_N_readWorks z out := XR.seg 6 false rfl (fun q => by cases q) qs hq h hc hE k
set_option maxRecDepth 100000 in
set_option maxHeartbeats 4000000 in
theorem o_N_readWorks_J15 {sc : List Int} {R : xR}   {l0 : Nat} {l1 : Nat}  {s0 : Int} {s1 : Nat} {s2 : Nat} {M : xM} {out : Int × xM} (h : N_readWorks_J15 R l0 l1  s0 s1 s2 M = some out) : XR false 7 174 sc y_N_readWorks (15, [(0, (vR 6 l0)), (1, (vR 7 l1))], [(vI s0), (vR 7 s1), (vR 6 s2)], R, M, 174) ((some (vI out.1)), R, out.2) := by
  unfold N_readWorks_J15 at h
  obtain ⟨r_2, M_3, e_4, h⟩ := xb2_ex h
  refine XR.callV 6 rfl (rest := []) m_N_isNewName k_6_80 6 s2 (Or.inl ⟨by decide, rfl⟩) [(vR 7 s1), (vI s0)] rfl rfl (c_N_isNewName e_4) (by decide) (Nat.le_of_ble_eq_true rfl) (by decide +kernel) (Nat.le_refl _) (Nat.le_refl _) ?_
  show XR false 7 174 sc y_N_readWorks (18, [(0, (vR 6 l0)), (1, (vR 7 l1))], [(vI r_2)], R, M_3, 174) _
  rcases xif_ex h with ⟨c_5, h⟩ | ⟨c_5, h⟩
  · skip
    refine s_N_readWorks [(18, .ifCond .ne 5, 0, (-1)), (21, .iconst 0, 0, 0)] (by decide +kernel) (z' := (22, [(0, (vR 6 l0)), (1, (vR 7 l1))], [(vI 0)], R, M_3, 174)) (cs := [¬ (r_2 ≠ 0)]) (by rfl) ⟨fun q => q c_5, trivial⟩ (Nat.le_refl _) ?_
    obtain rfl := Option.some.inj h
    exact XR.retI .boolean rfl (xnar_z (by decide)) (by decide +kernel)
  · skip
    obtain ⟨v2_6, hv2_6, h⟩ := xl_ex h
    obtain ⟨M_7, hM_7, h⟩ := xl_ex h
    obtain ⟨c_8, h⟩ := xch_ex h
    obtain ⟨M_9, hM_9, h⟩ := xl_ex h
    refine s_N_readWorks [(18, .ifCond .ne 5, 0, 23), (23, .aload_n 0, 0, 0), (24, .getfield 15, 6, 1), (27, .istore_n 2, 0, 0), (28, .aload_n 0, 0, 0), (29, .dup, 0, 0), (30, .getfield 15, 6, 1), (33, .iconst 1, 0, 1), (34, .iadd, 0, 0), (35, .putfield 15, 6, 1), (38, .aload_n 0, 0, 0), (39, .getfield 22, 6, 3), (42, .iload_n 2, 0, 0), (43, .aload_n 1, 0, 0), (44, .getfield 84, 7, 8), (47, .lastore, 0, 0), (48, .aload_n 1, 0, 0)] (by decide +kernel) (z' := (49, [(2, (vI v2_6)), (0, (vR 6 l0)), (1, (vR 7 l1))], [(vR 7 l1)], R, M_9, 174)) (cs := [r_2 ≠ 0, xar 36 1, xidx v2_6 (xan 36)]) (by subst hv2_6; subst hM_7; subst hM_9; rfl) ⟨c_5, xar_36, xix_36 c_8, trivial⟩ (Nat.le_refl _) ?_
    obtain ⟨M_10, e_11, h⟩ := xb1_ex h
    refine XR.callV 6 rfl (rest := []) m_A_advance k_6_66 7 l1 (Or.inl ⟨by decide, rfl⟩) [] rfl rfl (c_A_advance e_11) (by decide) (Nat.le_of_ble_eq_true rfl) (by decide +kernel) (Nat.le_refl _) (Nat.le_refl _) ?_
    show XR false 7 174 sc y_N_readWorks (52, [(2, (vI v2_6)), (0, (vR 6 l0)), (1, (vR 7 l1))], [], R, M_10, 174) _
    refine s_N_readWorks [(52, .aload_n 1, 0, 0), (53, .bipush 12, 0, 12)] (by decide +kernel) (z' := (55, [(2, (vI v2_6)), (0, (vR 6 l0)), (1, (vR 7 l1))], [(vI 12), (vR 7 l1)], R, M_10, 174)) (cs := []) (by rfl) trivial (Nat.le_refl _) ?_
    obtain ⟨r_12, M_13, e_14, h⟩ := xb2_ex h
    refine XR.callV 6 rfl (rest := []) m_A_takeKey k_6_118 7 l1 (Or.inl ⟨by decide, rfl⟩) [(vI 12)] rfl rfl (c_A_takeKey e_14) (by decide) (Nat.le_of_ble_eq_true rfl) (by decide +kernel) (Nat.le_refl _) (Nat.le_refl _) ?_
    show XR false 7 174 sc y_N_readWorks (58, [(2, (vI v2_6)), (0, (vR 6 l0)), (1, (vR 7 l1))], [(vI r_12)], R, M_13, 174) _
    rcases xif_ex h with ⟨c_15, h⟩ | ⟨c_15, h⟩
    · skip
      refine s_N_readWorks [(58, .ifCond .eq 14, 0, 72), (72, .iconst 0, 0, 0)] (by decide +kernel) (z' := (73, [(2, (vI v2_6)), (0, (vR 6 l0)), (1, (vR 7 l1))], [(vI 0)], R, M_13, 174)) (cs := [r_12 = 0]) (by rfl) ⟨c_15, trivial⟩ (Nat.le_refl _) ?_
      obtain rfl := Option.some.inj h
      exact XR.retI .boolean rfl (xnar_z (by decide)) (by decide +kernel)
    · skip
      refine s_N_readWorks [(58, .ifCond .eq 14, 0, (-1)), (61, .aload_n 1, 0, 0), (62, .aload_n 1, 0, 0)] (by decide +kernel) (z' := (63, [(2, (vI v2_6)), (0, (vR 6 l0)), (1, (vR 7 l1))], [(vR 7 l1), (vR 7 l1)], R, M_13, 174)) (cs := [¬ (r_12 = 0)]) (by rfl) ⟨c_15, trivial⟩ (Nat.le_refl _) ?_
      obtain ⟨r_16, e_17, h⟩ := xb1_ex h
      refine XR.callV 6 rfl (rest := [(vR 7 l1)]) m_A_isName k_6_102 7 l1 (Or.inl ⟨by decide, rfl⟩) [] rfl rfl (c_A_isName e_17) (by decide) (Nat.le_of_ble_eq_true rfl) (by decide +kernel) (Nat.le_refl _) (Nat.le_refl _) ?_
      show XR false 7 174 sc y_N_readWorks (66, [(2, (vI v2_6)), (0, (vR 6 l0)), (1, (vR 7 l1))], [(vI r_16), (vR 7 l1)], R, M_13, 174) _
      obtain ⟨r_18, M_19, e_20, h⟩ := xb2_ex h
      refine XR.callV 6 rfl (rest := []) m_A_stands k_6_62 7 l1 (Or.inl ⟨by decide, rfl⟩) [(vI r_16)] rfl rfl (c_A_stands e_20) (by decide) (Nat.le_of_ble_eq_true rfl) (by decide +kernel) (Nat.le_refl _) (Nat.le_refl _) ?_
      show XR false 7 174 sc y_N_readWorks (69, [(2, (vI v2_6)), (0, (vR 6 l0)), (1, (vR 7 l1))], [(vI r_18)], R, M_19, 174) _
      rcases xif_ex h with ⟨c_21, h⟩ | ⟨c_21, h⟩
      · skip
        refine s_N_readWorks [(69, .ifCond .ne 5, 0, (-1)), (72, .iconst 0, 0, 0)] (by decide +kernel) (z' := (73, [(2, (vI v2_6)), (0, (vR 6 l0)), (1, (vR 7 l1))], [(vI 0)], R, M_19, 174)) (cs := [¬ (r_18 ≠ 0)]) (by rfl) ⟨fun q => q c_21, trivial⟩ (Nat.le_refl _) ?_
        obtain rfl := Option.some.inj h
        exact XR.retI .boolean rfl (xnar_z (by decide)) (by decide +kernel)
      · skip
        refine s_N_readWorks [(69, .ifCond .ne 5, 0, 74), (74, .aload_n 0, 0, 0), (75, .aload_n 1, 0, 0), (76, .getfield 84, 7, 8)] (by decide +kernel) (z' := (79, [(2, (vI v2_6)), (0, (vR 6 l0)), (1, (vR 7 l1))], [(vL (M_19 l1 8)), (vR 6 l0)], R, M_19, 174)) (cs := [r_18 ≠ 0]) (by rfl) ⟨c_21, trivial⟩ (Nat.le_refl _) ?_
        obtain ⟨r_22, e_23, h⟩ := xb1_ex h
        refine XR.callV 6 rfl (rest := []) m_N_cleanerNamed k_6_106 6 l0 (Or.inl ⟨by decide, rfl⟩) [(vL (M_19 l1 8))] rfl rfl (c_N_cleanerNamed e_23) (by decide) (Nat.le_of_ble_eq_true rfl) (by decide +kernel) (Nat.le_refl _) (Nat.le_refl _) ?_
        show XR false 7 174 sc y_N_readWorks (82, [(2, (vI v2_6)), (0, (vR 6 l0)), (1, (vR 7 l1))], [(vI r_22)], R, M_19, 174) _
        refine s_N_readWorks [(82, .istore_n 3, 0, 0), (83, .iload_n 3, 0, 0), (84, .iconst (-1), 0, (-1))] (by decide +kernel) (z' := (85, [(3, (vI r_22)), (2, (vI v2_6)), (0, (vR 6 l0)), (1, (vR 7 l1))], [(vI (-1)), (vI r_22)], R, M_19, 174)) (cs := []) (by rfl) trivial (Nat.le_refl _) ?_
        rcases xif_ex h with ⟨c_24, h⟩ | ⟨c_24, h⟩
        · skip
          refine s_N_readWorks [(85, .if_icmp .ne 9, 0, (-1)), (88, .aload_n 1, 0, 0), (89, .iconst 3, 0, 3)] (by decide +kernel) (z' := (90, [(3, (vI r_22)), (2, (vI v2_6)), (0, (vR 6 l0)), (1, (vR 7 l1))], [(vI 3), (vR 7 l1)], R, M_19, 174)) (cs := [¬ (r_22 ≠ -1)]) (by rfl) ⟨fun q => q c_24, trivial⟩ (Nat.le_refl _) ?_
          obtain ⟨r_25, M_26, e_27, h⟩ := xb2_ex h
          refine XR.callV 6 rfl (rest := []) m_A_wrong k_6_114 7 l1 (Or.inl ⟨by decide, rfl⟩) [(vI 3)] rfl rfl (c_A_wrong e_27) (by decide) (Nat.le_of_ble_eq_true rfl) (by decide +kernel) (Nat.le_refl _) (Nat.le_refl _) ?_
          show XR false 7 174 sc y_N_readWorks (93, [(3, (vI r_22)), (2, (vI v2_6)), (0, (vR 6 l0)), (1, (vR 7 l1))], [(vI r_25)], R, M_26, 174) _
          obtain ⟨c_28, h⟩ := xch_ex h
          obtain rfl := Option.some.inj h
          exact XR.retI .boolean rfl (xnar_z c_28) (by decide +kernel)
        · skip
          obtain ⟨M_29, hM_29, h⟩ := xl_ex h
          refine s_N_readWorks [(85, .if_icmp .ne 9, 0, 94), (94, .aload_n 0, 0, 0), (95, .getfield 51, 6, 12), (98, .iload_n 2, 0, 0), (99, .iload_n 3, 0, 0), (100, .iastore, 0, 0), (101, .aload_n 1, 0, 0)] (by decide +kernel) (z' := (102, [(3, (vI r_22)), (2, (vI v2_6)), (0, (vR 6 l0)), (1, (vR 7 l1))], [(vR 7 l1)], R, M_29, 174)) (cs := [r_22 ≠ -1, xar 34 0, xidx v2_6 (xan 34)]) (by subst hM_29; rfl) ⟨c_24, xar_34, xix_34 c_8, trivial⟩ (Nat.le_refl _) ?_
          obtain ⟨M_30, e_31, h⟩ := xb1_ex h
          refine XR.callV 6 rfl (rest := []) m_A_advance k_6_66 7 l1 (Or.inl ⟨by decide, rfl⟩) [] rfl rfl (c_A_advance e_31) (by decide) (Nat.le_of_ble_eq_true rfl) (by decide +kernel) (Nat.le_refl _) (Nat.le_refl _) ?_
          show XR false 7 174 sc y_N_readWorks (105, [(3, (vI r_22)), (2, (vI v2_6)), (0, (vR 6 l0)), (1, (vR 7 l1))], [], R, M_30, 174) _
          refine s_N_readWorks [(105, .aload_n 1, 0, 0), (106, .bipush 59, 0, 59)] (by decide +kernel) (z' := (108, [(3, (vI r_22)), (2, (vI v2_6)), (0, (vR 6 l0)), (1, (vR 7 l1))], [(vI 59), (vR 7 l1)], R, M_30, 174)) (cs := []) (by rfl) trivial (Nat.le_refl _) ?_
          obtain ⟨r_32, M_33, e_34, h⟩ := xb2_ex h
          refine XR.callV 6 rfl (rest := []) m_A_takeSign k_6_98 7 l1 (Or.inl ⟨by decide, rfl⟩) [(vI 59)] rfl rfl (c_A_takeSign e_34) (by decide) (Nat.le_of_ble_eq_true rfl) (by decide +kernel) (Nat.le_refl _) (Nat.le_refl _) ?_
          show XR false 7 174 sc y_N_readWorks (111, [(3, (vI r_22)), (2, (vI v2_6)), (0, (vR 6 l0)), (1, (vR 7 l1))], [(vI r_32)], R, M_33, 174) _
          obtain ⟨c_35, h⟩ := xch_ex h
          obtain rfl := Option.some.inj h
          exact XR.retI .boolean rfl (xnar_z c_35) (by decide +kernel)
set_option maxRecDepth 100000 in
set_option maxHeartbeats 4000000 in
theorem o_N_readWorks {sc : List Int} {R : xR} {M : xM} {l0 : Nat} {l1 : Nat} {out : Int × xM} (h : f_N_readWorks R l0 l1 M = some out) : XR false 7 174 sc y_N_readWorks (0, [(0, (vR 6 l0)), (1, (vR 7 l1))], [], R, M, 174) ((some (vI out.1)), R, out.2) := by
  unfold f_N_readWorks at h
  refine s_N_readWorks [(0, .aload_n 0, 0, 0), (1, .aload_n 1, 0, 0), (2, .aload_n 0, 0, 0), (3, .getfield 15, 6, 1), (6, .iconst 4, 0, 4)] (by decide +kernel) (z' := (7, [(0, (vR 6 l0)), (1, (vR 7 l1))], [(vI 4), (vI (M l0 1)), (vR 7 l1), (vR 6 l0)], R, M, 174)) (cs := []) (by rfl) trivial (Nat.le_refl _) ?_
  rcases xif_ex h with ⟨c_1, h⟩ | ⟨c_1, h⟩
  · skip
    refine s_N_readWorks [(7, .if_icmp .lt 7, 0, 14), (14, .iconst 0, 0, 0)] (by decide +kernel) (z' := (15, [(0, (vR 6 l0)), (1, (vR 7 l1))], [(vI 0), (vR 7 l1), (vR 6 l0)], R, M, 174)) (cs := [M l0 1 < 4]) (by rfl) ⟨c_1, trivial⟩ (Nat.le_refl _) ?_
    exact o_N_readWorks_J15  h
  · skip
    refine s_N_readWorks [(7, .if_icmp .lt 7, 0, (-1)), (10, .iconst 1, 0, 1), (11, .goto 4, 0, 15)] (by decide +kernel) (z' := (15, [(0, (vR 6 l0)), (1, (vR 7 l1))], [(vI 1), (vR 7 l1), (vR 6 l0)], R, M, 174)) (cs := [¬ (M l0 1 < 4)]) (by rfl) ⟨c_1, trivial⟩ (Nat.le_refl _) ?_
    exact o_N_readWorks_J15  h
set_option maxRecDepth 100000 in
set_option maxHeartbeats 4000000 in
theorem c_N_readWorks {sc : List Int} {R : xR} {M : xM} {l0 : Nat} {l1 : Nat} {out : Int × xM} (h : f_N_readWorks R l0 l1 M = some out) : XC false 7 sc y_N_readWorks [(vR 6 l0), (vR 7 l1)] R M 174 174 ((some (vI out.1)), R, out.2) := XC.of (by decide) (Nat.le_of_ble_eq_true rfl) (Nat.le_refl _) (Nat.le_refl _) (o_N_readWorks h)
def N_readFrom_J104 (R : xR) (l0 : Nat) (l1 : Nat) (rc : Int → Int → xM → Option (Int × xM)) (v2 : Int) (v3 : Int) (M : xM) : Option (Int × xM) :=
  xl (w32 (v3 + 1)) fun v3_21 =>
  rc v2 v3_21 M
def N_readFrom_J103 (R : xR) (l0 : Nat) (l1 : Nat) (rc : Int → Int → xM → Option (Int × xM)) (v3 : Int) (s0 : Int) (M : xM) : Option (Int × xM) :=
  N_readFrom_J104 R l0 l1 rc s0 v3 M
def N_readFrom_J55 (R : xR) (l0 : Nat) (l1 : Nat) (rc : Int → Int → xM → Option (Int × xM)) (v3 : Int) (v4 : Int) (s0 : Int) (s1 : Nat) (M : xM) : Option (Int × xM) :=
  xb2 (f_A_stands s1 s0 M) fun r_11 M_12 =>
  if r_11 = 0 then
    some (0, M_12)
  else
    xb1 (f_A_advance R l1 M_12) fun M_15 =>
    if v4 = 4 then
      xb2 (f_N_readJoin R l0 l1 M_15) fun r_18 M_19 =>
      N_readFrom_J104 R l0 l1 rc r_18 v3 M_19
    else
      if v4 = 5 then
        xb2 (f_N_readWorks R l0 l1 M_15) fun r_23 M_24 =>
        N_readFrom_J103 R l0 l1 rc v3 r_23 M_24
      else
        xb2 (f_N_readCleaner R l0 l1 v4 M_15) fun r_26 M_27 =>
        N_readFrom_J103 R l0 l1 rc v3 r_26 M_27
def N_readFrom_J54 (R : xR) (l0 : Nat) (l1 : Nat) (rc : Int → Int → xM → Option (Int × xM)) (v3 : Int) (v4 : Int) (s0 : Nat) (M : xM) : Option (Int × xM) :=
  N_readFrom_J55 R l0 l1 rc v3 v4 0 s0 M
def N_readFrom_F14 (R : xR) (l0 : Nat) (l1 : Nat) : Nat → Int → Int → xM → Option (Int × xM)
  | 0, _, _, _ => none
  | n + 1, v2, v3, M =>
    if v2 = 0 then
      xch (v2 = 0 ∨ v2 = 1) <|
      some (v2, M)
    else
      if M l1 7 = 0 then
        xch (v2 = 0 ∨ v2 = 1) <|
        some (v2, M)
      else
        if 600 < v3 then
          xch (v2 = 0 ∨ v2 = 1) <|
          some (v2, M)
        else
          xl (M l1 9) fun v4_9 =>
          if v4_9 < 0 then
            N_readFrom_J54 R l0 l1 (N_readFrom_F14 R l0 l1  n) v3 v4_9 l1 M
          else
            if 5 < v4_9 then
              N_readFrom_J54 R l0 l1 (N_readFrom_F14 R l0 l1  n) v3 v4_9 l1 M
            else
              N_readFrom_J55 R l0 l1 (N_readFrom_F14 R l0 l1  n) v3 v4_9 1 l1 M
def f_N_readFrom (R : xR) (l0 : Nat) (l1 : Nat) (M : xM) : Option (Int × xM) :=
  xl (xu M l0 0 0) fun M_1 =>
  xl (xu M_1 l0 1 0) fun M_2 =>
  N_readFrom_F14 R l0 l1
    xfu 1 0 M_2
set_option maxRecDepth 100000 in
set_option maxHeartbeats 4000000 in
theorem s_N_readFrom {d : Nat} {sc : List Int} {z z' : xS} {out : xO} (qs : List xI) {cs : List Prop} (hq : qs.all (xqb 6 false y_N_readFrom.2.2.1 y_N_readFrom.2.1) = true) (h : xN false sc qs z = some (z', cs)) (hc : xAll cs) (hE : z'.2.2.2.2.2 ≤ 174) (k : XR false d 174 sc y_N_readFrom z' out) : XR false d 174 sc y_N_readFrom z out := XR.seg 6 false rfl (fun q => by cases q) qs hq h hc hE k
set_option maxRecDepth 100000 in
set_option maxHeartbeats 4000000 in
theorem o_N_readFrom_J104 {sc : List Int} {R : xR}   {l0 : Nat} {l1 : Nat}  {rc : Int → Int → xM → Option (Int × xM)} (hrc : ∀ (w2 : Int) (w3 : Int) (M : xM) (out : Int × xM), rc w2 w3 M = some out → XR false 9 174 sc y_N_readFrom (14, [(0, (vR 6 l0)), (1, (vR 7 l1)), (2, (vI w2)), (3, (vI w3))], [], R, M, 174) ((some (vI out.1)), R, out.2)) {v2 : Int} {v3 : Int} {M : xM} {out : Int × xM} (h : N_readFrom_J104 R l0 l1 rc v2 v3 M = some out) : XR false 9 174 sc y_N_readFrom (104, [(0, (vR 6 l0)), (1, (vR 7 l1)), (2, (vI v2)), (3, (vI v3))], [], R, M, 174) ((some (vI out.1)), R, out.2) := by
  unfold N_readFrom_J104 at h
  obtain ⟨v3_21, hv3_21, h⟩ := xl_ex h
  refine s_N_readFrom [(104, .iinc 3 1, 0, 0), (107, .goto (-93), 0, 14)] (by decide +kernel) (z' := (14, [(3, (vI v3_21)), (0, (vR 6 l0)), (1, (vR 7 l1)), (2, (vI v2))], [], R, M, 174)) (cs := []) (by subst hv3_21; rfl) trivial (Nat.le_refl _) ?_
  refine XR.pick [1, 2, 3, 0] (ls' := [(0, (vR 6 l0)), (1, (vR 7 l1)), (2, (vI v2)), (3, (vI v3_21))]) rfl ?_
  exact hrc v2 v3_21 M _ h
set_option maxRecDepth 100000 in
set_option maxHeartbeats 4000000 in
theorem o_N_readFrom_J103 {sc : List Int} {R : xR}   {l0 : Nat} {l1 : Nat}  {rc : Int → Int → xM → Option (Int × xM)} (hrc : ∀ (w2 : Int) (w3 : Int) (M : xM) (out : Int × xM), rc w2 w3 M = some out → XR false 9 174 sc y_N_readFrom (14, [(0, (vR 6 l0)), (1, (vR 7 l1)), (2, (vI w2)), (3, (vI w3))], [], R, M, 174) ((some (vI out.1)), R, out.2)) {v3 : Int} {s0 : Int} {M : xM} {out : Int × xM} (h : N_readFrom_J103 R l0 l1 rc v3 s0 M = some out) : XR false 9 174 sc y_N_readFrom (103, [(0, (vR 6 l0)), (1, (vR 7 l1)), (3, (vI v3))], [(vI s0)], R, M, 174) ((some (vI out.1)), R, out.2) := by
  unfold N_readFrom_J103 at h
  refine s_N_readFrom [(103, .istore_n 2, 0, 0)] (by decide +kernel) (z' := (104, [(2, (vI s0)), (0, (vR 6 l0)), (1, (vR 7 l1)), (3, (vI v3))], [], R, M, 174)) (cs := []) (by rfl) trivial (Nat.le_refl _) ?_
  refine XR.pick [1, 2, 0, 3] (ls' := [(0, (vR 6 l0)), (1, (vR 7 l1)), (2, (vI s0)), (3, (vI v3))]) rfl ?_
  exact o_N_readFrom_J104 hrc h
set_option maxRecDepth 100000 in
set_option maxHeartbeats 4000000 in
theorem o_N_readFrom_J55 {sc : List Int} {R : xR}   {l0 : Nat} {l1 : Nat}  {rc : Int → Int → xM → Option (Int × xM)} (hrc : ∀ (w2 : Int) (w3 : Int) (M : xM) (out : Int × xM), rc w2 w3 M = some out → XR false 9 174 sc y_N_readFrom (14, [(0, (vR 6 l0)), (1, (vR 7 l1)), (2, (vI w2)), (3, (vI w3))], [], R, M, 174) ((some (vI out.1)), R, out.2)) {v3 : Int} {v4 : Int} {s0 : Int} {s1 : Nat} {M : xM} {out : Int × xM} (h : N_readFrom_J55 R l0 l1 rc v3 v4 s0 s1 M = some out) : XR false 9 174 sc y_N_readFrom (55, [(0, (vR 6 l0)), (1, (vR 7 l1)), (3, (vI v3)), (4, (vI v4))], [(vI s0), (vR 7 s1)], R, M, 174) ((some (vI out.1)), R, out.2) := by
  unfold N_readFrom_J55 at h
  obtain ⟨r_11, M_12, e_13, h⟩ := xb2_ex h
  refine XR.callV 6 rfl (rest := []) m_A_stands k_6_62 7 s1 (Or.inl ⟨by decide, rfl⟩) [(vI s0)] rfl rfl (c_A_stands e_13) (by decide) (Nat.le_of_ble_eq_true rfl) (by decide +kernel) (Nat.le_refl _) (Nat.le_refl _) ?_
  show XR false 9 174 sc y_N_readFrom (58, [(0, (vR 6 l0)), (1, (vR 7 l1)), (3, (vI v3)), (4, (vI v4))], [(vI r_11)], R, M_12, 174) _
  rcases xif_ex h with ⟨c_14, h⟩ | ⟨c_14, h⟩
  · skip
    refine s_N_readFrom [(58, .ifCond .ne 5, 0, (-1)), (61, .iconst 0, 0, 0)] (by decide +kernel) (z' := (62, [(0, (vR 6 l0)), (1, (vR 7 l1)), (3, (vI v3)), (4, (vI v4))], [(vI 0)], R, M_12, 174)) (cs := [¬ (r_11 ≠ 0)]) (by rfl) ⟨fun q => q c_14, trivial⟩ (Nat.le_refl _) ?_
    obtain rfl := Option.some.inj h
    exact XR.retI .boolean rfl (xnar_z (by decide)) (by decide +kernel)
  · skip
    refine s_N_readFrom [(58, .ifCond .ne 5, 0, 63), (63, .aload_n 1, 0, 0)] (by decide +kernel) (z' := (64, [(0, (vR 6 l0)), (1, (vR 7 l1)), (3, (vI v3)), (4, (vI v4))], [(vR 7 l1)], R, M_12, 174)) (cs := [r_11 ≠ 0]) (by rfl) ⟨c_14, trivial⟩ (Nat.le_refl _) ?_
    obtain ⟨M_15, e_16, h⟩ := xb1_ex h
    refine XR.callV 6 rfl (rest := []) m_A_advance k_6_66 7 l1 (Or.inl ⟨by decide, rfl⟩) [] rfl rfl (c_A_advance e_16) (by decide) (Nat.le_of_ble_eq_true rfl) (by decide +kernel) (Nat.le_refl _) (Nat.le_refl _) ?_
    show XR false 9 174 sc y_N_readFrom (67, [(0, (vR 6 l0)), (1, (vR 7 l1)), (3, (vI v3)), (4, (vI v4))], [], R, M_15, 174) _
    refine s_N_readFrom [(67, .iload 4, 0, 0), (69, .iconst 4, 0, 4)] (by decide +kernel) (z' := (70, [(0, (vR 6 l0)), (1, (vR 7 l1)), (3, (vI v3)), (4, (vI v4))], [(vI 4), (vI v4)], R, M_15, 174)) (cs := []) (by rfl) trivial (Nat.le_refl _) ?_
    rcases xif_ex h with ⟨c_17, h⟩ | ⟨c_17, h⟩
    · skip
      refine s_N_readFrom [(70, .if_icmp .ne 12, 0, (-1)), (73, .aload_n 0, 0, 0), (74, .aload_n 1, 0, 0)] (by decide +kernel) (z' := (75, [(0, (vR 6 l0)), (1, (vR 7 l1)), (3, (vI v3)), (4, (vI v4))], [(vR 7 l1), (vR 6 l0)], R, M_15, 174)) (cs := [¬ (v4 ≠ 4)]) (by rfl) ⟨fun q => q c_17, trivial⟩ (Nat.le_refl _) ?_
      obtain ⟨r_18, M_19, e_20, h⟩ := xb2_ex h
      refine XR.callV 6 rfl (rest := []) m_N_readJoin k_6_69 6 l0 (Or.inl ⟨by decide, rfl⟩) [(vR 7 l1)] rfl rfl (c_N_readJoin e_20) (by decide) (Nat.le_of_ble_eq_true rfl) (by decide +kernel) (Nat.le_refl _) (Nat.le_refl _) ?_
      show XR false 9 174 sc y_N_readFrom (78, [(0, (vR 6 l0)), (1, (vR 7 l1)), (3, (vI v3)), (4, (vI v4))], [(vI r_18)], R, M_19, 174) _
      refine s_N_readFrom [(78, .istore_n 2, 0, 0), (79, .goto 25, 0, 104)] (by decide +kernel) (z' := (104, [(2, (vI r_18)), (0, (vR 6 l0)), (1, (vR 7 l1)), (3, (vI v3)), (4, (vI v4))], [], R, M_19, 174)) (cs := []) (by rfl) trivial (Nat.le_refl _) ?_
      refine XR.pick [1, 2, 0, 3] (ls' := [(0, (vR 6 l0)), (1, (vR 7 l1)), (2, (vI r_18)), (3, (vI v3))]) rfl ?_
      exact o_N_readFrom_J104 hrc h
    · skip
      refine s_N_readFrom [(70, .if_icmp .ne 12, 0, 82), (82, .iload 4, 0, 0), (84, .iconst 5, 0, 5)] (by decide +kernel) (z' := (85, [(0, (vR 6 l0)), (1, (vR 7 l1)), (3, (vI v3)), (4, (vI v4))], [(vI 5), (vI v4)], R, M_15, 174)) (cs := [v4 ≠ 4]) (by rfl) ⟨c_17, trivial⟩ (Nat.le_refl _) ?_
      rcases xif_ex h with ⟨c_22, h⟩ | ⟨c_22, h⟩
      · skip
        refine s_N_readFrom [(85, .if_icmp .ne 11, 0, (-1)), (88, .aload_n 0, 0, 0), (89, .aload_n 1, 0, 0)] (by decide +kernel) (z' := (90, [(0, (vR 6 l0)), (1, (vR 7 l1)), (3, (vI v3)), (4, (vI v4))], [(vR 7 l1), (vR 6 l0)], R, M_15, 174)) (cs := [¬ (v4 ≠ 5)]) (by rfl) ⟨fun q => q c_22, trivial⟩ (Nat.le_refl _) ?_
        obtain ⟨r_23, M_24, e_25, h⟩ := xb2_ex h
        refine XR.callV 6 rfl (rest := []) m_N_readWorks k_6_73 6 l0 (Or.inl ⟨by decide, rfl⟩) [(vR 7 l1)] rfl rfl (c_N_readWorks e_25) (by decide) (Nat.le_of_ble_eq_true rfl) (by decide +kernel) (Nat.le_refl _) (Nat.le_refl _) ?_
        show XR false 9 174 sc y_N_readFrom (93, [(0, (vR 6 l0)), (1, (vR 7 l1)), (3, (vI v3)), (4, (vI v4))], [(vI r_23)], R, M_24, 174) _
        refine s_N_readFrom [(93, .goto 10, 0, 103)] (by decide +kernel) (z' := (103, [(0, (vR 6 l0)), (1, (vR 7 l1)), (3, (vI v3)), (4, (vI v4))], [(vI r_23)], R, M_24, 174)) (cs := []) (by rfl) trivial (Nat.le_refl _) ?_
        refine XR.pick [0, 1, 2] (ls' := [(0, (vR 6 l0)), (1, (vR 7 l1)), (3, (vI v3))]) rfl ?_
        exact o_N_readFrom_J103 hrc h
      · skip
        refine s_N_readFrom [(85, .if_icmp .ne 11, 0, 96), (96, .aload_n 0, 0, 0), (97, .aload_n 1, 0, 0), (98, .iload 4, 0, 0)] (by decide +kernel) (z' := (100, [(0, (vR 6 l0)), (1, (vR 7 l1)), (3, (vI v3)), (4, (vI v4))], [(vI v4), (vR 7 l1), (vR 6 l0)], R, M_15, 174)) (cs := [v4 ≠ 5]) (by rfl) ⟨c_22, trivial⟩ (Nat.le_refl _) ?_
        obtain ⟨r_26, M_27, e_28, h⟩ := xb2_ex h
        refine XR.callV 6 rfl (rest := []) m_N_readCleaner k_6_76 6 l0 (Or.inl ⟨by decide, rfl⟩) [(vR 7 l1), (vI v4)] rfl rfl (c_N_readCleaner e_28) (by decide) (Nat.le_of_ble_eq_true rfl) (by decide +kernel) (Nat.le_refl _) (Nat.le_refl _) ?_
        show XR false 9 174 sc y_N_readFrom (103, [(0, (vR 6 l0)), (1, (vR 7 l1)), (3, (vI v3)), (4, (vI v4))], [(vI r_26)], R, M_27, 174) _
        refine XR.pick [0, 1, 2] (ls' := [(0, (vR 6 l0)), (1, (vR 7 l1)), (3, (vI v3))]) rfl ?_
        exact o_N_readFrom_J103 hrc h
set_option maxRecDepth 100000 in
set_option maxHeartbeats 4000000 in
theorem o_N_readFrom_J54 {sc : List Int} {R : xR}   {l0 : Nat} {l1 : Nat}  {rc : Int → Int → xM → Option (Int × xM)} (hrc : ∀ (w2 : Int) (w3 : Int) (M : xM) (out : Int × xM), rc w2 w3 M = some out → XR false 9 174 sc y_N_readFrom (14, [(0, (vR 6 l0)), (1, (vR 7 l1)), (2, (vI w2)), (3, (vI w3))], [], R, M, 174) ((some (vI out.1)), R, out.2)) {v3 : Int} {v4 : Int} {s0 : Nat} {M : xM} {out : Int × xM} (h : N_readFrom_J54 R l0 l1 rc v3 v4 s0 M = some out) : XR false 9 174 sc y_N_readFrom (54, [(0, (vR 6 l0)), (1, (vR 7 l1)), (3, (vI v3)), (4, (vI v4))], [(vR 7 s0)], R, M, 174) ((some (vI out.1)), R, out.2) := by
  unfold N_readFrom_J54 at h
  refine s_N_readFrom [(54, .iconst 0, 0, 0)] (by decide +kernel) (z' := (55, [(0, (vR 6 l0)), (1, (vR 7 l1)), (3, (vI v3)), (4, (vI v4))], [(vI 0), (vR 7 s0)], R, M, 174)) (cs := []) (by rfl) trivial (Nat.le_refl _) ?_
  exact o_N_readFrom_J55 hrc h
set_option maxRecDepth 100000 in
set_option maxHeartbeats 4000000 in
theorem o_N_readFrom_F14 {sc : List Int} {R : xR}   {l0 : Nat} {l1 : Nat}  : ∀ (n : Nat) (v2 : Int) (v3 : Int) (M : xM) (out : Int × xM), N_readFrom_F14 R l0 l1  n v2 v3 M = some out → XR false 9 174 sc y_N_readFrom (14, [(0, (vR 6 l0)), (1, (vR 7 l1)), (2, (vI v2)), (3, (vI v3))], [], R, M, 174) ((some (vI out.1)), R, out.2) := by
  intro n
  induction n with
  | zero => intro v2 v3 M out h; exact (xno h).elim
  | succ n ih =>
    intro v2 v3 M out h
    rw [N_readFrom_F14] at h
    refine s_N_readFrom [(14, .iload_n 2, 0, 0)] (by decide +kernel) (z' := (15, [(0, (vR 6 l0)), (1, (vR 7 l1)), (2, (vI v2)), (3, (vI v3))], [(vI v2)], R, M, 174)) (cs := []) (by rfl) trivial (Nat.le_refl _) ?_
    rcases xif_ex h with ⟨c_3, h⟩ | ⟨c_3, h⟩
    · skip
      obtain ⟨c_4, h⟩ := xch_ex h
      refine s_N_readFrom [(15, .ifCond .eq 95, 0, 110), (110, .iload_n 2, 0, 0)] (by decide +kernel) (z' := (111, [(0, (vR 6 l0)), (1, (vR 7 l1)), (2, (vI v2)), (3, (vI v3))], [(vI v2)], R, M, 174)) (cs := [v2 = 0]) (by rfl) ⟨c_3, trivial⟩ (Nat.le_refl _) ?_
      obtain rfl := Option.some.inj h
      exact XR.retI .boolean rfl (xnar_z c_4) (by decide +kernel)
    · skip
      refine s_N_readFrom [(15, .ifCond .eq 95, 0, (-1)), (18, .aload_n 1, 0, 0), (19, .getfield 54, 7, 7)] (by decide +kernel) (z' := (22, [(0, (vR 6 l0)), (1, (vR 7 l1)), (2, (vI v2)), (3, (vI v3))], [(vI (M l1 7))], R, M, 174)) (cs := [¬ (v2 = 0)]) (by rfl) ⟨c_3, trivial⟩ (Nat.le_refl _) ?_
      rcases xif_ex h with ⟨c_5, h⟩ | ⟨c_5, h⟩
      · skip
        obtain ⟨c_6, h⟩ := xch_ex h
        refine s_N_readFrom [(22, .ifCond .eq 88, 0, 110), (110, .iload_n 2, 0, 0)] (by decide +kernel) (z' := (111, [(0, (vR 6 l0)), (1, (vR 7 l1)), (2, (vI v2)), (3, (vI v3))], [(vI v2)], R, M, 174)) (cs := [M l1 7 = 0]) (by rfl) ⟨c_5, trivial⟩ (Nat.le_refl _) ?_
        obtain rfl := Option.some.inj h
        exact XR.retI .boolean rfl (xnar_z c_6) (by decide +kernel)
      · skip
        refine s_N_readFrom [(22, .ifCond .eq 88, 0, (-1)), (25, .iload_n 3, 0, 0), (26, .sipush 600, 0, 600)] (by decide +kernel) (z' := (29, [(0, (vR 6 l0)), (1, (vR 7 l1)), (2, (vI v2)), (3, (vI v3))], [(vI 600), (vI v3)], R, M, 174)) (cs := [¬ (M l1 7 = 0)]) (by rfl) ⟨c_5, trivial⟩ (Nat.le_refl _) ?_
        rcases xif_ex h with ⟨c_7, h⟩ | ⟨c_7, h⟩
        · skip
          obtain ⟨c_8, h⟩ := xch_ex h
          refine s_N_readFrom [(29, .if_icmp .gt 81, 0, 110), (110, .iload_n 2, 0, 0)] (by decide +kernel) (z' := (111, [(0, (vR 6 l0)), (1, (vR 7 l1)), (2, (vI v2)), (3, (vI v3))], [(vI v2)], R, M, 174)) (cs := [600 < v3]) (by rfl) ⟨c_7, trivial⟩ (Nat.le_refl _) ?_
          obtain rfl := Option.some.inj h
          exact XR.retI .boolean rfl (xnar_z c_8) (by decide +kernel)
        · skip
          obtain ⟨v4_9, hv4_9, h⟩ := xl_ex h
          refine s_N_readFrom [(29, .if_icmp .gt 81, 0, (-1)), (32, .aload_n 1, 0, 0), (33, .getfield 59, 7, 9), (36, .istore 4, 0, 0), (38, .aload_n 1, 0, 0), (39, .iload 4, 0, 0)] (by decide +kernel) (z' := (41, [(4, (vI v4_9)), (0, (vR 6 l0)), (1, (vR 7 l1)), (2, (vI v2)), (3, (vI v3))], [(vI v4_9), (vR 7 l1)], R, M, 174)) (cs := [¬ (600 < v3)]) (by subst hv4_9; rfl) ⟨c_7, trivial⟩ (Nat.le_refl _) ?_
          rcases xif_ex h with ⟨c_10, h⟩ | ⟨c_10, h⟩
          · skip
            refine s_N_readFrom [(41, .ifCond .lt 13, 0, 54)] (by decide +kernel) (z' := (54, [(4, (vI v4_9)), (0, (vR 6 l0)), (1, (vR 7 l1)), (2, (vI v2)), (3, (vI v3))], [(vR 7 l1)], R, M, 174)) (cs := [v4_9 < 0]) (by rfl) ⟨c_10, trivial⟩ (Nat.le_refl _) ?_
            refine XR.pick [1, 2, 4, 0] (ls' := [(0, (vR 6 l0)), (1, (vR 7 l1)), (3, (vI v3)), (4, (vI v4_9))]) rfl ?_
            exact o_N_readFrom_J54 ih h
          · skip
            refine s_N_readFrom [(41, .ifCond .lt 13, 0, (-1)), (44, .iload 4, 0, 0), (46, .iconst 5, 0, 5)] (by decide +kernel) (z' := (47, [(4, (vI v4_9)), (0, (vR 6 l0)), (1, (vR 7 l1)), (2, (vI v2)), (3, (vI v3))], [(vI 5), (vI v4_9), (vR 7 l1)], R, M, 174)) (cs := [¬ (v4_9 < 0)]) (by rfl) ⟨c_10, trivial⟩ (Nat.le_refl _) ?_
            rcases xif_ex h with ⟨c_29, h⟩ | ⟨c_29, h⟩
            · skip
              refine s_N_readFrom [(47, .if_icmp .gt 7, 0, 54)] (by decide +kernel) (z' := (54, [(4, (vI v4_9)), (0, (vR 6 l0)), (1, (vR 7 l1)), (2, (vI v2)), (3, (vI v3))], [(vR 7 l1)], R, M, 174)) (cs := [5 < v4_9]) (by rfl) ⟨c_29, trivial⟩ (Nat.le_refl _) ?_
              refine XR.pick [1, 2, 4, 0] (ls' := [(0, (vR 6 l0)), (1, (vR 7 l1)), (3, (vI v3)), (4, (vI v4_9))]) rfl ?_
              exact o_N_readFrom_J54 ih h
            · skip
              refine s_N_readFrom [(47, .if_icmp .gt 7, 0, (-1)), (50, .iconst 1, 0, 1), (51, .goto 4, 0, 55)] (by decide +kernel) (z' := (55, [(4, (vI v4_9)), (0, (vR 6 l0)), (1, (vR 7 l1)), (2, (vI v2)), (3, (vI v3))], [(vI 1), (vR 7 l1)], R, M, 174)) (cs := [¬ (5 < v4_9)]) (by rfl) ⟨c_29, trivial⟩ (Nat.le_refl _) ?_
              refine XR.pick [1, 2, 4, 0] (ls' := [(0, (vR 6 l0)), (1, (vR 7 l1)), (3, (vI v3)), (4, (vI v4_9))]) rfl ?_
              exact o_N_readFrom_J55 ih h
set_option maxRecDepth 100000 in
set_option maxHeartbeats 4000000 in
theorem o_N_readFrom {sc : List Int} {R : xR} {M : xM} {l0 : Nat} {l1 : Nat} {out : Int × xM} (h : f_N_readFrom R l0 l1 M = some out) : XR false 9 174 sc y_N_readFrom (0, [(0, (vR 6 l0)), (1, (vR 7 l1))], [], R, M, 174) ((some (vI out.1)), R, out.2) := by
  unfold f_N_readFrom at h
  obtain ⟨M_1, hM_1, h⟩ := xl_ex h
  obtain ⟨M_2, hM_2, h⟩ := xl_ex h
  refine s_N_readFrom [(0, .aload_n 0, 0, 0), (1, .iconst 0, 0, 0), (2, .putfield 9, 6, 0), (5, .aload_n 0, 0, 0), (6, .iconst 0, 0, 0), (7, .putfield 15, 6, 1), (10, .iconst 1, 0, 1), (11, .istore_n 2, 0, 0), (12, .iconst 0, 0, 0), (13, .istore_n 3, 0, 0)] (by decide +kernel) (z' := (14, [(3, (vI 0)), (2, (vI 1)), (0, (vR 6 l0)), (1, (vR 7 l1))], [], R, M_2, 174)) (cs := []) (by subst hM_1; subst hM_2; rfl) trivial (Nat.le_refl _) ?_
  refine XR.pick [2, 3, 1, 0] (ls' := [(0, (vR 6 l0)), (1, (vR 7 l1)), (2, (vI 1)), (3, (vI 0))]) rfl ?_
  refine o_N_readFrom_F14  xfu 1 0 M_2 _ h
set_option maxRecDepth 100000 in
set_option maxHeartbeats 4000000 in
theorem c_N_readFrom {sc : List Int} {R : xR} {M : xM} {l0 : Nat} {l1 : Nat} {out : Int × xM} (h : f_N_readFrom R l0 l1 M = some out) : XC false 9 sc y_N_readFrom [(vR 6 l0), (vR 7 l1)] R M 174 174 ((some (vI out.1)), R, out.2) := XC.of (by decide) (Nat.le_of_ble_eq_true rfl) (Nat.le_refl _) (Nat.le_refl _) (o_N_readFrom h)
