def M_sum_J242 (R : xR) (l0 : Nat) (rc : Int → Int → xM → Option (Int × xM)) (v1 : Int) (M : xM) : Option (Int × xM) :=
  xch (0 ≤ v1 ∧ v1 < 8) <|
  xl (xu M (R l0 57) (Int.toNat v1) (M l0 11)) fun M_28 =>
  xb1 (f_M_next R l0 M_28) fun M_29 =>
  rc v1 1 M_29
def M_sum_J217 (R : xR) (l0 : Nat) (rc : Int → Int → xM → Option (Int × xM)) (v1 : Int) (v2 : Int) (M : xM) : Option (Int × xM) :=
  xch (0 ≤ v1 ∧ v1 < 8) <|
  xl (xu M (R l0 57) (Int.toNat v1) 0) fun M_14 =>
  xb1 (f_M_isSign l0 43 M_14) fun r_15 =>
  if r_15 = 0 then
    xb1 (f_M_isSign l0 45 M_14) fun r_18 =>
    if r_18 = 0 then
      if v1 = 0 then
        some (1, M_14)
      else
        xb2 (f_M_want R l0 41 M_14) fun r_22 M_23 =>
        if r_22 = 0 then
          some (0, M_23)
        else
          xl (w32 (v1 + (-1))) fun v1_26 =>
          rc v1_26 v2 M_23
    else
      M_sum_J242 R l0 rc v1 M_14
  else
    M_sum_J242 R l0 rc v1 M_14
def M_sum_J164 (R : xR) (l0 : Nat) (rc : Int → Int → xM → Option (Int × xM)) (v1 : Int) (v2 : Int) (M : xM) : Option (Int × xM) :=
  xch (0 ≤ v1 ∧ v1 < 8) <|
  xl (xu M (R l0 58) (Int.toNat v1) 0) fun M_8 =>
  xb1 (f_M_isSign l0 42 M_8) fun r_9 =>
  if r_9 = 0 then
    if M_8 (R l0 57) (Int.toNat v1) = 0 then
      M_sum_J217 R l0 rc v1 v2 M_8
    else
      xb1 (f_M_puts R l0 (M_8 (R l0 57) (Int.toNat v1)) 0 M_8) fun M_31 =>
      M_sum_J217 R l0 rc v1 v2 M_31
  else
    xl (xu M_8 (R l0 58) (Int.toNat v1) 42) fun M_33 =>
    xb1 (f_M_next R l0 M_33) fun M_34 =>
    rc v1 1 M_34
def M_sum_J85 (R : xR) (l0 : Nat) (rc : Int → Int → xM → Option (Int × xM)) (v1 : Int) (s0 : Int) (s1 : Int) (s2 : Nat) (M : xM) : Option (Int × xM) :=
  xb1 (f_M_puts R s2 s1 s0 M) fun M_43 =>
  xb1 (f_M_next R l0 M_43) fun M_45 =>
  rc v1 0 M_45
def M_sum_J69 (R : xR) (l0 : Nat) (rc : Int → Int → xM → Option (Int × xM)) (v1 : Int) (v3 : Int) (s0 : Int) (s1 : Nat) (M : xM) : Option (Int × xM) :=
  if M l0 8 = 3 then
    M_sum_J85 R l0 rc v1 (M l0 11) s0 s1 M
  else
    M_sum_J85 R l0 rc v1 v3 s0 s1 M
def M_sum_J55 (R : xR) (l0 : Nat) (rc : Int → Int → xM → Option (Int × xM)) (v1 : Int) (v3 : Int) (M : xM) : Option (Int × xM) :=
  if M l0 8 = 3 then
    M_sum_J69 R l0 rc v1 v3 0 l0 M
  else
    M_sum_J69 R l0 rc v1 v3 1 l0 M
def M_sum_J97 (R : xR) (l0 : Nat) (rc : Int → Int → xM → Option (Int × xM)) (v1 : Int) (v2 : Int) (M : xM) : Option (Int × xM) :=
  xb1 (f_M_isSign l0 40 M) fun r_48 =>
  if r_48 = 0 then
    xb2 (f_M_fails l0 2 M) fun r_51 M_52 =>
    xch (r_51 = 0 ∨ r_51 = 1) <|
    some (r_51, M_52)
  else
    if v1 = 6 then
      xb2 (f_M_fails l0 5 M) fun r_56 M_57 =>
      xch (r_56 = 0 ∨ r_56 = 1) <|
      some (r_56, M_57)
    else
      xb1 (f_M_next R l0 M) fun M_60 =>
      xl (w32 (v1 + 1)) fun v1_62 =>
      xch (0 ≤ v1_62 ∧ v1_62 < 8) <|
      xl (xu M_60 (R l0 57) (Int.toNat v1_62) 0) fun M_64 =>
      xl (xu M_64 (R l0 58) (Int.toNat v1_62) 0) fun M_65 =>
      rc v1_62 v2 M_65
def M_sum_F18 (R : xR) (l0 : Nat) : Nat → Int → Int → xM → Option (Int × xM)
  | 0, _, _, _ => none
  | n + 1, v1, v2, M =>
    if M l0 15 = 0 then
      if v2 = 0 then
        xch (0 ≤ v1 ∧ v1 < 8) <|
        if M (R l0 58) (Int.toNat v1) = 0 then
          M_sum_J164 R l0 (M_sum_F18 R l0  n) v1 v2 M
        else
          xb1 (f_M_puts R l0 42 0 M) fun M_36 =>
          M_sum_J164 R l0 (M_sum_F18 R l0  n) v1 v2 M_36
      else
        xb1 (f_M_inWords R l0 7 M) fun r_38 =>
        if M l0 8 = 3 then
          M_sum_J55 R l0 (M_sum_F18 R l0  n) v1 r_38 M
        else
          if r_38 < 0 then
            M_sum_J97 R l0 (M_sum_F18 R l0  n) v1 v2 M
          else
            if r_38 < 6 then
              M_sum_J55 R l0 (M_sum_F18 R l0  n) v1 r_38 M
            else
              M_sum_J97 R l0 (M_sum_F18 R l0  n) v1 v2 M
    else
      some (0, M)
def f_M_sum (R : xR) (l0 : Nat) (M : xM) : Option (Int × xM) :=
  xl (xu M (R l0 57) (Int.toNat 0) 0) fun M_1 =>
  xl (xu M_1 (R l0 58) (Int.toNat 0) 0) fun M_2 =>
  M_sum_F18 R l0
    xfu 0 1 M_2
set_option maxRecDepth 100000 in
set_option maxHeartbeats 4000000 in
theorem s_M_sum {d : Nat} {sc : List Int} {z z' : xS} {out : xO} (qs : List xI) {cs : List Prop} (hq : qs.all (xqb 10 false y_M_sum.2.2.1 y_M_sum.2.1) = true) (h : xN false sc qs z = some (z', cs)) (hc : xAll cs) (hE : z'.2.2.2.2.2 ≤ 174) (k : XR false d 174 sc y_M_sum z' out) : XR false d 174 sc y_M_sum z out := XR.seg 10 false rfl (fun q => by cases q) qs hq h hc hE k
set_option maxRecDepth 100000 in
set_option maxHeartbeats 4000000 in
theorem o_M_sum_J242 {sc : List Int} {R : xR}   {l0 : Nat}  {rc : Int → Int → xM → Option (Int × xM)} (hrc : ∀ (w1 : Int) (w2 : Int) (M : xM) (out : Int × xM), rc w1 w2 M = some out → XR false 5 174 sc y_M_sum (18, [(0, (vR 10 l0)), (1, (vI w1)), (2, (vI w2))], [], R, M, 174) ((some (vI out.1)), R, out.2)) {v1 : Int} {M : xM} {out : Int × xM} (h : M_sum_J242 R l0 rc v1 M = some out) : XR false 5 174 sc y_M_sum (242, [(0, (vR 10 l0)), (1, (vI v1))], [], R, M, 174) ((some (vI out.1)), R, out.2) := by
  unfold M_sum_J242 at h
  obtain ⟨c_27, h⟩ := xch_ex h
  obtain ⟨M_28, hM_28, h⟩ := xl_ex h
  refine s_M_sum [(242, .aload_n 0, 0, 0), (243, .getfield 130, 10, 57), (246, .iload_n 1, 0, 0), (247, .aload_n 0, 0, 0), (248, .getfield 287, 10, 11), (251, .iastore, 0, 0), (252, .aload_n 0, 0, 0)] (by decide +kernel) (z' := (253, [(0, (vR 10 l0)), (1, (vI v1))], [(vR 10 l0)], R, M_28, 174)) (cs := [xar 30 0, xidx v1 (xan 30)]) (by subst hM_28; rfl) ⟨xar_30, xix_30 c_27, trivial⟩ (Nat.le_refl _) ?_
  obtain ⟨M_29, e_30, h⟩ := xb1_ex h
  refine XR.callV 10 rfl (rest := []) m_M_next k_10_334 10 l0 (Or.inl ⟨by decide, rfl⟩) [] rfl rfl (c_M_next e_30) (by decide) (Nat.le_of_ble_eq_true rfl) (by decide +kernel) (Nat.le_refl _) (Nat.le_refl _) ?_
  show XR false 5 174 sc y_M_sum (256, [(0, (vR 10 l0)), (1, (vI v1))], [], R, M_29, 174) _
  refine s_M_sum [(256, .iconst 1, 0, 1), (257, .istore_n 2, 0, 0), (258, .goto (-240), 0, 18)] (by decide +kernel) (z' := (18, [(2, (vI 1)), (0, (vR 10 l0)), (1, (vI v1))], [], R, M_29, 174)) (cs := []) (by rfl) trivial (Nat.le_refl _) ?_
  refine XR.pick [1, 2, 0] (ls' := [(0, (vR 10 l0)), (1, (vI v1)), (2, (vI 1))]) rfl ?_
  exact hrc v1 1 M_29 _ h
set_option maxRecDepth 100000 in
set_option maxHeartbeats 4000000 in
theorem o_M_sum_J217 {sc : List Int} {R : xR}   {l0 : Nat}  {rc : Int → Int → xM → Option (Int × xM)} (hrc : ∀ (w1 : Int) (w2 : Int) (M : xM) (out : Int × xM), rc w1 w2 M = some out → XR false 5 174 sc y_M_sum (18, [(0, (vR 10 l0)), (1, (vI w1)), (2, (vI w2))], [], R, M, 174) ((some (vI out.1)), R, out.2)) {v1 : Int} {v2 : Int} {M : xM} {out : Int × xM} (h : M_sum_J217 R l0 rc v1 v2 M = some out) : XR false 5 174 sc y_M_sum (217, [(0, (vR 10 l0)), (1, (vI v1)), (2, (vI v2))], [], R, M, 174) ((some (vI out.1)), R, out.2) := by
  unfold M_sum_J217 at h
  obtain ⟨c_13, h⟩ := xch_ex h
  obtain ⟨M_14, hM_14, h⟩ := xl_ex h
  refine s_M_sum [(217, .aload_n 0, 0, 0), (218, .getfield 130, 10, 57), (221, .iload_n 1, 0, 0), (222, .iconst 0, 0, 0), (223, .iastore, 0, 0), (224, .aload_n 0, 0, 0), (225, .bipush 43, 0, 43)] (by decide +kernel) (z' := (227, [(0, (vR 10 l0)), (1, (vI v1)), (2, (vI v2))], [(vI 43), (vR 10 l0)], R, M_14, 174)) (cs := [xar 30 0, xidx v1 (xan 30)]) (by subst hM_14; rfl) ⟨xar_30, xix_30 c_13, trivial⟩ (Nat.le_refl _) ?_
  obtain ⟨r_15, e_16, h⟩ := xb1_ex h
  refine XR.callV 10 rfl (rest := []) m_M_isSign k_10_337 10 l0 (Or.inl ⟨by decide, rfl⟩) [(vI 43)] rfl rfl (c_M_isSign e_16) (by decide) (Nat.le_of_ble_eq_true rfl) (by decide +kernel) (Nat.le_refl _) (Nat.le_refl _) ?_
  show XR false 5 174 sc y_M_sum (230, [(0, (vR 10 l0)), (1, (vI v1)), (2, (vI v2))], [(vI r_15)], R, M_14, 174) _
  rcases xif_ex h with ⟨c_17, h⟩ | ⟨c_17, h⟩
  · skip
    refine s_M_sum [(230, .ifCond .ne 12, 0, (-1)), (233, .aload_n 0, 0, 0), (234, .bipush 45, 0, 45)] (by decide +kernel) (z' := (236, [(0, (vR 10 l0)), (1, (vI v1)), (2, (vI v2))], [(vI 45), (vR 10 l0)], R, M_14, 174)) (cs := [¬ (r_15 ≠ 0)]) (by rfl) ⟨fun q => q c_17, trivial⟩ (Nat.le_refl _) ?_
    obtain ⟨r_18, e_19, h⟩ := xb1_ex h
    refine XR.callV 10 rfl (rest := []) m_M_isSign k_10_337 10 l0 (Or.inl ⟨by decide, rfl⟩) [(vI 45)] rfl rfl (c_M_isSign e_19) (by decide) (Nat.le_of_ble_eq_true rfl) (by decide +kernel) (Nat.le_refl _) (Nat.le_refl _) ?_
    show XR false 5 174 sc y_M_sum (239, [(0, (vR 10 l0)), (1, (vI v1)), (2, (vI v2))], [(vI r_18)], R, M_14, 174) _
    rcases xif_ex h with ⟨c_20, h⟩ | ⟨c_20, h⟩
    · skip
      refine s_M_sum [(239, .ifCond .eq 22, 0, 261), (261, .iload_n 1, 0, 0)] (by decide +kernel) (z' := (262, [(0, (vR 10 l0)), (1, (vI v1)), (2, (vI v2))], [(vI v1)], R, M_14, 174)) (cs := [r_18 = 0]) (by rfl) ⟨c_20, trivial⟩ (Nat.le_refl _) ?_
      rcases xif_ex h with ⟨c_21, h⟩ | ⟨c_21, h⟩
      · skip
        refine s_M_sum [(262, .ifCond .ne 5, 0, (-1)), (265, .iconst 1, 0, 1)] (by decide +kernel) (z' := (266, [(0, (vR 10 l0)), (1, (vI v1)), (2, (vI v2))], [(vI 1)], R, M_14, 174)) (cs := [¬ (v1 ≠ 0)]) (by rfl) ⟨fun q => q c_21, trivial⟩ (Nat.le_refl _) ?_
        obtain rfl := Option.some.inj h
        exact XR.retI .boolean rfl (xnar_z (by decide)) (by decide +kernel)
      · skip
        refine s_M_sum [(262, .ifCond .ne 5, 0, 267), (267, .aload_n 0, 0, 0), (268, .bipush 41, 0, 41)] (by decide +kernel) (z' := (270, [(0, (vR 10 l0)), (1, (vI v1)), (2, (vI v2))], [(vI 41), (vR 10 l0)], R, M_14, 174)) (cs := [v1 ≠ 0]) (by rfl) ⟨c_21, trivial⟩ (Nat.le_refl _) ?_
        obtain ⟨r_22, M_23, e_24, h⟩ := xb2_ex h
        refine XR.callV 10 rfl (rest := []) m_M_want k_10_366 10 l0 (Or.inl ⟨by decide, rfl⟩) [(vI 41)] rfl rfl (c_M_want e_24) (by decide) (Nat.le_of_ble_eq_true rfl) (by decide +kernel) (Nat.le_refl _) (Nat.le_refl _) ?_
        show XR false 5 174 sc y_M_sum (273, [(0, (vR 10 l0)), (1, (vI v1)), (2, (vI v2))], [(vI r_22)], R, M_23, 174) _
        rcases xif_ex h with ⟨c_25, h⟩ | ⟨c_25, h⟩
        · skip
          refine s_M_sum [(273, .ifCond .ne 5, 0, (-1)), (276, .iconst 0, 0, 0)] (by decide +kernel) (z' := (277, [(0, (vR 10 l0)), (1, (vI v1)), (2, (vI v2))], [(vI 0)], R, M_23, 174)) (cs := [¬ (r_22 ≠ 0)]) (by rfl) ⟨fun q => q c_25, trivial⟩ (Nat.le_refl _) ?_
          obtain rfl := Option.some.inj h
          exact XR.retI .boolean rfl (xnar_z (by decide)) (by decide +kernel)
        · skip
          obtain ⟨v1_26, hv1_26, h⟩ := xl_ex h
          refine s_M_sum [(273, .ifCond .ne 5, 0, 278), (278, .iinc 1 (-1), 0, 0), (281, .goto (-263), 0, 18)] (by decide +kernel) (z' := (18, [(1, (vI v1_26)), (0, (vR 10 l0)), (2, (vI v2))], [], R, M_23, 174)) (cs := [r_22 ≠ 0]) (by subst hv1_26; rfl) ⟨c_25, trivial⟩ (Nat.le_refl _) ?_
          refine XR.pick [1, 0, 2] (ls' := [(0, (vR 10 l0)), (1, (vI v1_26)), (2, (vI v2))]) rfl ?_
          exact hrc v1_26 v2 M_23 _ h
    · skip
      refine s_M_sum [(239, .ifCond .eq 22, 0, (-1))] (by decide +kernel) (z' := (242, [(0, (vR 10 l0)), (1, (vI v1)), (2, (vI v2))], [], R, M_14, 174)) (cs := [¬ (r_18 = 0)]) (by rfl) ⟨c_20, trivial⟩ (Nat.le_refl _) ?_
      refine XR.pick [0, 1] (ls' := [(0, (vR 10 l0)), (1, (vI v1))]) rfl ?_
      exact o_M_sum_J242 hrc h
  · skip
    refine s_M_sum [(230, .ifCond .ne 12, 0, 242)] (by decide +kernel) (z' := (242, [(0, (vR 10 l0)), (1, (vI v1)), (2, (vI v2))], [], R, M_14, 174)) (cs := [r_15 ≠ 0]) (by rfl) ⟨c_17, trivial⟩ (Nat.le_refl _) ?_
    refine XR.pick [0, 1] (ls' := [(0, (vR 10 l0)), (1, (vI v1))]) rfl ?_
    exact o_M_sum_J242 hrc h
set_option maxRecDepth 100000 in
set_option maxHeartbeats 4000000 in
theorem o_M_sum_J164 {sc : List Int} {R : xR}   {l0 : Nat}  {rc : Int → Int → xM → Option (Int × xM)} (hrc : ∀ (w1 : Int) (w2 : Int) (M : xM) (out : Int × xM), rc w1 w2 M = some out → XR false 5 174 sc y_M_sum (18, [(0, (vR 10 l0)), (1, (vI w1)), (2, (vI w2))], [], R, M, 174) ((some (vI out.1)), R, out.2)) {v1 : Int} {v2 : Int} {M : xM} {out : Int × xM} (h : M_sum_J164 R l0 rc v1 v2 M = some out) : XR false 5 174 sc y_M_sum (164, [(0, (vR 10 l0)), (1, (vI v1)), (2, (vI v2))], [], R, M, 174) ((some (vI out.1)), R, out.2) := by
  unfold M_sum_J164 at h
  obtain ⟨c_7, h⟩ := xch_ex h
  obtain ⟨M_8, hM_8, h⟩ := xl_ex h
  refine s_M_sum [(164, .aload_n 0, 0, 0), (165, .getfield 133, 10, 58), (168, .iload_n 1, 0, 0), (169, .iconst 0, 0, 0), (170, .iastore, 0, 0), (171, .aload_n 0, 0, 0), (172, .bipush 42, 0, 42)] (by decide +kernel) (z' := (174, [(0, (vR 10 l0)), (1, (vI v1)), (2, (vI v2))], [(vI 42), (vR 10 l0)], R, M_8, 174)) (cs := [xar 30 0, xidx v1 (xan 30)]) (by subst hM_8; rfl) ⟨xar_30, xix_30 c_7, trivial⟩ (Nat.le_refl _) ?_
  obtain ⟨r_9, e_10, h⟩ := xb1_ex h
  refine XR.callV 10 rfl (rest := []) m_M_isSign k_10_337 10 l0 (Or.inl ⟨by decide, rfl⟩) [(vI 42)] rfl rfl (c_M_isSign e_10) (by decide) (Nat.le_of_ble_eq_true rfl) (by decide +kernel) (Nat.le_refl _) (Nat.le_refl _) ?_
  show XR false 5 174 sc y_M_sum (177, [(0, (vR 10 l0)), (1, (vI v1)), (2, (vI v2))], [(vI r_9)], R, M_8, 174) _
  rcases xif_ex h with ⟨c_11, h⟩ | ⟨c_11, h⟩
  · skip
    refine s_M_sum [(177, .ifCond .eq 20, 0, 197), (197, .aload_n 0, 0, 0), (198, .getfield 130, 10, 57), (201, .iload_n 1, 0, 0), (202, .iaload, 0, 0)] (by decide +kernel) (z' := (203, [(0, (vR 10 l0)), (1, (vI v1)), (2, (vI v2))], [(vI (M_8 (R l0 57) (Int.toNat v1)))], R, M_8, 174)) (cs := [r_9 = 0, xar 30 0, xidx v1 (xan 30)]) (by rfl) ⟨c_11, xar_30, xix_30 c_7, trivial⟩ (Nat.le_refl _) ?_
    rcases xif_ex h with ⟨c_12, h⟩ | ⟨c_12, h⟩
    · skip
      refine s_M_sum [(203, .ifCond .eq 14, 0, 217)] (by decide +kernel) (z' := (217, [(0, (vR 10 l0)), (1, (vI v1)), (2, (vI v2))], [], R, M_8, 174)) (cs := [M_8 (R l0 57) (Int.toNat v1) = 0]) (by rfl) ⟨c_12, trivial⟩ (Nat.le_refl _) ?_
      exact o_M_sum_J217 hrc h
    · skip
      refine s_M_sum [(203, .ifCond .eq 14, 0, (-1)), (206, .aload_n 0, 0, 0), (207, .aload_n 0, 0, 0), (208, .getfield 130, 10, 57), (211, .iload_n 1, 0, 0), (212, .iaload, 0, 0), (213, .iconst 0, 0, 0)] (by decide +kernel) (z' := (214, [(0, (vR 10 l0)), (1, (vI v1)), (2, (vI v2))], [(vI 0), (vI (M_8 (R l0 57) (Int.toNat v1))), (vR 10 l0)], R, M_8, 174)) (cs := [¬ (M_8 (R l0 57) (Int.toNat v1) = 0), xar 30 0, xidx v1 (xan 30)]) (by rfl) ⟨c_12, xar_30, xix_30 c_7, trivial⟩ (Nat.le_refl _) ?_
      obtain ⟨M_31, e_32, h⟩ := xb1_ex h
      refine XR.callV 10 rfl (rest := []) m_M_puts k_10_411 10 l0 (Or.inl ⟨by decide, rfl⟩) [(vI (M_8 (R l0 57) (Int.toNat v1))), (vI 0)] rfl rfl (c_M_puts e_32) (by decide) (Nat.le_of_ble_eq_true rfl) (by decide +kernel) (Nat.le_refl _) (Nat.le_refl _) ?_
      show XR false 5 174 sc y_M_sum (217, [(0, (vR 10 l0)), (1, (vI v1)), (2, (vI v2))], [], R, M_31, 174) _
      exact o_M_sum_J217 hrc h
  · skip
    obtain ⟨M_33, hM_33, h⟩ := xl_ex h
    refine s_M_sum [(177, .ifCond .eq 20, 0, (-1)), (180, .aload_n 0, 0, 0), (181, .getfield 133, 10, 58), (184, .iload_n 1, 0, 0), (185, .bipush 42, 0, 42), (187, .iastore, 0, 0), (188, .aload_n 0, 0, 0)] (by decide +kernel) (z' := (189, [(0, (vR 10 l0)), (1, (vI v1)), (2, (vI v2))], [(vR 10 l0)], R, M_33, 174)) (cs := [¬ (r_9 = 0), xar 30 0, xidx v1 (xan 30)]) (by subst hM_33; rfl) ⟨c_11, xar_30, xix_30 c_7, trivial⟩ (Nat.le_refl _) ?_
    obtain ⟨M_34, e_35, h⟩ := xb1_ex h
    refine XR.callV 10 rfl (rest := []) m_M_next k_10_334 10 l0 (Or.inl ⟨by decide, rfl⟩) [] rfl rfl (c_M_next e_35) (by decide) (Nat.le_of_ble_eq_true rfl) (by decide +kernel) (Nat.le_refl _) (Nat.le_refl _) ?_
    show XR false 5 174 sc y_M_sum (192, [(0, (vR 10 l0)), (1, (vI v1)), (2, (vI v2))], [], R, M_34, 174) _
    refine s_M_sum [(192, .iconst 1, 0, 1), (193, .istore_n 2, 0, 0), (194, .goto (-176), 0, 18)] (by decide +kernel) (z' := (18, [(2, (vI 1)), (0, (vR 10 l0)), (1, (vI v1))], [], R, M_34, 174)) (cs := []) (by rfl) trivial (Nat.le_refl _) ?_
    refine XR.pick [1, 2, 0] (ls' := [(0, (vR 10 l0)), (1, (vI v1)), (2, (vI 1))]) rfl ?_
    exact hrc v1 1 M_34 _ h
set_option maxRecDepth 100000 in
set_option maxHeartbeats 4000000 in
theorem o_M_sum_J85 {sc : List Int} {R : xR}   {l0 : Nat}  {rc : Int → Int → xM → Option (Int × xM)} (hrc : ∀ (w1 : Int) (w2 : Int) (M : xM) (out : Int × xM), rc w1 w2 M = some out → XR false 5 174 sc y_M_sum (18, [(0, (vR 10 l0)), (1, (vI w1)), (2, (vI w2))], [], R, M, 174) ((some (vI out.1)), R, out.2)) {v1 : Int} {s0 : Int} {s1 : Int} {s2 : Nat} {M : xM} {out : Int × xM} (h : M_sum_J85 R l0 rc v1 s0 s1 s2 M = some out) : XR false 5 174 sc y_M_sum (85, [(0, (vR 10 l0)), (1, (vI v1))], [(vI s0), (vI s1), (vR 10 s2)], R, M, 174) ((some (vI out.1)), R, out.2) := by
  unfold M_sum_J85 at h
  obtain ⟨M_43, e_44, h⟩ := xb1_ex h
  refine XR.callV 10 rfl (rest := []) m_M_puts k_10_411 10 s2 (Or.inl ⟨by decide, rfl⟩) [(vI s1), (vI s0)] rfl rfl (c_M_puts e_44) (by decide) (Nat.le_of_ble_eq_true rfl) (by decide +kernel) (Nat.le_refl _) (Nat.le_refl _) ?_
  show XR false 5 174 sc y_M_sum (88, [(0, (vR 10 l0)), (1, (vI v1))], [], R, M_43, 174) _
  refine s_M_sum [(88, .aload_n 0, 0, 0)] (by decide +kernel) (z' := (89, [(0, (vR 10 l0)), (1, (vI v1))], [(vR 10 l0)], R, M_43, 174)) (cs := []) (by rfl) trivial (Nat.le_refl _) ?_
  obtain ⟨M_45, e_46, h⟩ := xb1_ex h
  refine XR.callV 10 rfl (rest := []) m_M_next k_10_334 10 l0 (Or.inl ⟨by decide, rfl⟩) [] rfl rfl (c_M_next e_46) (by decide) (Nat.le_of_ble_eq_true rfl) (by decide +kernel) (Nat.le_refl _) (Nat.le_refl _) ?_
  show XR false 5 174 sc y_M_sum (92, [(0, (vR 10 l0)), (1, (vI v1))], [], R, M_45, 174) _
  refine s_M_sum [(92, .iconst 0, 0, 0), (93, .istore_n 2, 0, 0), (94, .goto (-76), 0, 18)] (by decide +kernel) (z' := (18, [(2, (vI 0)), (0, (vR 10 l0)), (1, (vI v1))], [], R, M_45, 174)) (cs := []) (by rfl) trivial (Nat.le_refl _) ?_
  refine XR.pick [1, 2, 0] (ls' := [(0, (vR 10 l0)), (1, (vI v1)), (2, (vI 0))]) rfl ?_
  exact hrc v1 0 M_45 _ h
set_option maxRecDepth 100000 in
set_option maxHeartbeats 4000000 in
theorem o_M_sum_J69 {sc : List Int} {R : xR}   {l0 : Nat}  {rc : Int → Int → xM → Option (Int × xM)} (hrc : ∀ (w1 : Int) (w2 : Int) (M : xM) (out : Int × xM), rc w1 w2 M = some out → XR false 5 174 sc y_M_sum (18, [(0, (vR 10 l0)), (1, (vI w1)), (2, (vI w2))], [], R, M, 174) ((some (vI out.1)), R, out.2)) {v1 : Int} {v3 : Int} {s0 : Int} {s1 : Nat} {M : xM} {out : Int × xM} (h : M_sum_J69 R l0 rc v1 v3 s0 s1 M = some out) : XR false 5 174 sc y_M_sum (69, [(0, (vR 10 l0)), (1, (vI v1)), (3, (vI v3))], [(vI s0), (vR 10 s1)], R, M, 174) ((some (vI out.1)), R, out.2) := by
  unfold M_sum_J69 at h
  refine s_M_sum [(69, .aload_n 0, 0, 0), (70, .getfield 290, 10, 8), (73, .iconst 3, 0, 3)] (by decide +kernel) (z' := (74, [(0, (vR 10 l0)), (1, (vI v1)), (3, (vI v3))], [(vI 3), (vI (M l0 8)), (vI s0), (vR 10 s1)], R, M, 174)) (cs := []) (by rfl) trivial (Nat.le_refl _) ?_
  rcases xif_ex h with ⟨c_42, h⟩ | ⟨c_42, h⟩
  · skip
    refine s_M_sum [(74, .if_icmp .ne 10, 0, (-1)), (77, .aload_n 0, 0, 0), (78, .getfield 287, 10, 11), (81, .goto 4, 0, 85)] (by decide +kernel) (z' := (85, [(0, (vR 10 l0)), (1, (vI v1)), (3, (vI v3))], [(vI (M l0 11)), (vI s0), (vR 10 s1)], R, M, 174)) (cs := [¬ (M l0 8 ≠ 3)]) (by rfl) ⟨fun q => q c_42, trivial⟩ (Nat.le_refl _) ?_
    refine XR.pick [0, 1] (ls' := [(0, (vR 10 l0)), (1, (vI v1))]) rfl ?_
    exact o_M_sum_J85 hrc h
  · skip
    refine s_M_sum [(74, .if_icmp .ne 10, 0, 84), (84, .iload_n 3, 0, 0)] (by decide +kernel) (z' := (85, [(0, (vR 10 l0)), (1, (vI v1)), (3, (vI v3))], [(vI v3), (vI s0), (vR 10 s1)], R, M, 174)) (cs := [M l0 8 ≠ 3]) (by rfl) ⟨c_42, trivial⟩ (Nat.le_refl _) ?_
    refine XR.pick [0, 1] (ls' := [(0, (vR 10 l0)), (1, (vI v1))]) rfl ?_
    exact o_M_sum_J85 hrc h
set_option maxRecDepth 100000 in
set_option maxHeartbeats 4000000 in
theorem o_M_sum_J55 {sc : List Int} {R : xR}   {l0 : Nat}  {rc : Int → Int → xM → Option (Int × xM)} (hrc : ∀ (w1 : Int) (w2 : Int) (M : xM) (out : Int × xM), rc w1 w2 M = some out → XR false 5 174 sc y_M_sum (18, [(0, (vR 10 l0)), (1, (vI w1)), (2, (vI w2))], [], R, M, 174) ((some (vI out.1)), R, out.2)) {v1 : Int} {v3 : Int} {M : xM} {out : Int × xM} (h : M_sum_J55 R l0 rc v1 v3 M = some out) : XR false 5 174 sc y_M_sum (55, [(0, (vR 10 l0)), (1, (vI v1)), (3, (vI v3))], [], R, M, 174) ((some (vI out.1)), R, out.2) := by
  unfold M_sum_J55 at h
  refine s_M_sum [(55, .aload_n 0, 0, 0), (56, .aload_n 0, 0, 0), (57, .getfield 290, 10, 8), (60, .iconst 3, 0, 3)] (by decide +kernel) (z' := (61, [(0, (vR 10 l0)), (1, (vI v1)), (3, (vI v3))], [(vI 3), (vI (M l0 8)), (vR 10 l0)], R, M, 174)) (cs := []) (by rfl) trivial (Nat.le_refl _) ?_
  rcases xif_ex h with ⟨c_41, h⟩ | ⟨c_41, h⟩
  · skip
    refine s_M_sum [(61, .if_icmp .ne 7, 0, (-1)), (64, .iconst 0, 0, 0), (65, .goto 4, 0, 69)] (by decide +kernel) (z' := (69, [(0, (vR 10 l0)), (1, (vI v1)), (3, (vI v3))], [(vI 0), (vR 10 l0)], R, M, 174)) (cs := [¬ (M l0 8 ≠ 3)]) (by rfl) ⟨fun q => q c_41, trivial⟩ (Nat.le_refl _) ?_
    exact o_M_sum_J69 hrc h
  · skip
    refine s_M_sum [(61, .if_icmp .ne 7, 0, 68), (68, .iconst 1, 0, 1)] (by decide +kernel) (z' := (69, [(0, (vR 10 l0)), (1, (vI v1)), (3, (vI v3))], [(vI 1), (vR 10 l0)], R, M, 174)) (cs := [M l0 8 ≠ 3]) (by rfl) ⟨c_41, trivial⟩ (Nat.le_refl _) ?_
    exact o_M_sum_J69 hrc h
set_option maxRecDepth 100000 in
set_option maxHeartbeats 4000000 in
theorem o_M_sum_J97 {sc : List Int} {R : xR}   {l0 : Nat}  {rc : Int → Int → xM → Option (Int × xM)} (hrc : ∀ (w1 : Int) (w2 : Int) (M : xM) (out : Int × xM), rc w1 w2 M = some out → XR false 5 174 sc y_M_sum (18, [(0, (vR 10 l0)), (1, (vI w1)), (2, (vI w2))], [], R, M, 174) ((some (vI out.1)), R, out.2)) {v1 : Int} {v2 : Int} {M : xM} {out : Int × xM} (h : M_sum_J97 R l0 rc v1 v2 M = some out) : XR false 5 174 sc y_M_sum (97, [(0, (vR 10 l0)), (1, (vI v1)), (2, (vI v2))], [], R, M, 174) ((some (vI out.1)), R, out.2) := by
  unfold M_sum_J97 at h
  refine s_M_sum [(97, .aload_n 0, 0, 0), (98, .bipush 40, 0, 40)] (by decide +kernel) (z' := (100, [(0, (vR 10 l0)), (1, (vI v1)), (2, (vI v2))], [(vI 40), (vR 10 l0)], R, M, 174)) (cs := []) (by rfl) trivial (Nat.le_refl _) ?_
  obtain ⟨r_48, e_49, h⟩ := xb1_ex h
  refine XR.callV 10 rfl (rest := []) m_M_isSign k_10_337 10 l0 (Or.inl ⟨by decide, rfl⟩) [(vI 40)] rfl rfl (c_M_isSign e_49) (by decide) (Nat.le_of_ble_eq_true rfl) (by decide +kernel) (Nat.le_refl _) (Nat.le_refl _) ?_
  show XR false 5 174 sc y_M_sum (103, [(0, (vR 10 l0)), (1, (vI v1)), (2, (vI v2))], [(vI r_48)], R, M, 174) _
  rcases xif_ex h with ⟨c_50, h⟩ | ⟨c_50, h⟩
  · skip
    refine s_M_sum [(103, .ifCond .ne 9, 0, (-1)), (106, .aload_n 0, 0, 0), (107, .iconst 2, 0, 2)] (by decide +kernel) (z' := (108, [(0, (vR 10 l0)), (1, (vI v1)), (2, (vI v2))], [(vI 2), (vR 10 l0)], R, M, 174)) (cs := [¬ (r_48 ≠ 0)]) (by rfl) ⟨fun q => q c_50, trivial⟩ (Nat.le_refl _) ?_
    obtain ⟨r_51, M_52, e_53, h⟩ := xb2_ex h
    refine XR.callV 10 rfl (rest := []) m_M_fails k_10_331 10 l0 (Or.inl ⟨by decide, rfl⟩) [(vI 2)] rfl rfl (c_M_fails e_53) (by decide) (Nat.le_of_ble_eq_true rfl) (by decide +kernel) (Nat.le_refl _) (Nat.le_refl _) ?_
    show XR false 5 174 sc y_M_sum (111, [(0, (vR 10 l0)), (1, (vI v1)), (2, (vI v2))], [(vI r_51)], R, M_52, 174) _
    obtain ⟨c_54, h⟩ := xch_ex h
    obtain rfl := Option.some.inj h
    exact XR.retI .boolean rfl (xnar_z c_54) (by decide +kernel)
  · skip
    refine s_M_sum [(103, .ifCond .ne 9, 0, 112), (112, .iload_n 1, 0, 0), (113, .bipush 6, 0, 6)] (by decide +kernel) (z' := (115, [(0, (vR 10 l0)), (1, (vI v1)), (2, (vI v2))], [(vI 6), (vI v1)], R, M, 174)) (cs := [r_48 ≠ 0]) (by rfl) ⟨c_50, trivial⟩ (Nat.le_refl _) ?_
    rcases xif_ex h with ⟨c_55, h⟩ | ⟨c_55, h⟩
    · skip
      refine s_M_sum [(115, .if_icmp .ne 9, 0, (-1)), (118, .aload_n 0, 0, 0), (119, .iconst 5, 0, 5)] (by decide +kernel) (z' := (120, [(0, (vR 10 l0)), (1, (vI v1)), (2, (vI v2))], [(vI 5), (vR 10 l0)], R, M, 174)) (cs := [¬ (v1 ≠ 6)]) (by rfl) ⟨fun q => q c_55, trivial⟩ (Nat.le_refl _) ?_
      obtain ⟨r_56, M_57, e_58, h⟩ := xb2_ex h
      refine XR.callV 10 rfl (rest := []) m_M_fails k_10_331 10 l0 (Or.inl ⟨by decide, rfl⟩) [(vI 5)] rfl rfl (c_M_fails e_58) (by decide) (Nat.le_of_ble_eq_true rfl) (by decide +kernel) (Nat.le_refl _) (Nat.le_refl _) ?_
      show XR false 5 174 sc y_M_sum (123, [(0, (vR 10 l0)), (1, (vI v1)), (2, (vI v2))], [(vI r_56)], R, M_57, 174) _
      obtain ⟨c_59, h⟩ := xch_ex h
      obtain rfl := Option.some.inj h
      exact XR.retI .boolean rfl (xnar_z c_59) (by decide +kernel)
    · skip
      refine s_M_sum [(115, .if_icmp .ne 9, 0, 124), (124, .aload_n 0, 0, 0)] (by decide +kernel) (z' := (125, [(0, (vR 10 l0)), (1, (vI v1)), (2, (vI v2))], [(vR 10 l0)], R, M, 174)) (cs := [v1 ≠ 6]) (by rfl) ⟨c_55, trivial⟩ (Nat.le_refl _) ?_
      obtain ⟨M_60, e_61, h⟩ := xb1_ex h
      refine XR.callV 10 rfl (rest := []) m_M_next k_10_334 10 l0 (Or.inl ⟨by decide, rfl⟩) [] rfl rfl (c_M_next e_61) (by decide) (Nat.le_of_ble_eq_true rfl) (by decide +kernel) (Nat.le_refl _) (Nat.le_refl _) ?_
      show XR false 5 174 sc y_M_sum (128, [(0, (vR 10 l0)), (1, (vI v1)), (2, (vI v2))], [], R, M_60, 174) _
      obtain ⟨v1_62, hv1_62, h⟩ := xl_ex h
      obtain ⟨c_63, h⟩ := xch_ex h
      obtain ⟨M_64, hM_64, h⟩ := xl_ex h
      obtain ⟨M_65, hM_65, h⟩ := xl_ex h
      refine s_M_sum [(128, .iinc 1 1, 0, 0), (131, .aload_n 0, 0, 0), (132, .getfield 130, 10, 57), (135, .iload_n 1, 0, 0), (136, .iconst 0, 0, 0), (137, .iastore, 0, 0), (138, .aload_n 0, 0, 0), (139, .getfield 133, 10, 58), (142, .iload_n 1, 0, 0), (143, .iconst 0, 0, 0), (144, .iastore, 0, 0), (145, .goto (-127), 0, 18)] (by decide +kernel) (z' := (18, [(1, (vI v1_62)), (0, (vR 10 l0)), (2, (vI v2))], [], R, M_65, 174)) (cs := [xar 30 0, xidx v1_62 (xan 30), xar 30 0, xidx v1_62 (xan 30)]) (by subst hv1_62; subst hM_64; subst hM_65; rfl) ⟨xar_30, xix_30 c_63, xar_30, xix_30 c_63, trivial⟩ (Nat.le_refl _) ?_
      refine XR.pick [1, 0, 2] (ls' := [(0, (vR 10 l0)), (1, (vI v1_62)), (2, (vI v2))]) rfl ?_
      exact hrc v1_62 v2 M_65 _ h
set_option maxRecDepth 100000 in
set_option maxHeartbeats 4000000 in
theorem o_M_sum_F18 {sc : List Int} {R : xR}   {l0 : Nat}  : ∀ (n : Nat) (v1 : Int) (v2 : Int) (M : xM) (out : Int × xM), M_sum_F18 R l0  n v1 v2 M = some out → XR false 5 174 sc y_M_sum (18, [(0, (vR 10 l0)), (1, (vI v1)), (2, (vI v2))], [], R, M, 174) ((some (vI out.1)), R, out.2) := by
  intro n
  induction n with
  | zero => intro v1 v2 M out h; exact (xno h).elim
  | succ n ih =>
    intro v1 v2 M out h
    rw [M_sum_F18] at h
    refine s_M_sum [(18, .aload_n 0, 0, 0), (19, .getfield 322, 10, 15)] (by decide +kernel) (z' := (22, [(0, (vR 10 l0)), (1, (vI v1)), (2, (vI v2))], [(vI (M l0 15))], R, M, 174)) (cs := []) (by rfl) trivial (Nat.le_refl _) ?_
    rcases xif_ex h with ⟨c_3, h⟩ | ⟨c_3, h⟩
    · skip
      refine s_M_sum [(22, .ifCond .ne 262, 0, (-1)), (25, .iload_n 2, 0, 0)] (by decide +kernel) (z' := (26, [(0, (vR 10 l0)), (1, (vI v1)), (2, (vI v2))], [(vI v2)], R, M, 174)) (cs := [¬ (M l0 15 ≠ 0)]) (by rfl) ⟨fun q => q c_3, trivial⟩ (Nat.le_refl _) ?_
      rcases xif_ex h with ⟨c_4, h⟩ | ⟨c_4, h⟩
      · skip
        obtain ⟨c_5, h⟩ := xch_ex h
        refine s_M_sum [(26, .ifCond .eq 122, 0, 148), (148, .aload_n 0, 0, 0), (149, .getfield 133, 10, 58), (152, .iload_n 1, 0, 0), (153, .iaload, 0, 0)] (by decide +kernel) (z' := (154, [(0, (vR 10 l0)), (1, (vI v1)), (2, (vI v2))], [(vI (M (R l0 58) (Int.toNat v1)))], R, M, 174)) (cs := [v2 = 0, xar 30 0, xidx v1 (xan 30)]) (by rfl) ⟨c_4, xar_30, xix_30 c_5, trivial⟩ (Nat.le_refl _) ?_
        rcases xif_ex h with ⟨c_6, h⟩ | ⟨c_6, h⟩
        · skip
          refine s_M_sum [(154, .ifCond .eq 10, 0, 164)] (by decide +kernel) (z' := (164, [(0, (vR 10 l0)), (1, (vI v1)), (2, (vI v2))], [], R, M, 174)) (cs := [M (R l0 58) (Int.toNat v1) = 0]) (by rfl) ⟨c_6, trivial⟩ (Nat.le_refl _) ?_
          exact o_M_sum_J164 ih h
        · skip
          refine s_M_sum [(154, .ifCond .eq 10, 0, (-1)), (157, .aload_n 0, 0, 0), (158, .bipush 42, 0, 42), (160, .iconst 0, 0, 0)] (by decide +kernel) (z' := (161, [(0, (vR 10 l0)), (1, (vI v1)), (2, (vI v2))], [(vI 0), (vI 42), (vR 10 l0)], R, M, 174)) (cs := [¬ (M (R l0 58) (Int.toNat v1) = 0)]) (by rfl) ⟨c_6, trivial⟩ (Nat.le_refl _) ?_
          obtain ⟨M_36, e_37, h⟩ := xb1_ex h
          refine XR.callV 10 rfl (rest := []) m_M_puts k_10_411 10 l0 (Or.inl ⟨by decide, rfl⟩) [(vI 42), (vI 0)] rfl rfl (c_M_puts e_37) (by decide) (Nat.le_of_ble_eq_true rfl) (by decide +kernel) (Nat.le_refl _) (Nat.le_refl _) ?_
          show XR false 5 174 sc y_M_sum (164, [(0, (vR 10 l0)), (1, (vI v1)), (2, (vI v2))], [], R, M_36, 174) _
          exact o_M_sum_J164 ih h
      · skip
        refine s_M_sum [(26, .ifCond .eq 122, 0, (-1)), (29, .aload_n 0, 0, 0), (30, .ldc_w 343, 7, 0)] (by decide +kernel) (z' := (33, [(0, (vR 10 l0)), (1, (vI v1)), (2, (vI v2))], [(vR 99 7), (vR 10 l0)], R, M, 174)) (cs := [¬ (v2 = 0)]) (by rfl) ⟨c_4, trivial⟩ (Nat.le_refl _) ?_
        obtain ⟨r_38, e_39, h⟩ := xb1_ex h
        refine XR.callV 10 rfl (rest := []) m_M_inWords k_10_327 10 l0 (Or.inl ⟨by decide, rfl⟩) [(vR 99 7)] rfl rfl (c_M_inWords e_39) (by decide) (Nat.le_of_ble_eq_true rfl) (by decide +kernel) (Nat.le_refl _) (Nat.le_refl _) ?_
        show XR false 5 174 sc y_M_sum (36, [(0, (vR 10 l0)), (1, (vI v1)), (2, (vI v2))], [(vI r_38)], R, M, 174) _
        refine s_M_sum [(36, .istore_n 3, 0, 0), (37, .aload_n 0, 0, 0), (38, .getfield 290, 10, 8), (41, .iconst 3, 0, 3)] (by decide +kernel) (z' := (42, [(3, (vI r_38)), (0, (vR 10 l0)), (1, (vI v1)), (2, (vI v2))], [(vI 3), (vI (M l0 8))], R, M, 174)) (cs := []) (by rfl) trivial (Nat.le_refl _) ?_
        rcases xif_ex h with ⟨c_40, h⟩ | ⟨c_40, h⟩
        · skip
          refine s_M_sum [(42, .if_icmp .eq 13, 0, 55)] (by decide +kernel) (z' := (55, [(3, (vI r_38)), (0, (vR 10 l0)), (1, (vI v1)), (2, (vI v2))], [], R, M, 174)) (cs := [M l0 8 = 3]) (by rfl) ⟨c_40, trivial⟩ (Nat.le_refl _) ?_
          refine XR.pick [1, 2, 0] (ls' := [(0, (vR 10 l0)), (1, (vI v1)), (3, (vI r_38))]) rfl ?_
          exact o_M_sum_J55 ih h
        · skip
          refine s_M_sum [(42, .if_icmp .eq 13, 0, (-1)), (45, .iload_n 3, 0, 0)] (by decide +kernel) (z' := (46, [(3, (vI r_38)), (0, (vR 10 l0)), (1, (vI v1)), (2, (vI v2))], [(vI r_38)], R, M, 174)) (cs := [¬ (M l0 8 = 3)]) (by rfl) ⟨c_40, trivial⟩ (Nat.le_refl _) ?_
          rcases xif_ex h with ⟨c_47, h⟩ | ⟨c_47, h⟩
          · skip
            refine s_M_sum [(46, .ifCond .lt 51, 0, 97)] (by decide +kernel) (z' := (97, [(3, (vI r_38)), (0, (vR 10 l0)), (1, (vI v1)), (2, (vI v2))], [], R, M, 174)) (cs := [r_38 < 0]) (by rfl) ⟨c_47, trivial⟩ (Nat.le_refl _) ?_
            refine XR.pick [1, 2, 3] (ls' := [(0, (vR 10 l0)), (1, (vI v1)), (2, (vI v2))]) rfl ?_
            exact o_M_sum_J97 ih h
          · skip
            refine s_M_sum [(46, .ifCond .lt 51, 0, (-1)), (49, .iload_n 3, 0, 0), (50, .bipush 6, 0, 6)] (by decide +kernel) (z' := (52, [(3, (vI r_38)), (0, (vR 10 l0)), (1, (vI v1)), (2, (vI v2))], [(vI 6), (vI r_38)], R, M, 174)) (cs := [¬ (r_38 < 0)]) (by rfl) ⟨c_47, trivial⟩ (Nat.le_refl _) ?_
            rcases xif_ex h with ⟨c_66, h⟩ | ⟨c_66, h⟩
            · skip
              refine s_M_sum [(52, .if_icmp .ge 45, 0, (-1))] (by decide +kernel) (z' := (55, [(3, (vI r_38)), (0, (vR 10 l0)), (1, (vI v1)), (2, (vI v2))], [], R, M, 174)) (cs := [¬ (6 ≤ r_38)]) (by rfl) ⟨Int.not_le.mpr c_66, trivial⟩ (Nat.le_refl _) ?_
              refine XR.pick [1, 2, 0] (ls' := [(0, (vR 10 l0)), (1, (vI v1)), (3, (vI r_38))]) rfl ?_
              exact o_M_sum_J55 ih h
            · skip
              refine s_M_sum [(52, .if_icmp .ge 45, 0, 97)] (by decide +kernel) (z' := (97, [(3, (vI r_38)), (0, (vR 10 l0)), (1, (vI v1)), (2, (vI v2))], [], R, M, 174)) (cs := [6 ≤ r_38]) (by rfl) ⟨Int.not_lt.mp c_66, trivial⟩ (Nat.le_refl _) ?_
              refine XR.pick [1, 2, 3] (ls' := [(0, (vR 10 l0)), (1, (vI v1)), (2, (vI v2))]) rfl ?_
              exact o_M_sum_J97 ih h
    · skip
      refine s_M_sum [(22, .ifCond .ne 262, 0, 284), (284, .iconst 0, 0, 0)] (by decide +kernel) (z' := (285, [(0, (vR 10 l0)), (1, (vI v1)), (2, (vI v2))], [(vI 0)], R, M, 174)) (cs := [M l0 15 ≠ 0]) (by rfl) ⟨c_3, trivial⟩ (Nat.le_refl _) ?_
      obtain rfl := Option.some.inj h
      exact XR.retI .boolean rfl (xnar_z (by decide)) (by decide +kernel)
set_option maxRecDepth 100000 in
set_option maxHeartbeats 4000000 in
theorem o_M_sum {sc : List Int} {R : xR} {M : xM} {l0 : Nat} {out : Int × xM} (h : f_M_sum R l0 M = some out) : XR false 5 174 sc y_M_sum (0, [(0, (vR 10 l0))], [], R, M, 174) ((some (vI out.1)), R, out.2) := by
  unfold f_M_sum at h
  obtain ⟨M_1, hM_1, h⟩ := xl_ex h
  obtain ⟨M_2, hM_2, h⟩ := xl_ex h
  refine s_M_sum [(0, .iconst 0, 0, 0), (1, .istore_n 1, 0, 0), (2, .aload_n 0, 0, 0), (3, .getfield 130, 10, 57), (6, .iconst 0, 0, 0), (7, .iconst 0, 0, 0), (8, .iastore, 0, 0), (9, .aload_n 0, 0, 0), (10, .getfield 133, 10, 58), (13, .iconst 0, 0, 0), (14, .iconst 0, 0, 0), (15, .iastore, 0, 0), (16, .iconst 1, 0, 1), (17, .istore_n 2, 0, 0)] (by decide +kernel) (z' := (18, [(2, (vI 1)), (1, (vI 0)), (0, (vR 10 l0))], [], R, M_2, 174)) (cs := [xar 30 0, xidx 0 (xan 30), xar 30 0, xidx 0 (xan 30)]) (by subst hM_1; subst hM_2; rfl) ⟨xar_30, xix_30 ⟨by decide, by decide⟩, xar_30, xix_30 ⟨by decide, by decide⟩, trivial⟩ (Nat.le_refl _) ?_
  refine XR.pick [2, 1, 0] (ls' := [(0, (vR 10 l0)), (1, (vI 0)), (2, (vI 1))]) rfl ?_
  refine o_M_sum_F18  xfu 0 1 M_2 _ h
set_option maxRecDepth 100000 in
set_option maxHeartbeats 4000000 in
theorem c_M_sum {sc : List Int} {R : xR} {M : xM} {l0 : Nat} {out : Int × xM} (h : f_M_sum R l0 M = some out) : XC false 5 sc y_M_sum [(vR 10 l0)] R M 174 174 ((some (vI out.1)), R, out.2) := XC.of (by decide) (Nat.le_of_ble_eq_true rfl) (Nat.le_refl _) (Nat.le_refl _) (o_M_sum h)
def M_law_F36 (R : xR) (l0 : Nat) (q67 : Int → xM → Option (Int × xM)) : Nat → Int → Int → xM → Option (Int × xM)
  | 0, _, _, _ => none
  | n + 1, v1, v3, M =>
    if v3 < M l0 41 then
      xch (0 ≤ v3 ∧ v3 < 8) <|
      if M (R l0 44) (Int.toNat v3) = v1 then
        xb2 (f_M_fails l0 4 M) fun r_16 M_17 =>
        xch (r_16 = 0 ∨ r_16 = 1) <|
        some (r_16, M_17)
      else
        xl (w32 (v3 + 1)) fun v3_20 =>
        M_law_F36 R l0 q67 n v1 v3_20 M
    else
      q67 v1 M
def f_M_law (R : xR) (l0 : Nat) (M : xM) : Option (Int × xM) :=
  xb1 (f_M_nameHere R l0 M) fun r_1 =>
  if r_1 = -1 then
    xb2 (f_M_fails l0 2 M) fun r_4 M_5 =>
    xch (r_4 = 0 ∨ r_4 = 1) <|
    some (r_4, M_5)
  else
    if M l0 41 = 8 then
      xb2 (f_M_fails l0 3 M) fun r_9 M_10 =>
      xch (r_9 = 0 ∨ r_9 = 1) <|
      some (r_9, M_10)
    else
      M_law_F36 R l0
        (fun (v1_21 : Int) (M_22 : xM) =>
          xch (0 ≤ M_22 l0 41 ∧ M_22 l0 41 < 8) <|
          xl (xu M_22 (R l0 44) (Int.toNat (M_22 l0 41)) v1_21) fun M_24 =>
          xb1 (f_M_next R l0 M_24) fun M_25 =>
          xb2 (f_M_want R l0 58 M_25) fun r_27 M_28 =>
          if r_27 = 0 then
            some (0, M_28)
          else
            xch (0 ≤ M_28 l0 41 ∧ M_28 l0 41 < 8) <|
            xl (xu M_28 (R l0 49) (Int.toNat (M_28 l0 41)) (M_28 l0 43)) fun M_32 =>
            xb2 (f_M_sum R l0 M_32) fun r_33 M_34 =>
            if r_33 = 0 then
              some (0, M_34)
            else
              xch (0 ≤ M_34 l0 41 ∧ M_34 l0 41 < 8) <|
              xl (xu M_34 (R l0 50) (Int.toNat (M_34 l0 41)) (M_34 l0 43)) fun M_38 =>
              xb1 (f_M_inWords R l0 7 M_38) fun r_39 =>
              if r_39 = 6 then
                xb1 (f_M_next R l0 M_38) fun M_42 =>
                xb2 (f_M_number R l0 1 24 6 M_42) fun r_44 M_45 =>
                if r_44 = 0 then
                  some (0, M_45)
                else
                  xch (0 ≤ M_45 l0 41 ∧ M_45 l0 41 < 8) <|
                  xl (xu M_45 (R l0 51) (Int.toNat (M_45 l0 41)) (M_45 l0 12)) fun M_49 =>
                  xb1 (f_M_inWords R l0 7 M_49) fun r_50 =>
                  if r_50 = 7 then
                    xb1 (f_M_next R l0 M_49) fun M_53 =>
                    xb2 (f_M_number R l0 0 9999 6 M_53) fun r_55 M_56 =>
                    if r_55 = 0 then
                      some (0, M_56)
                    else
                      xch (0 ≤ M_56 l0 41 ∧ M_56 l0 41 < 8) <|
                      xl (xu M_56 (R l0 52) (Int.toNat (M_56 l0 41)) (M_56 l0 12)) fun M_60 =>
                      xb1 (f_M_isSign l0 59 M_60) fun r_61 =>
                      if r_61 = 0 then
                        xb2 (f_M_fails l0 2 M_60) fun r_64 M_65 =>
                        xch (r_64 = 0 ∨ r_64 = 1) <|
                        some (r_64, M_65)
                      else
                        xb1 (f_M_next R l0 M_60) fun M_68 =>
                        xl (xu M_68 l0 41 (w32 ((M_68 l0 41) + 1))) fun M_70 =>
                        some (1, M_70)
                  else
                    xb2 (f_M_fails l0 2 M_49) fun r_71 M_72 =>
                    xch (r_71 = 0 ∨ r_71 = 1) <|
                    some (r_71, M_72)
              else
                xb2 (f_M_fails l0 2 M_38) fun r_75 M_76 =>
                xch (r_75 = 0 ∨ r_75 = 1) <|
                some (r_75, M_76))
        xfu r_1 0 M
set_option maxRecDepth 100000 in
set_option maxHeartbeats 4000000 in
theorem s_M_law {d : Nat} {sc : List Int} {z z' : xS} {out : xO} (qs : List xI) {cs : List Prop} (hq : qs.all (xqb 10 false y_M_law.2.2.1 y_M_law.2.1) = true) (h : xN false sc qs z = some (z', cs)) (hc : xAll cs) (hE : z'.2.2.2.2.2 ≤ 174) (k : XR false d 174 sc y_M_law z' out) : XR false d 174 sc y_M_law z out := XR.seg 10 false rfl (fun q => by cases q) qs hq h hc hE k
set_option maxRecDepth 100000 in
set_option maxHeartbeats 4000000 in
theorem o_M_law_F36 {sc : List Int} {R : xR}   {l0 : Nat}  {q67 : Int → xM → Option (Int × xM)} (hq67 : ∀ (w1 : Int) (M : xM) (out : Int × xM), q67 w1 M = some out → XR false 6 174 sc y_M_law (67, [(0, (vR 10 l0)), (1, (vL w1))], [], R, M, 174) ((some (vI out.1)), R, out.2)) : ∀ (n : Nat) (v1 : Int) (v3 : Int) (M : xM) (out : Int × xM), M_law_F36 R l0 q67 n v1 v3 M = some out → XR false 6 174 sc y_M_law (36, [(0, (vR 10 l0)), (1, (vL v1)), (3, (vI v3))], [], R, M, 174) ((some (vI out.1)), R, out.2) := by
  intro n
  induction n with
  | zero => intro v1 v3 M out h; exact (xno h).elim
  | succ n ih =>
    intro v1 v3 M out h
    rw [M_law_F36] at h
    refine s_M_law [(36, .iload_n 3, 0, 0), (37, .aload_n 0, 0, 0), (38, .getfield 415, 10, 41)] (by decide +kernel) (z' := (41, [(0, (vR 10 l0)), (1, (vL v1)), (3, (vI v3))], [(vI (M l0 41)), (vI v3)], R, M, 174)) (cs := []) (by rfl) trivial (Nat.le_refl _) ?_
    rcases xif_ex h with ⟨c_13, h⟩ | ⟨c_13, h⟩
    · skip
      obtain ⟨c_14, h⟩ := xch_ex h
      refine s_M_law [(41, .if_icmp .ge 26, 0, (-1)), (44, .aload_n 0, 0, 0), (45, .getfield 91, 10, 44), (48, .iload_n 3, 0, 0), (49, .laload, 0, 0), (50, .lload_n 1, 0, 0), (51, .lcmp, 0, 0)] (by decide +kernel) (z' := (52, [(0, (vR 10 l0)), (1, (vL v1)), (3, (vI v3))], [(vI (xcmp (M (R l0 44) (Int.toNat v3)) v1))], R, M, 174)) (cs := [¬ (M l0 41 ≤ v3), xar 24 1, xidx v3 (xan 24)]) (by rfl) ⟨Int.not_le.mpr c_13, xar_24, xix_24 c_14, trivial⟩ (Nat.le_refl _) ?_
      rcases xif_ex h with ⟨c_15, h⟩ | ⟨c_15, h⟩
      · skip
        refine s_M_law [(52, .ifCond .ne 9, 0, (-1)), (55, .aload_n 0, 0, 0), (56, .iconst 4, 0, 4)] (by decide +kernel) (z' := (57, [(0, (vR 10 l0)), (1, (vL v1)), (3, (vI v3))], [(vI 4), (vR 10 l0)], R, M, 174)) (cs := [¬ (xcmp (M (R l0 44) (Int.toNat v3)) v1 ≠ 0)]) (by rfl) ⟨fun q => q (xcmp_eq.mpr c_15), trivial⟩ (Nat.le_refl _) ?_
        obtain ⟨r_16, M_17, e_18, h⟩ := xb2_ex h
        refine XR.callV 10 rfl (rest := []) m_M_fails k_10_331 10 l0 (Or.inl ⟨by decide, rfl⟩) [(vI 4)] rfl rfl (c_M_fails e_18) (by decide) (Nat.le_of_ble_eq_true rfl) (by decide +kernel) (Nat.le_refl _) (Nat.le_refl _) ?_
        show XR false 6 174 sc y_M_law (60, [(0, (vR 10 l0)), (1, (vL v1)), (3, (vI v3))], [(vI r_16)], R, M_17, 174) _
        obtain ⟨c_19, h⟩ := xch_ex h
        obtain rfl := Option.some.inj h
        exact XR.retI .boolean rfl (xnar_z c_19) (by decide +kernel)
      · skip
        obtain ⟨v3_20, hv3_20, h⟩ := xl_ex h
        refine s_M_law [(52, .ifCond .ne 9, 0, 61), (61, .iinc 3 1, 0, 0), (64, .goto (-28), 0, 36)] (by decide +kernel) (z' := (36, [(3, (vI v3_20)), (0, (vR 10 l0)), (1, (vL v1))], [], R, M, 174)) (cs := [xcmp (M (R l0 44) (Int.toNat v3)) v1 ≠ 0]) (by subst hv3_20; rfl) ⟨fun q => c_15 (xcmp_eq.mp q), trivial⟩ (Nat.le_refl _) ?_
        refine XR.pick [1, 2, 0] (ls' := [(0, (vR 10 l0)), (1, (vL v1)), (3, (vI v3_20))]) rfl ?_
        exact ih v1 v3_20 M _ h
    · skip
      refine s_M_law [(41, .if_icmp .ge 26, 0, 67)] (by decide +kernel) (z' := (67, [(0, (vR 10 l0)), (1, (vL v1)), (3, (vI v3))], [], R, M, 174)) (cs := [M l0 41 ≤ v3]) (by rfl) ⟨Int.not_lt.mp c_13, trivial⟩ (Nat.le_refl _) ?_
      refine XR.pick [0, 1] (ls' := [(0, (vR 10 l0)), (1, (vL v1))]) rfl ?_
      exact hq67 v1 M _ h
set_option maxRecDepth 100000 in
set_option maxHeartbeats 4000000 in
theorem o_M_law {sc : List Int} {R : xR} {M : xM} {l0 : Nat} {out : Int × xM} (h : f_M_law R l0 M = some out) : XR false 6 174 sc y_M_law (0, [(0, (vR 10 l0))], [], R, M, 174) ((some (vI out.1)), R, out.2) := by
  unfold f_M_law at h
  refine s_M_law [(0, .aload_n 0, 0, 0)] (by decide +kernel) (z' := (1, [(0, (vR 10 l0))], [(vR 10 l0)], R, M, 174)) (cs := []) (by rfl) trivial (Nat.le_refl _) ?_
  obtain ⟨r_1, e_2, h⟩ := xb1_ex h
  refine XR.callV 10 rfl (rest := []) m_M_nameHere k_10_355 10 l0 (Or.inl ⟨by decide, rfl⟩) [] rfl rfl (c_M_nameHere e_2) (by decide) (Nat.le_of_ble_eq_true rfl) (by decide +kernel) (Nat.le_refl _) (Nat.le_refl _) ?_
  show XR false 6 174 sc y_M_law (4, [(0, (vR 10 l0))], [(vL r_1)], R, M, 174) _
  refine s_M_law [(4, .lstore_n 1, 0, 0), (5, .lload_n 1, 0, 0), (6, .ldc2_w 265, 0, (-1)), (9, .lcmp, 0, 0)] (by decide +kernel) (z' := (10, [(1, (vL r_1)), (0, (vR 10 l0))], [(vI (xcmp r_1 (-1)))], R, M, 174)) (cs := []) (by rfl) trivial (Nat.le_refl _) ?_
  rcases xif_ex h with ⟨c_3, h⟩ | ⟨c_3, h⟩
  · skip
    refine s_M_law [(10, .ifCond .ne 9, 0, (-1)), (13, .aload_n 0, 0, 0), (14, .iconst 2, 0, 2)] (by decide +kernel) (z' := (15, [(1, (vL r_1)), (0, (vR 10 l0))], [(vI 2), (vR 10 l0)], R, M, 174)) (cs := [¬ (xcmp r_1 (-1) ≠ 0)]) (by rfl) ⟨fun q => q (xcmp_eq.mpr c_3), trivial⟩ (Nat.le_refl _) ?_
    obtain ⟨r_4, M_5, e_6, h⟩ := xb2_ex h
    refine XR.callV 10 rfl (rest := []) m_M_fails k_10_331 10 l0 (Or.inl ⟨by decide, rfl⟩) [(vI 2)] rfl rfl (c_M_fails e_6) (by decide) (Nat.le_of_ble_eq_true rfl) (by decide +kernel) (Nat.le_refl _) (Nat.le_refl _) ?_
    show XR false 6 174 sc y_M_law (18, [(1, (vL r_1)), (0, (vR 10 l0))], [(vI r_4)], R, M_5, 174) _
    obtain ⟨c_7, h⟩ := xch_ex h
    obtain rfl := Option.some.inj h
    exact XR.retI .boolean rfl (xnar_z c_7) (by decide +kernel)
  · skip
    refine s_M_law [(10, .ifCond .ne 9, 0, 19), (19, .aload_n 0, 0, 0), (20, .getfield 415, 10, 41), (23, .bipush 8, 0, 8)] (by decide +kernel) (z' := (25, [(1, (vL r_1)), (0, (vR 10 l0))], [(vI 8), (vI (M l0 41))], R, M, 174)) (cs := [xcmp r_1 (-1) ≠ 0]) (by rfl) ⟨fun q => c_3 (xcmp_eq.mp q), trivial⟩ (Nat.le_refl _) ?_
    rcases xif_ex h with ⟨c_8, h⟩ | ⟨c_8, h⟩
    · skip
      refine s_M_law [(25, .if_icmp .ne 9, 0, (-1)), (28, .aload_n 0, 0, 0), (29, .iconst 3, 0, 3)] (by decide +kernel) (z' := (30, [(1, (vL r_1)), (0, (vR 10 l0))], [(vI 3), (vR 10 l0)], R, M, 174)) (cs := [¬ (M l0 41 ≠ 8)]) (by rfl) ⟨fun q => q c_8, trivial⟩ (Nat.le_refl _) ?_
      obtain ⟨r_9, M_10, e_11, h⟩ := xb2_ex h
      refine XR.callV 10 rfl (rest := []) m_M_fails k_10_331 10 l0 (Or.inl ⟨by decide, rfl⟩) [(vI 3)] rfl rfl (c_M_fails e_11) (by decide) (Nat.le_of_ble_eq_true rfl) (by decide +kernel) (Nat.le_refl _) (Nat.le_refl _) ?_
      show XR false 6 174 sc y_M_law (33, [(1, (vL r_1)), (0, (vR 10 l0))], [(vI r_9)], R, M_10, 174) _
      obtain ⟨c_12, h⟩ := xch_ex h
      obtain rfl := Option.some.inj h
      exact XR.retI .boolean rfl (xnar_z c_12) (by decide +kernel)
    · skip
      refine s_M_law [(25, .if_icmp .ne 9, 0, 34), (34, .iconst 0, 0, 0), (35, .istore_n 3, 0, 0)] (by decide +kernel) (z' := (36, [(3, (vI 0)), (1, (vL r_1)), (0, (vR 10 l0))], [], R, M, 174)) (cs := [M l0 41 ≠ 8]) (by rfl) ⟨c_8, trivial⟩ (Nat.le_refl _) ?_
      refine XR.pick [2, 1, 0] (ls' := [(0, (vR 10 l0)), (1, (vL r_1)), (3, (vI 0))]) rfl ?_
      refine o_M_law_F36 ?_ xfu r_1 0 M _ h
      · intro v1_21 M_22 out h
        obtain ⟨c_23, h⟩ := xch_ex h
        obtain ⟨M_24, hM_24, h⟩ := xl_ex h
        refine s_M_law [(67, .aload_n 0, 0, 0), (68, .getfield 91, 10, 44), (71, .aload_n 0, 0, 0), (72, .getfield 415, 10, 41), (75, .lload_n 1, 0, 0), (76, .lastore, 0, 0), (77, .aload_n 0, 0, 0)] (by decide +kernel) (z' := (78, [(0, (vR 10 l0)), (1, (vL v1_21))], [(vR 10 l0)], R, M_24, 174)) (cs := [xar 24 1, xidx (M_22 l0 41) (xan 24)]) (by subst hM_24; rfl) ⟨xar_24, xix_24 c_23, trivial⟩ (Nat.le_refl _) ?_
        obtain ⟨M_25, e_26, h⟩ := xb1_ex h
        refine XR.callV 10 rfl (rest := []) m_M_next k_10_334 10 l0 (Or.inl ⟨by decide, rfl⟩) [] rfl rfl (c_M_next e_26) (by decide) (Nat.le_of_ble_eq_true rfl) (by decide +kernel) (Nat.le_refl _) (Nat.le_refl _) ?_
        show XR false 6 174 sc y_M_law (81, [(0, (vR 10 l0)), (1, (vL v1_21))], [], R, M_25, 174) _
        refine s_M_law [(81, .aload_n 0, 0, 0), (82, .bipush 58, 0, 58)] (by decide +kernel) (z' := (84, [(0, (vR 10 l0)), (1, (vL v1_21))], [(vI 58), (vR 10 l0)], R, M_25, 174)) (cs := []) (by rfl) trivial (Nat.le_refl _) ?_
        obtain ⟨r_27, M_28, e_29, h⟩ := xb2_ex h
        refine XR.callV 10 rfl (rest := []) m_M_want k_10_366 10 l0 (Or.inl ⟨by decide, rfl⟩) [(vI 58)] rfl rfl (c_M_want e_29) (by decide) (Nat.le_of_ble_eq_true rfl) (by decide +kernel) (Nat.le_refl _) (Nat.le_refl _) ?_
        show XR false 6 174 sc y_M_law (87, [(0, (vR 10 l0)), (1, (vL v1_21))], [(vI r_27)], R, M_28, 174) _
        rcases xif_ex h with ⟨c_30, h⟩ | ⟨c_30, h⟩
        · skip
          refine s_M_law [(87, .ifCond .ne 5, 0, (-1)), (90, .iconst 0, 0, 0)] (by decide +kernel) (z' := (91, [(0, (vR 10 l0)), (1, (vL v1_21))], [(vI 0)], R, M_28, 174)) (cs := [¬ (r_27 ≠ 0)]) (by rfl) ⟨fun q => q c_30, trivial⟩ (Nat.le_refl _) ?_
          obtain rfl := Option.some.inj h
          exact XR.retI .boolean rfl (xnar_z (by decide)) (by decide +kernel)
        · skip
          obtain ⟨c_31, h⟩ := xch_ex h
          obtain ⟨M_32, hM_32, h⟩ := xl_ex h
          refine s_M_law [(87, .ifCond .ne 5, 0, 92), (92, .aload_n 0, 0, 0), (93, .getfield 106, 10, 49), (96, .aload_n 0, 0, 0), (97, .getfield 415, 10, 41), (100, .aload_n 0, 0, 0), (101, .getfield 408, 10, 43), (104, .iastore, 0, 0), (105, .aload_n 0, 0, 0)] (by decide +kernel) (z' := (106, [(0, (vR 10 l0)), (1, (vL v1_21))], [(vR 10 l0)], R, M_32, 174)) (cs := [r_27 ≠ 0, xar 30 0, xidx (M_28 l0 41) (xan 30)]) (by subst hM_32; rfl) ⟨c_30, xar_30, xix_30 c_31, trivial⟩ (Nat.le_refl _) ?_
          obtain ⟨r_33, M_34, e_35, h⟩ := xb2_ex h
          refine XR.callV 10 rfl (rest := []) m_M_sum k_10_418 10 l0 (Or.inl ⟨by decide, rfl⟩) [] rfl rfl (c_M_sum e_35) (by decide) (Nat.le_of_ble_eq_true rfl) (by decide +kernel) (Nat.le_refl _) (Nat.le_refl _) ?_
          show XR false 6 174 sc y_M_law (109, [(0, (vR 10 l0)), (1, (vL v1_21))], [(vI r_33)], R, M_34, 174) _
          rcases xif_ex h with ⟨c_36, h⟩ | ⟨c_36, h⟩
          · skip
            refine s_M_law [(109, .ifCond .ne 5, 0, (-1)), (112, .iconst 0, 0, 0)] (by decide +kernel) (z' := (113, [(0, (vR 10 l0)), (1, (vL v1_21))], [(vI 0)], R, M_34, 174)) (cs := [¬ (r_33 ≠ 0)]) (by rfl) ⟨fun q => q c_36, trivial⟩ (Nat.le_refl _) ?_
            obtain rfl := Option.some.inj h
            exact XR.retI .boolean rfl (xnar_z (by decide)) (by decide +kernel)
          · skip
            obtain ⟨c_37, h⟩ := xch_ex h
            obtain ⟨M_38, hM_38, h⟩ := xl_ex h
            refine s_M_law [(109, .ifCond .ne 5, 0, 114), (114, .aload_n 0, 0, 0), (115, .getfield 109, 10, 50), (118, .aload_n 0, 0, 0), (119, .getfield 415, 10, 41), (122, .aload_n 0, 0, 0), (123, .getfield 408, 10, 43), (126, .iastore, 0, 0), (127, .aload_n 0, 0, 0), (128, .ldc_w 343, 7, 0)] (by decide +kernel) (z' := (131, [(0, (vR 10 l0)), (1, (vL v1_21))], [(vR 99 7), (vR 10 l0)], R, M_38, 174)) (cs := [r_33 ≠ 0, xar 30 0, xidx (M_34 l0 41) (xan 30)]) (by subst hM_38; rfl) ⟨c_36, xar_30, xix_30 c_37, trivial⟩ (Nat.le_refl _) ?_
            obtain ⟨r_39, e_40, h⟩ := xb1_ex h
            refine XR.callV 10 rfl (rest := []) m_M_inWords k_10_327 10 l0 (Or.inl ⟨by decide, rfl⟩) [(vR 99 7)] rfl rfl (c_M_inWords e_40) (by decide) (Nat.le_of_ble_eq_true rfl) (by decide +kernel) (Nat.le_refl _) (Nat.le_refl _) ?_
            show XR false 6 174 sc y_M_law (134, [(0, (vR 10 l0)), (1, (vL v1_21))], [(vI r_39)], R, M_38, 174) _
            refine s_M_law [(134, .bipush 6, 0, 6)] (by decide +kernel) (z' := (136, [(0, (vR 10 l0)), (1, (vL v1_21))], [(vI 6), (vI r_39)], R, M_38, 174)) (cs := []) (by rfl) trivial (Nat.le_refl _) ?_
            rcases xif_ex h with ⟨c_41, h⟩ | ⟨c_41, h⟩
            · skip
              refine s_M_law [(136, .if_icmp .eq 9, 0, 145), (145, .aload_n 0, 0, 0)] (by decide +kernel) (z' := (146, [(0, (vR 10 l0)), (1, (vL v1_21))], [(vR 10 l0)], R, M_38, 174)) (cs := [r_39 = 6]) (by rfl) ⟨c_41, trivial⟩ (Nat.le_refl _) ?_
              obtain ⟨M_42, e_43, h⟩ := xb1_ex h
              refine XR.callV 10 rfl (rest := []) m_M_next k_10_334 10 l0 (Or.inl ⟨by decide, rfl⟩) [] rfl rfl (c_M_next e_43) (by decide) (Nat.le_of_ble_eq_true rfl) (by decide +kernel) (Nat.le_refl _) (Nat.le_refl _) ?_
              show XR false 6 174 sc y_M_law (149, [(0, (vR 10 l0)), (1, (vL v1_21))], [], R, M_42, 174) _
              refine s_M_law [(149, .aload_n 0, 0, 0), (150, .iconst 1, 0, 1), (151, .bipush 24, 0, 24), (153, .bipush 6, 0, 6)] (by decide +kernel) (z' := (155, [(0, (vR 10 l0)), (1, (vL v1_21))], [(vI 6), (vI 24), (vI 1), (vR 10 l0)], R, M_42, 174)) (cs := []) (by rfl) trivial (Nat.le_refl _) ?_
              obtain ⟨r_44, M_45, e_46, h⟩ := xb2_ex h
              refine XR.callV 10 rfl (rest := []) m_M_number k_10_369 10 l0 (Or.inl ⟨by decide, rfl⟩) [(vI 1), (vI 24), (vI 6)] rfl rfl (c_M_number e_46) (by decide) (Nat.le_of_ble_eq_true rfl) (by decide +kernel) (Nat.le_refl _) (Nat.le_refl _) ?_
              show XR false 6 174 sc y_M_law (158, [(0, (vR 10 l0)), (1, (vL v1_21))], [(vI r_44)], R, M_45, 174) _
              rcases xif_ex h with ⟨c_47, h⟩ | ⟨c_47, h⟩
              · skip
                refine s_M_law [(158, .ifCond .ne 5, 0, (-1)), (161, .iconst 0, 0, 0)] (by decide +kernel) (z' := (162, [(0, (vR 10 l0)), (1, (vL v1_21))], [(vI 0)], R, M_45, 174)) (cs := [¬ (r_44 ≠ 0)]) (by rfl) ⟨fun q => q c_47, trivial⟩ (Nat.le_refl _) ?_
                obtain rfl := Option.some.inj h
                exact XR.retI .boolean rfl (xnar_z (by decide)) (by decide +kernel)
              · skip
                obtain ⟨c_48, h⟩ := xch_ex h
                obtain ⟨M_49, hM_49, h⟩ := xl_ex h
                refine s_M_law [(158, .ifCond .ne 5, 0, 163), (163, .aload_n 0, 0, 0), (164, .getfield 112, 10, 51), (167, .aload_n 0, 0, 0), (168, .getfield 415, 10, 41), (171, .aload_n 0, 0, 0), (172, .getfield 340, 10, 12), (175, .iastore, 0, 0), (176, .aload_n 0, 0, 0), (177, .ldc_w 343, 7, 0)] (by decide +kernel) (z' := (180, [(0, (vR 10 l0)), (1, (vL v1_21))], [(vR 99 7), (vR 10 l0)], R, M_49, 174)) (cs := [r_44 ≠ 0, xar 30 0, xidx (M_45 l0 41) (xan 30)]) (by subst hM_49; rfl) ⟨c_47, xar_30, xix_30 c_48, trivial⟩ (Nat.le_refl _) ?_
                obtain ⟨r_50, e_51, h⟩ := xb1_ex h
                refine XR.callV 10 rfl (rest := []) m_M_inWords k_10_327 10 l0 (Or.inl ⟨by decide, rfl⟩) [(vR 99 7)] rfl rfl (c_M_inWords e_51) (by decide) (Nat.le_of_ble_eq_true rfl) (by decide +kernel) (Nat.le_refl _) (Nat.le_refl _) ?_
                show XR false 6 174 sc y_M_law (183, [(0, (vR 10 l0)), (1, (vL v1_21))], [(vI r_50)], R, M_49, 174) _
                refine s_M_law [(183, .bipush 7, 0, 7)] (by decide +kernel) (z' := (185, [(0, (vR 10 l0)), (1, (vL v1_21))], [(vI 7), (vI r_50)], R, M_49, 174)) (cs := []) (by rfl) trivial (Nat.le_refl _) ?_
                rcases xif_ex h with ⟨c_52, h⟩ | ⟨c_52, h⟩
                · skip
                  refine s_M_law [(185, .if_icmp .eq 9, 0, 194), (194, .aload_n 0, 0, 0)] (by decide +kernel) (z' := (195, [(0, (vR 10 l0)), (1, (vL v1_21))], [(vR 10 l0)], R, M_49, 174)) (cs := [r_50 = 7]) (by rfl) ⟨c_52, trivial⟩ (Nat.le_refl _) ?_
                  obtain ⟨M_53, e_54, h⟩ := xb1_ex h
                  refine XR.callV 10 rfl (rest := []) m_M_next k_10_334 10 l0 (Or.inl ⟨by decide, rfl⟩) [] rfl rfl (c_M_next e_54) (by decide) (Nat.le_of_ble_eq_true rfl) (by decide +kernel) (Nat.le_refl _) (Nat.le_refl _) ?_
                  show XR false 6 174 sc y_M_law (198, [(0, (vR 10 l0)), (1, (vL v1_21))], [], R, M_53, 174) _
                  refine s_M_law [(198, .aload_n 0, 0, 0), (199, .iconst 0, 0, 0), (200, .sipush 9999, 0, 9999), (203, .bipush 6, 0, 6)] (by decide +kernel) (z' := (205, [(0, (vR 10 l0)), (1, (vL v1_21))], [(vI 6), (vI 9999), (vI 0), (vR 10 l0)], R, M_53, 174)) (cs := []) (by rfl) trivial (Nat.le_refl _) ?_
                  obtain ⟨r_55, M_56, e_57, h⟩ := xb2_ex h
                  refine XR.callV 10 rfl (rest := []) m_M_number k_10_369 10 l0 (Or.inl ⟨by decide, rfl⟩) [(vI 0), (vI 9999), (vI 6)] rfl rfl (c_M_number e_57) (by decide) (Nat.le_of_ble_eq_true rfl) (by decide +kernel) (Nat.le_refl _) (Nat.le_refl _) ?_
                  show XR false 6 174 sc y_M_law (208, [(0, (vR 10 l0)), (1, (vL v1_21))], [(vI r_55)], R, M_56, 174) _
                  rcases xif_ex h with ⟨c_58, h⟩ | ⟨c_58, h⟩
                  · skip
                    refine s_M_law [(208, .ifCond .ne 5, 0, (-1)), (211, .iconst 0, 0, 0)] (by decide +kernel) (z' := (212, [(0, (vR 10 l0)), (1, (vL v1_21))], [(vI 0)], R, M_56, 174)) (cs := [¬ (r_55 ≠ 0)]) (by rfl) ⟨fun q => q c_58, trivial⟩ (Nat.le_refl _) ?_
                    obtain rfl := Option.some.inj h
                    exact XR.retI .boolean rfl (xnar_z (by decide)) (by decide +kernel)
                  · skip
                    obtain ⟨c_59, h⟩ := xch_ex h
                    obtain ⟨M_60, hM_60, h⟩ := xl_ex h
                    refine s_M_law [(208, .ifCond .ne 5, 0, 213), (213, .aload_n 0, 0, 0), (214, .getfield 115, 10, 52), (217, .aload_n 0, 0, 0), (218, .getfield 415, 10, 41), (221, .aload_n 0, 0, 0), (222, .getfield 340, 10, 12), (225, .iastore, 0, 0), (226, .aload_n 0, 0, 0), (227, .bipush 59, 0, 59)] (by decide +kernel) (z' := (229, [(0, (vR 10 l0)), (1, (vL v1_21))], [(vI 59), (vR 10 l0)], R, M_60, 174)) (cs := [r_55 ≠ 0, xar 30 0, xidx (M_56 l0 41) (xan 30)]) (by subst hM_60; rfl) ⟨c_58, xar_30, xix_30 c_59, trivial⟩ (Nat.le_refl _) ?_
                    obtain ⟨r_61, e_62, h⟩ := xb1_ex h
                    refine XR.callV 10 rfl (rest := []) m_M_isSign k_10_337 10 l0 (Or.inl ⟨by decide, rfl⟩) [(vI 59)] rfl rfl (c_M_isSign e_62) (by decide) (Nat.le_of_ble_eq_true rfl) (by decide +kernel) (Nat.le_refl _) (Nat.le_refl _) ?_
                    show XR false 6 174 sc y_M_law (232, [(0, (vR 10 l0)), (1, (vL v1_21))], [(vI r_61)], R, M_60, 174) _
                    rcases xif_ex h with ⟨c_63, h⟩ | ⟨c_63, h⟩
                    · skip
                      refine s_M_law [(232, .ifCond .ne 9, 0, (-1)), (235, .aload_n 0, 0, 0), (236, .iconst 2, 0, 2)] (by decide +kernel) (z' := (237, [(0, (vR 10 l0)), (1, (vL v1_21))], [(vI 2), (vR 10 l0)], R, M_60, 174)) (cs := [¬ (r_61 ≠ 0)]) (by rfl) ⟨fun q => q c_63, trivial⟩ (Nat.le_refl _) ?_
                      obtain ⟨r_64, M_65, e_66, h⟩ := xb2_ex h
                      refine XR.callV 10 rfl (rest := []) m_M_fails k_10_331 10 l0 (Or.inl ⟨by decide, rfl⟩) [(vI 2)] rfl rfl (c_M_fails e_66) (by decide) (Nat.le_of_ble_eq_true rfl) (by decide +kernel) (Nat.le_refl _) (Nat.le_refl _) ?_
                      show XR false 6 174 sc y_M_law (240, [(0, (vR 10 l0)), (1, (vL v1_21))], [(vI r_64)], R, M_65, 174) _
                      obtain ⟨c_67, h⟩ := xch_ex h
                      obtain rfl := Option.some.inj h
                      exact XR.retI .boolean rfl (xnar_z c_67) (by decide +kernel)
                    · skip
                      refine s_M_law [(232, .ifCond .ne 9, 0, 241), (241, .aload_n 0, 0, 0)] (by decide +kernel) (z' := (242, [(0, (vR 10 l0)), (1, (vL v1_21))], [(vR 10 l0)], R, M_60, 174)) (cs := [r_61 ≠ 0]) (by rfl) ⟨c_63, trivial⟩ (Nat.le_refl _) ?_
                      obtain ⟨M_68, e_69, h⟩ := xb1_ex h
                      refine XR.callV 10 rfl (rest := []) m_M_next k_10_334 10 l0 (Or.inl ⟨by decide, rfl⟩) [] rfl rfl (c_M_next e_69) (by decide) (Nat.le_of_ble_eq_true rfl) (by decide +kernel) (Nat.le_refl _) (Nat.le_refl _) ?_
                      show XR false 6 174 sc y_M_law (245, [(0, (vR 10 l0)), (1, (vL v1_21))], [], R, M_68, 174) _
                      obtain ⟨M_70, hM_70, h⟩ := xl_ex h
                      refine s_M_law [(245, .aload_n 0, 0, 0), (246, .dup, 0, 0), (247, .getfield 415, 10, 41), (250, .iconst 1, 0, 1), (251, .iadd, 0, 0), (252, .putfield 415, 10, 41), (255, .iconst 1, 0, 1)] (by decide +kernel) (z' := (256, [(0, (vR 10 l0)), (1, (vL v1_21))], [(vI 1)], R, M_70, 174)) (cs := []) (by subst hM_70; rfl) trivial (Nat.le_refl _) ?_
                      obtain rfl := Option.some.inj h
                      exact XR.retI .boolean rfl (xnar_z (by decide)) (by decide +kernel)
                · skip
                  refine s_M_law [(185, .if_icmp .eq 9, 0, (-1)), (188, .aload_n 0, 0, 0), (189, .iconst 2, 0, 2)] (by decide +kernel) (z' := (190, [(0, (vR 10 l0)), (1, (vL v1_21))], [(vI 2), (vR 10 l0)], R, M_49, 174)) (cs := [¬ (r_50 = 7)]) (by rfl) ⟨c_52, trivial⟩ (Nat.le_refl _) ?_
                  obtain ⟨r_71, M_72, e_73, h⟩ := xb2_ex h
                  refine XR.callV 10 rfl (rest := []) m_M_fails k_10_331 10 l0 (Or.inl ⟨by decide, rfl⟩) [(vI 2)] rfl rfl (c_M_fails e_73) (by decide) (Nat.le_of_ble_eq_true rfl) (by decide +kernel) (Nat.le_refl _) (Nat.le_refl _) ?_
                  show XR false 6 174 sc y_M_law (193, [(0, (vR 10 l0)), (1, (vL v1_21))], [(vI r_71)], R, M_72, 174) _
                  obtain ⟨c_74, h⟩ := xch_ex h
                  obtain rfl := Option.some.inj h
                  exact XR.retI .boolean rfl (xnar_z c_74) (by decide +kernel)
            · skip
              refine s_M_law [(136, .if_icmp .eq 9, 0, (-1)), (139, .aload_n 0, 0, 0), (140, .iconst 2, 0, 2)] (by decide +kernel) (z' := (141, [(0, (vR 10 l0)), (1, (vL v1_21))], [(vI 2), (vR 10 l0)], R, M_38, 174)) (cs := [¬ (r_39 = 6)]) (by rfl) ⟨c_41, trivial⟩ (Nat.le_refl _) ?_
              obtain ⟨r_75, M_76, e_77, h⟩ := xb2_ex h
              refine XR.callV 10 rfl (rest := []) m_M_fails k_10_331 10 l0 (Or.inl ⟨by decide, rfl⟩) [(vI 2)] rfl rfl (c_M_fails e_77) (by decide) (Nat.le_of_ble_eq_true rfl) (by decide +kernel) (Nat.le_refl _) (Nat.le_refl _) ?_
              show XR false 6 174 sc y_M_law (144, [(0, (vR 10 l0)), (1, (vL v1_21))], [(vI r_75)], R, M_76, 174) _
              obtain ⟨c_78, h⟩ := xch_ex h
              obtain rfl := Option.some.inj h
              exact XR.retI .boolean rfl (xnar_z c_78) (by decide +kernel)
set_option maxRecDepth 100000 in
set_option maxHeartbeats 4000000 in
theorem c_M_law {sc : List Int} {R : xR} {M : xM} {l0 : Nat} {out : Int × xM} (h : f_M_law R l0 M = some out) : XC false 6 sc y_M_law [(vR 10 l0)] R M 174 174 ((some (vI out.1)), R, out.2) := XC.of (by decide) (Nat.le_of_ble_eq_true rfl) (Nat.le_refl _) (Nat.le_refl _) (o_M_law h)
