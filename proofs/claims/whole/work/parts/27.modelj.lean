def M_laws_J70 (R : xR) (l0 : Nat) (rc : Int → xM → Option (Int × xM)) (q74 : xM → Option (Int × xM)) (s0 : Int) (M : xM) : Option (Int × xM) :=
  rc s0 M
def M_laws_F47 (R : xR) (l0 : Nat) (q74 : xM → Option (Int × xM)) : Nat → Int → xM → Option (Int × xM)
  | 0, _, _ => none
  | n + 1, v2, M =>
    if v2 = 0 then
      q74 M
    else
      xb2 (f_M_law R l0 M) fun r_15 M_16 =>
      if r_15 = 0 then
        M_laws_J70 R l0 (M_laws_F47 R l0 q74 n) q74 0 M_16
      else
        if M_16 l0 8 = 0 then
          M_laws_J70 R l0 (M_laws_F47 R l0 q74 n) q74 0 M_16
        else
          M_laws_J70 R l0 (M_laws_F47 R l0 q74 n) q74 1 M_16
def M_laws_F114 (R : xR) (l0 : Nat) (q152 : xM → Option (Int × xM)) : Nat → Int → xM → Option (Int × xM)
  | 0, _, _ => none
  | n + 1, v3, M =>
    if v3 < M l0 42 then
      xch (0 ≤ v3 ∧ v3 < 700) <|
      xl (xu M (R l0 53) (Int.toNat v3) (M (R l0 55) (Int.toNat v3))) fun M_30 =>
      xl (xu M_30 (R l0 54) (Int.toNat v3) (M_30 (R l0 56) (Int.toNat v3))) fun M_31 =>
      xl (w32 (v3 + 1)) fun v3_32 =>
      M_laws_F114 R l0 q152 n v3_32 M_31
    else
      q152 M
def M_laws_F154 (R : xR) (l0 : Nat) : Nat → Int → xM → Option (Int × xM)
  | 0, _, _ => none
  | n + 1, v3, M =>
    if v3 < M l0 40 then
      xch (0 ≤ v3 ∧ v3 < 8) <|
      xl (xu M (R l0 45) (Int.toNat v3) (M (R l0 49) (Int.toNat v3))) fun M_36 =>
      xl (xu M_36 (R l0 46) (Int.toNat v3) (M_36 (R l0 50) (Int.toNat v3))) fun M_37 =>
      xl (xu M_37 (R l0 47) (Int.toNat v3) (M_37 (R l0 51) (Int.toNat v3))) fun M_38 =>
      xl (xu M_38 (R l0 48) (Int.toNat v3) (M_38 (R l0 52) (Int.toNat v3))) fun M_39 =>
      xl (w32 (v3 + 1)) fun v3_40 =>
      M_laws_F154 R l0  n v3_40 M_39
    else
      xb2 (f_M_gives l0 (M l0 40) M) fun r_41 M_42 =>
      some (r_41, M_42)
def M_laws_J46 (R : xR) (l0 : Nat) (s0 : Int) (M : xM) : Option (Int × xM) :=
  M_laws_F47 R l0
    (fun (M_20 : xM) =>
      xl (xu M_20 l0 13 (M_20 l0 15)) fun M_21 =>
      if 0 < M_21 l0 15 then
        xb2 (f_M_refuse l0 9 M_21) fun r_23 M_24 =>
        some (r_23, M_24)
      else
        xl (xu M_21 l0 40 (M_21 l0 41)) fun M_26 =>
        xl (xu M_26 l0 42 (M_26 l0 43)) fun M_27 =>
        M_laws_F114 R l0
          (fun (M_33 : xM) =>
            M_laws_F154 R l0
              xfu 0 M_33)
          xfu 0 M_27)
    xfu s0 M
def f_M_laws (R : xR) (l0 : Nat) (l1 : Int) (M : xM) : Option (Int × xM) :=
  if l1 < 0 then
    xb2 (f_M_refuse l0 1 M) fun r_2 M_3 =>
    some (r_2, M_3)
  else
    if M l0 6 < l1 then
      xb2 (f_M_refuse l0 1 M) fun r_6 M_7 =>
      some (r_6, M_7)
    else
      xb1 (f_M_begin R l0 l1 1 M) fun M_9 =>
      xl (xu M_9 l0 41 0) fun M_11 =>
      xl (xu M_11 l0 43 0) fun M_12 =>
      if M_12 l0 8 = 0 then
        M_laws_J46 R l0 0 M_12
      else
        M_laws_J46 R l0 1 M_12
set_option maxRecDepth 100000 in
set_option maxHeartbeats 4000000 in
theorem s_M_laws {d : Nat} {sc : List Int} {z z' : xS} {out : xO} (qs : List xI) {cs : List Prop} (hq : qs.all (xqb 10 false y_M_laws.2.2.1 y_M_laws.2.1) = true) (h : xN false sc qs z = some (z', cs)) (hc : xAll cs) (hE : z'.2.2.2.2.2 ≤ 174) (k : XR false d 174 sc y_M_laws z' out) : XR false d 174 sc y_M_laws z out := XR.seg 10 false rfl (fun q => by cases q) qs hq h hc hE k
set_option maxRecDepth 100000 in
set_option maxHeartbeats 4000000 in
theorem o_M_laws_J70 {sc : List Int} {R : xR}   {l0 : Nat}  {rc : Int → xM → Option (Int × xM)} {q74 : xM → Option (Int × xM)} (hrc : ∀ (w2 : Int) (M : xM) (out : Int × xM), rc w2 M = some out → XR false 7 174 sc y_M_laws (47, [(0, (vR 10 l0)), (2, (vI w2))], [], R, M, 174) ((some (vI out.1)), R, out.2)) (hq74 : ∀ (M : xM) (out : Int × xM), q74 M = some out → XR false 7 174 sc y_M_laws (74, [(0, (vR 10 l0))], [], R, M, 174) ((some (vI out.1)), R, out.2)) {s0 : Int} {M : xM} {out : Int × xM} (h : M_laws_J70 R l0 rc q74 s0 M = some out) : XR false 7 174 sc y_M_laws (70, [(0, (vR 10 l0))], [(vI s0)], R, M, 174) ((some (vI out.1)), R, out.2) := by
  unfold M_laws_J70 at h
  refine s_M_laws [(70, .istore_n 2, 0, 0), (71, .goto (-24), 0, 47)] (by decide +kernel) (z' := (47, [(2, (vI s0)), (0, (vR 10 l0))], [], R, M, 174)) (cs := []) (by rfl) trivial (Nat.le_refl _) ?_
  refine XR.pick [1, 0] (ls' := [(0, (vR 10 l0)), (2, (vI s0))]) rfl ?_
  exact hrc s0 M _ h
set_option maxRecDepth 100000 in
set_option maxHeartbeats 4000000 in
theorem o_M_laws_F47 {sc : List Int} {R : xR}   {l0 : Nat}  {q74 : xM → Option (Int × xM)} (hq74 : ∀ (M : xM) (out : Int × xM), q74 M = some out → XR false 7 174 sc y_M_laws (74, [(0, (vR 10 l0))], [], R, M, 174) ((some (vI out.1)), R, out.2)) : ∀ (n : Nat) (v2 : Int) (M : xM) (out : Int × xM), M_laws_F47 R l0 q74 n v2 M = some out → XR false 7 174 sc y_M_laws (47, [(0, (vR 10 l0)), (2, (vI v2))], [], R, M, 174) ((some (vI out.1)), R, out.2) := by
  intro n
  induction n with
  | zero => intro v2 M out h; exact (xno h).elim
  | succ n ih =>
    intro v2 M out h
    rw [M_laws_F47] at h
    refine s_M_laws [(47, .iload_n 2, 0, 0)] (by decide +kernel) (z' := (48, [(0, (vR 10 l0)), (2, (vI v2))], [(vI v2)], R, M, 174)) (cs := []) (by rfl) trivial (Nat.le_refl _) ?_
    rcases xif_ex h with ⟨c_14, h⟩ | ⟨c_14, h⟩
    · skip
      refine s_M_laws [(48, .ifCond .eq 26, 0, 74)] (by decide +kernel) (z' := (74, [(0, (vR 10 l0)), (2, (vI v2))], [], R, M, 174)) (cs := [v2 = 0]) (by rfl) ⟨c_14, trivial⟩ (Nat.le_refl _) ?_
      refine XR.pick [0] (ls' := [(0, (vR 10 l0))]) rfl ?_
      exact hq74 M _ h
    · skip
      refine s_M_laws [(48, .ifCond .eq 26, 0, (-1)), (51, .aload_n 0, 0, 0)] (by decide +kernel) (z' := (52, [(0, (vR 10 l0)), (2, (vI v2))], [(vR 10 l0)], R, M, 174)) (cs := [¬ (v2 = 0)]) (by rfl) ⟨c_14, trivial⟩ (Nat.le_refl _) ?_
      obtain ⟨r_15, M_16, e_17, h⟩ := xb2_ex h
      refine XR.callV 10 rfl (rest := []) m_M_law k_10_421 10 l0 (Or.inl ⟨by decide, rfl⟩) [] rfl rfl (c_M_law e_17) (by decide) (Nat.le_of_ble_eq_true rfl) (by decide +kernel) (Nat.le_refl _) (Nat.le_refl _) ?_
      show XR false 7 174 sc y_M_laws (55, [(0, (vR 10 l0)), (2, (vI v2))], [(vI r_15)], R, M_16, 174) _
      rcases xif_ex h with ⟨c_18, h⟩ | ⟨c_18, h⟩
      · skip
        refine s_M_laws [(55, .ifCond .eq 14, 0, 69), (69, .iconst 0, 0, 0)] (by decide +kernel) (z' := (70, [(0, (vR 10 l0)), (2, (vI v2))], [(vI 0)], R, M_16, 174)) (cs := [r_15 = 0]) (by rfl) ⟨c_18, trivial⟩ (Nat.le_refl _) ?_
        refine XR.pick [0] (ls' := [(0, (vR 10 l0))]) rfl ?_
        exact o_M_laws_J70 ih hq74 h
      · skip
        refine s_M_laws [(55, .ifCond .eq 14, 0, (-1)), (58, .aload_n 0, 0, 0), (59, .getfield 290, 10, 8)] (by decide +kernel) (z' := (62, [(0, (vR 10 l0)), (2, (vI v2))], [(vI (M_16 l0 8))], R, M_16, 174)) (cs := [¬ (r_15 = 0)]) (by rfl) ⟨c_18, trivial⟩ (Nat.le_refl _) ?_
        rcases xif_ex h with ⟨c_19, h⟩ | ⟨c_19, h⟩
        · skip
          refine s_M_laws [(62, .ifCond .eq 7, 0, 69), (69, .iconst 0, 0, 0)] (by decide +kernel) (z' := (70, [(0, (vR 10 l0)), (2, (vI v2))], [(vI 0)], R, M_16, 174)) (cs := [M_16 l0 8 = 0]) (by rfl) ⟨c_19, trivial⟩ (Nat.le_refl _) ?_
          refine XR.pick [0] (ls' := [(0, (vR 10 l0))]) rfl ?_
          exact o_M_laws_J70 ih hq74 h
        · skip
          refine s_M_laws [(62, .ifCond .eq 7, 0, (-1)), (65, .iconst 1, 0, 1), (66, .goto 4, 0, 70)] (by decide +kernel) (z' := (70, [(0, (vR 10 l0)), (2, (vI v2))], [(vI 1)], R, M_16, 174)) (cs := [¬ (M_16 l0 8 = 0)]) (by rfl) ⟨c_19, trivial⟩ (Nat.le_refl _) ?_
          refine XR.pick [0] (ls' := [(0, (vR 10 l0))]) rfl ?_
          exact o_M_laws_J70 ih hq74 h
set_option maxRecDepth 100000 in
set_option maxHeartbeats 4000000 in
theorem o_M_laws_F114 {sc : List Int} {R : xR}   {l0 : Nat}  {q152 : xM → Option (Int × xM)} (hq152 : ∀ (M : xM) (out : Int × xM), q152 M = some out → XR false 7 174 sc y_M_laws (152, [(0, (vR 10 l0))], [], R, M, 174) ((some (vI out.1)), R, out.2)) : ∀ (n : Nat) (v3 : Int) (M : xM) (out : Int × xM), M_laws_F114 R l0 q152 n v3 M = some out → XR false 7 174 sc y_M_laws (114, [(0, (vR 10 l0)), (3, (vI v3))], [], R, M, 174) ((some (vI out.1)), R, out.2) := by
  intro n
  induction n with
  | zero => intro v3 M out h; exact (xno h).elim
  | succ n ih =>
    intro v3 M out h
    rw [M_laws_F114] at h
    refine s_M_laws [(114, .iload_n 3, 0, 0), (115, .aload_n 0, 0, 0), (116, .getfield 427, 10, 42)] (by decide +kernel) (z' := (119, [(0, (vR 10 l0)), (3, (vI v3))], [(vI (M l0 42)), (vI v3)], R, M, 174)) (cs := []) (by rfl) trivial (Nat.le_refl _) ?_
    rcases xif_ex h with ⟨c_28, h⟩ | ⟨c_28, h⟩
    · skip
      obtain ⟨c_29, h⟩ := xch_ex h
      obtain ⟨M_30, hM_30, h⟩ := xl_ex h
      obtain ⟨M_31, hM_31, h⟩ := xl_ex h
      obtain ⟨v3_32, hv3_32, h⟩ := xl_ex h
      refine s_M_laws [(119, .if_icmp .ge 33, 0, (-1)), (122, .aload_n 0, 0, 0), (123, .getfield 118, 10, 53), (126, .iload_n 3, 0, 0), (127, .aload_n 0, 0, 0), (128, .getfield 124, 10, 55), (131, .iload_n 3, 0, 0), (132, .iaload, 0, 0), (133, .iastore, 0, 0), (134, .aload_n 0, 0, 0), (135, .getfield 121, 10, 54), (138, .iload_n 3, 0, 0), (139, .aload_n 0, 0, 0), (140, .getfield 127, 10, 56), (143, .iload_n 3, 0, 0), (144, .iaload, 0, 0), (145, .iastore, 0, 0), (146, .iinc 3 1, 0, 0), (149, .goto (-35), 0, 114)] (by decide +kernel) (z' := (114, [(3, (vI v3_32)), (0, (vR 10 l0))], [], R, M_31, 174)) (cs := [¬ (M l0 42 ≤ v3), xar 41 0, xidx v3 (xan 41), xar 41 0, xidx v3 (xan 41), xar 41 0, xidx v3 (xan 41), xar 41 0, xidx v3 (xan 41)]) (by subst hM_30; subst hM_31; subst hv3_32; rfl) ⟨Int.not_le.mpr c_28, xar_41, xix_41 c_29, xar_41, xix_41 c_29, xar_41, xix_41 c_29, xar_41, xix_41 c_29, trivial⟩ (Nat.le_refl _) ?_
      refine XR.pick [1, 0] (ls' := [(0, (vR 10 l0)), (3, (vI v3_32))]) rfl ?_
      exact ih v3_32 M_31 _ h
    · skip
      refine s_M_laws [(119, .if_icmp .ge 33, 0, 152)] (by decide +kernel) (z' := (152, [(0, (vR 10 l0)), (3, (vI v3))], [], R, M, 174)) (cs := [M l0 42 ≤ v3]) (by rfl) ⟨Int.not_lt.mp c_28, trivial⟩ (Nat.le_refl _) ?_
      refine XR.pick [0] (ls' := [(0, (vR 10 l0))]) rfl ?_
      exact hq152 M _ h
set_option maxRecDepth 100000 in
set_option maxHeartbeats 4000000 in
theorem o_M_laws_F154 {sc : List Int} {R : xR}   {l0 : Nat}  : ∀ (n : Nat) (v3 : Int) (M : xM) (out : Int × xM), M_laws_F154 R l0  n v3 M = some out → XR false 7 174 sc y_M_laws (154, [(0, (vR 10 l0)), (3, (vI v3))], [], R, M, 174) ((some (vI out.1)), R, out.2) := by
  intro n
  induction n with
  | zero => intro v3 M out h; exact (xno h).elim
  | succ n ih =>
    intro v3 M out h
    rw [M_laws_F154] at h
    refine s_M_laws [(154, .iload_n 3, 0, 0), (155, .aload_n 0, 0, 0), (156, .getfield 424, 10, 40)] (by decide +kernel) (z' := (159, [(0, (vR 10 l0)), (3, (vI v3))], [(vI (M l0 40)), (vI v3)], R, M, 174)) (cs := []) (by rfl) trivial (Nat.le_refl _) ?_
    rcases xif_ex h with ⟨c_34, h⟩ | ⟨c_34, h⟩
    · skip
      obtain ⟨c_35, h⟩ := xch_ex h
      obtain ⟨M_36, hM_36, h⟩ := xl_ex h
      obtain ⟨M_37, hM_37, h⟩ := xl_ex h
      obtain ⟨M_38, hM_38, h⟩ := xl_ex h
      obtain ⟨M_39, hM_39, h⟩ := xl_ex h
      obtain ⟨v3_40, hv3_40, h⟩ := xl_ex h
      refine s_M_laws [(159, .if_icmp .ge 57, 0, (-1)), (162, .aload_n 0, 0, 0), (163, .getfield 94, 10, 45), (166, .iload_n 3, 0, 0), (167, .aload_n 0, 0, 0), (168, .getfield 106, 10, 49), (171, .iload_n 3, 0, 0), (172, .iaload, 0, 0), (173, .iastore, 0, 0), (174, .aload_n 0, 0, 0), (175, .getfield 97, 10, 46), (178, .iload_n 3, 0, 0), (179, .aload_n 0, 0, 0), (180, .getfield 109, 10, 50), (183, .iload_n 3, 0, 0), (184, .iaload, 0, 0), (185, .iastore, 0, 0), (186, .aload_n 0, 0, 0), (187, .getfield 100, 10, 47), (190, .iload_n 3, 0, 0), (191, .aload_n 0, 0, 0), (192, .getfield 112, 10, 51), (195, .iload_n 3, 0, 0), (196, .iaload, 0, 0), (197, .iastore, 0, 0), (198, .aload_n 0, 0, 0), (199, .getfield 103, 10, 48), (202, .iload_n 3, 0, 0), (203, .aload_n 0, 0, 0), (204, .getfield 115, 10, 52), (207, .iload_n 3, 0, 0), (208, .iaload, 0, 0), (209, .iastore, 0, 0), (210, .iinc 3 1, 0, 0), (213, .goto (-59), 0, 154)] (by decide +kernel) (z' := (154, [(3, (vI v3_40)), (0, (vR 10 l0))], [], R, M_39, 174)) (cs := [¬ (M l0 40 ≤ v3), xar 30 0, xidx v3 (xan 30), xar 30 0, xidx v3 (xan 30), xar 30 0, xidx v3 (xan 30), xar 30 0, xidx v3 (xan 30), xar 30 0, xidx v3 (xan 30), xar 30 0, xidx v3 (xan 30), xar 30 0, xidx v3 (xan 30), xar 30 0, xidx v3 (xan 30)]) (by subst hM_36; subst hM_37; subst hM_38; subst hM_39; subst hv3_40; rfl) ⟨Int.not_le.mpr c_34, xar_30, xix_30 c_35, xar_30, xix_30 c_35, xar_30, xix_30 c_35, xar_30, xix_30 c_35, xar_30, xix_30 c_35, xar_30, xix_30 c_35, xar_30, xix_30 c_35, xar_30, xix_30 c_35, trivial⟩ (Nat.le_refl _) ?_
      refine XR.pick [1, 0] (ls' := [(0, (vR 10 l0)), (3, (vI v3_40))]) rfl ?_
      exact ih v3_40 M_39 _ h
    · skip
      refine s_M_laws [(159, .if_icmp .ge 57, 0, 216), (216, .aload_n 0, 0, 0), (217, .aload_n 0, 0, 0), (218, .getfield 424, 10, 40)] (by decide +kernel) (z' := (221, [(0, (vR 10 l0)), (3, (vI v3))], [(vI (M l0 40)), (vR 10 l0)], R, M, 174)) (cs := [M l0 40 ≤ v3]) (by rfl) ⟨Int.not_lt.mp c_34, trivial⟩ (Nat.le_refl _) ?_
      obtain ⟨r_41, M_42, e_43, h⟩ := xb2_ex h
      refine XR.callV 10 rfl (rest := []) m_M_gives k_10_405 10 l0 (Or.inl ⟨by decide, rfl⟩) [(vI (M l0 40))] rfl rfl (c_M_gives e_43) (by decide) (Nat.le_of_ble_eq_true rfl) (by decide +kernel) (Nat.le_refl _) (Nat.le_refl _) ?_
      show XR false 7 174 sc y_M_laws (224, [(0, (vR 10 l0)), (3, (vI v3))], [(vI r_41)], R, M_42, 174) _
      obtain rfl := Option.some.inj h
      exact XR.retI .int rfl rfl (by decide +kernel)
set_option maxRecDepth 100000 in
set_option maxHeartbeats 4000000 in
theorem o_M_laws_J46 {sc : List Int} {R : xR}   {l0 : Nat}  {s0 : Int} {M : xM} {out : Int × xM} (h : M_laws_J46 R l0  s0 M = some out) : XR false 7 174 sc y_M_laws (46, [(0, (vR 10 l0))], [(vI s0)], R, M, 174) ((some (vI out.1)), R, out.2) := by
  unfold M_laws_J46 at h
  refine s_M_laws [(46, .istore_n 2, 0, 0)] (by decide +kernel) (z' := (47, [(2, (vI s0)), (0, (vR 10 l0))], [], R, M, 174)) (cs := []) (by rfl) trivial (Nat.le_refl _) ?_
  refine XR.pick [1, 0] (ls' := [(0, (vR 10 l0)), (2, (vI s0))]) rfl ?_
  refine o_M_laws_F47 ?_ xfu s0 M _ h
  · intro M_20 out h
    obtain ⟨M_21, hM_21, h⟩ := xl_ex h
    refine s_M_laws [(74, .aload_n 0, 0, 0), (75, .aload_n 0, 0, 0), (76, .getfield 322, 10, 15), (79, .putfield 27, 10, 13), (82, .aload_n 0, 0, 0), (83, .getfield 322, 10, 15)] (by decide +kernel) (z' := (86, [(0, (vR 10 l0))], [(vI (M_21 l0 15))], R, M_21, 174)) (cs := []) (by subst hM_21; rfl) trivial (Nat.le_refl _) ?_
    rcases xif_ex h with ⟨c_22, h⟩ | ⟨c_22, h⟩
    · skip
      refine s_M_laws [(86, .ifCond .le 10, 0, (-1)), (89, .aload_n 0, 0, 0), (90, .bipush 9, 0, 9)] (by decide +kernel) (z' := (92, [(0, (vR 10 l0))], [(vI 9), (vR 10 l0)], R, M_21, 174)) (cs := [¬ (M_21 l0 15 ≤ 0)]) (by rfl) ⟨Int.not_le.mpr c_22, trivial⟩ (Nat.le_refl _) ?_
      obtain ⟨r_23, M_24, e_25, h⟩ := xb2_ex h
      refine XR.callV 10 rfl (rest := []) m_M_refuse k_10_377 10 l0 (Or.inl ⟨by decide, rfl⟩) [(vI 9)] rfl rfl (c_M_refuse e_25) (by decide) (Nat.le_of_ble_eq_true rfl) (by decide +kernel) (Nat.le_refl _) (Nat.le_refl _) ?_
      show XR false 7 174 sc y_M_laws (95, [(0, (vR 10 l0))], [(vI r_23)], R, M_24, 174) _
      obtain rfl := Option.some.inj h
      exact XR.retI .int rfl rfl (by decide +kernel)
    · skip
      obtain ⟨M_26, hM_26, h⟩ := xl_ex h
      obtain ⟨M_27, hM_27, h⟩ := xl_ex h
      refine s_M_laws [(86, .ifCond .le 10, 0, 96), (96, .aload_n 0, 0, 0), (97, .aload_n 0, 0, 0), (98, .getfield 415, 10, 41), (101, .putfield 424, 10, 40), (104, .aload_n 0, 0, 0), (105, .aload_n 0, 0, 0), (106, .getfield 408, 10, 43), (109, .putfield 427, 10, 42), (112, .iconst 0, 0, 0), (113, .istore_n 3, 0, 0)] (by decide +kernel) (z' := (114, [(3, (vI 0)), (0, (vR 10 l0))], [], R, M_27, 174)) (cs := [M_21 l0 15 ≤ 0]) (by subst hM_26; subst hM_27; rfl) ⟨Int.not_lt.mp c_22, trivial⟩ (Nat.le_refl _) ?_
      refine XR.pick [1, 0] (ls' := [(0, (vR 10 l0)), (3, (vI 0))]) rfl ?_
      refine o_M_laws_F114 ?_ xfu 0 M_27 _ h
      · intro M_33 out h
        refine s_M_laws [(152, .iconst 0, 0, 0), (153, .istore_n 3, 0, 0)] (by decide +kernel) (z' := (154, [(3, (vI 0)), (0, (vR 10 l0))], [], R, M_33, 174)) (cs := []) (by rfl) trivial (Nat.le_refl _) ?_
        refine XR.pick [1, 0] (ls' := [(0, (vR 10 l0)), (3, (vI 0))]) rfl ?_
        refine o_M_laws_F154  xfu 0 M_33 _ h
set_option maxRecDepth 100000 in
set_option maxHeartbeats 4000000 in
theorem o_M_laws {sc : List Int} {R : xR} {M : xM} {l0 : Nat} {l1 : Int} {out : Int × xM} (h : f_M_laws R l0 l1 M = some out) : XR false 7 174 sc y_M_laws (0, [(0, (vR 10 l0)), (1, (vI l1))], [], R, M, 174) ((some (vI out.1)), R, out.2) := by
  unfold f_M_laws at h
  refine s_M_laws [(0, .iload_n 1, 0, 0)] (by decide +kernel) (z' := (1, [(0, (vR 10 l0)), (1, (vI l1))], [(vI l1)], R, M, 174)) (cs := []) (by rfl) trivial (Nat.le_refl _) ?_
  rcases xif_ex h with ⟨c_1, h⟩ | ⟨c_1, h⟩
  · skip
    refine s_M_laws [(1, .ifCond .lt 11, 0, 12), (12, .aload_n 0, 0, 0), (13, .iconst 1, 0, 1)] (by decide +kernel) (z' := (14, [(0, (vR 10 l0)), (1, (vI l1))], [(vI 1), (vR 10 l0)], R, M, 174)) (cs := [l1 < 0]) (by rfl) ⟨c_1, trivial⟩ (Nat.le_refl _) ?_
    obtain ⟨r_2, M_3, e_4, h⟩ := xb2_ex h
    refine XR.callV 10 rfl (rest := []) m_M_refuse k_10_377 10 l0 (Or.inl ⟨by decide, rfl⟩) [(vI 1)] rfl rfl (c_M_refuse e_4) (by decide) (Nat.le_of_ble_eq_true rfl) (by decide +kernel) (Nat.le_refl _) (Nat.le_refl _) ?_
    show XR false 7 174 sc y_M_laws (17, [(0, (vR 10 l0)), (1, (vI l1))], [(vI r_2)], R, M_3, 174) _
    obtain rfl := Option.some.inj h
    exact XR.retI .int rfl rfl (by decide +kernel)
  · skip
    refine s_M_laws [(1, .ifCond .lt 11, 0, (-1)), (4, .iload_n 1, 0, 0), (5, .aload_n 0, 0, 0), (6, .getfield 267, 10, 6)] (by decide +kernel) (z' := (9, [(0, (vR 10 l0)), (1, (vI l1))], [(vI (M l0 6)), (vI l1)], R, M, 174)) (cs := [¬ (l1 < 0)]) (by rfl) ⟨c_1, trivial⟩ (Nat.le_refl _) ?_
    rcases xif_ex h with ⟨c_5, h⟩ | ⟨c_5, h⟩
    · skip
      refine s_M_laws [(9, .if_icmp .le 9, 0, (-1)), (12, .aload_n 0, 0, 0), (13, .iconst 1, 0, 1)] (by decide +kernel) (z' := (14, [(0, (vR 10 l0)), (1, (vI l1))], [(vI 1), (vR 10 l0)], R, M, 174)) (cs := [¬ (l1 ≤ M l0 6)]) (by rfl) ⟨Int.not_le.mpr c_5, trivial⟩ (Nat.le_refl _) ?_
      obtain ⟨r_6, M_7, e_8, h⟩ := xb2_ex h
      refine XR.callV 10 rfl (rest := []) m_M_refuse k_10_377 10 l0 (Or.inl ⟨by decide, rfl⟩) [(vI 1)] rfl rfl (c_M_refuse e_8) (by decide) (Nat.le_of_ble_eq_true rfl) (by decide +kernel) (Nat.le_refl _) (Nat.le_refl _) ?_
      show XR false 7 174 sc y_M_laws (17, [(0, (vR 10 l0)), (1, (vI l1))], [(vI r_6)], R, M_7, 174) _
      obtain rfl := Option.some.inj h
      exact XR.retI .int rfl rfl (by decide +kernel)
    · skip
      refine s_M_laws [(9, .if_icmp .le 9, 0, 18), (18, .aload_n 0, 0, 0), (19, .iload_n 1, 0, 0), (20, .iconst 1, 0, 1)] (by decide +kernel) (z' := (21, [(0, (vR 10 l0)), (1, (vI l1))], [(vI 1), (vI l1), (vR 10 l0)], R, M, 174)) (cs := [l1 ≤ M l0 6]) (by rfl) ⟨Int.not_lt.mp c_5, trivial⟩ (Nat.le_refl _) ?_
      obtain ⟨M_9, e_10, h⟩ := xb1_ex h
      refine XR.callV 10 rfl (rest := []) m_M_begin k_10_380 10 l0 (Or.inl ⟨by decide, rfl⟩) [(vI l1), (vI 1)] rfl rfl (c_M_begin e_10) (by decide) (Nat.le_of_ble_eq_true rfl) (by decide +kernel) (Nat.le_refl _) (Nat.le_refl _) ?_
      show XR false 7 174 sc y_M_laws (24, [(0, (vR 10 l0)), (1, (vI l1))], [], R, M_9, 174) _
      obtain ⟨M_11, hM_11, h⟩ := xl_ex h
      obtain ⟨M_12, hM_12, h⟩ := xl_ex h
      refine s_M_laws [(24, .aload_n 0, 0, 0), (25, .iconst 0, 0, 0), (26, .putfield 415, 10, 41), (29, .aload_n 0, 0, 0), (30, .iconst 0, 0, 0), (31, .putfield 408, 10, 43), (34, .aload_n 0, 0, 0), (35, .getfield 290, 10, 8)] (by decide +kernel) (z' := (38, [(0, (vR 10 l0)), (1, (vI l1))], [(vI (M_12 l0 8))], R, M_12, 174)) (cs := []) (by subst hM_11; subst hM_12; rfl) trivial (Nat.le_refl _) ?_
      rcases xif_ex h with ⟨c_13, h⟩ | ⟨c_13, h⟩
      · skip
        refine s_M_laws [(38, .ifCond .eq 7, 0, 45), (45, .iconst 0, 0, 0)] (by decide +kernel) (z' := (46, [(0, (vR 10 l0)), (1, (vI l1))], [(vI 0)], R, M_12, 174)) (cs := [M_12 l0 8 = 0]) (by rfl) ⟨c_13, trivial⟩ (Nat.le_refl _) ?_
        refine XR.pick [0] (ls' := [(0, (vR 10 l0))]) rfl ?_
        exact o_M_laws_J46  h
      · skip
        refine s_M_laws [(38, .ifCond .eq 7, 0, (-1)), (41, .iconst 1, 0, 1), (42, .goto 4, 0, 46)] (by decide +kernel) (z' := (46, [(0, (vR 10 l0)), (1, (vI l1))], [(vI 1)], R, M_12, 174)) (cs := [¬ (M_12 l0 8 = 0)]) (by rfl) ⟨c_13, trivial⟩ (Nat.le_refl _) ?_
        refine XR.pick [0] (ls' := [(0, (vR 10 l0))]) rfl ?_
        exact o_M_laws_J46  h
set_option maxRecDepth 100000 in
set_option maxHeartbeats 4000000 in
theorem c_M_laws {sc : List Int} {R : xR} {M : xM} {l0 : Nat} {l1 : Int} {out : Int × xM} (h : f_M_laws R l0 l1 M = some out) : XC false 7 sc y_M_laws [(vR 10 l0), (vI l1)] R M 174 174 ((some (vI out.1)), R, out.2) := XC.of (by decide) (Nat.le_of_ble_eq_true rfl) (Nat.le_refl _) (Nat.le_refl _) (o_M_laws h)
def M_makes_J93 (R : xR) (l0 : Nat) (l1 : Int) (rc : Int → Int → xM → Option (Int × xM)) (q123 : Int → xM → Option (Int × xM)) (v2 : Int) (v4 : Int) (M : xM) : Option (Int × xM) :=
  xb2 (f_M_number R l0 0 100 4 M) fun r_30 M_31 =>
  if r_30 = 0 then
    some (0, M_31)
  else
    xch (0 ≤ v4 ∧ v4 < 4) <|
    xl (xu M_31 (R l0 27) (Int.toNat v4) (M_31 l0 12)) fun M_35 =>
    xl (w32 (v4 + 1)) fun v4_36 =>
    rc v2 v4_36 M_35
def M_makes_F71 (R : xR) (l0 : Nat) (l1 : Int) (q123 : Int → xM → Option (Int × xM)) : Nat → Int → Int → xM → Option (Int × xM)
  | 0, _, _, _ => none
  | n + 1, v2, v4, M =>
    if v4 < 4 then
      if 0 < v4 then
        xb2 (f_M_want R l0 44 M) fun r_26 M_27 =>
        if r_26 = 0 then
          some (0, M_27)
        else
          M_makes_J93 R l0 l1 (M_makes_F71 R l0 l1 q123 n) q123 v2 v4 M_27
      else
        M_makes_J93 R l0 l1 (M_makes_F71 R l0 l1 q123 n) q123 v2 v4 M
    else
      q123 v2 M
def M_makes_F283 (R : xR) (l0 : Nat) (l1 : Int) (q316 : Int → Int → Int → xM → Option (Int × xM)) : Nat → Int → Int → Int → Int → xM → Option (Int × xM)
  | 0, _, _, _, _, _ => none
  | n + 1, v2, v4, v5, v6, M =>
    if v6 < 4 then
      xch (0 ≤ v6 ∧ v6 < 4) <|
      xch (0 ≤ w32 ((w32 (4 * (M l0 28))) + v6) ∧ w32 ((w32 (4 * (M l0 28))) + v6) < 32) <|
      xl (xu M (R l0 20) (Int.toNat (w32 ((w32 (4 * (M l0 28))) + v6))) (M (R l0 27) (Int.toNat v6))) fun M_68 =>
      xl (w32 (v6 + 1)) fun v6_69 =>
      M_makes_F283 R l0 l1 q316 n v2 v4 v5 v6_69 M_68
    else
      q316 v2 v4 v5 M
def M_makes_J265 (R : xR) (l0 : Nat) (l1 : Int) (v2 : Int) (v4 : Int) (v5 : Int) (M : xM) : Option (Int × xM) :=
  xb1 (f_M_isSign l0 59 M) fun r_58 =>
  if r_58 = 0 then
    xb2 (f_M_fails l0 2 M) fun r_61 M_62 =>
    xch (r_61 = 0 ∨ r_61 = 1) <|
    some (r_61, M_62)
  else
    M_makes_F283 R l0 l1
      (fun (v2_70 : Int) (v4_71 : Int) (v5_72 : Int) (M_73 : xM) =>
        xch (0 ≤ M_73 l0 28 ∧ M_73 l0 28 < 8) <|
        xl (xu M_73 (R l0 17) (Int.toNat (M_73 l0 28)) v2_70) fun M_75 =>
        xch (0 ≤ M_75 l0 28 ∧ M_75 l0 28 < 8) <|
        xl (xu M_75 (R l0 19) (Int.toNat (M_75 l0 28)) l1) fun M_77 =>
        xch (0 ≤ M_77 l0 28 ∧ M_77 l0 28 < 8) <|
        xl (xu M_77 (R l0 21) (Int.toNat (M_77 l0 28)) v4_71) fun M_79 =>
        xch (0 ≤ M_79 l0 28 ∧ M_79 l0 28 < 8) <|
        xl (xu M_79 (R l0 22) (Int.toNat (M_79 l0 28)) v5_72) fun M_81 =>
        xch (0 ≤ M_81 l0 28 ∧ M_81 l0 28 < 8) <|
        xl (xu M_81 (R l0 23) (Int.toNat (M_81 l0 28)) 0) fun M_83 =>
        xl (xu M_83 l0 28 (w32 ((M_83 l0 28) + 1))) fun M_84 =>
        xb1 (f_M_next R l0 M_84) fun M_85 =>
        some (1, M_85))
      xfu v2 v4 v5 0 M
def f_M_makes (R : xR) (l0 : Nat) (l1 : Int) (M : xM) : Option (Int × xM) :=
  xb1 (f_M_next R l0 M) fun M_1 =>
  xb1 (f_M_nameHere R l0 M_1) fun r_3 =>
  if r_3 = -1 then
    xb2 (f_M_fails l0 2 M_1) fun r_6 M_7 =>
    xch (r_6 = 0 ∨ r_6 = 1) <|
    some (r_6, M_7)
  else
    xb1 (f_M_isThere R l0 r_3 M_1) fun r_10 =>
    if r_10 = 0 then
      if M_1 l0 28 = 8 then
        xb2 (f_M_fails l0 6 M_1) fun r_14 M_15 =>
        xch (r_14 = 0 ∨ r_14 = 1) <|
        some (r_14, M_15)
      else
        xb1 (f_M_next R l0 M_1) fun M_18 =>
        xb2 (f_M_wantKey R l0 6 M_18) fun r_20 M_21 =>
        if r_20 = 0 then
          some (0, M_21)
        else
          M_makes_F71 R l0 l1
            (fun (v2_37 : Int) (M_38 : xM) =>
              if l1 = 1 then
                xb2 (f_M_wantKey R l0 7 M_38) fun r_40 M_41 =>
                if r_40 = 0 then
                  some (0, M_41)
                else
                  xb2 (f_M_number R l0 1 9999 4 M_41) fun r_44 M_45 =>
                  if r_44 = 0 then
                    some (0, M_45)
                  else
                    xl (M_45 l0 12) fun v4_48 =>
                    xb2 (f_M_wantKey R l0 8 M_45) fun r_49 M_50 =>
                    if r_49 = 0 then
                      some (0, M_50)
                    else
                      xb2 (f_M_number R l0 0 100 4 M_50) fun r_53 M_54 =>
                      if r_53 = 0 then
                        some (0, M_54)
                      else
                        xl (M_54 l0 12) fun v5_57 =>
                        M_makes_J265 R l0 l1 v2_37 v4_48 v5_57 M_54
              else
                if l1 = 2 then
                  xb2 (f_M_wantKey R l0 9 M_38) fun r_88 M_89 =>
                  if r_88 = 0 then
                    some (0, M_89)
                  else
                    xb2 (f_M_number R l0 1 9999 4 M_89) fun r_92 M_93 =>
                    if r_92 = 0 then
                      some (0, M_93)
                    else
                      xl (M_93 l0 12) fun v4_96 =>
                      M_makes_J265 R l0 l1 v2_37 v4_96 0 M_93
                else
                  if l1 = 3 then
                    xb2 (f_M_wantKey R l0 10 M_38) fun r_98 M_99 =>
                    if r_98 = 0 then
                      some (0, M_99)
                    else
                      xb2 (f_M_number R l0 0 9999 4 M_99) fun r_102 M_103 =>
                      if r_102 = 0 then
                        some (0, M_103)
                      else
                        xl (M_103 l0 12) fun v4_106 =>
                        M_makes_J265 R l0 l1 v2_37 v4_106 0 M_103
                  else
                    M_makes_J265 R l0 l1 v2_37 0 0 M_38)
            xfu r_3 0 M_21
    else
      xb2 (f_M_fails l0 3 M_1) fun r_107 M_108 =>
      xch (r_107 = 0 ∨ r_107 = 1) <|
      some (r_107, M_108)
set_option maxRecDepth 100000 in
set_option maxHeartbeats 4000000 in
theorem s_M_makes {d : Nat} {sc : List Int} {z z' : xS} {out : xO} (qs : List xI) {cs : List Prop} (hq : qs.all (xqb 10 false y_M_makes.2.2.1 y_M_makes.2.1) = true) (h : xN false sc qs z = some (z', cs)) (hc : xAll cs) (hE : z'.2.2.2.2.2 ≤ 174) (k : XR false d 174 sc y_M_makes z' out) : XR false d 174 sc y_M_makes z out := XR.seg 10 false rfl (fun q => by cases q) qs hq h hc hE k
set_option maxRecDepth 100000 in
set_option maxHeartbeats 4000000 in
theorem o_M_makes_J93 {sc : List Int} {R : xR}   {l0 : Nat} {l1 : Int}  {rc : Int → Int → xM → Option (Int × xM)} {q123 : Int → xM → Option (Int × xM)} (hrc : ∀ (w2 : Int) (w4 : Int) (M : xM) (out : Int × xM), rc w2 w4 M = some out → XR false 6 174 sc y_M_makes (71, [(0, (vR 10 l0)), (1, (vI l1)), (2, (vL w2)), (4, (vI w4))], [], R, M, 174) ((some (vI out.1)), R, out.2)) (hq123 : ∀ (w2 : Int) (M : xM) (out : Int × xM), q123 w2 M = some out → XR false 6 174 sc y_M_makes (123, [(0, (vR 10 l0)), (1, (vI l1)), (2, (vL w2))], [], R, M, 174) ((some (vI out.1)), R, out.2)) {v2 : Int} {v4 : Int} {M : xM} {out : Int × xM} (h : M_makes_J93 R l0 l1 rc q123 v2 v4 M = some out) : XR false 6 174 sc y_M_makes (93, [(0, (vR 10 l0)), (1, (vI l1)), (2, (vL v2)), (4, (vI v4))], [], R, M, 174) ((some (vI out.1)), R, out.2) := by
  unfold M_makes_J93 at h
  refine s_M_makes [(93, .aload_n 0, 0, 0), (94, .iconst 0, 0, 0), (95, .bipush 100, 0, 100), (97, .iconst 4, 0, 4)] (by decide +kernel) (z' := (98, [(0, (vR 10 l0)), (1, (vI l1)), (2, (vL v2)), (4, (vI v4))], [(vI 4), (vI 100), (vI 0), (vR 10 l0)], R, M, 174)) (cs := []) (by rfl) trivial (Nat.le_refl _) ?_
  obtain ⟨r_30, M_31, e_32, h⟩ := xb2_ex h
  refine XR.callV 10 rfl (rest := []) m_M_number k_10_369 10 l0 (Or.inl ⟨by decide, rfl⟩) [(vI 0), (vI 100), (vI 4)] rfl rfl (c_M_number e_32) (by decide) (Nat.le_of_ble_eq_true rfl) (by decide +kernel) (Nat.le_refl _) (Nat.le_refl _) ?_
  show XR false 6 174 sc y_M_makes (101, [(0, (vR 10 l0)), (1, (vI l1)), (2, (vL v2)), (4, (vI v4))], [(vI r_30)], R, M_31, 174) _
  rcases xif_ex h with ⟨c_33, h⟩ | ⟨c_33, h⟩
  · skip
    refine s_M_makes [(101, .ifCond .ne 5, 0, (-1)), (104, .iconst 0, 0, 0)] (by decide +kernel) (z' := (105, [(0, (vR 10 l0)), (1, (vI l1)), (2, (vL v2)), (4, (vI v4))], [(vI 0)], R, M_31, 174)) (cs := [¬ (r_30 ≠ 0)]) (by rfl) ⟨fun q => q c_33, trivial⟩ (Nat.le_refl _) ?_
    obtain rfl := Option.some.inj h
    exact XR.retI .boolean rfl (xnar_z (by decide)) (by decide +kernel)
  · skip
    obtain ⟨c_34, h⟩ := xch_ex h
    obtain ⟨M_35, hM_35, h⟩ := xl_ex h
    obtain ⟨v4_36, hv4_36, h⟩ := xl_ex h
    refine s_M_makes [(101, .ifCond .ne 5, 0, 106), (106, .aload_n 0, 0, 0), (107, .getfield 64, 10, 27), (110, .iload 4, 0, 0), (112, .aload_n 0, 0, 0), (113, .getfield 340, 10, 12), (116, .iastore, 0, 0), (117, .iinc 4 1, 0, 0), (120, .goto (-49), 0, 71)] (by decide +kernel) (z' := (71, [(4, (vI v4_36)), (0, (vR 10 l0)), (1, (vI l1)), (2, (vL v2))], [], R, M_35, 174)) (cs := [r_30 ≠ 0, xar 34 0, xidx v4 (xan 34)]) (by subst hM_35; subst hv4_36; rfl) ⟨c_33, xar_34, xix_34 c_34, trivial⟩ (Nat.le_refl _) ?_
    refine XR.pick [1, 2, 3, 0] (ls' := [(0, (vR 10 l0)), (1, (vI l1)), (2, (vL v2)), (4, (vI v4_36))]) rfl ?_
    exact hrc v2 v4_36 M_35 _ h
set_option maxRecDepth 100000 in
set_option maxHeartbeats 4000000 in
theorem o_M_makes_F71 {sc : List Int} {R : xR}   {l0 : Nat} {l1 : Int}  {q123 : Int → xM → Option (Int × xM)} (hq123 : ∀ (w2 : Int) (M : xM) (out : Int × xM), q123 w2 M = some out → XR false 6 174 sc y_M_makes (123, [(0, (vR 10 l0)), (1, (vI l1)), (2, (vL w2))], [], R, M, 174) ((some (vI out.1)), R, out.2)) : ∀ (n : Nat) (v2 : Int) (v4 : Int) (M : xM) (out : Int × xM), M_makes_F71 R l0 l1 q123 n v2 v4 M = some out → XR false 6 174 sc y_M_makes (71, [(0, (vR 10 l0)), (1, (vI l1)), (2, (vL v2)), (4, (vI v4))], [], R, M, 174) ((some (vI out.1)), R, out.2) := by
  intro n
  induction n with
  | zero => intro v2 v4 M out h; exact (xno h).elim
  | succ n ih =>
    intro v2 v4 M out h
    rw [M_makes_F71] at h
    refine s_M_makes [(71, .iload 4, 0, 0), (73, .iconst 4, 0, 4)] (by decide +kernel) (z' := (74, [(0, (vR 10 l0)), (1, (vI l1)), (2, (vL v2)), (4, (vI v4))], [(vI 4), (vI v4)], R, M, 174)) (cs := []) (by rfl) trivial (Nat.le_refl _) ?_
    rcases xif_ex h with ⟨c_24, h⟩ | ⟨c_24, h⟩
    · skip
      refine s_M_makes [(74, .if_icmp .ge 49, 0, (-1)), (77, .iload 4, 0, 0)] (by decide +kernel) (z' := (79, [(0, (vR 10 l0)), (1, (vI l1)), (2, (vL v2)), (4, (vI v4))], [(vI v4)], R, M, 174)) (cs := [¬ (4 ≤ v4)]) (by rfl) ⟨Int.not_le.mpr c_24, trivial⟩ (Nat.le_refl _) ?_
      rcases xif_ex h with ⟨c_25, h⟩ | ⟨c_25, h⟩
      · skip
        refine s_M_makes [(79, .ifCond .le 14, 0, (-1)), (82, .aload_n 0, 0, 0), (83, .bipush 44, 0, 44)] (by decide +kernel) (z' := (85, [(0, (vR 10 l0)), (1, (vI l1)), (2, (vL v2)), (4, (vI v4))], [(vI 44), (vR 10 l0)], R, M, 174)) (cs := [¬ (v4 ≤ 0)]) (by rfl) ⟨Int.not_le.mpr c_25, trivial⟩ (Nat.le_refl _) ?_
        obtain ⟨r_26, M_27, e_28, h⟩ := xb2_ex h
        refine XR.callV 10 rfl (rest := []) m_M_want k_10_366 10 l0 (Or.inl ⟨by decide, rfl⟩) [(vI 44)] rfl rfl (c_M_want e_28) (by decide) (Nat.le_of_ble_eq_true rfl) (by decide +kernel) (Nat.le_refl _) (Nat.le_refl _) ?_
        show XR false 6 174 sc y_M_makes (88, [(0, (vR 10 l0)), (1, (vI l1)), (2, (vL v2)), (4, (vI v4))], [(vI r_26)], R, M_27, 174) _
        rcases xif_ex h with ⟨c_29, h⟩ | ⟨c_29, h⟩
        · skip
          refine s_M_makes [(88, .ifCond .ne 5, 0, (-1)), (91, .iconst 0, 0, 0)] (by decide +kernel) (z' := (92, [(0, (vR 10 l0)), (1, (vI l1)), (2, (vL v2)), (4, (vI v4))], [(vI 0)], R, M_27, 174)) (cs := [¬ (r_26 ≠ 0)]) (by rfl) ⟨fun q => q c_29, trivial⟩ (Nat.le_refl _) ?_
          obtain rfl := Option.some.inj h
          exact XR.retI .boolean rfl (xnar_z (by decide)) (by decide +kernel)
        · skip
          refine s_M_makes [(88, .ifCond .ne 5, 0, 93)] (by decide +kernel) (z' := (93, [(0, (vR 10 l0)), (1, (vI l1)), (2, (vL v2)), (4, (vI v4))], [], R, M_27, 174)) (cs := [r_26 ≠ 0]) (by rfl) ⟨c_29, trivial⟩ (Nat.le_refl _) ?_
          exact o_M_makes_J93 ih hq123 h
      · skip
        refine s_M_makes [(79, .ifCond .le 14, 0, 93)] (by decide +kernel) (z' := (93, [(0, (vR 10 l0)), (1, (vI l1)), (2, (vL v2)), (4, (vI v4))], [], R, M, 174)) (cs := [v4 ≤ 0]) (by rfl) ⟨Int.not_lt.mp c_25, trivial⟩ (Nat.le_refl _) ?_
        exact o_M_makes_J93 ih hq123 h
    · skip
      refine s_M_makes [(74, .if_icmp .ge 49, 0, 123)] (by decide +kernel) (z' := (123, [(0, (vR 10 l0)), (1, (vI l1)), (2, (vL v2)), (4, (vI v4))], [], R, M, 174)) (cs := [4 ≤ v4]) (by rfl) ⟨Int.not_lt.mp c_24, trivial⟩ (Nat.le_refl _) ?_
      refine XR.pick [0, 1, 2] (ls' := [(0, (vR 10 l0)), (1, (vI l1)), (2, (vL v2))]) rfl ?_
      exact hq123 v2 M _ h
set_option maxRecDepth 100000 in
set_option maxHeartbeats 4000000 in
theorem o_M_makes_F283 {sc : List Int} {R : xR}   {l0 : Nat} {l1 : Int}  {q316 : Int → Int → Int → xM → Option (Int × xM)} (hq316 : ∀ (w2 : Int) (w4 : Int) (w5 : Int) (M : xM) (out : Int × xM), q316 w2 w4 w5 M = some out → XR false 6 174 sc y_M_makes (316, [(0, (vR 10 l0)), (1, (vI l1)), (2, (vL w2)), (4, (vI w4)), (5, (vI w5))], [], R, M, 174) ((some (vI out.1)), R, out.2)) : ∀ (n : Nat) (v2 : Int) (v4 : Int) (v5 : Int) (v6 : Int) (M : xM) (out : Int × xM), M_makes_F283 R l0 l1 q316 n v2 v4 v5 v6 M = some out → XR false 6 174 sc y_M_makes (283, [(0, (vR 10 l0)), (1, (vI l1)), (2, (vL v2)), (4, (vI v4)), (5, (vI v5)), (6, (vI v6))], [], R, M, 174) ((some (vI out.1)), R, out.2) := by
  intro n
  induction n with
  | zero => intro v2 v4 v5 v6 M out h; exact (xno h).elim
  | succ n ih =>
    intro v2 v4 v5 v6 M out h
    rw [M_makes_F283] at h
    refine s_M_makes [(283, .iload 6, 0, 0), (285, .iconst 4, 0, 4)] (by decide +kernel) (z' := (286, [(0, (vR 10 l0)), (1, (vI l1)), (2, (vL v2)), (4, (vI v4)), (5, (vI v5)), (6, (vI v6))], [(vI 4), (vI v6)], R, M, 174)) (cs := []) (by rfl) trivial (Nat.le_refl _) ?_
    rcases xif_ex h with ⟨c_65, h⟩ | ⟨c_65, h⟩
    · skip
      obtain ⟨c_66, h⟩ := xch_ex h
      obtain ⟨c_67, h⟩ := xch_ex h
      obtain ⟨M_68, hM_68, h⟩ := xl_ex h
      obtain ⟨v6_69, hv6_69, h⟩ := xl_ex h
      refine s_M_makes [(286, .if_icmp .ge 30, 0, (-1)), (289, .aload_n 0, 0, 0), (290, .getfield 43, 10, 20), (293, .iconst 4, 0, 4), (294, .aload_n 0, 0, 0), (295, .getfield 345, 10, 28), (298, .imul, 0, 0), (299, .iload 6, 0, 0), (301, .iadd, 0, 0), (302, .aload_n 0, 0, 0), (303, .getfield 64, 10, 27), (306, .iload 6, 0, 0), (308, .iaload, 0, 0), (309, .iastore, 0, 0), (310, .iinc 6 1, 0, 0), (313, .goto (-30), 0, 283)] (by decide +kernel) (z' := (283, [(6, (vI v6_69)), (0, (vR 10 l0)), (1, (vI l1)), (2, (vL v2)), (4, (vI v4)), (5, (vI v5))], [], R, M_68, 174)) (cs := [¬ (4 ≤ v6), xar 34 0, xidx v6 (xan 34), xar 27 0, xidx (w32 ((w32 (4 * (M l0 28))) + v6)) (xan 27)]) (by subst hM_68; subst hv6_69; rfl) ⟨Int.not_le.mpr c_65, xar_34, xix_34 c_66, xar_27, xix_27 c_67, trivial⟩ (Nat.le_refl _) ?_
      refine XR.pick [1, 2, 3, 4, 5, 0] (ls' := [(0, (vR 10 l0)), (1, (vI l1)), (2, (vL v2)), (4, (vI v4)), (5, (vI v5)), (6, (vI v6_69))]) rfl ?_
      exact ih v2 v4 v5 v6_69 M_68 _ h
    · skip
      refine s_M_makes [(286, .if_icmp .ge 30, 0, 316)] (by decide +kernel) (z' := (316, [(0, (vR 10 l0)), (1, (vI l1)), (2, (vL v2)), (4, (vI v4)), (5, (vI v5)), (6, (vI v6))], [], R, M, 174)) (cs := [4 ≤ v6]) (by rfl) ⟨Int.not_lt.mp c_65, trivial⟩ (Nat.le_refl _) ?_
      refine XR.pick [0, 1, 2, 3, 4] (ls' := [(0, (vR 10 l0)), (1, (vI l1)), (2, (vL v2)), (4, (vI v4)), (5, (vI v5))]) rfl ?_
      exact hq316 v2 v4 v5 M _ h
set_option maxRecDepth 100000 in
set_option maxHeartbeats 4000000 in
theorem o_M_makes_J265 {sc : List Int} {R : xR}   {l0 : Nat} {l1 : Int}  {v2 : Int} {v4 : Int} {v5 : Int} {M : xM} {out : Int × xM} (h : M_makes_J265 R l0 l1  v2 v4 v5 M = some out) : XR false 6 174 sc y_M_makes (265, [(0, (vR 10 l0)), (1, (vI l1)), (2, (vL v2)), (4, (vI v4)), (5, (vI v5))], [], R, M, 174) ((some (vI out.1)), R, out.2) := by
  unfold M_makes_J265 at h
  refine s_M_makes [(265, .aload_n 0, 0, 0), (266, .bipush 59, 0, 59)] (by decide +kernel) (z' := (268, [(0, (vR 10 l0)), (1, (vI l1)), (2, (vL v2)), (4, (vI v4)), (5, (vI v5))], [(vI 59), (vR 10 l0)], R, M, 174)) (cs := []) (by rfl) trivial (Nat.le_refl _) ?_
  obtain ⟨r_58, e_59, h⟩ := xb1_ex h
  refine XR.callV 10 rfl (rest := []) m_M_isSign k_10_337 10 l0 (Or.inl ⟨by decide, rfl⟩) [(vI 59)] rfl rfl (c_M_isSign e_59) (by decide) (Nat.le_of_ble_eq_true rfl) (by decide +kernel) (Nat.le_refl _) (Nat.le_refl _) ?_
  show XR false 6 174 sc y_M_makes (271, [(0, (vR 10 l0)), (1, (vI l1)), (2, (vL v2)), (4, (vI v4)), (5, (vI v5))], [(vI r_58)], R, M, 174) _
  rcases xif_ex h with ⟨c_60, h⟩ | ⟨c_60, h⟩
  · skip
    refine s_M_makes [(271, .ifCond .ne 9, 0, (-1)), (274, .aload_n 0, 0, 0), (275, .iconst 2, 0, 2)] (by decide +kernel) (z' := (276, [(0, (vR 10 l0)), (1, (vI l1)), (2, (vL v2)), (4, (vI v4)), (5, (vI v5))], [(vI 2), (vR 10 l0)], R, M, 174)) (cs := [¬ (r_58 ≠ 0)]) (by rfl) ⟨fun q => q c_60, trivial⟩ (Nat.le_refl _) ?_
    obtain ⟨r_61, M_62, e_63, h⟩ := xb2_ex h
    refine XR.callV 10 rfl (rest := []) m_M_fails k_10_331 10 l0 (Or.inl ⟨by decide, rfl⟩) [(vI 2)] rfl rfl (c_M_fails e_63) (by decide) (Nat.le_of_ble_eq_true rfl) (by decide +kernel) (Nat.le_refl _) (Nat.le_refl _) ?_
    show XR false 6 174 sc y_M_makes (279, [(0, (vR 10 l0)), (1, (vI l1)), (2, (vL v2)), (4, (vI v4)), (5, (vI v5))], [(vI r_61)], R, M_62, 174) _
    obtain ⟨c_64, h⟩ := xch_ex h
    obtain rfl := Option.some.inj h
    exact XR.retI .boolean rfl (xnar_z c_64) (by decide +kernel)
  · skip
    refine s_M_makes [(271, .ifCond .ne 9, 0, 280), (280, .iconst 0, 0, 0), (281, .istore 6, 0, 0)] (by decide +kernel) (z' := (283, [(6, (vI 0)), (0, (vR 10 l0)), (1, (vI l1)), (2, (vL v2)), (4, (vI v4)), (5, (vI v5))], [], R, M, 174)) (cs := [r_58 ≠ 0]) (by rfl) ⟨c_60, trivial⟩ (Nat.le_refl _) ?_
    refine XR.pick [1, 2, 3, 4, 5, 0] (ls' := [(0, (vR 10 l0)), (1, (vI l1)), (2, (vL v2)), (4, (vI v4)), (5, (vI v5)), (6, (vI 0))]) rfl ?_
    refine o_M_makes_F283 ?_ xfu v2 v4 v5 0 M _ h
    · intro v2_70 v4_71 v5_72 M_73 out h
      obtain ⟨c_74, h⟩ := xch_ex h
      obtain ⟨M_75, hM_75, h⟩ := xl_ex h
      obtain ⟨c_76, h⟩ := xch_ex h
      obtain ⟨M_77, hM_77, h⟩ := xl_ex h
      obtain ⟨c_78, h⟩ := xch_ex h
      obtain ⟨M_79, hM_79, h⟩ := xl_ex h
      obtain ⟨c_80, h⟩ := xch_ex h
      obtain ⟨M_81, hM_81, h⟩ := xl_ex h
      obtain ⟨c_82, h⟩ := xch_ex h
      obtain ⟨M_83, hM_83, h⟩ := xl_ex h
      obtain ⟨M_84, hM_84, h⟩ := xl_ex h
      refine s_M_makes [(316, .aload_n 0, 0, 0), (317, .getfield 34, 10, 17), (320, .aload_n 0, 0, 0), (321, .getfield 345, 10, 28), (324, .lload_n 2, 0, 0), (325, .lastore, 0, 0), (326, .aload_n 0, 0, 0), (327, .getfield 40, 10, 19), (330, .aload_n 0, 0, 0), (331, .getfield 345, 10, 28), (334, .iload_n 1, 0, 0), (335, .iastore, 0, 0), (336, .aload_n 0, 0, 0), (337, .getfield 46, 10, 21), (340, .aload_n 0, 0, 0), (341, .getfield 345, 10, 28), (344, .iload 4, 0, 0), (346, .iastore, 0, 0), (347, .aload_n 0, 0, 0), (348, .getfield 49, 10, 22), (351, .aload_n 0, 0, 0), (352, .getfield 345, 10, 28), (355, .iload 5, 0, 0), (357, .iastore, 0, 0), (358, .aload_n 0, 0, 0), (359, .getfield 52, 10, 23), (362, .aload_n 0, 0, 0), (363, .getfield 345, 10, 28), (366, .iconst 0, 0, 0), (367, .iastore, 0, 0), (368, .aload_n 0, 0, 0), (369, .dup, 0, 0), (370, .getfield 345, 10, 28), (373, .iconst 1, 0, 1), (374, .iadd, 0, 0), (375, .putfield 345, 10, 28), (378, .aload_n 0, 0, 0)] (by decide +kernel) (z' := (379, [(0, (vR 10 l0)), (1, (vI l1)), (2, (vL v2_70)), (4, (vI v4_71)), (5, (vI v5_72))], [(vR 10 l0)], R, M_84, 174)) (cs := [xar 24 1, xidx (M_73 l0 28) (xan 24), xar 30 0, xidx (M_75 l0 28) (xan 30), xar 30 0, xidx (M_77 l0 28) (xan 30), xar 30 0, xidx (M_79 l0 28) (xan 30), xar 30 0, xidx (M_81 l0 28) (xan 30)]) (by subst hM_75; subst hM_77; subst hM_79; subst hM_81; subst hM_83; subst hM_84; rfl) ⟨xar_24, xix_24 c_74, xar_30, xix_30 c_76, xar_30, xix_30 c_78, xar_30, xix_30 c_80, xar_30, xix_30 c_82, trivial⟩ (Nat.le_refl _) ?_
      obtain ⟨M_85, e_86, h⟩ := xb1_ex h
      refine XR.callV 10 rfl (rest := []) m_M_next k_10_334 10 l0 (Or.inl ⟨by decide, rfl⟩) [] rfl rfl (c_M_next e_86) (by decide) (Nat.le_of_ble_eq_true rfl) (by decide +kernel) (Nat.le_refl _) (Nat.le_refl _) ?_
      show XR false 6 174 sc y_M_makes (382, [(0, (vR 10 l0)), (1, (vI l1)), (2, (vL v2_70)), (4, (vI v4_71)), (5, (vI v5_72))], [], R, M_85, 174) _
      refine s_M_makes [(382, .iconst 1, 0, 1)] (by decide +kernel) (z' := (383, [(0, (vR 10 l0)), (1, (vI l1)), (2, (vL v2_70)), (4, (vI v4_71)), (5, (vI v5_72))], [(vI 1)], R, M_85, 174)) (cs := []) (by rfl) trivial (Nat.le_refl _) ?_
      obtain rfl := Option.some.inj h
      exact XR.retI .boolean rfl (xnar_z (by decide)) (by decide +kernel)
set_option maxRecDepth 100000 in
set_option maxHeartbeats 4000000 in
theorem o_M_makes {sc : List Int} {R : xR} {M : xM} {l0 : Nat} {l1 : Int} {out : Int × xM} (h : f_M_makes R l0 l1 M = some out) : XR false 6 174 sc y_M_makes (0, [(0, (vR 10 l0)), (1, (vI l1))], [], R, M, 174) ((some (vI out.1)), R, out.2) := by
  unfold f_M_makes at h
  refine s_M_makes [(0, .aload_n 0, 0, 0)] (by decide +kernel) (z' := (1, [(0, (vR 10 l0)), (1, (vI l1))], [(vR 10 l0)], R, M, 174)) (cs := []) (by rfl) trivial (Nat.le_refl _) ?_
  obtain ⟨M_1, e_2, h⟩ := xb1_ex h
  refine XR.callV 10 rfl (rest := []) m_M_next k_10_334 10 l0 (Or.inl ⟨by decide, rfl⟩) [] rfl rfl (c_M_next e_2) (by decide) (Nat.le_of_ble_eq_true rfl) (by decide +kernel) (Nat.le_refl _) (Nat.le_refl _) ?_
  show XR false 6 174 sc y_M_makes (4, [(0, (vR 10 l0)), (1, (vI l1))], [], R, M_1, 174) _
  refine s_M_makes [(4, .aload_n 0, 0, 0)] (by decide +kernel) (z' := (5, [(0, (vR 10 l0)), (1, (vI l1))], [(vR 10 l0)], R, M_1, 174)) (cs := []) (by rfl) trivial (Nat.le_refl _) ?_
  obtain ⟨r_3, e_4, h⟩ := xb1_ex h
  refine XR.callV 10 rfl (rest := []) m_M_nameHere k_10_355 10 l0 (Or.inl ⟨by decide, rfl⟩) [] rfl rfl (c_M_nameHere e_4) (by decide) (Nat.le_of_ble_eq_true rfl) (by decide +kernel) (Nat.le_refl _) (Nat.le_refl _) ?_
  show XR false 6 174 sc y_M_makes (8, [(0, (vR 10 l0)), (1, (vI l1))], [(vL r_3)], R, M_1, 174) _
  refine s_M_makes [(8, .lstore_n 2, 0, 0), (9, .lload_n 2, 0, 0), (10, .ldc2_w 265, 0, (-1)), (13, .lcmp, 0, 0)] (by decide +kernel) (z' := (14, [(2, (vL r_3)), (0, (vR 10 l0)), (1, (vI l1))], [(vI (xcmp r_3 (-1)))], R, M_1, 174)) (cs := []) (by rfl) trivial (Nat.le_refl _) ?_
  rcases xif_ex h with ⟨c_5, h⟩ | ⟨c_5, h⟩
  · skip
    refine s_M_makes [(14, .ifCond .ne 9, 0, (-1)), (17, .aload_n 0, 0, 0), (18, .iconst 2, 0, 2)] (by decide +kernel) (z' := (19, [(2, (vL r_3)), (0, (vR 10 l0)), (1, (vI l1))], [(vI 2), (vR 10 l0)], R, M_1, 174)) (cs := [¬ (xcmp r_3 (-1) ≠ 0)]) (by rfl) ⟨fun q => q (xcmp_eq.mpr c_5), trivial⟩ (Nat.le_refl _) ?_
    obtain ⟨r_6, M_7, e_8, h⟩ := xb2_ex h
    refine XR.callV 10 rfl (rest := []) m_M_fails k_10_331 10 l0 (Or.inl ⟨by decide, rfl⟩) [(vI 2)] rfl rfl (c_M_fails e_8) (by decide) (Nat.le_of_ble_eq_true rfl) (by decide +kernel) (Nat.le_refl _) (Nat.le_refl _) ?_
    show XR false 6 174 sc y_M_makes (22, [(2, (vL r_3)), (0, (vR 10 l0)), (1, (vI l1))], [(vI r_6)], R, M_7, 174) _
    obtain ⟨c_9, h⟩ := xch_ex h
    obtain rfl := Option.some.inj h
    exact XR.retI .boolean rfl (xnar_z c_9) (by decide +kernel)
  · skip
    refine s_M_makes [(14, .ifCond .ne 9, 0, 23), (23, .aload_n 0, 0, 0), (24, .lload_n 2, 0, 0)] (by decide +kernel) (z' := (25, [(2, (vL r_3)), (0, (vR 10 l0)), (1, (vI l1))], [(vL r_3), (vR 10 l0)], R, M_1, 174)) (cs := [xcmp r_3 (-1) ≠ 0]) (by rfl) ⟨fun q => c_5 (xcmp_eq.mp q), trivial⟩ (Nat.le_refl _) ?_
    obtain ⟨r_10, e_11, h⟩ := xb1_ex h
    refine XR.callV 10 rfl (rest := []) m_M_isThere k_10_359 10 l0 (Or.inl ⟨by decide, rfl⟩) [(vL r_3)] rfl rfl (c_M_isThere e_11) (by decide) (Nat.le_of_ble_eq_true rfl) (by decide +kernel) (Nat.le_refl _) (Nat.le_refl _) ?_
    show XR false 6 174 sc y_M_makes (28, [(2, (vL r_3)), (0, (vR 10 l0)), (1, (vI l1))], [(vI r_10)], R, M_1, 174) _
    rcases xif_ex h with ⟨c_12, h⟩ | ⟨c_12, h⟩
    · skip
      refine s_M_makes [(28, .ifCond .eq 9, 0, 37), (37, .aload_n 0, 0, 0), (38, .getfield 345, 10, 28), (41, .bipush 8, 0, 8)] (by decide +kernel) (z' := (43, [(2, (vL r_3)), (0, (vR 10 l0)), (1, (vI l1))], [(vI 8), (vI (M_1 l0 28))], R, M_1, 174)) (cs := [r_10 = 0]) (by rfl) ⟨c_12, trivial⟩ (Nat.le_refl _) ?_
      rcases xif_ex h with ⟨c_13, h⟩ | ⟨c_13, h⟩
      · skip
        refine s_M_makes [(43, .if_icmp .ne 10, 0, (-1)), (46, .aload_n 0, 0, 0), (47, .bipush 6, 0, 6)] (by decide +kernel) (z' := (49, [(2, (vL r_3)), (0, (vR 10 l0)), (1, (vI l1))], [(vI 6), (vR 10 l0)], R, M_1, 174)) (cs := [¬ (M_1 l0 28 ≠ 8)]) (by rfl) ⟨fun q => q c_13, trivial⟩ (Nat.le_refl _) ?_
        obtain ⟨r_14, M_15, e_16, h⟩ := xb2_ex h
        refine XR.callV 10 rfl (rest := []) m_M_fails k_10_331 10 l0 (Or.inl ⟨by decide, rfl⟩) [(vI 6)] rfl rfl (c_M_fails e_16) (by decide) (Nat.le_of_ble_eq_true rfl) (by decide +kernel) (Nat.le_refl _) (Nat.le_refl _) ?_
        show XR false 6 174 sc y_M_makes (52, [(2, (vL r_3)), (0, (vR 10 l0)), (1, (vI l1))], [(vI r_14)], R, M_15, 174) _
        obtain ⟨c_17, h⟩ := xch_ex h
        obtain rfl := Option.some.inj h
        exact XR.retI .boolean rfl (xnar_z c_17) (by decide +kernel)
      · skip
        refine s_M_makes [(43, .if_icmp .ne 10, 0, 53), (53, .aload_n 0, 0, 0)] (by decide +kernel) (z' := (54, [(2, (vL r_3)), (0, (vR 10 l0)), (1, (vI l1))], [(vR 10 l0)], R, M_1, 174)) (cs := [M_1 l0 28 ≠ 8]) (by rfl) ⟨c_13, trivial⟩ (Nat.le_refl _) ?_
        obtain ⟨M_18, e_19, h⟩ := xb1_ex h
        refine XR.callV 10 rfl (rest := []) m_M_next k_10_334 10 l0 (Or.inl ⟨by decide, rfl⟩) [] rfl rfl (c_M_next e_19) (by decide) (Nat.le_of_ble_eq_true rfl) (by decide +kernel) (Nat.le_refl _) (Nat.le_refl _) ?_
        show XR false 6 174 sc y_M_makes (57, [(2, (vL r_3)), (0, (vR 10 l0)), (1, (vI l1))], [], R, M_18, 174) _
        refine s_M_makes [(57, .aload_n 0, 0, 0), (58, .bipush 6, 0, 6)] (by decide +kernel) (z' := (60, [(2, (vL r_3)), (0, (vR 10 l0)), (1, (vI l1))], [(vI 6), (vR 10 l0)], R, M_18, 174)) (cs := []) (by rfl) trivial (Nat.le_refl _) ?_
        obtain ⟨r_20, M_21, e_22, h⟩ := xb2_ex h
        refine XR.callV 10 rfl (rest := []) m_M_wantKey k_10_363 10 l0 (Or.inl ⟨by decide, rfl⟩) [(vI 6)] rfl rfl (c_M_wantKey e_22) (by decide) (Nat.le_of_ble_eq_true rfl) (by decide +kernel) (Nat.le_refl _) (Nat.le_refl _) ?_
        show XR false 6 174 sc y_M_makes (63, [(2, (vL r_3)), (0, (vR 10 l0)), (1, (vI l1))], [(vI r_20)], R, M_21, 174) _
        rcases xif_ex h with ⟨c_23, h⟩ | ⟨c_23, h⟩
        · skip
          refine s_M_makes [(63, .ifCond .ne 5, 0, (-1)), (66, .iconst 0, 0, 0)] (by decide +kernel) (z' := (67, [(2, (vL r_3)), (0, (vR 10 l0)), (1, (vI l1))], [(vI 0)], R, M_21, 174)) (cs := [¬ (r_20 ≠ 0)]) (by rfl) ⟨fun q => q c_23, trivial⟩ (Nat.le_refl _) ?_
          obtain rfl := Option.some.inj h
          exact XR.retI .boolean rfl (xnar_z (by decide)) (by decide +kernel)
        · skip
          refine s_M_makes [(63, .ifCond .ne 5, 0, 68), (68, .iconst 0, 0, 0), (69, .istore 4, 0, 0)] (by decide +kernel) (z' := (71, [(4, (vI 0)), (2, (vL r_3)), (0, (vR 10 l0)), (1, (vI l1))], [], R, M_21, 174)) (cs := [r_20 ≠ 0]) (by rfl) ⟨c_23, trivial⟩ (Nat.le_refl _) ?_
          refine XR.pick [2, 3, 1, 0] (ls' := [(0, (vR 10 l0)), (1, (vI l1)), (2, (vL r_3)), (4, (vI 0))]) rfl ?_
          refine o_M_makes_F71 ?_ xfu r_3 0 M_21 _ h
          · intro v2_37 M_38 out h
            refine s_M_makes [(123, .iconst 0, 0, 0), (124, .istore 4, 0, 0), (126, .iconst 0, 0, 0), (127, .istore 5, 0, 0), (129, .iload_n 1, 0, 0), (130, .iconst 1, 0, 1)] (by decide +kernel) (z' := (131, [(5, (vI 0)), (4, (vI 0)), (0, (vR 10 l0)), (1, (vI l1)), (2, (vL v2_37))], [(vI 1), (vI l1)], R, M_38, 174)) (cs := []) (by rfl) trivial (Nat.le_refl _) ?_
            rcases xif_ex h with ⟨c_39, h⟩ | ⟨c_39, h⟩
            · skip
              refine s_M_makes [(131, .if_icmp .ne 63, 0, (-1)), (134, .aload_n 0, 0, 0), (135, .bipush 7, 0, 7)] (by decide +kernel) (z' := (137, [(5, (vI 0)), (4, (vI 0)), (0, (vR 10 l0)), (1, (vI l1)), (2, (vL v2_37))], [(vI 7), (vR 10 l0)], R, M_38, 174)) (cs := [¬ (l1 ≠ 1)]) (by rfl) ⟨fun q => q c_39, trivial⟩ (Nat.le_refl _) ?_
              obtain ⟨r_40, M_41, e_42, h⟩ := xb2_ex h
              refine XR.callV 10 rfl (rest := []) m_M_wantKey k_10_363 10 l0 (Or.inl ⟨by decide, rfl⟩) [(vI 7)] rfl rfl (c_M_wantKey e_42) (by decide) (Nat.le_of_ble_eq_true rfl) (by decide +kernel) (Nat.le_refl _) (Nat.le_refl _) ?_
              show XR false 6 174 sc y_M_makes (140, [(5, (vI 0)), (4, (vI 0)), (0, (vR 10 l0)), (1, (vI l1)), (2, (vL v2_37))], [(vI r_40)], R, M_41, 174) _
              rcases xif_ex h with ⟨c_43, h⟩ | ⟨c_43, h⟩
              · skip
                refine s_M_makes [(140, .ifCond .eq 15, 0, 155), (155, .iconst 0, 0, 0)] (by decide +kernel) (z' := (156, [(5, (vI 0)), (4, (vI 0)), (0, (vR 10 l0)), (1, (vI l1)), (2, (vL v2_37))], [(vI 0)], R, M_41, 174)) (cs := [r_40 = 0]) (by rfl) ⟨c_43, trivial⟩ (Nat.le_refl _) ?_
                obtain rfl := Option.some.inj h
                exact XR.retI .boolean rfl (xnar_z (by decide)) (by decide +kernel)
              · skip
                refine s_M_makes [(140, .ifCond .eq 15, 0, (-1)), (143, .aload_n 0, 0, 0), (144, .iconst 1, 0, 1), (145, .sipush 9999, 0, 9999), (148, .iconst 4, 0, 4)] (by decide +kernel) (z' := (149, [(5, (vI 0)), (4, (vI 0)), (0, (vR 10 l0)), (1, (vI l1)), (2, (vL v2_37))], [(vI 4), (vI 9999), (vI 1), (vR 10 l0)], R, M_41, 174)) (cs := [¬ (r_40 = 0)]) (by rfl) ⟨c_43, trivial⟩ (Nat.le_refl _) ?_
                obtain ⟨r_44, M_45, e_46, h⟩ := xb2_ex h
                refine XR.callV 10 rfl (rest := []) m_M_number k_10_369 10 l0 (Or.inl ⟨by decide, rfl⟩) [(vI 1), (vI 9999), (vI 4)] rfl rfl (c_M_number e_46) (by decide) (Nat.le_of_ble_eq_true rfl) (by decide +kernel) (Nat.le_refl _) (Nat.le_refl _) ?_
                show XR false 6 174 sc y_M_makes (152, [(5, (vI 0)), (4, (vI 0)), (0, (vR 10 l0)), (1, (vI l1)), (2, (vL v2_37))], [(vI r_44)], R, M_45, 174) _
                rcases xif_ex h with ⟨c_47, h⟩ | ⟨c_47, h⟩
                · skip
                  refine s_M_makes [(152, .ifCond .ne 5, 0, (-1)), (155, .iconst 0, 0, 0)] (by decide +kernel) (z' := (156, [(5, (vI 0)), (4, (vI 0)), (0, (vR 10 l0)), (1, (vI l1)), (2, (vL v2_37))], [(vI 0)], R, M_45, 174)) (cs := [¬ (r_44 ≠ 0)]) (by rfl) ⟨fun q => q c_47, trivial⟩ (Nat.le_refl _) ?_
                  obtain rfl := Option.some.inj h
                  exact XR.retI .boolean rfl (xnar_z (by decide)) (by decide +kernel)
                · skip
                  obtain ⟨v4_48, hv4_48, h⟩ := xl_ex h
                  refine s_M_makes [(152, .ifCond .ne 5, 0, 157), (157, .aload_n 0, 0, 0), (158, .getfield 340, 10, 12), (161, .istore 4, 0, 0), (163, .aload_n 0, 0, 0), (164, .bipush 8, 0, 8)] (by decide +kernel) (z' := (166, [(4, (vI v4_48)), (5, (vI 0)), (0, (vR 10 l0)), (1, (vI l1)), (2, (vL v2_37))], [(vI 8), (vR 10 l0)], R, M_45, 174)) (cs := [r_44 ≠ 0]) (by subst hv4_48; rfl) ⟨c_47, trivial⟩ (Nat.le_refl _) ?_
                  obtain ⟨r_49, M_50, e_51, h⟩ := xb2_ex h
                  refine XR.callV 10 rfl (rest := []) m_M_wantKey k_10_363 10 l0 (Or.inl ⟨by decide, rfl⟩) [(vI 8)] rfl rfl (c_M_wantKey e_51) (by decide) (Nat.le_of_ble_eq_true rfl) (by decide +kernel) (Nat.le_refl _) (Nat.le_refl _) ?_
                  show XR false 6 174 sc y_M_makes (169, [(4, (vI v4_48)), (5, (vI 0)), (0, (vR 10 l0)), (1, (vI l1)), (2, (vL v2_37))], [(vI r_49)], R, M_50, 174) _
                  rcases xif_ex h with ⟨c_52, h⟩ | ⟨c_52, h⟩
                  · skip
                    refine s_M_makes [(169, .ifCond .eq 14, 0, 183), (183, .iconst 0, 0, 0)] (by decide +kernel) (z' := (184, [(4, (vI v4_48)), (5, (vI 0)), (0, (vR 10 l0)), (1, (vI l1)), (2, (vL v2_37))], [(vI 0)], R, M_50, 174)) (cs := [r_49 = 0]) (by rfl) ⟨c_52, trivial⟩ (Nat.le_refl _) ?_
                    obtain rfl := Option.some.inj h
                    exact XR.retI .boolean rfl (xnar_z (by decide)) (by decide +kernel)
                  · skip
                    refine s_M_makes [(169, .ifCond .eq 14, 0, (-1)), (172, .aload_n 0, 0, 0), (173, .iconst 0, 0, 0), (174, .bipush 100, 0, 100), (176, .iconst 4, 0, 4)] (by decide +kernel) (z' := (177, [(4, (vI v4_48)), (5, (vI 0)), (0, (vR 10 l0)), (1, (vI l1)), (2, (vL v2_37))], [(vI 4), (vI 100), (vI 0), (vR 10 l0)], R, M_50, 174)) (cs := [¬ (r_49 = 0)]) (by rfl) ⟨c_52, trivial⟩ (Nat.le_refl _) ?_
                    obtain ⟨r_53, M_54, e_55, h⟩ := xb2_ex h
                    refine XR.callV 10 rfl (rest := []) m_M_number k_10_369 10 l0 (Or.inl ⟨by decide, rfl⟩) [(vI 0), (vI 100), (vI 4)] rfl rfl (c_M_number e_55) (by decide) (Nat.le_of_ble_eq_true rfl) (by decide +kernel) (Nat.le_refl _) (Nat.le_refl _) ?_
                    show XR false 6 174 sc y_M_makes (180, [(4, (vI v4_48)), (5, (vI 0)), (0, (vR 10 l0)), (1, (vI l1)), (2, (vL v2_37))], [(vI r_53)], R, M_54, 174) _
                    rcases xif_ex h with ⟨c_56, h⟩ | ⟨c_56, h⟩
                    · skip
                      refine s_M_makes [(180, .ifCond .ne 5, 0, (-1)), (183, .iconst 0, 0, 0)] (by decide +kernel) (z' := (184, [(4, (vI v4_48)), (5, (vI 0)), (0, (vR 10 l0)), (1, (vI l1)), (2, (vL v2_37))], [(vI 0)], R, M_54, 174)) (cs := [¬ (r_53 ≠ 0)]) (by rfl) ⟨fun q => q c_56, trivial⟩ (Nat.le_refl _) ?_
                      obtain rfl := Option.some.inj h
                      exact XR.retI .boolean rfl (xnar_z (by decide)) (by decide +kernel)
                    · skip
                      obtain ⟨v5_57, hv5_57, h⟩ := xl_ex h
                      refine s_M_makes [(180, .ifCond .ne 5, 0, 185), (185, .aload_n 0, 0, 0), (186, .getfield 340, 10, 12), (189, .istore 5, 0, 0), (191, .goto 74, 0, 265)] (by decide +kernel) (z' := (265, [(5, (vI v5_57)), (4, (vI v4_48)), (0, (vR 10 l0)), (1, (vI l1)), (2, (vL v2_37))], [], R, M_54, 174)) (cs := [r_53 ≠ 0]) (by subst hv5_57; rfl) ⟨c_56, trivial⟩ (Nat.le_refl _) ?_
                      refine XR.pick [2, 3, 4, 1, 0] (ls' := [(0, (vR 10 l0)), (1, (vI l1)), (2, (vL v2_37)), (4, (vI v4_48)), (5, (vI v5_57))]) rfl ?_
                      exact o_M_makes_J265  h
            · skip
              refine s_M_makes [(131, .if_icmp .ne 63, 0, 194), (194, .iload_n 1, 0, 0), (195, .iconst 2, 0, 2)] (by decide +kernel) (z' := (196, [(5, (vI 0)), (4, (vI 0)), (0, (vR 10 l0)), (1, (vI l1)), (2, (vL v2_37))], [(vI 2), (vI l1)], R, M_38, 174)) (cs := [l1 ≠ 1]) (by rfl) ⟨c_39, trivial⟩ (Nat.le_refl _) ?_
              rcases xif_ex h with ⟨c_87, h⟩ | ⟨c_87, h⟩
              · skip
                refine s_M_makes [(196, .if_icmp .ne 35, 0, (-1)), (199, .aload_n 0, 0, 0), (200, .bipush 9, 0, 9)] (by decide +kernel) (z' := (202, [(5, (vI 0)), (4, (vI 0)), (0, (vR 10 l0)), (1, (vI l1)), (2, (vL v2_37))], [(vI 9), (vR 10 l0)], R, M_38, 174)) (cs := [¬ (l1 ≠ 2)]) (by rfl) ⟨fun q => q c_87, trivial⟩ (Nat.le_refl _) ?_
                obtain ⟨r_88, M_89, e_90, h⟩ := xb2_ex h
                refine XR.callV 10 rfl (rest := []) m_M_wantKey k_10_363 10 l0 (Or.inl ⟨by decide, rfl⟩) [(vI 9)] rfl rfl (c_M_wantKey e_90) (by decide) (Nat.le_of_ble_eq_true rfl) (by decide +kernel) (Nat.le_refl _) (Nat.le_refl _) ?_
                show XR false 6 174 sc y_M_makes (205, [(5, (vI 0)), (4, (vI 0)), (0, (vR 10 l0)), (1, (vI l1)), (2, (vL v2_37))], [(vI r_88)], R, M_89, 174) _
                rcases xif_ex h with ⟨c_91, h⟩ | ⟨c_91, h⟩
                · skip
                  refine s_M_makes [(205, .ifCond .eq 15, 0, 220), (220, .iconst 0, 0, 0)] (by decide +kernel) (z' := (221, [(5, (vI 0)), (4, (vI 0)), (0, (vR 10 l0)), (1, (vI l1)), (2, (vL v2_37))], [(vI 0)], R, M_89, 174)) (cs := [r_88 = 0]) (by rfl) ⟨c_91, trivial⟩ (Nat.le_refl _) ?_
                  obtain rfl := Option.some.inj h
                  exact XR.retI .boolean rfl (xnar_z (by decide)) (by decide +kernel)
                · skip
                  refine s_M_makes [(205, .ifCond .eq 15, 0, (-1)), (208, .aload_n 0, 0, 0), (209, .iconst 1, 0, 1), (210, .sipush 9999, 0, 9999), (213, .iconst 4, 0, 4)] (by decide +kernel) (z' := (214, [(5, (vI 0)), (4, (vI 0)), (0, (vR 10 l0)), (1, (vI l1)), (2, (vL v2_37))], [(vI 4), (vI 9999), (vI 1), (vR 10 l0)], R, M_89, 174)) (cs := [¬ (r_88 = 0)]) (by rfl) ⟨c_91, trivial⟩ (Nat.le_refl _) ?_
                  obtain ⟨r_92, M_93, e_94, h⟩ := xb2_ex h
                  refine XR.callV 10 rfl (rest := []) m_M_number k_10_369 10 l0 (Or.inl ⟨by decide, rfl⟩) [(vI 1), (vI 9999), (vI 4)] rfl rfl (c_M_number e_94) (by decide) (Nat.le_of_ble_eq_true rfl) (by decide +kernel) (Nat.le_refl _) (Nat.le_refl _) ?_
                  show XR false 6 174 sc y_M_makes (217, [(5, (vI 0)), (4, (vI 0)), (0, (vR 10 l0)), (1, (vI l1)), (2, (vL v2_37))], [(vI r_92)], R, M_93, 174) _
                  rcases xif_ex h with ⟨c_95, h⟩ | ⟨c_95, h⟩
                  · skip
                    refine s_M_makes [(217, .ifCond .ne 5, 0, (-1)), (220, .iconst 0, 0, 0)] (by decide +kernel) (z' := (221, [(5, (vI 0)), (4, (vI 0)), (0, (vR 10 l0)), (1, (vI l1)), (2, (vL v2_37))], [(vI 0)], R, M_93, 174)) (cs := [¬ (r_92 ≠ 0)]) (by rfl) ⟨fun q => q c_95, trivial⟩ (Nat.le_refl _) ?_
                    obtain rfl := Option.some.inj h
                    exact XR.retI .boolean rfl (xnar_z (by decide)) (by decide +kernel)
                  · skip
                    obtain ⟨v4_96, hv4_96, h⟩ := xl_ex h
                    refine s_M_makes [(217, .ifCond .ne 5, 0, 222), (222, .aload_n 0, 0, 0), (223, .getfield 340, 10, 12), (226, .istore 4, 0, 0), (228, .goto 37, 0, 265)] (by decide +kernel) (z' := (265, [(4, (vI v4_96)), (5, (vI 0)), (0, (vR 10 l0)), (1, (vI l1)), (2, (vL v2_37))], [], R, M_93, 174)) (cs := [r_92 ≠ 0]) (by subst hv4_96; rfl) ⟨c_95, trivial⟩ (Nat.le_refl _) ?_
                    refine XR.pick [2, 3, 4, 0, 1] (ls' := [(0, (vR 10 l0)), (1, (vI l1)), (2, (vL v2_37)), (4, (vI v4_96)), (5, (vI 0))]) rfl ?_
                    exact o_M_makes_J265  h
              · skip
                refine s_M_makes [(196, .if_icmp .ne 35, 0, 231), (231, .iload_n 1, 0, 0), (232, .iconst 3, 0, 3)] (by decide +kernel) (z' := (233, [(5, (vI 0)), (4, (vI 0)), (0, (vR 10 l0)), (1, (vI l1)), (2, (vL v2_37))], [(vI 3), (vI l1)], R, M_38, 174)) (cs := [l1 ≠ 2]) (by rfl) ⟨c_87, trivial⟩ (Nat.le_refl _) ?_
                rcases xif_ex h with ⟨c_97, h⟩ | ⟨c_97, h⟩
                · skip
                  refine s_M_makes [(233, .if_icmp .ne 32, 0, (-1)), (236, .aload_n 0, 0, 0), (237, .bipush 10, 0, 10)] (by decide +kernel) (z' := (239, [(5, (vI 0)), (4, (vI 0)), (0, (vR 10 l0)), (1, (vI l1)), (2, (vL v2_37))], [(vI 10), (vR 10 l0)], R, M_38, 174)) (cs := [¬ (l1 ≠ 3)]) (by rfl) ⟨fun q => q c_97, trivial⟩ (Nat.le_refl _) ?_
                  obtain ⟨r_98, M_99, e_100, h⟩ := xb2_ex h
                  refine XR.callV 10 rfl (rest := []) m_M_wantKey k_10_363 10 l0 (Or.inl ⟨by decide, rfl⟩) [(vI 10)] rfl rfl (c_M_wantKey e_100) (by decide) (Nat.le_of_ble_eq_true rfl) (by decide +kernel) (Nat.le_refl _) (Nat.le_refl _) ?_
                  show XR false 6 174 sc y_M_makes (242, [(5, (vI 0)), (4, (vI 0)), (0, (vR 10 l0)), (1, (vI l1)), (2, (vL v2_37))], [(vI r_98)], R, M_99, 174) _
                  rcases xif_ex h with ⟨c_101, h⟩ | ⟨c_101, h⟩
                  · skip
                    refine s_M_makes [(242, .ifCond .eq 15, 0, 257), (257, .iconst 0, 0, 0)] (by decide +kernel) (z' := (258, [(5, (vI 0)), (4, (vI 0)), (0, (vR 10 l0)), (1, (vI l1)), (2, (vL v2_37))], [(vI 0)], R, M_99, 174)) (cs := [r_98 = 0]) (by rfl) ⟨c_101, trivial⟩ (Nat.le_refl _) ?_
                    obtain rfl := Option.some.inj h
                    exact XR.retI .boolean rfl (xnar_z (by decide)) (by decide +kernel)
                  · skip
                    refine s_M_makes [(242, .ifCond .eq 15, 0, (-1)), (245, .aload_n 0, 0, 0), (246, .iconst 0, 0, 0), (247, .sipush 9999, 0, 9999), (250, .iconst 4, 0, 4)] (by decide +kernel) (z' := (251, [(5, (vI 0)), (4, (vI 0)), (0, (vR 10 l0)), (1, (vI l1)), (2, (vL v2_37))], [(vI 4), (vI 9999), (vI 0), (vR 10 l0)], R, M_99, 174)) (cs := [¬ (r_98 = 0)]) (by rfl) ⟨c_101, trivial⟩ (Nat.le_refl _) ?_
                    obtain ⟨r_102, M_103, e_104, h⟩ := xb2_ex h
                    refine XR.callV 10 rfl (rest := []) m_M_number k_10_369 10 l0 (Or.inl ⟨by decide, rfl⟩) [(vI 0), (vI 9999), (vI 4)] rfl rfl (c_M_number e_104) (by decide) (Nat.le_of_ble_eq_true rfl) (by decide +kernel) (Nat.le_refl _) (Nat.le_refl _) ?_
                    show XR false 6 174 sc y_M_makes (254, [(5, (vI 0)), (4, (vI 0)), (0, (vR 10 l0)), (1, (vI l1)), (2, (vL v2_37))], [(vI r_102)], R, M_103, 174) _
                    rcases xif_ex h with ⟨c_105, h⟩ | ⟨c_105, h⟩
                    · skip
                      refine s_M_makes [(254, .ifCond .ne 5, 0, (-1)), (257, .iconst 0, 0, 0)] (by decide +kernel) (z' := (258, [(5, (vI 0)), (4, (vI 0)), (0, (vR 10 l0)), (1, (vI l1)), (2, (vL v2_37))], [(vI 0)], R, M_103, 174)) (cs := [¬ (r_102 ≠ 0)]) (by rfl) ⟨fun q => q c_105, trivial⟩ (Nat.le_refl _) ?_
                      obtain rfl := Option.some.inj h
                      exact XR.retI .boolean rfl (xnar_z (by decide)) (by decide +kernel)
                    · skip
                      obtain ⟨v4_106, hv4_106, h⟩ := xl_ex h
                      refine s_M_makes [(254, .ifCond .ne 5, 0, 259), (259, .aload_n 0, 0, 0), (260, .getfield 340, 10, 12), (263, .istore 4, 0, 0)] (by decide +kernel) (z' := (265, [(4, (vI v4_106)), (5, (vI 0)), (0, (vR 10 l0)), (1, (vI l1)), (2, (vL v2_37))], [], R, M_103, 174)) (cs := [r_102 ≠ 0]) (by subst hv4_106; rfl) ⟨c_105, trivial⟩ (Nat.le_refl _) ?_
                      refine XR.pick [2, 3, 4, 0, 1] (ls' := [(0, (vR 10 l0)), (1, (vI l1)), (2, (vL v2_37)), (4, (vI v4_106)), (5, (vI 0))]) rfl ?_
                      exact o_M_makes_J265  h
                · skip
                  refine s_M_makes [(233, .if_icmp .ne 32, 0, 265)] (by decide +kernel) (z' := (265, [(5, (vI 0)), (4, (vI 0)), (0, (vR 10 l0)), (1, (vI l1)), (2, (vL v2_37))], [], R, M_38, 174)) (cs := [l1 ≠ 3]) (by rfl) ⟨c_97, trivial⟩ (Nat.le_refl _) ?_
                  refine XR.pick [2, 3, 4, 1, 0] (ls' := [(0, (vR 10 l0)), (1, (vI l1)), (2, (vL v2_37)), (4, (vI 0)), (5, (vI 0))]) rfl ?_
                  exact o_M_makes_J265  h
    · skip
      refine s_M_makes [(28, .ifCond .eq 9, 0, (-1)), (31, .aload_n 0, 0, 0), (32, .iconst 3, 0, 3)] (by decide +kernel) (z' := (33, [(2, (vL r_3)), (0, (vR 10 l0)), (1, (vI l1))], [(vI 3), (vR 10 l0)], R, M_1, 174)) (cs := [¬ (r_10 = 0)]) (by rfl) ⟨c_12, trivial⟩ (Nat.le_refl _) ?_
      obtain ⟨r_107, M_108, e_109, h⟩ := xb2_ex h
      refine XR.callV 10 rfl (rest := []) m_M_fails k_10_331 10 l0 (Or.inl ⟨by decide, rfl⟩) [(vI 3)] rfl rfl (c_M_fails e_109) (by decide) (Nat.le_of_ble_eq_true rfl) (by decide +kernel) (Nat.le_refl _) (Nat.le_refl _) ?_
      show XR false 6 174 sc y_M_makes (36, [(2, (vL r_3)), (0, (vR 10 l0)), (1, (vI l1))], [(vI r_107)], R, M_108, 174) _
      obtain ⟨c_110, h⟩ := xch_ex h
      obtain rfl := Option.some.inj h
      exact XR.retI .boolean rfl (xnar_z c_110) (by decide +kernel)
set_option maxRecDepth 100000 in
set_option maxHeartbeats 4000000 in
theorem c_M_makes {sc : List Int} {R : xR} {M : xM} {l0 : Nat} {l1 : Int} {out : Int × xM} (h : f_M_makes R l0 l1 M = some out) : XC false 6 sc y_M_makes [(vR 10 l0), (vI l1)] R M 174 174 ((some (vI out.1)), R, out.2) := XC.of (by decide) (Nat.le_of_ble_eq_true rfl) (Nat.le_refl _) (Nat.le_refl _) (o_M_makes h)
def f_M_off (R : xR) (l0 : Nat) (l1 : Int) (l2 : Int) (l3 : Int) (l4 : Int) (M : xM) : Option (Int × xM) :=
  xb1 (f_M_isCleaner l0 l1 M) fun r_1 =>
  if r_1 = 0 then
    xb2 (f_M_is l0 1 M) fun r_4 M_5 =>
    xch (r_4 = 0 ∨ r_4 = 1) <|
    some (r_4, M_5)
  else
    xb1 (f_M_isHour l2) fun r_8 =>
    if r_8 = 0 then
      xb2 (f_M_is l0 1 M) fun r_11 M_12 =>
      xch (r_11 = 0 ∨ r_11 = 1) <|
      some (r_11, M_12)
    else
      xb1 (f_M_isHour l3) fun r_15 =>
      if r_15 = 0 then
        xb2 (f_M_is l0 1 M) fun r_18 M_19 =>
        xch (r_18 = 0 ∨ r_18 = 1) <|
        some (r_18, M_19)
      else
        if l3 < l2 then
          xb2 (f_M_is l0 1 M) fun r_23 M_24 =>
          xch (r_23 = 0 ∨ r_23 = 1) <|
          some (r_23, M_24)
        else
          xb1 (f_M_isKnown l4) fun r_27 =>
          if r_27 = 0 then
            xb2 (f_M_is l0 1 M) fun r_30 M_31 =>
            xch (r_30 = 0 ∨ r_30 = 1) <|
            some (r_30, M_31)
          else
            xb2 (f_M_happens R l0 2 l1 l2 l3 l4 1 M) fun r_34 M_35 =>
            xch (r_34 = 0 ∨ r_34 = 1) <|
            some (r_34, M_35)
set_option maxRecDepth 100000 in
set_option maxHeartbeats 4000000 in
theorem s_M_off {d : Nat} {sc : List Int} {z z' : xS} {out : xO} (qs : List xI) {cs : List Prop} (hq : qs.all (xqb 10 false y_M_off.2.2.1 y_M_off.2.1) = true) (h : xN false sc qs z = some (z', cs)) (hc : xAll cs) (hE : z'.2.2.2.2.2 ≤ 174) (k : XR false d 174 sc y_M_off z' out) : XR false d 174 sc y_M_off z out := XR.seg 10 false rfl (fun q => by cases q) qs hq h hc hE k
set_option maxRecDepth 100000 in
set_option maxHeartbeats 4000000 in
theorem o_M_off {sc : List Int} {R : xR} {M : xM} {l0 : Nat} {l1 : Int} {l2 : Int} {l3 : Int} {l4 : Int} {out : Int × xM} (h : f_M_off R l0 l1 l2 l3 l4 M = some out) : XR false 2 174 sc y_M_off (0, [(0, (vR 10 l0)), (1, (vI l1)), (2, (vI l2)), (3, (vI l3)), (4, (vI l4))], [], R, M, 174) ((some (vI out.1)), R, out.2) := by
  unfold f_M_off at h
  refine s_M_off [(0, .aload_n 0, 0, 0), (1, .iload_n 1, 0, 0)] (by decide +kernel) (z' := (2, [(0, (vR 10 l0)), (1, (vI l1)), (2, (vI l2)), (3, (vI l3)), (4, (vI l4))], [(vI l1), (vR 10 l0)], R, M, 174)) (cs := []) (by rfl) trivial (Nat.le_refl _) ?_
  obtain ⟨r_1, e_2, h⟩ := xb1_ex h
  refine XR.callV 10 rfl (rest := []) m_M_isCleaner k_10_430 10 l0 (Or.inl ⟨by decide, rfl⟩) [(vI l1)] rfl rfl (c_M_isCleaner e_2) (by decide) (Nat.le_of_ble_eq_true rfl) (by decide +kernel) (Nat.le_refl _) (Nat.le_refl _) ?_
  show XR false 2 174 sc y_M_off (5, [(0, (vR 10 l0)), (1, (vI l1)), (2, (vI l2)), (3, (vI l3)), (4, (vI l4))], [(vI r_1)], R, M, 174) _
  rcases xif_ex h with ⟨c_3, h⟩ | ⟨c_3, h⟩
  · skip
    refine s_M_off [(5, .ifCond .eq 30, 0, 35), (35, .aload_n 0, 0, 0), (36, .iconst 1, 0, 1)] (by decide +kernel) (z' := (37, [(0, (vR 10 l0)), (1, (vI l1)), (2, (vI l2)), (3, (vI l3)), (4, (vI l4))], [(vI 1), (vR 10 l0)], R, M, 174)) (cs := [r_1 = 0]) (by rfl) ⟨c_3, trivial⟩ (Nat.le_refl _) ?_
    obtain ⟨r_4, M_5, e_6, h⟩ := xb2_ex h
    refine XR.callV 10 rfl (rest := []) m_M_is k_10_254 10 l0 (Or.inl ⟨by decide, rfl⟩) [(vI 1)] rfl rfl (c_M_is e_6) (by decide) (Nat.le_of_ble_eq_true rfl) (by decide +kernel) (Nat.le_refl _) (Nat.le_refl _) ?_
    show XR false 2 174 sc y_M_off (40, [(0, (vR 10 l0)), (1, (vI l1)), (2, (vI l2)), (3, (vI l3)), (4, (vI l4))], [(vI r_4)], R, M_5, 174) _
    obtain ⟨c_7, h⟩ := xch_ex h
    obtain rfl := Option.some.inj h
    exact XR.retI .boolean rfl (xnar_z c_7) (by decide +kernel)
  · skip
    refine s_M_off [(5, .ifCond .eq 30, 0, (-1)), (8, .iload_n 2, 0, 0)] (by decide +kernel) (z' := (9, [(0, (vR 10 l0)), (1, (vI l1)), (2, (vI l2)), (3, (vI l3)), (4, (vI l4))], [(vI l2)], R, M, 174)) (cs := [¬ (r_1 = 0)]) (by rfl) ⟨c_3, trivial⟩ (Nat.le_refl _) ?_
    obtain ⟨r_8, e_9, h⟩ := xb1_ex h
    refine XR.callS 10 rfl (rest := []) m_M_isHour k_10_436 [(vI l2)] rfl rfl (c_M_isHour e_9) (by decide) (Nat.le_of_ble_eq_true rfl) (by decide +kernel) (Nat.le_refl _) (Nat.le_refl _) ?_
    show XR false 2 174 sc y_M_off (12, [(0, (vR 10 l0)), (1, (vI l1)), (2, (vI l2)), (3, (vI l3)), (4, (vI l4))], [(vI r_8)], R, M, 174) _
    rcases xif_ex h with ⟨c_10, h⟩ | ⟨c_10, h⟩
    · skip
      refine s_M_off [(12, .ifCond .eq 23, 0, 35), (35, .aload_n 0, 0, 0), (36, .iconst 1, 0, 1)] (by decide +kernel) (z' := (37, [(0, (vR 10 l0)), (1, (vI l1)), (2, (vI l2)), (3, (vI l3)), (4, (vI l4))], [(vI 1), (vR 10 l0)], R, M, 174)) (cs := [r_8 = 0]) (by rfl) ⟨c_10, trivial⟩ (Nat.le_refl _) ?_
      obtain ⟨r_11, M_12, e_13, h⟩ := xb2_ex h
      refine XR.callV 10 rfl (rest := []) m_M_is k_10_254 10 l0 (Or.inl ⟨by decide, rfl⟩) [(vI 1)] rfl rfl (c_M_is e_13) (by decide) (Nat.le_of_ble_eq_true rfl) (by decide +kernel) (Nat.le_refl _) (Nat.le_refl _) ?_
      show XR false 2 174 sc y_M_off (40, [(0, (vR 10 l0)), (1, (vI l1)), (2, (vI l2)), (3, (vI l3)), (4, (vI l4))], [(vI r_11)], R, M_12, 174) _
      obtain ⟨c_14, h⟩ := xch_ex h
      obtain rfl := Option.some.inj h
      exact XR.retI .boolean rfl (xnar_z c_14) (by decide +kernel)
    · skip
      refine s_M_off [(12, .ifCond .eq 23, 0, (-1)), (15, .iload_n 3, 0, 0)] (by decide +kernel) (z' := (16, [(0, (vR 10 l0)), (1, (vI l1)), (2, (vI l2)), (3, (vI l3)), (4, (vI l4))], [(vI l3)], R, M, 174)) (cs := [¬ (r_8 = 0)]) (by rfl) ⟨c_10, trivial⟩ (Nat.le_refl _) ?_
      obtain ⟨r_15, e_16, h⟩ := xb1_ex h
      refine XR.callS 10 rfl (rest := []) m_M_isHour k_10_436 [(vI l3)] rfl rfl (c_M_isHour e_16) (by decide) (Nat.le_of_ble_eq_true rfl) (by decide +kernel) (Nat.le_refl _) (Nat.le_refl _) ?_
      show XR false 2 174 sc y_M_off (19, [(0, (vR 10 l0)), (1, (vI l1)), (2, (vI l2)), (3, (vI l3)), (4, (vI l4))], [(vI r_15)], R, M, 174) _
      rcases xif_ex h with ⟨c_17, h⟩ | ⟨c_17, h⟩
      · skip
        refine s_M_off [(19, .ifCond .eq 16, 0, 35), (35, .aload_n 0, 0, 0), (36, .iconst 1, 0, 1)] (by decide +kernel) (z' := (37, [(0, (vR 10 l0)), (1, (vI l1)), (2, (vI l2)), (3, (vI l3)), (4, (vI l4))], [(vI 1), (vR 10 l0)], R, M, 174)) (cs := [r_15 = 0]) (by rfl) ⟨c_17, trivial⟩ (Nat.le_refl _) ?_
        obtain ⟨r_18, M_19, e_20, h⟩ := xb2_ex h
        refine XR.callV 10 rfl (rest := []) m_M_is k_10_254 10 l0 (Or.inl ⟨by decide, rfl⟩) [(vI 1)] rfl rfl (c_M_is e_20) (by decide) (Nat.le_of_ble_eq_true rfl) (by decide +kernel) (Nat.le_refl _) (Nat.le_refl _) ?_
        show XR false 2 174 sc y_M_off (40, [(0, (vR 10 l0)), (1, (vI l1)), (2, (vI l2)), (3, (vI l3)), (4, (vI l4))], [(vI r_18)], R, M_19, 174) _
        obtain ⟨c_21, h⟩ := xch_ex h
        obtain rfl := Option.some.inj h
        exact XR.retI .boolean rfl (xnar_z c_21) (by decide +kernel)
      · skip
        refine s_M_off [(19, .ifCond .eq 16, 0, (-1)), (22, .iload_n 3, 0, 0), (23, .iload_n 2, 0, 0)] (by decide +kernel) (z' := (24, [(0, (vR 10 l0)), (1, (vI l1)), (2, (vI l2)), (3, (vI l3)), (4, (vI l4))], [(vI l2), (vI l3)], R, M, 174)) (cs := [¬ (r_15 = 0)]) (by rfl) ⟨c_17, trivial⟩ (Nat.le_refl _) ?_
        rcases xif_ex h with ⟨c_22, h⟩ | ⟨c_22, h⟩
        · skip
          refine s_M_off [(24, .if_icmp .lt 11, 0, 35), (35, .aload_n 0, 0, 0), (36, .iconst 1, 0, 1)] (by decide +kernel) (z' := (37, [(0, (vR 10 l0)), (1, (vI l1)), (2, (vI l2)), (3, (vI l3)), (4, (vI l4))], [(vI 1), (vR 10 l0)], R, M, 174)) (cs := [l3 < l2]) (by rfl) ⟨c_22, trivial⟩ (Nat.le_refl _) ?_
          obtain ⟨r_23, M_24, e_25, h⟩ := xb2_ex h
          refine XR.callV 10 rfl (rest := []) m_M_is k_10_254 10 l0 (Or.inl ⟨by decide, rfl⟩) [(vI 1)] rfl rfl (c_M_is e_25) (by decide) (Nat.le_of_ble_eq_true rfl) (by decide +kernel) (Nat.le_refl _) (Nat.le_refl _) ?_
          show XR false 2 174 sc y_M_off (40, [(0, (vR 10 l0)), (1, (vI l1)), (2, (vI l2)), (3, (vI l3)), (4, (vI l4))], [(vI r_23)], R, M_24, 174) _
          obtain ⟨c_26, h⟩ := xch_ex h
          obtain rfl := Option.some.inj h
          exact XR.retI .boolean rfl (xnar_z c_26) (by decide +kernel)
        · skip
          refine s_M_off [(24, .if_icmp .lt 11, 0, (-1)), (27, .iload 4, 0, 0)] (by decide +kernel) (z' := (29, [(0, (vR 10 l0)), (1, (vI l1)), (2, (vI l2)), (3, (vI l3)), (4, (vI l4))], [(vI l4)], R, M, 174)) (cs := [¬ (l3 < l2)]) (by rfl) ⟨c_22, trivial⟩ (Nat.le_refl _) ?_
          obtain ⟨r_27, e_28, h⟩ := xb1_ex h
          refine XR.callS 10 rfl (rest := []) m_M_isKnown k_10_442 [(vI l4)] rfl rfl (c_M_isKnown e_28) (by decide) (Nat.le_of_ble_eq_true rfl) (by decide +kernel) (Nat.le_refl _) (Nat.le_refl _) ?_
          show XR false 2 174 sc y_M_off (32, [(0, (vR 10 l0)), (1, (vI l1)), (2, (vI l2)), (3, (vI l3)), (4, (vI l4))], [(vI r_27)], R, M, 174) _
          rcases xif_ex h with ⟨c_29, h⟩ | ⟨c_29, h⟩
          · skip
            refine s_M_off [(32, .ifCond .ne 9, 0, (-1)), (35, .aload_n 0, 0, 0), (36, .iconst 1, 0, 1)] (by decide +kernel) (z' := (37, [(0, (vR 10 l0)), (1, (vI l1)), (2, (vI l2)), (3, (vI l3)), (4, (vI l4))], [(vI 1), (vR 10 l0)], R, M, 174)) (cs := [¬ (r_27 ≠ 0)]) (by rfl) ⟨fun q => q c_29, trivial⟩ (Nat.le_refl _) ?_
            obtain ⟨r_30, M_31, e_32, h⟩ := xb2_ex h
            refine XR.callV 10 rfl (rest := []) m_M_is k_10_254 10 l0 (Or.inl ⟨by decide, rfl⟩) [(vI 1)] rfl rfl (c_M_is e_32) (by decide) (Nat.le_of_ble_eq_true rfl) (by decide +kernel) (Nat.le_refl _) (Nat.le_refl _) ?_
            show XR false 2 174 sc y_M_off (40, [(0, (vR 10 l0)), (1, (vI l1)), (2, (vI l2)), (3, (vI l3)), (4, (vI l4))], [(vI r_30)], R, M_31, 174) _
            obtain ⟨c_33, h⟩ := xch_ex h
            obtain rfl := Option.some.inj h
            exact XR.retI .boolean rfl (xnar_z c_33) (by decide +kernel)
          · skip
            refine s_M_off [(32, .ifCond .ne 9, 0, 41), (41, .aload_n 0, 0, 0), (42, .iconst 2, 0, 2), (43, .iload_n 1, 0, 0), (44, .iload_n 2, 0, 0), (45, .iload_n 3, 0, 0), (46, .iload 4, 0, 0), (48, .iconst 1, 0, 1)] (by decide +kernel) (z' := (49, [(0, (vR 10 l0)), (1, (vI l1)), (2, (vI l2)), (3, (vI l3)), (4, (vI l4))], [(vI 1), (vI l4), (vI l3), (vI l2), (vI l1), (vI 2), (vR 10 l0)], R, M, 174)) (cs := [r_27 ≠ 0]) (by rfl) ⟨c_29, trivial⟩ (Nat.le_refl _) ?_
            obtain ⟨r_34, M_35, e_36, h⟩ := xb2_ex h
            refine XR.callV 10 rfl (rest := []) m_M_happens k_10_451 10 l0 (Or.inl ⟨by decide, rfl⟩) [(vI 2), (vI l1), (vI l2), (vI l3), (vI l4), (vI 1)] rfl rfl (c_M_happens e_36) (by decide) (Nat.le_of_ble_eq_true rfl) (by decide +kernel) (Nat.le_refl _) (Nat.le_refl _) ?_
            show XR false 2 174 sc y_M_off (52, [(0, (vR 10 l0)), (1, (vI l1)), (2, (vI l2)), (3, (vI l3)), (4, (vI l4))], [(vI r_34)], R, M_35, 174) _
            obtain ⟨c_37, h⟩ := xch_ex h
            obtain rfl := Option.some.inj h
            exact XR.retI .boolean rfl (xnar_z c_37) (by decide +kernel)
set_option maxRecDepth 100000 in
set_option maxHeartbeats 4000000 in
theorem c_M_off {sc : List Int} {R : xR} {M : xM} {l0 : Nat} {l1 : Int} {l2 : Int} {l3 : Int} {l4 : Int} {out : Int × xM} (h : f_M_off R l0 l1 l2 l3 l4 M = some out) : XC false 2 sc y_M_off [(vR 10 l0), (vI l1), (vI l2), (vI l3), (vI l4)] R M 174 174 ((some (vI out.1)), R, out.2) := XC.of (by decide) (Nat.le_of_ble_eq_true rfl) (Nat.le_refl _) (Nat.le_refl _) (o_M_off h)
