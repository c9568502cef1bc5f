def M_next_J26 (R : xR) (l0 : Nat) (rc : xM → Option xM) (q39 : xM → Option xM) (M : xM) : Option xM :=
  xl (xu M l0 10 (w32 ((M l0 10) + 1))) fun M_4 =>
  rc M_4
def M_next_F0 (R : xR) (l0 : Nat) (q39 : xM → Option xM) : Nat → xM → Option xM
  | 0, _ => none
  | n + 1, M =>
    xb1 (f_M_byteAt R l0 (M l0 10) M) fun r_1 =>
    if r_1 = 32 then
      M_next_J26 R l0 (M_next_F0 R l0 q39 n) q39 M
    else
      xb1 (f_M_byteAt R l0 (M l0 10) M) fun r_5 =>
      if r_5 = 10 then
        M_next_J26 R l0 (M_next_F0 R l0 q39 n) q39 M
      else
        q39 M
def M_next_J254 (R : xR) (s0 : Int) (s1 : Nat) (M : xM) : Option xM :=
  xl (xu M s1 8 s0) fun M_24 =>
  some (M_24)
def M_next_F128 (R : xR) (l0 : Nat) (q184 : xM → Option xM) : Nat → xM → Option xM
  | 0, _ => none
  | n + 1, M =>
    xb1 (f_M_byteAt R l0 (M l0 10) M) fun r_30 =>
    xb1 (f_M_isDigit r_30) fun r_32 =>
    if r_32 = 0 then
      q184 M
    else
      xb1 (f_M_byteAt R l0 (M l0 10) M) fun r_35 =>
      xl (xu M l0 11 (xmin 1000000 (w32 ((w32 ((w32 (10 * (M l0 11))) + r_35)) - 48)))) fun M_37 =>
      xl (xu M_37 l0 10 (w32 ((M_37 l0 10) + 1))) fun M_38 =>
      M_next_F128 R l0 q184 n M_38
def M_next_J203 (R : xR) (s0 : Int) (s1 : Nat) (M : xM) : Option xM :=
  xl (xu M s1 8 s0) fun M_41 =>
  some (M_41)
def M_next_F81 (R : xR) (l0 : Nat) (q108 : xM → Option xM) : Nat → xM → Option xM
  | 0, _ => none
  | n + 1, M =>
    xb1 (f_M_byteAt R l0 (M l0 10) M) fun r_42 =>
    xb1 (f_M_isSmall r_42) fun r_44 =>
    if r_44 = 0 then
      q108 M
    else
      xl (xu M l0 10 (w32 ((M l0 10) + 1))) fun M_47 =>
      M_next_F81 R l0 q108 n M_47
def f_M_next (R : xR) (l0 : Nat) (M : xM) : Option xM :=
  M_next_F0 R l0
    (fun (M_8 : xM) =>
      xl (xu M_8 l0 9 (M_8 l0 10)) fun M_9 =>
      xb1 (f_M_byteAt R l0 (M_9 l0 10) M_9) fun r_10 =>
      xl (xu M_9 l0 11 r_10) fun M_12 =>
      if r_10 = -1 then
        xl (xu M_12 l0 8 0) fun M_14 =>
        some (M_14)
      else
        xb1 (f_M_isSmall r_10) fun r_15 =>
        if r_15 = 0 then
          xb1 (f_M_isDigit r_10) fun r_18 =>
          if r_18 = 0 then
            xl (xu M_12 l0 10 (w32 ((M_12 l0 10) + 1))) fun M_21 =>
            if M_21 l0 16 = 0 then
              if r_10 = 59 then
                M_next_J254 R 4 l0 M_21
              else
                if r_10 = 44 then
                  M_next_J254 R 4 l0 M_21
                else
                  M_next_J254 R 1 l0 M_21
            else
              xb1 (f_M_isLawSign r_10) fun r_26 =>
              if r_26 = 0 then
                M_next_J254 R 1 l0 M_21
              else
                M_next_J254 R 4 l0 M_21
          else
            xl (xu M_12 l0 11 0) fun M_29 =>
            M_next_F128 R l0
              (fun (M_39 : xM) =>
                if 4 < w32 ((M_39 l0 10) - (M_39 l0 9)) then
                  M_next_J203 R 1 l0 M_39
                else
                  M_next_J203 R 3 l0 M_39)
              xfu M_29
        else
          M_next_F81 R l0
            (fun (M_48 : xM) =>
              xl (xu M_48 l0 8 2) fun M_49 =>
              some (M_49))
            xfu M_12)
    xfu M
set_option maxRecDepth 100000 in
set_option maxHeartbeats 4000000 in
theorem s_M_next {d : Nat} {sc : List Int} {z z' : xS} {out : xO} (qs : List xI) {cs : List Prop} (hq : qs.all (xqb 10 false y_M_next.2.2.1 y_M_next.2.1) = true) (h : xN false sc qs z = some (z', cs)) (hc : xAll cs) (hE : z'.2.2.2.2.2 ≤ 174) (k : XR false d 174 sc y_M_next z' out) : XR false d 174 sc y_M_next z out := XR.seg 10 false rfl (fun q => by cases q) qs hq h hc hE k
set_option maxRecDepth 100000 in
set_option maxHeartbeats 4000000 in
theorem o_M_next_J26 {sc : List Int} {R : xR}   {l0 : Nat}  {rc : xM → Option xM} {q39 : xM → Option xM} (hrc : ∀ (M : xM) (out : xM), rc M = some out → XR false 1 174 sc y_M_next (0, [(0, (vR 10 l0))], [], R, M, 174) (none, R, out)) (hq39 : ∀ (M : xM) (out : xM), q39 M = some out → XR false 1 174 sc y_M_next (39, [(0, (vR 10 l0))], [], R, M, 174) (none, R, out)) {M : xM} {out : xM} (h : M_next_J26 R l0 rc q39 M = some out) : XR false 1 174 sc y_M_next (26, [(0, (vR 10 l0))], [], R, M, 174) (none, R, out) := by
  unfold M_next_J26 at h
  obtain ⟨M_4, hM_4, h⟩ := xl_ex h
  refine s_M_next [(26, .aload_n 0, 0, 0), (27, .dup, 0, 0), (28, .getfield 277, 10, 10), (31, .iconst 1, 0, 1), (32, .iadd, 0, 0), (33, .putfield 277, 10, 10), (36, .goto (-36), 0, 0)] (by decide +kernel) (z' := (0, [(0, (vR 10 l0))], [], R, M_4, 174)) (cs := []) (by subst hM_4; rfl) trivial (Nat.le_refl _) ?_
  exact hrc M_4 _ h
set_option maxRecDepth 100000 in
set_option maxHeartbeats 4000000 in
theorem o_M_next_F0 {sc : List Int} {R : xR}   {l0 : Nat}  {q39 : xM → Option xM} (hq39 : ∀ (M : xM) (out : xM), q39 M = some out → XR false 1 174 sc y_M_next (39, [(0, (vR 10 l0))], [], R, M, 174) (none, R, out)) : ∀ (n : Nat) (M : xM) (out : xM), M_next_F0 R l0 q39 n M = some out → XR false 1 174 sc y_M_next (0, [(0, (vR 10 l0))], [], R, M, 174) (none, R, out) := by
  intro n
  induction n with
  | zero => intro M out h; exact (xno h).elim
  | succ n ih =>
    intro M out h
    rw [M_next_F0] at h
    refine s_M_next [(0, .aload_n 0, 0, 0), (1, .aload_n 0, 0, 0), (2, .getfield 277, 10, 10)] (by decide +kernel) (z' := (5, [(0, (vR 10 l0))], [(vI (M l0 10)), (vR 10 l0)], R, M, 174)) (cs := []) (by rfl) trivial (Nat.le_refl _) ?_
    obtain ⟨r_1, e_2, h⟩ := xb1_ex h
    refine XR.callV 10 rfl (rest := []) m_M_byteAt k_10_280 10 l0 (Or.inl ⟨by decide, rfl⟩) [(vI (M l0 10))] rfl rfl (c_M_byteAt e_2) (by decide) (Nat.le_of_ble_eq_true rfl) (by decide +kernel) (Nat.le_refl _) (Nat.le_refl _) ?_
    show XR false 1 174 sc y_M_next (8, [(0, (vR 10 l0))], [(vI r_1)], R, M, 174) _
    refine s_M_next [(8, .bipush 32, 0, 32)] (by decide +kernel) (z' := (10, [(0, (vR 10 l0))], [(vI 32), (vI r_1)], R, M, 174)) (cs := []) (by rfl) trivial (Nat.le_refl _) ?_
    rcases xif_ex h with ⟨c_3, h⟩ | ⟨c_3, h⟩
    · skip
      refine s_M_next [(10, .if_icmp .eq 16, 0, 26)] (by decide +kernel) (z' := (26, [(0, (vR 10 l0))], [], R, M, 174)) (cs := [r_1 = 32]) (by rfl) ⟨c_3, trivial⟩ (Nat.le_refl _) ?_
      exact o_M_next_J26 ih hq39 h
    · skip
      refine s_M_next [(10, .if_icmp .eq 16, 0, (-1)), (13, .aload_n 0, 0, 0), (14, .aload_n 0, 0, 0), (15, .getfield 277, 10, 10)] (by decide +kernel) (z' := (18, [(0, (vR 10 l0))], [(vI (M l0 10)), (vR 10 l0)], R, M, 174)) (cs := [¬ (r_1 = 32)]) (by rfl) ⟨c_3, trivial⟩ (Nat.le_refl _) ?_
      obtain ⟨r_5, e_6, h⟩ := xb1_ex h
      refine XR.callV 10 rfl (rest := []) m_M_byteAt k_10_280 10 l0 (Or.inl ⟨by decide, rfl⟩) [(vI (M l0 10))] rfl rfl (c_M_byteAt e_6) (by decide) (Nat.le_of_ble_eq_true rfl) (by decide +kernel) (Nat.le_refl _) (Nat.le_refl _) ?_
      show XR false 1 174 sc y_M_next (21, [(0, (vR 10 l0))], [(vI r_5)], R, M, 174) _
      refine s_M_next [(21, .bipush 10, 0, 10)] (by decide +kernel) (z' := (23, [(0, (vR 10 l0))], [(vI 10), (vI r_5)], R, M, 174)) (cs := []) (by rfl) trivial (Nat.le_refl _) ?_
      rcases xif_ex h with ⟨c_7, h⟩ | ⟨c_7, h⟩
      · skip
        refine s_M_next [(23, .if_icmp .ne 16, 0, (-1))] (by decide +kernel) (z' := (26, [(0, (vR 10 l0))], [], R, M, 174)) (cs := [¬ (r_5 ≠ 10)]) (by rfl) ⟨fun q => q c_7, trivial⟩ (Nat.le_refl _) ?_
        exact o_M_next_J26 ih hq39 h
      · skip
        refine s_M_next [(23, .if_icmp .ne 16, 0, 39)] (by decide +kernel) (z' := (39, [(0, (vR 10 l0))], [], R, M, 174)) (cs := [r_5 ≠ 10]) (by rfl) ⟨c_7, trivial⟩ (Nat.le_refl _) ?_
        exact hq39 M _ h
set_option maxRecDepth 100000 in
set_option maxHeartbeats 4000000 in
theorem o_M_next_J254 {sc : List Int} {R : xR}     {s0 : Int} {s1 : Nat} {M : xM} {out : xM} (h : M_next_J254 R  s0 s1 M = some out) : XR false 1 174 sc y_M_next (254, [], [(vI s0), (vR 10 s1)], R, M, 174) (none, R, out) := by
  unfold M_next_J254 at h
  obtain ⟨M_24, hM_24, h⟩ := xl_ex h
  refine s_M_next [(254, .putfield 290, 10, 8)] (by decide +kernel) (z' := (257, [], [], R, M_24, 174)) (cs := []) (by subst hM_24; rfl) trivial (Nat.le_refl _) ?_
  obtain rfl := Option.some.inj h
  exact XR.retV rfl (by decide +kernel)
set_option maxRecDepth 100000 in
set_option maxHeartbeats 4000000 in
theorem o_M_next_F128 {sc : List Int} {R : xR}   {l0 : Nat}  {q184 : xM → Option xM} (hq184 : ∀ (M : xM) (out : xM), q184 M = some out → XR false 1 174 sc y_M_next (184, [(0, (vR 10 l0))], [], R, M, 174) (none, R, out)) : ∀ (n : Nat) (M : xM) (out : xM), M_next_F128 R l0 q184 n M = some out → XR false 1 174 sc y_M_next (128, [(0, (vR 10 l0))], [], R, M, 174) (none, R, out) := by
  intro n
  induction n with
  | zero => intro M out h; exact (xno h).elim
  | succ n ih =>
    intro M out h
    rw [M_next_F128] at h
    refine s_M_next [(128, .aload_n 0, 0, 0), (129, .aload_n 0, 0, 0), (130, .getfield 277, 10, 10)] (by decide +kernel) (z' := (133, [(0, (vR 10 l0))], [(vI (M l0 10)), (vR 10 l0)], R, M, 174)) (cs := []) (by rfl) trivial (Nat.le_refl _) ?_
    obtain ⟨r_30, e_31, h⟩ := xb1_ex h
    refine XR.callV 10 rfl (rest := []) m_M_byteAt k_10_280 10 l0 (Or.inl ⟨by decide, rfl⟩) [(vI (M l0 10))] rfl rfl (c_M_byteAt e_31) (by decide) (Nat.le_of_ble_eq_true rfl) (by decide +kernel) (Nat.le_refl _) (Nat.le_refl _) ?_
    show XR false 1 174 sc y_M_next (136, [(0, (vR 10 l0))], [(vI r_30)], R, M, 174) _
    obtain ⟨r_32, e_33, h⟩ := xb1_ex h
    refine XR.callS 10 rfl (rest := []) m_M_isDigit k_10_296 [(vI r_30)] rfl rfl (c_M_isDigit e_33) (by decide) (Nat.le_of_ble_eq_true rfl) (by decide +kernel) (Nat.le_refl _) (Nat.le_refl _) ?_
    show XR false 1 174 sc y_M_next (139, [(0, (vR 10 l0))], [(vI r_32)], R, M, 174) _
    rcases xif_ex h with ⟨c_34, h⟩ | ⟨c_34, h⟩
    · skip
      refine s_M_next [(139, .ifCond .eq 45, 0, 184)] (by decide +kernel) (z' := (184, [(0, (vR 10 l0))], [], R, M, 174)) (cs := [r_32 = 0]) (by rfl) ⟨c_34, trivial⟩ (Nat.le_refl _) ?_
      exact hq184 M _ h
    · skip
      refine s_M_next [(139, .ifCond .eq 45, 0, (-1)), (142, .aload_n 0, 0, 0), (143, .ldc_w 299, 0, 1000000), (146, .bipush 10, 0, 10), (148, .aload_n 0, 0, 0), (149, .getfield 287, 10, 11), (152, .imul, 0, 0), (153, .aload_n 0, 0, 0), (154, .aload_n 0, 0, 0), (155, .getfield 277, 10, 10)] (by decide +kernel) (z' := (158, [(0, (vR 10 l0))], [(vI (M l0 10)), (vR 10 l0), (vI (w32 (10 * (M l0 11)))), (vI 1000000), (vR 10 l0)], R, M, 174)) (cs := [¬ (r_32 = 0)]) (by rfl) ⟨c_34, trivial⟩ (Nat.le_refl _) ?_
      obtain ⟨r_35, e_36, h⟩ := xb1_ex h
      refine XR.callV 10 rfl (rest := [(vI (w32 (10 * (M l0 11)))), (vI 1000000), (vR 10 l0)]) m_M_byteAt k_10_280 10 l0 (Or.inl ⟨by decide, rfl⟩) [(vI (M l0 10))] rfl rfl (c_M_byteAt e_36) (by decide) (Nat.le_of_ble_eq_true rfl) (by decide +kernel) (Nat.le_refl _) (Nat.le_refl _) ?_
      show XR false 1 174 sc y_M_next (161, [(0, (vR 10 l0))], [(vI r_35), (vI (w32 (10 * (M l0 11)))), (vI 1000000), (vR 10 l0)], R, M, 174) _
      refine s_M_next [(161, .iadd, 0, 0), (162, .bipush 48, 0, 48), (164, .isub, 0, 0)] (by decide +kernel) (z' := (165, [(0, (vR 10 l0))], [(vI (w32 ((w32 ((w32 (10 * (M l0 11))) + r_35)) - 48))), (vI 1000000), (vR 10 l0)], R, M, 174)) (cs := []) (by rfl) trivial (Nat.le_refl _) ?_
      refine XR.mmin 10 rfl (rest := [(vR 10 l0)]) k_10_300 k_mminS k_mini k_mminC (Nat.le_refl _) (by decide) (Nat.le_of_ble_eq_true rfl) (by decide +kernel) ?_
      obtain ⟨M_37, hM_37, h⟩ := xl_ex h
      obtain ⟨M_38, hM_38, h⟩ := xl_ex h
      refine s_M_next [(168, .putfield 287, 10, 11), (171, .aload_n 0, 0, 0), (172, .dup, 0, 0), (173, .getfield 277, 10, 10), (176, .iconst 1, 0, 1), (177, .iadd, 0, 0), (178, .putfield 277, 10, 10), (181, .goto (-53), 0, 128)] (by decide +kernel) (z' := (128, [(0, (vR 10 l0))], [], R, M_38, 174)) (cs := []) (by subst hM_37; subst hM_38; rfl) trivial (Nat.le_refl _) ?_
      exact ih M_38 _ h
set_option maxRecDepth 100000 in
set_option maxHeartbeats 4000000 in
theorem o_M_next_J203 {sc : List Int} {R : xR}     {s0 : Int} {s1 : Nat} {M : xM} {out : xM} (h : M_next_J203 R  s0 s1 M = some out) : XR false 1 174 sc y_M_next (203, [], [(vI s0), (vR 10 s1)], R, M, 174) (none, R, out) := by
  unfold M_next_J203 at h
  obtain ⟨M_41, hM_41, h⟩ := xl_ex h
  refine s_M_next [(203, .putfield 290, 10, 8), (206, .goto 51, 0, 257)] (by decide +kernel) (z' := (257, [], [], R, M_41, 174)) (cs := []) (by subst hM_41; rfl) trivial (Nat.le_refl _) ?_
  obtain rfl := Option.some.inj h
  exact XR.retV rfl (by decide +kernel)
set_option maxRecDepth 100000 in
set_option maxHeartbeats 4000000 in
theorem o_M_next_F81 {sc : List Int} {R : xR}   {l0 : Nat}  {q108 : xM → Option xM} (hq108 : ∀ (M : xM) (out : xM), q108 M = some out → XR false 1 174 sc y_M_next (108, [(0, (vR 10 l0))], [], R, M, 174) (none, R, out)) : ∀ (n : Nat) (M : xM) (out : xM), M_next_F81 R l0 q108 n M = some out → XR false 1 174 sc y_M_next (81, [(0, (vR 10 l0))], [], R, M, 174) (none, R, out) := by
  intro n
  induction n with
  | zero => intro M out h; exact (xno h).elim
  | succ n ih =>
    intro M out h
    rw [M_next_F81] at h
    refine s_M_next [(81, .aload_n 0, 0, 0), (82, .aload_n 0, 0, 0), (83, .getfield 277, 10, 10)] (by decide +kernel) (z' := (86, [(0, (vR 10 l0))], [(vI (M l0 10)), (vR 10 l0)], R, M, 174)) (cs := []) (by rfl) trivial (Nat.le_refl _) ?_
    obtain ⟨r_42, e_43, h⟩ := xb1_ex h
    refine XR.callV 10 rfl (rest := []) m_M_byteAt k_10_280 10 l0 (Or.inl ⟨by decide, rfl⟩) [(vI (M l0 10))] rfl rfl (c_M_byteAt e_43) (by decide) (Nat.le_of_ble_eq_true rfl) (by decide +kernel) (Nat.le_refl _) (Nat.le_refl _) ?_
    show XR false 1 174 sc y_M_next (89, [(0, (vR 10 l0))], [(vI r_42)], R, M, 174) _
    obtain ⟨r_44, e_45, h⟩ := xb1_ex h
    refine XR.callS 10 rfl (rest := []) m_M_isSmall k_10_293 [(vI r_42)] rfl rfl (c_M_isSmall e_45) (by decide) (Nat.le_of_ble_eq_true rfl) (by decide +kernel) (Nat.le_refl _) (Nat.le_refl _) ?_
    show XR false 1 174 sc y_M_next (92, [(0, (vR 10 l0))], [(vI r_44)], R, M, 174) _
    rcases xif_ex h with ⟨c_46, h⟩ | ⟨c_46, h⟩
    · skip
      refine s_M_next [(92, .ifCond .eq 16, 0, 108)] (by decide +kernel) (z' := (108, [(0, (vR 10 l0))], [], R, M, 174)) (cs := [r_44 = 0]) (by rfl) ⟨c_46, trivial⟩ (Nat.le_refl _) ?_
      exact hq108 M _ h
    · skip
      obtain ⟨M_47, hM_47, h⟩ := xl_ex h
      refine s_M_next [(92, .ifCond .eq 16, 0, (-1)), (95, .aload_n 0, 0, 0), (96, .dup, 0, 0), (97, .getfield 277, 10, 10), (100, .iconst 1, 0, 1), (101, .iadd, 0, 0), (102, .putfield 277, 10, 10), (105, .goto (-24), 0, 81)] (by decide +kernel) (z' := (81, [(0, (vR 10 l0))], [], R, M_47, 174)) (cs := [¬ (r_44 = 0)]) (by subst hM_47; rfl) ⟨c_46, trivial⟩ (Nat.le_refl _) ?_
      exact ih M_47 _ h
set_option maxRecDepth 100000 in
set_option maxHeartbeats 4000000 in
theorem o_M_next {sc : List Int} {R : xR} {M : xM} {l0 : Nat} {out : xM} (h : f_M_next R l0 M = some out) : XR false 1 174 sc y_M_next (0, [(0, (vR 10 l0))], [], R, M, 174) (none, R, out) := by
  unfold f_M_next at h
  refine o_M_next_F0 ?_ xfu M _ h
  · intro M_8 out h
    obtain ⟨M_9, hM_9, h⟩ := xl_ex h
    refine s_M_next [(39, .aload_n 0, 0, 0), (40, .aload_n 0, 0, 0), (41, .getfield 277, 10, 10), (44, .putfield 284, 10, 9), (47, .aload_n 0, 0, 0), (48, .aload_n 0, 0, 0), (49, .getfield 277, 10, 10)] (by decide +kernel) (z' := (52, [(0, (vR 10 l0))], [(vI (M_9 l0 10)), (vR 10 l0)], R, M_9, 174)) (cs := []) (by subst hM_9; rfl) trivial (Nat.le_refl _) ?_
    obtain ⟨r_10, e_11, h⟩ := xb1_ex h
    refine XR.callV 10 rfl (rest := []) m_M_byteAt k_10_280 10 l0 (Or.inl ⟨by decide, rfl⟩) [(vI (M_9 l0 10))] rfl rfl (c_M_byteAt e_11) (by decide) (Nat.le_of_ble_eq_true rfl) (by decide +kernel) (Nat.le_refl _) (Nat.le_refl _) ?_
    show XR false 1 174 sc y_M_next (55, [(0, (vR 10 l0))], [(vI r_10)], R, M_9, 174) _
    obtain ⟨M_12, hM_12, h⟩ := xl_ex h
    refine s_M_next [(55, .istore_n 1, 0, 0), (56, .aload_n 0, 0, 0), (57, .iload_n 1, 0, 0), (58, .putfield 287, 10, 11), (61, .iload_n 1, 0, 0), (62, .iconst (-1), 0, (-1))] (by decide +kernel) (z' := (63, [(1, (vI r_10)), (0, (vR 10 l0))], [(vI (-1)), (vI r_10)], R, M_12, 174)) (cs := []) (by subst hM_12; rfl) trivial (Nat.le_refl _) ?_
    rcases xif_ex h with ⟨c_13, h⟩ | ⟨c_13, h⟩
    · skip
      obtain ⟨M_14, hM_14, h⟩ := xl_ex h
      refine s_M_next [(63, .if_icmp .ne 11, 0, (-1)), (66, .aload_n 0, 0, 0), (67, .iconst 0, 0, 0), (68, .putfield 290, 10, 8), (71, .goto 186, 0, 257)] (by decide +kernel) (z' := (257, [(1, (vI r_10)), (0, (vR 10 l0))], [], R, M_14, 174)) (cs := [¬ (r_10 ≠ -1)]) (by subst hM_14; rfl) ⟨fun q => q c_13, trivial⟩ (Nat.le_refl _) ?_
      obtain rfl := Option.some.inj h
      exact XR.retV rfl (by decide +kernel)
    · skip
      refine s_M_next [(63, .if_icmp .ne 11, 0, 74), (74, .iload_n 1, 0, 0)] (by decide +kernel) (z' := (75, [(1, (vI r_10)), (0, (vR 10 l0))], [(vI r_10)], R, M_12, 174)) (cs := [r_10 ≠ -1]) (by rfl) ⟨c_13, trivial⟩ (Nat.le_refl _) ?_
      obtain ⟨r_15, e_16, h⟩ := xb1_ex h
      refine XR.callS 10 rfl (rest := []) m_M_isSmall k_10_293 [(vI r_10)] rfl rfl (c_M_isSmall e_16) (by decide) (Nat.le_of_ble_eq_true rfl) (by decide +kernel) (Nat.le_refl _) (Nat.le_refl _) ?_
      show XR false 1 174 sc y_M_next (78, [(1, (vI r_10)), (0, (vR 10 l0))], [(vI r_15)], R, M_12, 174) _
      rcases xif_ex h with ⟨c_17, h⟩ | ⟨c_17, h⟩
      · skip
        refine s_M_next [(78, .ifCond .eq 38, 0, 116), (116, .iload_n 1, 0, 0)] (by decide +kernel) (z' := (117, [(1, (vI r_10)), (0, (vR 10 l0))], [(vI r_10)], R, M_12, 174)) (cs := [r_15 = 0]) (by rfl) ⟨c_17, trivial⟩ (Nat.le_refl _) ?_
        obtain ⟨r_18, e_19, h⟩ := xb1_ex h
        refine XR.callS 10 rfl (rest := []) m_M_isDigit k_10_296 [(vI r_10)] rfl rfl (c_M_isDigit e_19) (by decide) (Nat.le_of_ble_eq_true rfl) (by decide +kernel) (Nat.le_refl _) (Nat.le_refl _) ?_
        show XR false 1 174 sc y_M_next (120, [(1, (vI r_10)), (0, (vR 10 l0))], [(vI r_18)], R, M_12, 174) _
        rcases xif_ex h with ⟨c_20, h⟩ | ⟨c_20, h⟩
        · skip
          obtain ⟨M_21, hM_21, h⟩ := xl_ex h
          refine s_M_next [(120, .ifCond .eq 89, 0, 209), (209, .aload_n 0, 0, 0), (210, .dup, 0, 0), (211, .getfield 277, 10, 10), (214, .iconst 1, 0, 1), (215, .iadd, 0, 0), (216, .putfield 277, 10, 10), (219, .aload_n 0, 0, 0), (220, .aload_n 0, 0, 0), (221, .getfield 305, 10, 16)] (by decide +kernel) (z' := (224, [(1, (vI r_10)), (0, (vR 10 l0))], [(vI (M_21 l0 16)), (vR 10 l0)], R, M_21, 174)) (cs := [r_18 = 0]) (by subst hM_21; rfl) ⟨c_20, trivial⟩ (Nat.le_refl _) ?_
          rcases xif_ex h with ⟨c_22, h⟩ | ⟨c_22, h⟩
          · skip
            refine s_M_next [(224, .ifCond .eq 13, 0, 237), (237, .iload_n 1, 0, 0), (238, .bipush 59, 0, 59)] (by decide +kernel) (z' := (240, [(1, (vI r_10)), (0, (vR 10 l0))], [(vI 59), (vI r_10), (vR 10 l0)], R, M_21, 174)) (cs := [M_21 l0 16 = 0]) (by rfl) ⟨c_22, trivial⟩ (Nat.le_refl _) ?_
            rcases xif_ex h with ⟨c_23, h⟩ | ⟨c_23, h⟩
            · skip
              refine s_M_next [(240, .if_icmp .eq 9, 0, 249), (249, .iconst 4, 0, 4), (250, .goto 4, 0, 254)] (by decide +kernel) (z' := (254, [(1, (vI r_10)), (0, (vR 10 l0))], [(vI 4), (vR 10 l0)], R, M_21, 174)) (cs := [r_10 = 59]) (by rfl) ⟨c_23, trivial⟩ (Nat.le_refl _) ?_
              refine XR.pick [] (ls' := []) rfl ?_
              exact o_M_next_J254  h
            · skip
              refine s_M_next [(240, .if_icmp .eq 9, 0, (-1)), (243, .iload_n 1, 0, 0), (244, .bipush 44, 0, 44)] (by decide +kernel) (z' := (246, [(1, (vI r_10)), (0, (vR 10 l0))], [(vI 44), (vI r_10), (vR 10 l0)], R, M_21, 174)) (cs := [¬ (r_10 = 59)]) (by rfl) ⟨c_23, trivial⟩ (Nat.le_refl _) ?_
              rcases xif_ex h with ⟨c_25, h⟩ | ⟨c_25, h⟩
              · skip
                refine s_M_next [(246, .if_icmp .ne 7, 0, (-1)), (249, .iconst 4, 0, 4), (250, .goto 4, 0, 254)] (by decide +kernel) (z' := (254, [(1, (vI r_10)), (0, (vR 10 l0))], [(vI 4), (vR 10 l0)], R, M_21, 174)) (cs := [¬ (r_10 ≠ 44)]) (by rfl) ⟨fun q => q c_25, trivial⟩ (Nat.le_refl _) ?_
                refine XR.pick [] (ls' := []) rfl ?_
                exact o_M_next_J254  h
              · skip
                refine s_M_next [(246, .if_icmp .ne 7, 0, 253), (253, .iconst 1, 0, 1)] (by decide +kernel) (z' := (254, [(1, (vI r_10)), (0, (vR 10 l0))], [(vI 1), (vR 10 l0)], R, M_21, 174)) (cs := [r_10 ≠ 44]) (by rfl) ⟨c_25, trivial⟩ (Nat.le_refl _) ?_
                refine XR.pick [] (ls' := []) rfl ?_
                exact o_M_next_J254  h
          · skip
            refine s_M_next [(224, .ifCond .eq 13, 0, (-1)), (227, .iload_n 1, 0, 0)] (by decide +kernel) (z' := (228, [(1, (vI r_10)), (0, (vR 10 l0))], [(vI r_10), (vR 10 l0)], R, M_21, 174)) (cs := [¬ (M_21 l0 16 = 0)]) (by rfl) ⟨c_22, trivial⟩ (Nat.le_refl _) ?_
            obtain ⟨r_26, e_27, h⟩ := xb1_ex h
            refine XR.callS 10 rfl (rest := [(vR 10 l0)]) m_M_isLawSign k_10_309 [(vI r_10)] rfl rfl (c_M_isLawSign e_27) (by decide) (Nat.le_of_ble_eq_true rfl) (by decide +kernel) (Nat.le_refl _) (Nat.le_refl _) ?_
            show XR false 1 174 sc y_M_next (231, [(1, (vI r_10)), (0, (vR 10 l0))], [(vI r_26), (vR 10 l0)], R, M_21, 174) _
            rcases xif_ex h with ⟨c_28, h⟩ | ⟨c_28, h⟩
            · skip
              refine s_M_next [(231, .ifCond .eq 22, 0, 253), (253, .iconst 1, 0, 1)] (by decide +kernel) (z' := (254, [(1, (vI r_10)), (0, (vR 10 l0))], [(vI 1), (vR 10 l0)], R, M_21, 174)) (cs := [r_26 = 0]) (by rfl) ⟨c_28, trivial⟩ (Nat.le_refl _) ?_
              refine XR.pick [] (ls' := []) rfl ?_
              exact o_M_next_J254  h
            · skip
              refine s_M_next [(231, .ifCond .eq 22, 0, (-1)), (234, .goto 15, 0, 249), (249, .iconst 4, 0, 4), (250, .goto 4, 0, 254)] (by decide +kernel) (z' := (254, [(1, (vI r_10)), (0, (vR 10 l0))], [(vI 4), (vR 10 l0)], R, M_21, 174)) (cs := [¬ (r_26 = 0)]) (by rfl) ⟨c_28, trivial⟩ (Nat.le_refl _) ?_
              refine XR.pick [] (ls' := []) rfl ?_
              exact o_M_next_J254  h
        · skip
          obtain ⟨M_29, hM_29, h⟩ := xl_ex h
          refine s_M_next [(120, .ifCond .eq 89, 0, (-1)), (123, .aload_n 0, 0, 0), (124, .iconst 0, 0, 0), (125, .putfield 287, 10, 11)] (by decide +kernel) (z' := (128, [(1, (vI r_10)), (0, (vR 10 l0))], [], R, M_29, 174)) (cs := [¬ (r_18 = 0)]) (by subst hM_29; rfl) ⟨c_20, trivial⟩ (Nat.le_refl _) ?_
          refine XR.pick [1] (ls' := [(0, (vR 10 l0))]) rfl ?_
          refine o_M_next_F128 ?_ xfu M_29 _ h
          · intro M_39 out h
            refine s_M_next [(184, .aload_n 0, 0, 0), (185, .aload_n 0, 0, 0), (186, .getfield 277, 10, 10), (189, .aload_n 0, 0, 0), (190, .getfield 284, 10, 9), (193, .isub, 0, 0), (194, .iconst 4, 0, 4)] (by decide +kernel) (z' := (195, [(0, (vR 10 l0))], [(vI 4), (vI (w32 ((M_39 l0 10) - (M_39 l0 9)))), (vR 10 l0)], R, M_39, 174)) (cs := []) (by rfl) trivial (Nat.le_refl _) ?_
            rcases xif_ex h with ⟨c_40, h⟩ | ⟨c_40, h⟩
            · skip
              refine s_M_next [(195, .if_icmp .le 7, 0, (-1)), (198, .iconst 1, 0, 1), (199, .goto 4, 0, 203)] (by decide +kernel) (z' := (203, [(0, (vR 10 l0))], [(vI 1), (vR 10 l0)], R, M_39, 174)) (cs := [¬ (w32 ((M_39 l0 10) - (M_39 l0 9)) ≤ 4)]) (by rfl) ⟨Int.not_le.mpr c_40, trivial⟩ (Nat.le_refl _) ?_
              refine XR.pick [] (ls' := []) rfl ?_
              exact o_M_next_J203  h
            · skip
              refine s_M_next [(195, .if_icmp .le 7, 0, 202), (202, .iconst 3, 0, 3)] (by decide +kernel) (z' := (203, [(0, (vR 10 l0))], [(vI 3), (vR 10 l0)], R, M_39, 174)) (cs := [w32 ((M_39 l0 10) - (M_39 l0 9)) ≤ 4]) (by rfl) ⟨Int.not_lt.mp c_40, trivial⟩ (Nat.le_refl _) ?_
              refine XR.pick [] (ls' := []) rfl ?_
              exact o_M_next_J203  h
      · skip
        refine s_M_next [(78, .ifCond .eq 38, 0, (-1))] (by decide +kernel) (z' := (81, [(1, (vI r_10)), (0, (vR 10 l0))], [], R, M_12, 174)) (cs := [¬ (r_15 = 0)]) (by rfl) ⟨c_17, trivial⟩ (Nat.le_refl _) ?_
        refine XR.pick [1] (ls' := [(0, (vR 10 l0))]) rfl ?_
        refine o_M_next_F81 ?_ xfu M_12 _ h
        · intro M_48 out h
          obtain ⟨M_49, hM_49, h⟩ := xl_ex h
          refine s_M_next [(108, .aload_n 0, 0, 0), (109, .iconst 2, 0, 2), (110, .putfield 290, 10, 8), (113, .goto 144, 0, 257)] (by decide +kernel) (z' := (257, [(0, (vR 10 l0))], [], R, M_49, 174)) (cs := []) (by subst hM_49; rfl) trivial (Nat.le_refl _) ?_
          obtain rfl := Option.some.inj h
          exact XR.retV rfl (by decide +kernel)
set_option maxRecDepth 100000 in
set_option maxHeartbeats 4000000 in
theorem c_M_next {sc : List Int} {R : xR} {M : xM} {l0 : Nat} {out : xM} (h : f_M_next R l0 M = some out) : XC false 1 sc y_M_next [(vR 10 l0)] R M 174 174 (none, R, out) := XC.of (by decide) (Nat.le_of_ble_eq_true rfl) (Nat.le_refl _) (Nat.le_refl _) (o_M_next h)
def M_begin_F7 (R : xR) (l0 : Nat) (l1 : Int) (l2 : Int) (q30 : xM → Option xM) : Nat → Int → xM → Option xM
  | 0, _, _ => none
  | n + 1, v3, M =>
    if v3 < l1 then
      xch (0 ≤ v3 ∧ v3 < 600) <|
      xl (xu M (R l0 5) (Int.toNat v3) (w8 (M (R l0 4) (Int.toNat v3)))) fun M_4 =>
      xl (w32 (v3 + 1)) fun v3_5 =>
      M_begin_F7 R l0 l1 l2 q30 n v3_5 M_4
    else
      q30 M
def f_M_begin (R : xR) (l0 : Nat) (l1 : Int) (l2 : Int) (M : xM) : Option xM :=
  xl (xu M l0 7 l1) fun M_1 =>
  M_begin_F7 R l0 l1 l2
    (fun (M_6 : xM) =>
      xl (xu M_6 l0 6 0) fun M_7 =>
      xl (xu M_7 l0 15 0) fun M_8 =>
      xl (xu M_8 l0 14 (-1)) fun M_9 =>
      xl (xu M_9 l0 10 0) fun M_10 =>
      xch (l2 = 0 ∨ l2 = 1) <|
      xl (xu M_10 l0 16 l2) fun M_12 =>
      xb1 (f_M_next R l0 M_12) fun M_13 =>
      some (M_13))
    xfu 0 M_1
set_option maxRecDepth 100000 in
set_option maxHeartbeats 4000000 in
theorem s_M_begin {d : Nat} {sc : List Int} {z z' : xS} {out : xO} (qs : List xI) {cs : List Prop} (hq : qs.all (xqb 10 false y_M_begin.2.2.1 y_M_begin.2.1) = true) (h : xN false sc qs z = some (z', cs)) (hc : xAll cs) (hE : z'.2.2.2.2.2 ≤ 174) (k : XR false d 174 sc y_M_begin z' out) : XR false d 174 sc y_M_begin z out := XR.seg 10 false rfl (fun q => by cases q) qs hq h hc hE k
set_option maxRecDepth 100000 in
set_option maxHeartbeats 4000000 in
theorem o_M_begin_F7 {sc : List Int} {R : xR}   {l0 : Nat} {l1 : Int} {l2 : Int}  {q30 : xM → Option xM} (hq30 : ∀ (M : xM) (out : xM), q30 M = some out → XR false 2 174 sc y_M_begin (30, [(0, (vR 10 l0)), (2, (vI l2))], [], R, M, 174) (none, R, out)) : ∀ (n : Nat) (v3 : Int) (M : xM) (out : xM), M_begin_F7 R l0 l1 l2 q30 n v3 M = some out → XR false 2 174 sc y_M_begin (7, [(0, (vR 10 l0)), (1, (vI l1)), (2, (vI l2)), (3, (vI v3))], [], R, M, 174) (none, R, out) := by
  intro n
  induction n with
  | zero => intro v3 M out h; exact (xno h).elim
  | succ n ih =>
    intro v3 M out h
    rw [M_begin_F7] at h
    refine s_M_begin [(7, .iload_n 3, 0, 0), (8, .iload_n 1, 0, 0)] (by decide +kernel) (z' := (9, [(0, (vR 10 l0)), (1, (vI l1)), (2, (vI l2)), (3, (vI v3))], [(vI l1), (vI v3)], R, M, 174)) (cs := []) (by rfl) trivial (Nat.le_refl _) ?_
    rcases xif_ex h with ⟨c_2, h⟩ | ⟨c_2, h⟩
    · skip
      obtain ⟨c_3, h⟩ := xch_ex h
      obtain ⟨M_4, hM_4, h⟩ := xl_ex h
      obtain ⟨v3_5, hv3_5, h⟩ := xl_ex h
      refine s_M_begin [(9, .if_icmp .ge 21, 0, (-1)), (12, .aload_n 0, 0, 0), (13, .getfield 24, 10, 5), (16, .iload_n 3, 0, 0), (17, .aload_n 0, 0, 0), (18, .getfield 20, 10, 4), (21, .iload_n 3, 0, 0), (22, .baload, 2, 0), (23, .bastore, 2, 0), (24, .iinc 3 1, 0, 0), (27, .goto (-20), 0, 7)] (by decide +kernel) (z' := (7, [(3, (vI v3_5)), (0, (vR 10 l0)), (1, (vI l1)), (2, (vI l2))], [], R, M_4, 174)) (cs := [¬ (l1 ≤ v3), xar 39 2, xidx v3 (xan 39), xar 39 2, xidx v3 (xan 39)]) (by subst hM_4; subst hv3_5; rfl) ⟨Int.not_le.mpr c_2, xar_39, xix_39 c_3, xar_39, xix_39 c_3, trivial⟩ (Nat.le_refl _) ?_
      refine XR.pick [1, 2, 3, 0] (ls' := [(0, (vR 10 l0)), (1, (vI l1)), (2, (vI l2)), (3, (vI v3_5))]) rfl ?_
      exact ih v3_5 M_4 _ h
    · skip
      refine s_M_begin [(9, .if_icmp .ge 21, 0, 30)] (by decide +kernel) (z' := (30, [(0, (vR 10 l0)), (1, (vI l1)), (2, (vI l2)), (3, (vI v3))], [], R, M, 174)) (cs := [l1 ≤ v3]) (by rfl) ⟨Int.not_lt.mp c_2, trivial⟩ (Nat.le_refl _) ?_
      refine XR.pick [0, 2] (ls' := [(0, (vR 10 l0)), (2, (vI l2))]) rfl ?_
      exact hq30 M _ h
set_option maxRecDepth 100000 in
set_option maxHeartbeats 4000000 in
theorem o_M_begin {sc : List Int} {R : xR} {M : xM} {l0 : Nat} {l1 : Int} {l2 : Int} {out : xM} (h : f_M_begin R l0 l1 l2 M = some out) : XR false 2 174 sc y_M_begin (0, [(0, (vR 10 l0)), (1, (vI l1)), (2, (vI l2))], [], R, M, 174) (none, R, out) := by
  unfold f_M_begin at h
  obtain ⟨M_1, hM_1, h⟩ := xl_ex h
  refine s_M_begin [(0, .aload_n 0, 0, 0), (1, .iload_n 1, 0, 0), (2, .putfield 274, 10, 7), (5, .iconst 0, 0, 0), (6, .istore_n 3, 0, 0)] (by decide +kernel) (z' := (7, [(3, (vI 0)), (0, (vR 10 l0)), (1, (vI l1)), (2, (vI l2))], [], R, M_1, 174)) (cs := []) (by subst hM_1; rfl) trivial (Nat.le_refl _) ?_
  refine XR.pick [1, 2, 3, 0] (ls' := [(0, (vR 10 l0)), (1, (vI l1)), (2, (vI l2)), (3, (vI 0))]) rfl ?_
  refine o_M_begin_F7 ?_ xfu 0 M_1 _ h
  · intro M_6 out h
    obtain ⟨M_7, hM_7, h⟩ := xl_ex h
    obtain ⟨M_8, hM_8, h⟩ := xl_ex h
    obtain ⟨M_9, hM_9, h⟩ := xl_ex h
    obtain ⟨M_10, hM_10, h⟩ := xl_ex h
    obtain ⟨c_11, h⟩ := xch_ex h
    obtain ⟨M_12, hM_12, h⟩ := xl_ex h
    refine s_M_begin [(30, .aload_n 0, 0, 0), (31, .iconst 0, 0, 0), (32, .putfield 267, 10, 6), (35, .aload_n 0, 0, 0), (36, .iconst 0, 0, 0), (37, .putfield 322, 10, 15), (40, .aload_n 0, 0, 0), (41, .iconst (-1), 0, (-1)), (42, .putfield 31, 10, 14), (45, .aload_n 0, 0, 0), (46, .iconst 0, 0, 0), (47, .putfield 277, 10, 10), (50, .aload_n 0, 0, 0), (51, .iload_n 2, 0, 0), (52, .putfield 305, 10, 16), (55, .aload_n 0, 0, 0)] (by decide +kernel) (z' := (56, [(0, (vR 10 l0)), (2, (vI l2))], [(vR 10 l0)], R, M_12, 174)) (cs := [l2 = 0 ∨ l2 = 1]) (by subst hM_7; subst hM_8; subst hM_9; subst hM_10; subst hM_12; rfl) ⟨c_11, trivial⟩ (Nat.le_refl _) ?_
    obtain ⟨M_13, e_14, h⟩ := xb1_ex h
    refine XR.callV 10 rfl (rest := []) m_M_next k_10_334 10 l0 (Or.inl ⟨by decide, rfl⟩) [] rfl rfl (c_M_next e_14) (by decide) (Nat.le_of_ble_eq_true rfl) (by decide +kernel) (Nat.le_refl _) (Nat.le_refl _) ?_
    show XR false 2 174 sc y_M_begin (59, [(0, (vR 10 l0)), (2, (vI l2))], [], R, M_13, 174) _
    obtain rfl := Option.some.inj h
    exact XR.retV rfl (by decide +kernel)
set_option maxRecDepth 100000 in
set_option maxHeartbeats 4000000 in
theorem c_M_begin {sc : List Int} {R : xR} {M : xM} {l0 : Nat} {l1 : Int} {l2 : Int} {out : xM} (h : f_M_begin R l0 l1 l2 M = some out) : XC false 2 sc y_M_begin [(vR 10 l0), (vI l1), (vI l2)] R M 174 174 (none, R, out) := XC.of (by decide) (Nat.le_of_ble_eq_true rfl) (Nat.le_refl _) (Nat.le_refl _) (o_M_begin h)
def M_bits_F4  : Nat → Int → Int → Option Int
  | 0, _, _ => none
  | n + 1, v1, v2 =>
    if v2 = 0 then
      some (v1)
    else
      xl (w32 (v1 + 1)) fun v1_2 =>
      xl (xand v2 (w32 (v2 - 1))) fun v2_3 =>
      M_bits_F4   n v1_2 v2_3
def f_M_bits (l0 : Int) : Option Int :=
  M_bits_F4 
    xfu 0 l0
set_option maxRecDepth 100000 in
set_option maxHeartbeats 4000000 in
theorem s_M_bits {d : Nat} {sc : List Int} {z z' : xS} {out : xO} (qs : List xI) {cs : List Prop} (hq : qs.all (xqb 10 false y_M_bits.2.2.1 y_M_bits.2.1) = true) (h : xN false sc qs z = some (z', cs)) (hc : xAll cs) (hE : z'.2.2.2.2.2 ≤ 174) (k : XR false d 174 sc y_M_bits z' out) : XR false d 174 sc y_M_bits z out := XR.seg 10 false rfl (fun q => by cases q) qs hq h hc hE k
set_option maxRecDepth 100000 in
set_option maxHeartbeats 4000000 in
theorem o_M_bits_F4 {sc : List Int} {R : xR} {M : xM}    : ∀ (n : Nat) (v1 : Int) (v2 : Int) (out : Int), M_bits_F4   n v1 v2 = some out → XR false 0 174 sc y_M_bits (4, [(1, (vI v1)), (2, (vI v2))], [], R, M, 174) ((some (vI out)), R, M) := by
  intro n
  induction n with
  | zero => intro v1 v2 out h; exact (xno h).elim
  | succ n ih =>
    intro v1 v2 out h
    rw [M_bits_F4] at h
    refine s_M_bits [(4, .iload_n 2, 0, 0)] (by decide +kernel) (z' := (5, [(1, (vI v1)), (2, (vI v2))], [(vI v2)], R, M, 174)) (cs := []) (by rfl) trivial (Nat.le_refl _) ?_
    rcases xif_ex h with ⟨c_1, h⟩ | ⟨c_1, h⟩
    · skip
      refine s_M_bits [(5, .ifCond .eq 15, 0, 20), (20, .iload_n 1, 0, 0)] (by decide +kernel) (z' := (21, [(1, (vI v1)), (2, (vI v2))], [(vI v1)], R, M, 174)) (cs := [v2 = 0]) (by rfl) ⟨c_1, trivial⟩ (Nat.le_refl _) ?_
      obtain rfl := Option.some.inj h
      exact XR.retI .int rfl rfl (by decide +kernel)
    · skip
      obtain ⟨v1_2, hv1_2, h⟩ := xl_ex h
      obtain ⟨v2_3, hv2_3, h⟩ := xl_ex h
      refine s_M_bits [(5, .ifCond .eq 15, 0, (-1)), (8, .iinc 1 1, 0, 0), (11, .iload_n 2, 0, 0), (12, .iload_n 2, 0, 0), (13, .iconst 1, 0, 1), (14, .isub, 0, 0), (15, .iand, 0, 0), (16, .istore_n 2, 0, 0), (17, .goto (-13), 0, 4)] (by decide +kernel) (z' := (4, [(2, (vI v2_3)), (1, (vI v1_2))], [], R, M, 174)) (cs := [¬ (v2 = 0)]) (by subst hv1_2; subst hv2_3; rfl) ⟨c_1, trivial⟩ (Nat.le_refl _) ?_
      refine XR.pick [1, 0] (ls' := [(1, (vI v1_2)), (2, (vI v2_3))]) rfl ?_
      exact ih v1_2 v2_3 _ h
set_option maxRecDepth 100000 in
set_option maxHeartbeats 4000000 in
theorem o_M_bits {sc : List Int} {R : xR} {M : xM} {l0 : Int} {out : Int} (h : f_M_bits l0 = some out) : XR false 0 174 sc y_M_bits (0, [(0, (vI l0))], [], R, M, 174) ((some (vI out)), R, M) := by
  unfold f_M_bits at h
  refine s_M_bits [(0, .iconst 0, 0, 0), (1, .istore_n 1, 0, 0), (2, .iload_n 0, 0, 0), (3, .istore_n 2, 0, 0)] (by decide +kernel) (z' := (4, [(2, (vI l0)), (1, (vI 0)), (0, (vI l0))], [], R, M, 174)) (cs := []) (by rfl) trivial (Nat.le_refl _) ?_
  refine XR.pick [1, 0] (ls' := [(1, (vI 0)), (2, (vI l0))]) rfl ?_
  refine o_M_bits_F4  xfu 0 l0 _ h
set_option maxRecDepth 100000 in
set_option maxHeartbeats 4000000 in
theorem c_M_bits {sc : List Int} {R : xR} {M : xM} {l0 : Int} {out : Int} (h : f_M_bits l0 = some out) : XC false 0 sc y_M_bits [(vI l0)] R M 174 174 ((some (vI out)), R, M) := XC.of (by decide) (Nat.le_of_ble_eq_true rfl) (Nat.le_refl _) (Nat.le_refl _) (o_M_bits h)
def M_work_J173 (R : xR) (l0 : Nat) (l1 : Int) (l2 : Int) (rc : Int → Int → xM → Option (Int × xM)) (v3 : Int) (v4 : Int) (M : xM) : Option (Int × xM) :=
  xl (w32 (v4 + 1)) fun v4_13 =>
  rc v3 v4_13 M
def M_work_J100 (R : xR) (l0 : Nat) (l1 : Int) (l2 : Int) (rc : Int → Int → xM → Option (Int × xM)) (v3 : Int) (v4 : Int) (s0 : Int) (s1 : Int) (s2 : Nat) (M : xM) : Option (Int × xM) :=
  xch (0 ≤ s1 ∧ s1 < 700) <|
  xl (xu M s2 (Int.toNat s1) s0) fun M_11 =>
  xl (w32 (v3 + 1)) fun v3_12 =>
  M_work_J173 R l0 l1 l2 rc v3_12 v4 M_11
def M_work_J172 (R : xR) (l0 : Nat) (l1 : Int) (l2 : Int) (rc : Int → Int → xM → Option (Int × xM)) (v3 : Int) (v4 : Int) (s0 : Int) (s1 : Int) (s2 : Nat) (M : xM) : Option (Int × xM) :=
  xch (0 ≤ s1 ∧ s1 < 700) <|
  xl (xu M s2 (Int.toNat s1) s0) fun M_25 =>
  M_work_J173 R l0 l1 l2 rc v3 v4 M_25
def M_work_F10 (R : xR) (l0 : Nat) (l1 : Int) (l2 : Int) : Nat → Int → Int → xM → Option (Int × xM)
  | 0, _, _, _ => none
  | n + 1, v3, v4, M =>
    xch (0 ≤ l1 ∧ l1 < 8) <|
    if v4 < M (R l0 46) (Int.toNat l1) then
      xch (0 ≤ v4 ∧ v4 < 700) <|
      xl (M (R l0 53) (Int.toNat v4)) fun v5_6 =>
      if v5_6 < 2 then
        xl (M (R l0 54) (Int.toNat v4)) fun v6_8 =>
        if v5_6 = 0 then
          M_work_J100 R l0 l1 l2 (M_work_F10 R l0 l1 l2  n) v3 v4 v6_8 v3 (R l0 89) M
        else
          if v6_8 < 4 then
            xch (0 ≤ w32 ((w32 (4 * l2)) + v6_8) ∧ w32 ((w32 (4 * l2)) + v6_8) < 192) <|
            M_work_J100 R l0 l1 l2 (M_work_F10 R l0 l1 l2  n) v3 v4 (M (R l0 80) (Int.toNat (w32 ((w32 (4 * l2)) + v6_8)))) v3 (R l0 89) M
          else
            if v6_8 = 4 then
              xch (0 ≤ l2 ∧ l2 < 48) <|
              M_work_J100 R l0 l1 l2 (M_work_F10 R l0 l1 l2  n) v3 v4 (M (R l0 73) (Int.toNat l2)) v3 (R l0 89) M
            else
              M_work_J100 R l0 l1 l2 (M_work_F10 R l0 l1 l2  n) v3 v4 l2 v3 (R l0 89) M
      else
        xch (0 ≤ w32 (v3 - 2) ∧ w32 (v3 - 2) < 700) <|
        xl (M (R l0 89) (Int.toNat (w32 (v3 - 2)))) fun v6_19 =>
        xch (0 ≤ w32 (v3 - 1) ∧ w32 (v3 - 1) < 700) <|
        xl (M (R l0 89) (Int.toNat (w32 (v3 - 1)))) fun v8_21 =>
        xl (w32 (v3 + (-1))) fun v3_22 =>
        if v5_6 = 43 then
          M_work_J172 R l0 l1 l2 (M_work_F10 R l0 l1 l2  n) v3_22 v4 (w64 (v6_19 + v8_21)) (w32 (v3_22 - 1)) (R l0 89) M
        else
          if v5_6 = 45 then
            M_work_J172 R l0 l1 l2 (M_work_F10 R l0 l1 l2  n) v3_22 v4 (w64 (v6_19 - v8_21)) (w32 (v3_22 - 1)) (R l0 89) M
          else
            M_work_J172 R l0 l1 l2 (M_work_F10 R l0 l1 l2  n) v3_22 v4 (w64 (v6_19 * v8_21)) (w32 (v3_22 - 1)) (R l0 89) M
    else
      some (M (R l0 89) (Int.toNat 0), M)
def f_M_work (R : xR) (l0 : Nat) (l1 : Int) (l2 : Int) (M : xM) : Option (Int × xM) :=
  xch (0 ≤ l1 ∧ l1 < 8) <|
  xl (M (R l0 45) (Int.toNat l1)) fun v4_2 =>
  M_work_F10 R l0 l1 l2
    xfu 0 v4_2 M
set_option maxRecDepth 100000 in
set_option maxHeartbeats 4000000 in
theorem s_M_work {d : Nat} {sc : List Int} {z z' : xS} {out : xO} (qs : List xI) {cs : List Prop} (hq : qs.all (xqb 10 false y_M_work.2.2.1 y_M_work.2.1) = true) (h : xN false sc qs z = some (z', cs)) (hc : xAll cs) (hE : z'.2.2.2.2.2 ≤ 174) (k : XR false d 174 sc y_M_work z' out) : XR false d 174 sc y_M_work z out := XR.seg 10 false rfl (fun q => by cases q) qs hq h hc hE k
set_option maxRecDepth 100000 in
set_option maxHeartbeats 4000000 in
theorem o_M_work_J173 {sc : List Int} {R : xR}   {l0 : Nat} {l1 : Int} {l2 : Int}  {rc : Int → Int → xM → Option (Int × xM)} (hrc : ∀ (w3 : Int) (w4 : Int) (M : xM) (out : Int × xM), rc w3 w4 M = some out → XR false 0 174 sc y_M_work (10, [(0, (vR 10 l0)), (1, (vI l1)), (2, (vI l2)), (3, (vI w3)), (4, (vI w4))], [], R, M, 174) ((some (vL out.1)), R, out.2)) {v3 : Int} {v4 : Int} {M : xM} {out : Int × xM} (h : M_work_J173 R l0 l1 l2 rc v3 v4 M = some out) : XR false 0 174 sc y_M_work (173, [(0, (vR 10 l0)), (1, (vI l1)), (2, (vI l2)), (3, (vI v3)), (4, (vI v4))], [], R, M, 174) ((some (vL out.1)), R, out.2) := by
  unfold M_work_J173 at h
  obtain ⟨v4_13, hv4_13, h⟩ := xl_ex h
  refine s_M_work [(173, .iinc 4 1, 0, 0), (176, .goto (-166), 0, 10)] (by decide +kernel) (z' := (10, [(4, (vI v4_13)), (0, (vR 10 l0)), (1, (vI l1)), (2, (vI l2)), (3, (vI v3))], [], R, M, 174)) (cs := []) (by subst hv4_13; rfl) trivial (Nat.le_refl _) ?_
  refine XR.pick [1, 2, 3, 4, 0] (ls' := [(0, (vR 10 l0)), (1, (vI l1)), (2, (vI l2)), (3, (vI v3)), (4, (vI v4_13))]) rfl ?_
  exact hrc v3 v4_13 M _ h
set_option maxRecDepth 100000 in
set_option maxHeartbeats 4000000 in
theorem o_M_work_J100 {sc : List Int} {R : xR}   {l0 : Nat} {l1 : Int} {l2 : Int}  {rc : Int → Int → xM → Option (Int × xM)} (hrc : ∀ (w3 : Int) (w4 : Int) (M : xM) (out : Int × xM), rc w3 w4 M = some out → XR false 0 174 sc y_M_work (10, [(0, (vR 10 l0)), (1, (vI l1)), (2, (vI l2)), (3, (vI w3)), (4, (vI w4))], [], R, M, 174) ((some (vL out.1)), R, out.2)) {v3 : Int} {v4 : Int} {s0 : Int} {s1 : Int} {s2 : Nat} {M : xM} {out : Int × xM} (h : M_work_J100 R l0 l1 l2 rc v3 v4 s0 s1 s2 M = some out) : XR false 0 174 sc y_M_work (100, [(0, (vR 10 l0)), (1, (vI l1)), (2, (vI l2)), (3, (vI v3)), (4, (vI v4))], [(vL s0), (vI s1), (vR 42 s2)], R, M, 174) ((some (vL out.1)), R, out.2) := by
  unfold M_work_J100 at h
  obtain ⟨c_10, h⟩ := xch_ex h
  obtain ⟨M_11, hM_11, h⟩ := xl_ex h
  obtain ⟨v3_12, hv3_12, h⟩ := xl_ex h
  refine s_M_work [(100, .lastore, 0, 0), (101, .iinc 3 1, 0, 0), (104, .goto 69, 0, 173)] (by decide +kernel) (z' := (173, [(3, (vI v3_12)), (0, (vR 10 l0)), (1, (vI l1)), (2, (vI l2)), (4, (vI v4))], [], R, M_11, 174)) (cs := [xar 42 1, xidx s1 (xan 42)]) (by subst hM_11; subst hv3_12; rfl) ⟨xar_42, xix_42 c_10, trivial⟩ (Nat.le_refl _) ?_
  refine XR.pick [1, 2, 3, 0, 4] (ls' := [(0, (vR 10 l0)), (1, (vI l1)), (2, (vI l2)), (3, (vI v3_12)), (4, (vI v4))]) rfl ?_
  exact o_M_work_J173 hrc h
set_option maxRecDepth 100000 in
set_option maxHeartbeats 4000000 in
theorem o_M_work_J172 {sc : List Int} {R : xR}   {l0 : Nat} {l1 : Int} {l2 : Int}  {rc : Int → Int → xM → Option (Int × xM)} (hrc : ∀ (w3 : Int) (w4 : Int) (M : xM) (out : Int × xM), rc w3 w4 M = some out → XR false 0 174 sc y_M_work (10, [(0, (vR 10 l0)), (1, (vI l1)), (2, (vI l2)), (3, (vI w3)), (4, (vI w4))], [], R, M, 174) ((some (vL out.1)), R, out.2)) {v3 : Int} {v4 : Int} {s0 : Int} {s1 : Int} {s2 : Nat} {M : xM} {out : Int × xM} (h : M_work_J172 R l0 l1 l2 rc v3 v4 s0 s1 s2 M = some out) : XR false 0 174 sc y_M_work (172, [(0, (vR 10 l0)), (1, (vI l1)), (2, (vI l2)), (3, (vI v3)), (4, (vI v4))], [(vL s0), (vI s1), (vR 42 s2)], R, M, 174) ((some (vL out.1)), R, out.2) := by
  unfold M_work_J172 at h
  obtain ⟨c_24, h⟩ := xch_ex h
  obtain ⟨M_25, hM_25, h⟩ := xl_ex h
  refine s_M_work [(172, .lastore, 0, 0)] (by decide +kernel) (z' := (173, [(0, (vR 10 l0)), (1, (vI l1)), (2, (vI l2)), (3, (vI v3)), (4, (vI v4))], [], R, M_25, 174)) (cs := [xar 42 1, xidx s1 (xan 42)]) (by subst hM_25; rfl) ⟨xar_42, xix_42 c_24, trivial⟩ (Nat.le_refl _) ?_
  exact o_M_work_J173 hrc h
set_option maxRecDepth 100000 in
set_option maxHeartbeats 4000000 in
theorem o_M_work_F10 {sc : List Int} {R : xR}   {l0 : Nat} {l1 : Int} {l2 : Int}  : ∀ (n : Nat) (v3 : Int) (v4 : Int) (M : xM) (out : Int × xM), M_work_F10 R l0 l1 l2  n v3 v4 M = some out → XR false 0 174 sc y_M_work (10, [(0, (vR 10 l0)), (1, (vI l1)), (2, (vI l2)), (3, (vI v3)), (4, (vI v4))], [], R, M, 174) ((some (vL out.1)), R, out.2) := by
  intro n
  induction n with
  | zero => intro v3 v4 M out h; exact (xno h).elim
  | succ n ih =>
    intro v3 v4 M out h
    rw [M_work_F10] at h
    obtain ⟨c_3, h⟩ := xch_ex h
    refine s_M_work [(10, .iload 4, 0, 0), (12, .aload_n 0, 0, 0), (13, .getfield 97, 10, 46), (16, .iload_n 1, 0, 0), (17, .iaload, 0, 0)] (by decide +kernel) (z' := (18, [(0, (vR 10 l0)), (1, (vI l1)), (2, (vI l2)), (3, (vI v3)), (4, (vI v4))], [(vI (M (R l0 46) (Int.toNat l1))), (vI v4)], R, M, 174)) (cs := [xar 30 0, xidx l1 (xan 30)]) (by rfl) ⟨xar_30, xix_30 c_3, trivial⟩ (Nat.le_refl _) ?_
    rcases xif_ex h with ⟨c_4, h⟩ | ⟨c_4, h⟩
    · skip
      obtain ⟨c_5, h⟩ := xch_ex h
      obtain ⟨v5_6, hv5_6, h⟩ := xl_ex h
      refine s_M_work [(18, .if_icmp .ge 161, 0, (-1)), (21, .aload_n 0, 0, 0), (22, .getfield 118, 10, 53), (25, .iload 4, 0, 0), (27, .iaload, 0, 0), (28, .istore 5, 0, 0), (30, .iload 5, 0, 0), (32, .iconst 2, 0, 2)] (by decide +kernel) (z' := (33, [(5, (vI v5_6)), (0, (vR 10 l0)), (1, (vI l1)), (2, (vI l2)), (3, (vI v3)), (4, (vI v4))], [(vI 2), (vI v5_6)], R, M, 174)) (cs := [¬ (M (R l0 46) (Int.toNat l1) ≤ v4), xar 41 0, xidx v4 (xan 41)]) (by subst hv5_6; rfl) ⟨Int.not_le.mpr c_4, xar_41, xix_41 c_5, trivial⟩ (Nat.le_refl _) ?_
      rcases xif_ex h with ⟨c_7, h⟩ | ⟨c_7, h⟩
      · skip
        obtain ⟨v6_8, hv6_8, h⟩ := xl_ex h
        refine s_M_work [(33, .if_icmp .ge 74, 0, (-1)), (36, .aload_n 0, 0, 0), (37, .getfield 121, 10, 54), (40, .iload 4, 0, 0), (42, .iaload, 0, 0), (43, .istore 6, 0, 0), (45, .aload_n 0, 0, 0), (46, .getfield 208, 10, 89), (49, .iload_n 3, 0, 0), (50, .iload 5, 0, 0)] (by decide +kernel) (z' := (52, [(6, (vI v6_8)), (5, (vI v5_6)), (0, (vR 10 l0)), (1, (vI l1)), (2, (vI l2)), (3, (vI v3)), (4, (vI v4))], [(vI v5_6), (vI v3), (vR 42 (R l0 89))], R, M, 174)) (cs := [¬ (2 ≤ v5_6), xar 41 0, xidx v4 (xan 41)]) (by subst hv6_8; rfl) ⟨Int.not_le.mpr c_7, xar_41, xix_41 c_5, trivial⟩ (Nat.le_refl _) ?_
        rcases xif_ex h with ⟨c_9, h⟩ | ⟨c_9, h⟩
        · skip
          refine s_M_work [(52, .ifCond .ne 9, 0, (-1)), (55, .iload 6, 0, 0), (57, .i2l, 0, 0), (58, .goto 42, 0, 100)] (by decide +kernel) (z' := (100, [(6, (vI v6_8)), (5, (vI v5_6)), (0, (vR 10 l0)), (1, (vI l1)), (2, (vI l2)), (3, (vI v3)), (4, (vI v4))], [(vL v6_8), (vI v3), (vR 42 (R l0 89))], R, M, 174)) (cs := [¬ (v5_6 ≠ 0)]) (by rfl) ⟨fun q => q c_9, trivial⟩ (Nat.le_refl _) ?_
          refine XR.pick [2, 3, 4, 5, 6] (ls' := [(0, (vR 10 l0)), (1, (vI l1)), (2, (vI l2)), (3, (vI v3)), (4, (vI v4))]) rfl ?_
          exact o_M_work_J100 ih h
        · skip
          refine s_M_work [(52, .ifCond .ne 9, 0, 61), (61, .iload 6, 0, 0), (63, .iconst 4, 0, 4)] (by decide +kernel) (z' := (64, [(6, (vI v6_8)), (5, (vI v5_6)), (0, (vR 10 l0)), (1, (vI l1)), (2, (vI l2)), (3, (vI v3)), (4, (vI v4))], [(vI 4), (vI v6_8), (vI v3), (vR 42 (R l0 89))], R, M, 174)) (cs := [v5_6 ≠ 0]) (by rfl) ⟨c_9, trivial⟩ (Nat.le_refl _) ?_
          rcases xif_ex h with ⟨c_14, h⟩ | ⟨c_14, h⟩
          · skip
            obtain ⟨c_15, h⟩ := xch_ex h
            refine s_M_work [(64, .if_icmp .ge 18, 0, (-1)), (67, .aload_n 0, 0, 0), (68, .getfield 181, 10, 80), (71, .iconst 4, 0, 4), (72, .iload_n 2, 0, 0), (73, .imul, 0, 0), (74, .iload 6, 0, 0), (76, .iadd, 0, 0), (77, .iaload, 0, 0), (78, .i2l, 0, 0), (79, .goto 21, 0, 100)] (by decide +kernel) (z' := (100, [(6, (vI v6_8)), (5, (vI v5_6)), (0, (vR 10 l0)), (1, (vI l1)), (2, (vI l2)), (3, (vI v3)), (4, (vI v4))], [(vL (M (R l0 80) (Int.toNat (w32 ((w32 (4 * l2)) + v6_8))))), (vI v3), (vR 42 (R l0 89))], R, M, 174)) (cs := [¬ (4 ≤ v6_8), xar 26 0, xidx (w32 ((w32 (4 * l2)) + v6_8)) (xan 26)]) (by rfl) ⟨Int.not_le.mpr c_14, xar_26, xix_26 c_15, trivial⟩ (Nat.le_refl _) ?_
            refine XR.pick [2, 3, 4, 5, 6] (ls' := [(0, (vR 10 l0)), (1, (vI l1)), (2, (vI l2)), (3, (vI v3)), (4, (vI v4))]) rfl ?_
            exact o_M_work_J100 ih h
          · skip
            refine s_M_work [(64, .if_icmp .ge 18, 0, 82), (82, .iload 6, 0, 0), (84, .iconst 4, 0, 4)] (by decide +kernel) (z' := (85, [(6, (vI v6_8)), (5, (vI v5_6)), (0, (vR 10 l0)), (1, (vI l1)), (2, (vI l2)), (3, (vI v3)), (4, (vI v4))], [(vI 4), (vI v6_8), (vI v3), (vR 42 (R l0 89))], R, M, 174)) (cs := [4 ≤ v6_8]) (by rfl) ⟨Int.not_lt.mp c_14, trivial⟩ (Nat.le_refl _) ?_
            rcases xif_ex h with ⟨c_16, h⟩ | ⟨c_16, h⟩
            · skip
              obtain ⟨c_17, h⟩ := xch_ex h
              refine s_M_work [(85, .if_icmp .ne 13, 0, (-1)), (88, .aload_n 0, 0, 0), (89, .getfield 169, 10, 73), (92, .iload_n 2, 0, 0), (93, .iaload, 0, 0), (94, .i2l, 0, 0), (95, .goto 5, 0, 100)] (by decide +kernel) (z' := (100, [(6, (vI v6_8)), (5, (vI v5_6)), (0, (vR 10 l0)), (1, (vI l1)), (2, (vI l2)), (3, (vI v3)), (4, (vI v4))], [(vL (M (R l0 73) (Int.toNat l2))), (vI v3), (vR 42 (R l0 89))], R, M, 174)) (cs := [¬ (v6_8 ≠ 4), xar 22 0, xidx l2 (xan 22)]) (by rfl) ⟨fun q => q c_16, xar_22, xix_22 c_17, trivial⟩ (Nat.le_refl _) ?_
              refine XR.pick [2, 3, 4, 5, 6] (ls' := [(0, (vR 10 l0)), (1, (vI l1)), (2, (vI l2)), (3, (vI v3)), (4, (vI v4))]) rfl ?_
              exact o_M_work_J100 ih h
            · skip
              refine s_M_work [(85, .if_icmp .ne 13, 0, 98), (98, .iload_n 2, 0, 0), (99, .i2l, 0, 0)] (by decide +kernel) (z' := (100, [(6, (vI v6_8)), (5, (vI v5_6)), (0, (vR 10 l0)), (1, (vI l1)), (2, (vI l2)), (3, (vI v3)), (4, (vI v4))], [(vL l2), (vI v3), (vR 42 (R l0 89))], R, M, 174)) (cs := [v6_8 ≠ 4]) (by rfl) ⟨c_16, trivial⟩ (Nat.le_refl _) ?_
              refine XR.pick [2, 3, 4, 5, 6] (ls' := [(0, (vR 10 l0)), (1, (vI l1)), (2, (vI l2)), (3, (vI v3)), (4, (vI v4))]) rfl ?_
              exact o_M_work_J100 ih h
      · skip
        obtain ⟨c_18, h⟩ := xch_ex h
        obtain ⟨v6_19, hv6_19, h⟩ := xl_ex h
        obtain ⟨c_20, h⟩ := xch_ex h
        obtain ⟨v8_21, hv8_21, h⟩ := xl_ex h
        obtain ⟨v3_22, hv3_22, h⟩ := xl_ex h
        refine s_M_work [(33, .if_icmp .ge 74, 0, 107), (107, .aload_n 0, 0, 0), (108, .getfield 208, 10, 89), (111, .iload_n 3, 0, 0), (112, .iconst 2, 0, 2), (113, .isub, 0, 0), (114, .laload, 0, 0), (115, .lstore 6, 0, 0), (117, .aload_n 0, 0, 0), (118, .getfield 208, 10, 89), (121, .iload_n 3, 0, 0), (122, .iconst 1, 0, 1), (123, .isub, 0, 0), (124, .laload, 0, 0), (125, .lstore 8, 0, 0), (127, .iinc 3 (-1), 0, 0), (130, .aload_n 0, 0, 0), (131, .getfield 208, 10, 89), (134, .iload_n 3, 0, 0), (135, .iconst 1, 0, 1), (136, .isub, 0, 0), (137, .iload 5, 0, 0), (139, .bipush 43, 0, 43)] (by decide +kernel) (z' := (141, [(3, (vI v3_22)), (8, (vL v8_21)), (6, (vL v6_19)), (5, (vI v5_6)), (0, (vR 10 l0)), (1, (vI l1)), (2, (vI l2)), (4, (vI v4))], [(vI 43), (vI v5_6), (vI (w32 (v3_22 - 1))), (vR 42 (R l0 89))], R, M, 174)) (cs := [2 ≤ v5_6, xar 42 1, xidx (w32 (v3 - 2)) (xan 42), xar 42 1, xidx (w32 (v3 - 1)) (xan 42)]) (by subst hv6_19; subst hv8_21; subst hv3_22; rfl) ⟨Int.not_lt.mp c_7, xar_42, xix_42 c_18, xar_42, xix_42 c_20, trivial⟩ (Nat.le_refl _) ?_
        rcases xif_ex h with ⟨c_23, h⟩ | ⟨c_23, h⟩
        · skip
          refine s_M_work [(141, .if_icmp .ne 11, 0, (-1)), (144, .lload 6, 0, 0), (146, .lload 8, 0, 0), (148, .ladd, 0, 0), (149, .goto 23, 0, 172)] (by decide +kernel) (z' := (172, [(3, (vI v3_22)), (8, (vL v8_21)), (6, (vL v6_19)), (5, (vI v5_6)), (0, (vR 10 l0)), (1, (vI l1)), (2, (vI l2)), (4, (vI v4))], [(vL (w64 (v6_19 + v8_21))), (vI (w32 (v3_22 - 1))), (vR 42 (R l0 89))], R, M, 174)) (cs := [¬ (v5_6 ≠ 43)]) (by rfl) ⟨fun q => q c_23, trivial⟩ (Nat.le_refl _) ?_
          refine XR.pick [4, 5, 6, 0, 7] (ls' := [(0, (vR 10 l0)), (1, (vI l1)), (2, (vI l2)), (3, (vI v3_22)), (4, (vI v4))]) rfl ?_
          exact o_M_work_J172 ih h
        · skip
          refine s_M_work [(141, .if_icmp .ne 11, 0, 152), (152, .iload 5, 0, 0), (154, .bipush 45, 0, 45)] (by decide +kernel) (z' := (156, [(3, (vI v3_22)), (8, (vL v8_21)), (6, (vL v6_19)), (5, (vI v5_6)), (0, (vR 10 l0)), (1, (vI l1)), (2, (vI l2)), (4, (vI v4))], [(vI 45), (vI v5_6), (vI (w32 (v3_22 - 1))), (vR 42 (R l0 89))], R, M, 174)) (cs := [v5_6 ≠ 43]) (by rfl) ⟨c_23, trivial⟩ (Nat.le_refl _) ?_
          rcases xif_ex h with ⟨c_26, h⟩ | ⟨c_26, h⟩
          · skip
            refine s_M_work [(156, .if_icmp .ne 11, 0, (-1)), (159, .lload 6, 0, 0), (161, .lload 8, 0, 0), (163, .lsub, 0, 0), (164, .goto 8, 0, 172)] (by decide +kernel) (z' := (172, [(3, (vI v3_22)), (8, (vL v8_21)), (6, (vL v6_19)), (5, (vI v5_6)), (0, (vR 10 l0)), (1, (vI l1)), (2, (vI l2)), (4, (vI v4))], [(vL (w64 (v6_19 - v8_21))), (vI (w32 (v3_22 - 1))), (vR 42 (R l0 89))], R, M, 174)) (cs := [¬ (v5_6 ≠ 45)]) (by rfl) ⟨fun q => q c_26, trivial⟩ (Nat.le_refl _) ?_
            refine XR.pick [4, 5, 6, 0, 7] (ls' := [(0, (vR 10 l0)), (1, (vI l1)), (2, (vI l2)), (3, (vI v3_22)), (4, (vI v4))]) rfl ?_
            exact o_M_work_J172 ih h
          · skip
            refine s_M_work [(156, .if_icmp .ne 11, 0, 167), (167, .lload 6, 0, 0), (169, .lload 8, 0, 0), (171, .lmul, 0, 0)] (by decide +kernel) (z' := (172, [(3, (vI v3_22)), (8, (vL v8_21)), (6, (vL v6_19)), (5, (vI v5_6)), (0, (vR 10 l0)), (1, (vI l1)), (2, (vI l2)), (4, (vI v4))], [(vL (w64 (v6_19 * v8_21))), (vI (w32 (v3_22 - 1))), (vR 42 (R l0 89))], R, M, 174)) (cs := [v5_6 ≠ 45]) (by rfl) ⟨c_26, trivial⟩ (Nat.le_refl _) ?_
            refine XR.pick [4, 5, 6, 0, 7] (ls' := [(0, (vR 10 l0)), (1, (vI l1)), (2, (vI l2)), (3, (vI v3_22)), (4, (vI v4))]) rfl ?_
            exact o_M_work_J172 ih h
    · skip
      refine s_M_work [(18, .if_icmp .ge 161, 0, 179), (179, .aload_n 0, 0, 0), (180, .getfield 208, 10, 89), (183, .iconst 0, 0, 0), (184, .laload, 0, 0)] (by decide +kernel) (z' := (185, [(0, (vR 10 l0)), (1, (vI l1)), (2, (vI l2)), (3, (vI v3)), (4, (vI v4))], [(vL (M (R l0 89) (Int.toNat 0)))], R, M, 174)) (cs := [M (R l0 46) (Int.toNat l1) ≤ v4, xar 42 1, xidx 0 (xan 42)]) (by rfl) ⟨Int.not_lt.mp c_4, xar_42, xix_42 ⟨by decide, by decide⟩, trivial⟩ (Nat.le_refl _) ?_
      obtain rfl := Option.some.inj h
      exact XR.retL rfl (by decide +kernel)
set_option maxRecDepth 100000 in
set_option maxHeartbeats 4000000 in
theorem o_M_work {sc : List Int} {R : xR} {M : xM} {l0 : Nat} {l1 : Int} {l2 : Int} {out : Int × xM} (h : f_M_work R l0 l1 l2 M = some out) : XR false 0 174 sc y_M_work (0, [(0, (vR 10 l0)), (1, (vI l1)), (2, (vI l2))], [], R, M, 174) ((some (vL out.1)), R, out.2) := by
  unfold f_M_work at h
  obtain ⟨c_1, h⟩ := xch_ex h
  obtain ⟨v4_2, hv4_2, h⟩ := xl_ex h
  refine s_M_work [(0, .iconst 0, 0, 0), (1, .istore_n 3, 0, 0), (2, .aload_n 0, 0, 0), (3, .getfield 94, 10, 45), (6, .iload_n 1, 0, 0), (7, .iaload, 0, 0), (8, .istore 4, 0, 0)] (by decide +kernel) (z' := (10, [(4, (vI v4_2)), (3, (vI 0)), (0, (vR 10 l0)), (1, (vI l1)), (2, (vI l2))], [], R, M, 174)) (cs := [xar 30 0, xidx l1 (xan 30)]) (by subst hv4_2; rfl) ⟨xar_30, xix_30 c_1, trivial⟩ (Nat.le_refl _) ?_
  refine XR.pick [2, 3, 4, 1, 0] (ls' := [(0, (vR 10 l0)), (1, (vI l1)), (2, (vI l2)), (3, (vI 0)), (4, (vI v4_2))]) rfl ?_
  refine o_M_work_F10  xfu 0 v4_2 M _ h
set_option maxRecDepth 100000 in
set_option maxHeartbeats 4000000 in
theorem c_M_work {sc : List Int} {R : xR} {M : xM} {l0 : Nat} {l1 : Int} {l2 : Int} {out : Int × xM} (h : f_M_work R l0 l1 l2 M = some out) : XC false 0 sc y_M_work [(vR 10 l0), (vI l1), (vI l2)] R M 174 174 ((some (vL out.1)), R, out.2) := XC.of (by decide) (Nat.le_of_ble_eq_true rfl) (Nat.le_refl _) (Nat.le_refl _) (o_M_work h)
def M_breaks_F28 (R : xR) (l0 : Nat) (l1 : Int) (l2 : Int) (q50 : Int → xM → Option (Int × xM)) : Nat → Int → Int → xM → Option (Int × xM)
  | 0, _, _, _ => none
  | n + 1, v3, v5, M =>
    if l2 < v5 then
      q50 v3 M
    else
      xb2 (f_M_work R l0 l1 v5 M) fun r_5 M_6 =>
      xl (w64 (v3 + r_5)) fun v3_8 =>
      xl (w32 (v5 + 1)) fun v5_9 =>
      M_breaks_F28 R l0 l1 l2 q50 n v3_8 v5_9 M_6
def f_M_breaks (R : xR) (l0 : Nat) (l1 : Int) (l2 : Int) (M : xM) : Option (Int × xM) :=
  xch (0 ≤ l1 ∧ l1 < 8) <|
  if w32 (l2 + 1) < M (R l0 47) (Int.toNat l1) then
    some (0, M)
  else
    xl (w32 ((w32 (l2 - (M (R l0 47) (Int.toNat l1)))) + 1)) fun v5_3 =>
    M_breaks_F28 R l0 l1 l2
      (fun (v3_10 : Int) (M_11 : xM) =>
        if v3_10 < w64 ((M_11 (R l0 48) (Int.toNat l1)) * (M_11 (R l0 47) (Int.toNat l1))) then
          some (0, M_11)
        else
          some (1, M_11))
      xfu 0 v5_3 M
set_option maxRecDepth 100000 in
set_option maxHeartbeats 4000000 in
theorem s_M_breaks {d : Nat} {sc : List Int} {z z' : xS} {out : xO} (qs : List xI) {cs : List Prop} (hq : qs.all (xqb 10 false y_M_breaks.2.2.1 y_M_breaks.2.1) = true) (h : xN false sc qs z = some (z', cs)) (hc : xAll cs) (hE : z'.2.2.2.2.2 ≤ 174) (k : XR false d 174 sc y_M_breaks z' out) : XR false d 174 sc y_M_breaks z out := XR.seg 10 false rfl (fun q => by cases q) qs hq h hc hE k
set_option maxRecDepth 100000 in
set_option maxHeartbeats 4000000 in
theorem o_M_breaks_F28 {sc : List Int} {R : xR}   {l0 : Nat} {l1 : Int} {l2 : Int}  {q50 : Int → xM → Option (Int × xM)} (hq50 : ∀ (w3 : Int) (M : xM) (out : Int × xM), q50 w3 M = some out → XR false 1 174 sc y_M_breaks (50, [(0, (vR 10 l0)), (1, (vI l1)), (3, (vL w3))], [], R, M, 174) ((some (vI out.1)), R, out.2)) : ∀ (n : Nat) (v3 : Int) (v5 : Int) (M : xM) (out : Int × xM), M_breaks_F28 R l0 l1 l2 q50 n v3 v5 M = some out → XR false 1 174 sc y_M_breaks (28, [(0, (vR 10 l0)), (1, (vI l1)), (2, (vI l2)), (3, (vL v3)), (5, (vI v5))], [], R, M, 174) ((some (vI out.1)), R, out.2) := by
  intro n
  induction n with
  | zero => intro v3 v5 M out h; exact (xno h).elim
  | succ n ih =>
    intro v3 v5 M out h
    rw [M_breaks_F28] at h
    refine s_M_breaks [(28, .iload 5, 0, 0), (30, .iload_n 2, 0, 0)] (by decide +kernel) (z' := (31, [(0, (vR 10 l0)), (1, (vI l1)), (2, (vI l2)), (3, (vL v3)), (5, (vI v5))], [(vI l2), (vI v5)], R, M, 174)) (cs := []) (by rfl) trivial (Nat.le_refl _) ?_
    rcases xif_ex h with ⟨c_4, h⟩ | ⟨c_4, h⟩
    · skip
      refine s_M_breaks [(31, .if_icmp .gt 19, 0, 50)] (by decide +kernel) (z' := (50, [(0, (vR 10 l0)), (1, (vI l1)), (2, (vI l2)), (3, (vL v3)), (5, (vI v5))], [], R, M, 174)) (cs := [l2 < v5]) (by rfl) ⟨c_4, trivial⟩ (Nat.le_refl _) ?_
      refine XR.pick [0, 1, 3] (ls' := [(0, (vR 10 l0)), (1, (vI l1)), (3, (vL v3))]) rfl ?_
      exact hq50 v3 M _ h
    · skip
      refine s_M_breaks [(31, .if_icmp .gt 19, 0, (-1)), (34, .lload_n 3, 0, 0), (35, .aload_n 0, 0, 0), (36, .iload_n 1, 0, 0), (37, .iload 5, 0, 0)] (by decide +kernel) (z' := (39, [(0, (vR 10 l0)), (1, (vI l1)), (2, (vI l2)), (3, (vL v3)), (5, (vI v5))], [(vI v5), (vI l1), (vR 10 l0), (vL v3)], R, M, 174)) (cs := [¬ (l2 < v5)]) (by rfl) ⟨c_4, trivial⟩ (Nat.le_refl _) ?_
      obtain ⟨r_5, M_6, e_7, h⟩ := xb2_ex h
      refine XR.callV 10 rfl (rest := [(vL v3)]) m_M_work k_10_504 10 l0 (Or.inl ⟨by decide, rfl⟩) [(vI l1), (vI v5)] rfl rfl (c_M_work e_7) (by decide) (Nat.le_of_ble_eq_true rfl) (by decide +kernel) (Nat.le_refl _) (Nat.le_refl _) ?_
      show XR false 1 174 sc y_M_breaks (42, [(0, (vR 10 l0)), (1, (vI l1)), (2, (vI l2)), (3, (vL v3)), (5, (vI v5))], [(vL r_5), (vL v3)], R, M_6, 174) _
      obtain ⟨v3_8, hv3_8, h⟩ := xl_ex h
      obtain ⟨v5_9, hv5_9, h⟩ := xl_ex h
      refine s_M_breaks [(42, .ladd, 0, 0), (43, .lstore_n 3, 0, 0), (44, .iinc 5 1, 0, 0), (47, .goto (-19), 0, 28)] (by decide +kernel) (z' := (28, [(5, (vI v5_9)), (3, (vL v3_8)), (0, (vR 10 l0)), (1, (vI l1)), (2, (vI l2))], [], R, M_6, 174)) (cs := []) (by subst hv3_8; subst hv5_9; rfl) trivial (Nat.le_refl _) ?_
      refine XR.pick [2, 3, 4, 1, 0] (ls' := [(0, (vR 10 l0)), (1, (vI l1)), (2, (vI l2)), (3, (vL v3_8)), (5, (vI v5_9))]) rfl ?_
      exact ih v3_8 v5_9 M_6 _ h
set_option maxRecDepth 100000 in
set_option maxHeartbeats 4000000 in
theorem o_M_breaks {sc : List Int} {R : xR} {M : xM} {l0 : Nat} {l1 : Int} {l2 : Int} {out : Int × xM} (h : f_M_breaks R l0 l1 l2 M = some out) : XR false 1 174 sc y_M_breaks (0, [(0, (vR 10 l0)), (1, (vI l1)), (2, (vI l2))], [], R, M, 174) ((some (vI out.1)), R, out.2) := by
  unfold f_M_breaks at h
  obtain ⟨c_1, h⟩ := xch_ex h
  refine s_M_breaks [(0, .iload_n 2, 0, 0), (1, .iconst 1, 0, 1), (2, .iadd, 0, 0), (3, .aload_n 0, 0, 0), (4, .getfield 100, 10, 47), (7, .iload_n 1, 0, 0), (8, .iaload, 0, 0)] (by decide +kernel) (z' := (9, [(0, (vR 10 l0)), (1, (vI l1)), (2, (vI l2))], [(vI (M (R l0 47) (Int.toNat l1))), (vI (w32 (l2 + 1)))], R, M, 174)) (cs := [xar 30 0, xidx l1 (xan 30)]) (by rfl) ⟨xar_30, xix_30 c_1, trivial⟩ (Nat.le_refl _) ?_
  rcases xif_ex h with ⟨c_2, h⟩ | ⟨c_2, h⟩
  · skip
    refine s_M_breaks [(9, .if_icmp .ge 5, 0, (-1)), (12, .iconst 0, 0, 0)] (by decide +kernel) (z' := (13, [(0, (vR 10 l0)), (1, (vI l1)), (2, (vI l2))], [(vI 0)], R, M, 174)) (cs := [¬ (M (R l0 47) (Int.toNat l1) ≤ w32 (l2 + 1))]) (by rfl) ⟨Int.not_le.mpr c_2, trivial⟩ (Nat.le_refl _) ?_
    obtain rfl := Option.some.inj h
    exact XR.retI .boolean rfl (xnar_z (by decide)) (by decide +kernel)
  · skip
    obtain ⟨v5_3, hv5_3, h⟩ := xl_ex h
    refine s_M_breaks [(9, .if_icmp .ge 5, 0, 14), (14, .lconst 0, 0, 0), (15, .lstore_n 3, 0, 0), (16, .iload_n 2, 0, 0), (17, .aload_n 0, 0, 0), (18, .getfield 100, 10, 47), (21, .iload_n 1, 0, 0), (22, .iaload, 0, 0), (23, .isub, 0, 0), (24, .iconst 1, 0, 1), (25, .iadd, 0, 0), (26, .istore 5, 0, 0)] (by decide +kernel) (z' := (28, [(5, (vI v5_3)), (3, (vL 0)), (0, (vR 10 l0)), (1, (vI l1)), (2, (vI l2))], [], R, M, 174)) (cs := [M (R l0 47) (Int.toNat l1) ≤ w32 (l2 + 1), xar 30 0, xidx l1 (xan 30)]) (by subst hv5_3; rfl) ⟨Int.not_lt.mp c_2, xar_30, xix_30 c_1, trivial⟩ (Nat.le_refl _) ?_
    refine XR.pick [2, 3, 4, 1, 0] (ls' := [(0, (vR 10 l0)), (1, (vI l1)), (2, (vI l2)), (3, (vL 0)), (5, (vI v5_3))]) rfl ?_
    refine o_M_breaks_F28 ?_ xfu 0 v5_3 M _ h
    · intro v3_10 M_11 out h
      refine s_M_breaks [(50, .lload_n 3, 0, 0), (51, .aload_n 0, 0, 0), (52, .getfield 103, 10, 48), (55, .iload_n 1, 0, 0), (56, .iaload, 0, 0), (57, .i2l, 0, 0), (58, .aload_n 0, 0, 0), (59, .getfield 100, 10, 47), (62, .iload_n 1, 0, 0), (63, .iaload, 0, 0), (64, .i2l, 0, 0), (65, .lmul, 0, 0), (66, .lcmp, 0, 0)] (by decide +kernel) (z' := (67, [(0, (vR 10 l0)), (1, (vI l1)), (3, (vL v3_10))], [(vI (xcmp v3_10 (w64 ((M_11 (R l0 48) (Int.toNat l1)) * (M_11 (R l0 47) (Int.toNat l1))))))], R, M_11, 174)) (cs := [xar 30 0, xidx l1 (xan 30), xar 30 0, xidx l1 (xan 30)]) (by rfl) ⟨xar_30, xix_30 c_1, xar_30, xix_30 c_1, trivial⟩ (Nat.le_refl _) ?_
      rcases xif_ex h with ⟨c_12, h⟩ | ⟨c_12, h⟩
      · skip
        refine s_M_breaks [(67, .ifCond .lt 7, 0, 74), (74, .iconst 0, 0, 0)] (by decide +kernel) (z' := (75, [(0, (vR 10 l0)), (1, (vI l1)), (3, (vL v3_10))], [(vI 0)], R, M_11, 174)) (cs := [xcmp v3_10 (w64 ((M_11 (R l0 48) (Int.toNat l1)) * (M_11 (R l0 47) (Int.toNat l1)))) < 0]) (by rfl) ⟨xcmp_lt.mpr c_12, trivial⟩ (Nat.le_refl _) ?_
        obtain rfl := Option.some.inj h
        exact XR.retI .boolean rfl (xnar_z (by decide)) (by decide +kernel)
      · skip
        refine s_M_breaks [(67, .ifCond .lt 7, 0, (-1)), (70, .iconst 1, 0, 1), (71, .goto 4, 0, 75)] (by decide +kernel) (z' := (75, [(0, (vR 10 l0)), (1, (vI l1)), (3, (vL v3_10))], [(vI 1)], R, M_11, 174)) (cs := [¬ (xcmp v3_10 (w64 ((M_11 (R l0 48) (Int.toNat l1)) * (M_11 (R l0 47) (Int.toNat l1)))) < 0)]) (by rfl) ⟨fun q => c_12 (xcmp_lt.mp q), trivial⟩ (Nat.le_refl _) ?_
        obtain rfl := Option.some.inj h
        exact XR.retI .boolean rfl (xnar_z (by decide)) (by decide +kernel)
set_option maxRecDepth 100000 in
set_option maxHeartbeats 4000000 in
theorem c_M_breaks {sc : List Int} {R : xR} {M : xM} {l0 : Nat} {l1 : Int} {l2 : Int} {out : Int × xM} (h : f_M_breaks R l0 l1 l2 M = some out) : XC false 1 sc y_M_breaks [(vR 10 l0), (vI l1), (vI l2)] R M 174 174 ((some (vI out.1)), R, out.2) := XC.of (by decide) (Nat.le_of_ble_eq_true rfl) (Nat.le_refl _) (Nat.le_refl _) (o_M_breaks h)
def M_breach_F31 (R : xR) (l0 : Nat) (l1 : Int) (q68 : Int → xM → Option (Int × xM)) (q48 : Int → Int → xM → Option (Int × xM)) : Nat → Int → Int → xM → Option (Int × xM)
  | 0, _, _, _ => none
  | n + 1, v2, v3, M =>
    if v3 < M l0 40 then
      xb2 (f_M_breaks R l0 v3 v2 M) fun r_13 M_14 =>
      if r_13 = 0 then
        xl (w32 (v3 + 1)) fun v3_17 =>
        M_breach_F31 R l0 l1 q68 q48 n v2 v3_17 M_14
      else
        q48 v2 v3 M_14
    else
      q68 v2 M
def M_breach_F23 (R : xR) (l0 : Nat) (l1 : Int) (q48 : Int → Int → xM → Option (Int × xM)) : Nat → Int → xM → Option (Int × xM)
  | 0, _, _ => none
  | n + 1, v2, M =>
    if v2 < 48 then
      M_breach_F31 R l0 l1
        (fun (v2_18 : Int) (M_19 : xM) =>
          xl (w32 (v2_18 + 1)) fun v2_20 =>
          M_breach_F23 R l0 l1 q48 n v2_20 M_19)
        (fun (v2_21 : Int) (v3_22 : Int) (M_23 : xM) =>
          q48 v2_21 v3_22 M_23)
        xfu v2 0 M
    else
      xb2 (f_M_refuse l0 6 M) fun r_24 M_25 =>
      some (r_24, M_25)
def f_M_breach (R : xR) (l0 : Nat) (l1 : Int) (M : xM) : Option (Int × xM) :=
  if l1 < 0 then
    xb2 (f_M_refuse l0 1 M) fun r_2 M_3 =>
    some (r_2, M_3)
  else
    if 1 < l1 then
      xb2 (f_M_refuse l0 1 M) fun r_6 M_7 =>
      some (r_6, M_7)
    else
      xb1 (f_M_steps R l0 47 M) fun M_9 =>
      M_breach_F23 R l0 l1
        (fun (v2_27 : Int) (v3_28 : Int) (M_29 : xM) =>
          if l1 = 0 then
            xb2 (f_M_gives l0 v2_27 M_29) fun r_31 M_32 =>
            some (r_31, M_32)
          else
            xb2 (f_M_gives l0 v3_28 M_29) fun r_34 M_35 =>
            some (r_34, M_35))
        xfu 0 M_9
set_option maxRecDepth 100000 in
set_option maxHeartbeats 4000000 in
theorem s_M_breach {d : Nat} {sc : List Int} {z z' : xS} {out : xO} (qs : List xI) {cs : List Prop} (hq : qs.all (xqb 10 false y_M_breach.2.2.1 y_M_breach.2.1) = true) (h : xN false sc qs z = some (z', cs)) (hc : xAll cs) (hE : z'.2.2.2.2.2 ≤ 174) (k : XR false d 174 sc y_M_breach z' out) : XR false d 174 sc y_M_breach z out := XR.seg 10 false rfl (fun q => by cases q) qs hq h hc hE k
set_option maxRecDepth 100000 in
set_option maxHeartbeats 4000000 in
theorem o_M_breach_F31 {sc : List Int} {R : xR}   {l0 : Nat} {l1 : Int}  {q68 : Int → xM → Option (Int × xM)} {q48 : Int → Int → xM → Option (Int × xM)} (hq68 : ∀ (w2 : Int) (M : xM) (out : Int × xM), q68 w2 M = some out → XR false 4 174 sc y_M_breach (68, [(0, (vR 10 l0)), (1, (vI l1)), (2, (vI w2))], [], R, M, 174) ((some (vI out.1)), R, out.2)) (hq48 : ∀ (w2 : Int) (w3 : Int) (M : xM) (out : Int × xM), q48 w2 w3 M = some out → XR false 4 174 sc y_M_breach (48, [(0, (vR 10 l0)), (1, (vI l1)), (2, (vI w2)), (3, (vI w3))], [], R, M, 174) ((some (vI out.1)), R, out.2)) : ∀ (n : Nat) (v2 : Int) (v3 : Int) (M : xM) (out : Int × xM), M_breach_F31 R l0 l1 q68 q48 n v2 v3 M = some out → XR false 4 174 sc y_M_breach (31, [(0, (vR 10 l0)), (1, (vI l1)), (2, (vI v2)), (3, (vI v3))], [], R, M, 174) ((some (vI out.1)), R, out.2) := by
  intro n
  induction n with
  | zero => intro v2 v3 M out h; exact (xno h).elim
  | succ n ih =>
    intro v2 v3 M out h
    rw [M_breach_F31] at h
    refine s_M_breach [(31, .iload_n 3, 0, 0), (32, .aload_n 0, 0, 0), (33, .getfield 424, 10, 40)] (by decide +kernel) (z' := (36, [(0, (vR 10 l0)), (1, (vI l1)), (2, (vI v2)), (3, (vI v3))], [(vI (M l0 40)), (vI v3)], R, M, 174)) (cs := []) (by rfl) trivial (Nat.le_refl _) ?_
    rcases xif_ex h with ⟨c_12, h⟩ | ⟨c_12, h⟩
    · skip
      refine s_M_breach [(36, .if_icmp .ge 32, 0, (-1)), (39, .aload_n 0, 0, 0), (40, .iload_n 3, 0, 0), (41, .iload_n 2, 0, 0)] (by decide +kernel) (z' := (42, [(0, (vR 10 l0)), (1, (vI l1)), (2, (vI v2)), (3, (vI v3))], [(vI v2), (vI v3), (vR 10 l0)], R, M, 174)) (cs := [¬ (M l0 40 ≤ v3)]) (by rfl) ⟨Int.not_le.mpr c_12, trivial⟩ (Nat.le_refl _) ?_
      obtain ⟨r_13, M_14, e_15, h⟩ := xb2_ex h
      refine XR.callV 10 rfl (rest := []) m_M_breaks k_10_508 10 l0 (Or.inl ⟨by decide, rfl⟩) [(vI v3), (vI v2)] rfl rfl (c_M_breaks e_15) (by decide) (Nat.le_of_ble_eq_true rfl) (by decide +kernel) (Nat.le_refl _) (Nat.le_refl _) ?_
      show XR false 4 174 sc y_M_breach (45, [(0, (vR 10 l0)), (1, (vI l1)), (2, (vI v2)), (3, (vI v3))], [(vI r_13)], R, M_14, 174) _
      rcases xif_ex h with ⟨c_16, h⟩ | ⟨c_16, h⟩
      · skip
        obtain ⟨v3_17, hv3_17, h⟩ := xl_ex h
        refine s_M_breach [(45, .ifCond .eq 17, 0, 62), (62, .iinc 3 1, 0, 0), (65, .goto (-34), 0, 31)] (by decide +kernel) (z' := (31, [(3, (vI v3_17)), (0, (vR 10 l0)), (1, (vI l1)), (2, (vI v2))], [], R, M_14, 174)) (cs := [r_13 = 0]) (by subst hv3_17; rfl) ⟨c_16, trivial⟩ (Nat.le_refl _) ?_
        refine XR.pick [1, 2, 3, 0] (ls' := [(0, (vR 10 l0)), (1, (vI l1)), (2, (vI v2)), (3, (vI v3_17))]) rfl ?_
        exact ih v2 v3_17 M_14 _ h
      · skip
        refine s_M_breach [(45, .ifCond .eq 17, 0, (-1))] (by decide +kernel) (z' := (48, [(0, (vR 10 l0)), (1, (vI l1)), (2, (vI v2)), (3, (vI v3))], [], R, M_14, 174)) (cs := [¬ (r_13 = 0)]) (by rfl) ⟨c_16, trivial⟩ (Nat.le_refl _) ?_
        exact hq48 v2 v3 M_14 _ h
    · skip
      refine s_M_breach [(36, .if_icmp .ge 32, 0, 68)] (by decide +kernel) (z' := (68, [(0, (vR 10 l0)), (1, (vI l1)), (2, (vI v2)), (3, (vI v3))], [], R, M, 174)) (cs := [M l0 40 ≤ v3]) (by rfl) ⟨Int.not_lt.mp c_12, trivial⟩ (Nat.le_refl _) ?_
      refine XR.pick [0, 1, 2] (ls' := [(0, (vR 10 l0)), (1, (vI l1)), (2, (vI v2))]) rfl ?_
      exact hq68 v2 M _ h
set_option maxRecDepth 100000 in
set_option maxHeartbeats 4000000 in
theorem o_M_breach_F23 {sc : List Int} {R : xR}   {l0 : Nat} {l1 : Int}  {q48 : Int → Int → xM → Option (Int × xM)} (hq48 : ∀ (w2 : Int) (w3 : Int) (M : xM) (out : Int × xM), q48 w2 w3 M = some out → XR false 4 174 sc y_M_breach (48, [(0, (vR 10 l0)), (1, (vI l1)), (2, (vI w2)), (3, (vI w3))], [], R, M, 174) ((some (vI out.1)), R, out.2)) : ∀ (n : Nat) (v2 : Int) (M : xM) (out : Int × xM), M_breach_F23 R l0 l1 q48 n v2 M = some out → XR false 4 174 sc y_M_breach (23, [(0, (vR 10 l0)), (1, (vI l1)), (2, (vI v2))], [], R, M, 174) ((some (vI out.1)), R, out.2) := by
  intro n
  induction n with
  | zero => intro v2 M out h; exact (xno h).elim
  | succ n ih =>
    intro v2 M out h
    rw [M_breach_F23] at h
    refine s_M_breach [(23, .iload_n 2, 0, 0), (24, .bipush 48, 0, 48)] (by decide +kernel) (z' := (26, [(0, (vR 10 l0)), (1, (vI l1)), (2, (vI v2))], [(vI 48), (vI v2)], R, M, 174)) (cs := []) (by rfl) trivial (Nat.le_refl _) ?_
    rcases xif_ex h with ⟨c_11, h⟩ | ⟨c_11, h⟩
    · skip
      refine s_M_breach [(26, .if_icmp .ge 48, 0, (-1)), (29, .iconst 0, 0, 0), (30, .istore_n 3, 0, 0)] (by decide +kernel) (z' := (31, [(3, (vI 0)), (0, (vR 10 l0)), (1, (vI l1)), (2, (vI v2))], [], R, M, 174)) (cs := [¬ (48 ≤ v2)]) (by rfl) ⟨Int.not_le.mpr c_11, trivial⟩ (Nat.le_refl _) ?_
      refine XR.pick [1, 2, 3, 0] (ls' := [(0, (vR 10 l0)), (1, (vI l1)), (2, (vI v2)), (3, (vI 0))]) rfl ?_
      refine o_M_breach_F31 ?_ ?_ xfu v2 0 M _ h
      · intro v2_18 M_19 out h
        obtain ⟨v2_20, hv2_20, h⟩ := xl_ex h
        refine s_M_breach [(68, .iinc 2 1, 0, 0), (71, .goto (-48), 0, 23)] (by decide +kernel) (z' := (23, [(2, (vI v2_20)), (0, (vR 10 l0)), (1, (vI l1))], [], R, M_19, 174)) (cs := []) (by subst hv2_20; rfl) trivial (Nat.le_refl _) ?_
        refine XR.pick [1, 2, 0] (ls' := [(0, (vR 10 l0)), (1, (vI l1)), (2, (vI v2_20))]) rfl ?_
        exact ih v2_20 M_19 _ h
      · intro v2_21 v3_22 M_23 out h
        exact hq48 v2_21 v3_22 M_23 _ h
    · skip
      refine s_M_breach [(26, .if_icmp .ge 48, 0, 74), (74, .aload_n 0, 0, 0), (75, .bipush 6, 0, 6)] (by decide +kernel) (z' := (77, [(0, (vR 10 l0)), (1, (vI l1)), (2, (vI v2))], [(vI 6), (vR 10 l0)], R, M, 174)) (cs := [48 ≤ v2]) (by rfl) ⟨Int.not_lt.mp c_11, trivial⟩ (Nat.le_refl _) ?_
      obtain ⟨r_24, M_25, e_26, h⟩ := xb2_ex h
      refine XR.callV 10 rfl (rest := []) m_M_refuse k_10_377 10 l0 (Or.inl ⟨by decide, rfl⟩) [(vI 6)] rfl rfl (c_M_refuse e_26) (by decide) (Nat.le_of_ble_eq_true rfl) (by decide +kernel) (Nat.le_refl _) (Nat.le_refl _) ?_
      show XR false 4 174 sc y_M_breach (80, [(0, (vR 10 l0)), (1, (vI l1)), (2, (vI v2))], [(vI r_24)], R, M_25, 174) _
      obtain rfl := Option.some.inj h
      exact XR.retI .int rfl rfl (by decide +kernel)
set_option maxRecDepth 100000 in
set_option maxHeartbeats 4000000 in
theorem o_M_breach {sc : List Int} {R : xR} {M : xM} {l0 : Nat} {l1 : Int} {out : Int × xM} (h : f_M_breach R l0 l1 M = some out) : XR false 4 174 sc y_M_breach (0, [(0, (vR 10 l0)), (1, (vI l1))], [], R, M, 174) ((some (vI out.1)), R, out.2) := by
  unfold f_M_breach at h
  refine s_M_breach [(0, .iload_n 1, 0, 0)] (by decide +kernel) (z' := (1, [(0, (vR 10 l0)), (1, (vI l1))], [(vI l1)], R, M, 174)) (cs := []) (by rfl) trivial (Nat.le_refl _) ?_
  rcases xif_ex h with ⟨c_1, h⟩ | ⟨c_1, h⟩
  · skip
    refine s_M_breach [(1, .ifCond .lt 8, 0, 9), (9, .aload_n 0, 0, 0), (10, .iconst 1, 0, 1)] (by decide +kernel) (z' := (11, [(0, (vR 10 l0)), (1, (vI l1))], [(vI 1), (vR 10 l0)], R, M, 174)) (cs := [l1 < 0]) (by rfl) ⟨c_1, trivial⟩ (Nat.le_refl _) ?_
    obtain ⟨r_2, M_3, e_4, h⟩ := xb2_ex h
    refine XR.callV 10 rfl (rest := []) m_M_refuse k_10_377 10 l0 (Or.inl ⟨by decide, rfl⟩) [(vI 1)] rfl rfl (c_M_refuse e_4) (by decide) (Nat.le_of_ble_eq_true rfl) (by decide +kernel) (Nat.le_refl _) (Nat.le_refl _) ?_
    show XR false 4 174 sc y_M_breach (14, [(0, (vR 10 l0)), (1, (vI l1))], [(vI r_2)], R, M_3, 174) _
    obtain rfl := Option.some.inj h
    exact XR.retI .int rfl rfl (by decide +kernel)
  · skip
    refine s_M_breach [(1, .ifCond .lt 8, 0, (-1)), (4, .iload_n 1, 0, 0), (5, .iconst 1, 0, 1)] (by decide +kernel) (z' := (6, [(0, (vR 10 l0)), (1, (vI l1))], [(vI 1), (vI l1)], R, M, 174)) (cs := [¬ (l1 < 0)]) (by rfl) ⟨c_1, trivial⟩ (Nat.le_refl _) ?_
    rcases xif_ex h with ⟨c_5, h⟩ | ⟨c_5, h⟩
    · skip
      refine s_M_breach [(6, .if_icmp .le 9, 0, (-1)), (9, .aload_n 0, 0, 0), (10, .iconst 1, 0, 1)] (by decide +kernel) (z' := (11, [(0, (vR 10 l0)), (1, (vI l1))], [(vI 1), (vR 10 l0)], R, M, 174)) (cs := [¬ (l1 ≤ 1)]) (by rfl) ⟨Int.not_le.mpr c_5, trivial⟩ (Nat.le_refl _) ?_
      obtain ⟨r_6, M_7, e_8, h⟩ := xb2_ex h
      refine XR.callV 10 rfl (rest := []) m_M_refuse k_10_377 10 l0 (Or.inl ⟨by decide, rfl⟩) [(vI 1)] rfl rfl (c_M_refuse e_8) (by decide) (Nat.le_of_ble_eq_true rfl) (by decide +kernel) (Nat.le_refl _) (Nat.le_refl _) ?_
      show XR false 4 174 sc y_M_breach (14, [(0, (vR 10 l0)), (1, (vI l1))], [(vI r_6)], R, M_7, 174) _
      obtain rfl := Option.some.inj h
      exact XR.retI .int rfl rfl (by decide +kernel)
    · skip
      refine s_M_breach [(6, .if_icmp .le 9, 0, 15), (15, .aload_n 0, 0, 0), (16, .bipush 47, 0, 47)] (by decide +kernel) (z' := (18, [(0, (vR 10 l0)), (1, (vI l1))], [(vI 47), (vR 10 l0)], R, M, 174)) (cs := [l1 ≤ 1]) (by rfl) ⟨Int.not_lt.mp c_5, trivial⟩ (Nat.le_refl _) ?_
      obtain ⟨M_9, e_10, h⟩ := xb1_ex h
      refine XR.callV 10 rfl (rest := []) m_M_steps k_10_498 10 l0 (Or.inl ⟨by decide, rfl⟩) [(vI 47)] rfl rfl (c_M_steps e_10) (by decide) (Nat.le_of_ble_eq_true rfl) (by decide +kernel) (Nat.le_refl _) (Nat.le_refl _) ?_
      show XR false 4 174 sc y_M_breach (21, [(0, (vR 10 l0)), (1, (vI l1))], [], R, M_9, 174) _
      refine s_M_breach [(21, .iconst 0, 0, 0), (22, .istore_n 2, 0, 0)] (by decide +kernel) (z' := (23, [(2, (vI 0)), (0, (vR 10 l0)), (1, (vI l1))], [], R, M_9, 174)) (cs := []) (by rfl) trivial (Nat.le_refl _) ?_
      refine XR.pick [1, 2, 0] (ls' := [(0, (vR 10 l0)), (1, (vI l1)), (2, (vI 0))]) rfl ?_
      refine o_M_breach_F23 ?_ xfu 0 M_9 _ h
      · intro v2_27 v3_28 M_29 out h
        refine s_M_breach [(48, .aload_n 0, 0, 0), (49, .iload_n 1, 0, 0)] (by decide +kernel) (z' := (50, [(0, (vR 10 l0)), (1, (vI l1)), (2, (vI v2_27)), (3, (vI v3_28))], [(vI l1), (vR 10 l0)], R, M_29, 174)) (cs := []) (by rfl) trivial (Nat.le_refl _) ?_
        rcases xif_ex h with ⟨c_30, h⟩ | ⟨c_30, h⟩
        · skip
          refine s_M_breach [(50, .ifCond .ne 7, 0, (-1)), (53, .iload_n 2, 0, 0), (54, .goto 4, 0, 58)] (by decide +kernel) (z' := (58, [(0, (vR 10 l0)), (1, (vI l1)), (2, (vI v2_27)), (3, (vI v3_28))], [(vI v2_27), (vR 10 l0)], R, M_29, 174)) (cs := [¬ (l1 ≠ 0)]) (by rfl) ⟨fun q => q c_30, trivial⟩ (Nat.le_refl _) ?_
          obtain ⟨r_31, M_32, e_33, h⟩ := xb2_ex h
          refine XR.callV 10 rfl (rest := []) m_M_gives k_10_405 10 l0 (Or.inl ⟨by decide, rfl⟩) [(vI v2_27)] rfl rfl (c_M_gives e_33) (by decide) (Nat.le_of_ble_eq_true rfl) (by decide +kernel) (Nat.le_refl _) (Nat.le_refl _) ?_
          show XR false 4 174 sc y_M_breach (61, [(0, (vR 10 l0)), (1, (vI l1)), (2, (vI v2_27)), (3, (vI v3_28))], [(vI r_31)], R, M_32, 174) _
          obtain rfl := Option.some.inj h
          exact XR.retI .int rfl rfl (by decide +kernel)
        · skip
          refine s_M_breach [(50, .ifCond .ne 7, 0, 57), (57, .iload_n 3, 0, 0)] (by decide +kernel) (z' := (58, [(0, (vR 10 l0)), (1, (vI l1)), (2, (vI v2_27)), (3, (vI v3_28))], [(vI v3_28), (vR 10 l0)], R, M_29, 174)) (cs := [l1 ≠ 0]) (by rfl) ⟨c_30, trivial⟩ (Nat.le_refl _) ?_
          obtain ⟨r_34, M_35, e_36, h⟩ := xb2_ex h
          refine XR.callV 10 rfl (rest := []) m_M_gives k_10_405 10 l0 (Or.inl ⟨by decide, rfl⟩) [(vI v3_28)] rfl rfl (c_M_gives e_36) (by decide) (Nat.le_of_ble_eq_true rfl) (by decide +kernel) (Nat.le_refl _) (Nat.le_refl _) ?_
          show XR false 4 174 sc y_M_breach (61, [(0, (vR 10 l0)), (1, (vI l1)), (2, (vI v2_27)), (3, (vI v3_28))], [(vI r_34)], R, M_35, 174) _
          obtain rfl := Option.some.inj h
          exact XR.retI .int rfl rfl (by decide +kernel)
set_option maxRecDepth 100000 in
set_option maxHeartbeats 4000000 in
theorem c_M_breach {sc : List Int} {R : xR} {M : xM} {l0 : Nat} {l1 : Int} {out : Int × xM} (h : f_M_breach R l0 l1 M = some out) : XC false 4 sc y_M_breach [(vR 10 l0), (vI l1)] R M 174 174 ((some (vI out.1)), R, out.2) := XC.of (by decide) (Nat.le_of_ble_eq_true rfl) (Nat.le_refl _) (Nat.le_refl _) (o_M_breach h)
