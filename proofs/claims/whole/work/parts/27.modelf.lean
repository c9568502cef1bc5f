def M_gauge_F99 (R : xR) (l0 : Nat) (l1 : Int) (l2 : Int) (l3 : Int) (l4 : Int) (q139 : xM → Option (Int × xM)) : Nat → Int → xM → Option (Int × xM)
  | 0, _, _ => none
  | n + 1, v5, M =>
    if v5 < l3 then
      xch (0 ≤ w32 ((w32 (60 * l1)) + v5) ∧ w32 ((w32 (60 * l1)) + v5) < 240) <|
      xb1 (f_M_isFrom (M (R l0 3) (Int.toNat (w32 ((w32 (60 * l1)) + v5)))) 0 999) fun r_49 =>
      if r_49 = 0 then
        xb2 (f_M_refuse l0 1 M) fun r_52 M_53 =>
        some (r_52, M_53)
      else
        xl (w32 (v5 + 1)) fun v5_55 =>
        M_gauge_F99 R l0 l1 l2 l3 l4 q139 n v5_55 M
    else
      q139 M
def M_gauge_F142 (R : xR) (l0 : Nat) (l1 : Int) (l2 : Int) (l3 : Int) (l4 : Int) (q182 : xM → Option (Int × xM)) : Nat → Int → xM → Option (Int × xM)
  | 0, _, _ => none
  | n + 1, v5, M =>
    if v5 < l3 then
      xch (0 ≤ w32 ((w32 (60 * l2)) + v5) ∧ w32 ((w32 (60 * l2)) + v5) < 240) <|
      xb1 (f_M_isFrom (M (R l0 3) (Int.toNat (w32 ((w32 (60 * l2)) + v5)))) 0 99999) fun r_59 =>
      if r_59 = 0 then
        xb2 (f_M_refuse l0 1 M) fun r_62 M_63 =>
        some (r_62, M_63)
      else
        xl (w32 (v5 + 1)) fun v5_65 =>
        M_gauge_F142 R l0 l1 l2 l3 l4 q182 n v5_65 M
    else
      q182 M
def M_gauge_F196 (R : xR) (l0 : Nat) (l1 : Int) (l2 : Int) (l3 : Int) (q248 : xM → Option (Int × xM)) : Nat → Int → xM → Option (Int × xM)
  | 0, _, _ => none
  | n + 1, v5, M =>
    if v5 < l3 then
      xch (0 ≤ w32 ((w32 (60 * l1)) + v5) ∧ w32 ((w32 (60 * l1)) + v5) < 240) <|
      xch (0 ≤ v5 ∧ v5 < 10) <|
      xl (xu M (R l0 102) (Int.toNat v5) (w32 (M (R l0 3) (Int.toNat (w32 ((w32 (60 * l1)) + v5)))))) fun M_72 =>
      xch (0 ≤ w32 ((w32 (60 * l2)) + v5) ∧ w32 ((w32 (60 * l2)) + v5) < 240) <|
      xl (xu M_72 (R l0 103) (Int.toNat v5) (w32 (M_72 (R l0 3) (Int.toNat (w32 ((w32 (60 * l2)) + v5)))))) fun M_74 =>
      xl (w32 (v5 + 1)) fun v5_75 =>
      M_gauge_F196 R l0 l1 l2 l3 q248 n v5_75 M_74
    else
      q248 M
def M_gauge_J295 (R : xR) (l0 : Nat) (rc : Int → Int → xM → Option (Int × xM)) (q305 : Int → xM → Option (Int × xM)) (v5 : Int) (v6 : Int) (s0 : Int) (s1 : Int) (s2 : Nat) (M : xM) : Option (Int × xM) :=
  xl (xu M s2 106 (w32 (s1 + s0))) fun M_83 =>
  xl (w32 (v6 + 1)) fun v6_84 =>
  rc v5 v6_84 M_83
def M_gauge_F266 (R : xR) (l0 : Nat) (q305 : Int → xM → Option (Int × xM)) : Nat → Int → Int → xM → Option (Int × xM)
  | 0, _, _, _ => none
  | n + 1, v5, v6, M =>
    if v6 < 1000 then
      xb1 (f_M_fits R l0 v5 v6 M) fun r_80 =>
      if r_80 = 0 then
        M_gauge_J295 R l0 (M_gauge_F266 R l0 q305 n) q305 v5 v6 0 (M l0 106) l0 M
      else
        M_gauge_J295 R l0 (M_gauge_F266 R l0 q305 n) q305 v5 v6 1 (M l0 106) l0 M
    else
      q305 v5 M
def M_gauge_F256 (R : xR) (l0 : Nat) : Nat → Int → xM → Option (Int × xM)
  | 0, _, _ => none
  | n + 1, v5, M =>
    if v5 < 100 then
      M_gauge_F266 R l0
        (fun (v5_85 : Int) (M_86 : xM) =>
          xl (w32 (v5_85 + 1)) fun v5_87 =>
          M_gauge_F256 R l0  n v5_87 M_86)
        xfu v5 0 M
    else
      xb2 (f_M_gives l0 (M l0 106) M) fun r_88 M_89 =>
      some (r_88, M_89)
def f_M_gauge (R : xR) (l0 : Nat) (l1 : Int) (l2 : Int) (l3 : Int) (l4 : Int) (M : xM) : Option (Int × xM) :=
  xb1 (f_M_isTray l1) fun r_1 =>
  if r_1 = 0 then
    xb2 (f_M_refuse l0 1 M) fun r_4 M_5 =>
    some (r_4, M_5)
  else
    xb1 (f_M_isTray l2) fun r_7 =>
    if r_7 = 0 then
      xb2 (f_M_refuse l0 1 M) fun r_10 M_11 =>
      some (r_10, M_11)
    else
      if l3 < 1 then
        xb2 (f_M_refuse l0 1 M) fun r_14 M_15 =>
        some (r_14, M_15)
      else
        if 10 < l3 then
          xb2 (f_M_refuse l0 1 M) fun r_18 M_19 =>
          some (r_18, M_19)
        else
          if l4 < 0 then
            xb2 (f_M_refuse l0 1 M) fun r_22 M_23 =>
            some (r_22, M_23)
          else
            if 1000 < l4 then
              xb2 (f_M_refuse l0 1 M) fun r_26 M_27 =>
              some (r_26, M_27)
            else
              xch (0 ≤ l1 ∧ l1 < 4) <|
              if M (R l0 2) (Int.toNat l1) = -1 then
                xb2 (f_M_refuse l0 2 M) fun r_31 M_32 =>
                some (r_31, M_32)
              else
                xch (0 ≤ l2 ∧ l2 < 4) <|
                if M (R l0 2) (Int.toNat l2) = -1 then
                  xb2 (f_M_refuse l0 2 M) fun r_36 M_37 =>
                  some (r_36, M_37)
                else
                  if M (R l0 2) (Int.toNat l1) < l3 then
                    xb2 (f_M_refuse l0 3 M) fun r_40 M_41 =>
                    some (r_40, M_41)
                  else
                    if M (R l0 2) (Int.toNat l2) < l3 then
                      xb2 (f_M_refuse l0 3 M) fun r_44 M_45 =>
                      some (r_44, M_45)
                    else
                      M_gauge_F99 R l0 l1 l2 l3 l4
                        (fun (M_56 : xM) =>
                          M_gauge_F142 R l0 l1 l2 l3 l4
                            (fun (M_66 : xM) =>
                              xl (xu M_66 l0 104 l3) fun M_67 =>
                              xl (xu M_67 l0 105 l4) fun M_68 =>
                              M_gauge_F196 R l0 l1 l2 l3
                                (fun (M_76 : xM) =>
                                  xl (xu M_76 l0 106 0) fun M_77 =>
                                  M_gauge_F256 R l0
                                    xfu 0 M_77)
                                xfu 0 M_68)
                            xfu 0 M_56)
                        xfu 0 M
set_option maxRecDepth 100000 in
set_option maxHeartbeats 4000000 in
theorem s_M_gauge {d : Nat} {sc : List Int} {z z' : xS} {out : xO} (qs : List xI) {cs : List Prop} (hq : qs.all (xqb 10 false y_M_gauge.2.2.1 y_M_gauge.2.1) = true) (h : xN false sc qs z = some (z', cs)) (hc : xAll cs) (hE : z'.2.2.2.2.2 ≤ 174) (k : XR false d 174 sc y_M_gauge z' out) : XR false d 174 sc y_M_gauge z out := XR.seg 10 false rfl (fun q => by cases q) qs hq h hc hE k
set_option maxRecDepth 100000 in
set_option maxHeartbeats 4000000 in
theorem o_M_gauge_F99 {sc : List Int} {R : xR}   {l0 : Nat} {l1 : Int} {l2 : Int} {l3 : Int} {l4 : Int}  {q139 : xM → Option (Int × xM)} (hq139 : ∀ (M : xM) (out : Int × xM), q139 M = some out → XR false 2 174 sc y_M_gauge (139, [(0, (vR 10 l0)), (1, (vI l1)), (2, (vI l2)), (3, (vI l3)), (4, (vI l4))], [], R, M, 174) ((some (vI out.1)), R, out.2)) : ∀ (n : Nat) (v5 : Int) (M : xM) (out : Int × xM), M_gauge_F99 R l0 l1 l2 l3 l4 q139 n v5 M = some out → XR false 2 174 sc y_M_gauge (99, [(0, (vR 10 l0)), (1, (vI l1)), (2, (vI l2)), (3, (vI l3)), (4, (vI l4)), (5, (vI v5))], [], R, M, 174) ((some (vI out.1)), R, out.2) := by
  intro n
  induction n with
  | zero => intro v5 M out h; exact (xno h).elim
  | succ n ih =>
    intro v5 M out h
    rw [M_gauge_F99] at h
    refine s_M_gauge [(99, .iload 5, 0, 0), (101, .iload_n 3, 0, 0)] (by decide +kernel) (z' := (102, [(0, (vR 10 l0)), (1, (vI l1)), (2, (vI l2)), (3, (vI l3)), (4, (vI l4)), (5, (vI v5))], [(vI l3), (vI v5)], R, M, 174)) (cs := []) (by rfl) trivial (Nat.le_refl _) ?_
    rcases xif_ex h with ⟨c_47, h⟩ | ⟨c_47, h⟩
    · skip
      obtain ⟨c_48, h⟩ := xch_ex h
      refine s_M_gauge [(102, .if_icmp .ge 37, 0, (-1)), (105, .aload_n 0, 0, 0), (106, .getfield 16, 10, 3), (109, .bipush 60, 0, 60), (111, .iload_n 1, 0, 0), (112, .imul, 0, 0), (113, .iload 5, 0, 0), (115, .iadd, 0, 0), (116, .laload, 0, 0), (117, .lconst 0, 0, 0), (118, .ldc2_w 555, 0, 999)] (by decide +kernel) (z' := (121, [(0, (vR 10 l0)), (1, (vI l1)), (2, (vI l2)), (3, (vI l3)), (4, (vI l4)), (5, (vI v5))], [(vL 999), (vL 0), (vL (M (R l0 3) (Int.toNat (w32 ((w32 (60 * l1)) + v5)))))], R, M, 174)) (cs := [¬ (l3 ≤ v5), xar 40 1, xidx (w32 ((w32 (60 * l1)) + v5)) (xan 40)]) (by rfl) ⟨Int.not_le.mpr c_47, xar_40, xix_40 c_48, trivial⟩ (Nat.le_refl _) ?_
      obtain ⟨r_49, e_50, h⟩ := xb1_ex h
      refine XR.callS 10 rfl (rest := []) m_M_isFrom k_10_534 [(vL (M (R l0 3) (Int.toNat (w32 ((w32 (60 * l1)) + v5))))), (vL 0), (vL 999)] rfl rfl (c_M_isFrom e_50) (by decide) (Nat.le_of_ble_eq_true rfl) (by decide +kernel) (Nat.le_refl _) (Nat.le_refl _) ?_
      show XR false 2 174 sc y_M_gauge (124, [(0, (vR 10 l0)), (1, (vI l1)), (2, (vI l2)), (3, (vI l3)), (4, (vI l4)), (5, (vI v5))], [(vI r_49)], R, M, 174) _
      rcases xif_ex h with ⟨c_51, h⟩ | ⟨c_51, h⟩
      · skip
        refine s_M_gauge [(124, .ifCond .ne 9, 0, (-1)), (127, .aload_n 0, 0, 0), (128, .iconst 1, 0, 1)] (by decide +kernel) (z' := (129, [(0, (vR 10 l0)), (1, (vI l1)), (2, (vI l2)), (3, (vI l3)), (4, (vI l4)), (5, (vI v5))], [(vI 1), (vR 10 l0)], R, M, 174)) (cs := [¬ (r_49 ≠ 0)]) (by rfl) ⟨fun q => q c_51, trivial⟩ (Nat.le_refl _) ?_
        obtain ⟨r_52, M_53, e_54, h⟩ := xb2_ex h
        refine XR.callV 10 rfl (rest := []) m_M_refuse k_10_377 10 l0 (Or.inl ⟨by decide, rfl⟩) [(vI 1)] rfl rfl (c_M_refuse e_54) (by decide) (Nat.le_of_ble_eq_true rfl) (by decide +kernel) (Nat.le_refl _) (Nat.le_refl _) ?_
        show XR false 2 174 sc y_M_gauge (132, [(0, (vR 10 l0)), (1, (vI l1)), (2, (vI l2)), (3, (vI l3)), (4, (vI l4)), (5, (vI v5))], [(vI r_52)], R, M_53, 174) _
        obtain rfl := Option.some.inj h
        exact XR.retI .int rfl rfl (by decide +kernel)
      · skip
        obtain ⟨v5_55, hv5_55, h⟩ := xl_ex h
        refine s_M_gauge [(124, .ifCond .ne 9, 0, 133), (133, .iinc 5 1, 0, 0), (136, .goto (-37), 0, 99)] (by decide +kernel) (z' := (99, [(5, (vI v5_55)), (0, (vR 10 l0)), (1, (vI l1)), (2, (vI l2)), (3, (vI l3)), (4, (vI l4))], [], R, M, 174)) (cs := [r_49 ≠ 0]) (by subst hv5_55; rfl) ⟨c_51, trivial⟩ (Nat.le_refl _) ?_
        refine XR.pick [1, 2, 3, 4, 5, 0] (ls' := [(0, (vR 10 l0)), (1, (vI l1)), (2, (vI l2)), (3, (vI l3)), (4, (vI l4)), (5, (vI v5_55))]) rfl ?_
        exact ih v5_55 M _ h
    · skip
      refine s_M_gauge [(102, .if_icmp .ge 37, 0, 139)] (by decide +kernel) (z' := (139, [(0, (vR 10 l0)), (1, (vI l1)), (2, (vI l2)), (3, (vI l3)), (4, (vI l4)), (5, (vI v5))], [], R, M, 174)) (cs := [l3 ≤ v5]) (by rfl) ⟨Int.not_lt.mp c_47, trivial⟩ (Nat.le_refl _) ?_
      refine XR.pick [0, 1, 2, 3, 4] (ls' := [(0, (vR 10 l0)), (1, (vI l1)), (2, (vI l2)), (3, (vI l3)), (4, (vI l4))]) rfl ?_
      exact hq139 M _ h
set_option maxRecDepth 100000 in
set_option maxHeartbeats 4000000 in
theorem o_M_gauge_F142 {sc : List Int} {R : xR}   {l0 : Nat} {l1 : Int} {l2 : Int} {l3 : Int} {l4 : Int}  {q182 : xM → Option (Int × xM)} (hq182 : ∀ (M : xM) (out : Int × xM), q182 M = some out → XR false 2 174 sc y_M_gauge (182, [(0, (vR 10 l0)), (1, (vI l1)), (2, (vI l2)), (3, (vI l3)), (4, (vI l4))], [], R, M, 174) ((some (vI out.1)), R, out.2)) : ∀ (n : Nat) (v5 : Int) (M : xM) (out : Int × xM), M_gauge_F142 R l0 l1 l2 l3 l4 q182 n v5 M = some out → XR false 2 174 sc y_M_gauge (142, [(0, (vR 10 l0)), (1, (vI l1)), (2, (vI l2)), (3, (vI l3)), (4, (vI l4)), (5, (vI v5))], [], R, M, 174) ((some (vI out.1)), R, out.2) := by
  intro n
  induction n with
  | zero => intro v5 M out h; exact (xno h).elim
  | succ n ih =>
    intro v5 M out h
    rw [M_gauge_F142] at h
    refine s_M_gauge [(142, .iload 5, 0, 0), (144, .iload_n 3, 0, 0)] (by decide +kernel) (z' := (145, [(0, (vR 10 l0)), (1, (vI l1)), (2, (vI l2)), (3, (vI l3)), (4, (vI l4)), (5, (vI v5))], [(vI l3), (vI v5)], R, M, 174)) (cs := []) (by rfl) trivial (Nat.le_refl _) ?_
    rcases xif_ex h with ⟨c_57, h⟩ | ⟨c_57, h⟩
    · skip
      obtain ⟨c_58, h⟩ := xch_ex h
      refine s_M_gauge [(145, .if_icmp .ge 37, 0, (-1)), (148, .aload_n 0, 0, 0), (149, .getfield 16, 10, 3), (152, .bipush 60, 0, 60), (154, .iload_n 2, 0, 0), (155, .imul, 0, 0), (156, .iload 5, 0, 0), (158, .iadd, 0, 0), (159, .laload, 0, 0), (160, .lconst 0, 0, 0), (161, .ldc2_w 557, 0, 99999)] (by decide +kernel) (z' := (164, [(0, (vR 10 l0)), (1, (vI l1)), (2, (vI l2)), (3, (vI l3)), (4, (vI l4)), (5, (vI v5))], [(vL 99999), (vL 0), (vL (M (R l0 3) (Int.toNat (w32 ((w32 (60 * l2)) + v5)))))], R, M, 174)) (cs := [¬ (l3 ≤ v5), xar 40 1, xidx (w32 ((w32 (60 * l2)) + v5)) (xan 40)]) (by rfl) ⟨Int.not_le.mpr c_57, xar_40, xix_40 c_58, trivial⟩ (Nat.le_refl _) ?_
      obtain ⟨r_59, e_60, h⟩ := xb1_ex h
      refine XR.callS 10 rfl (rest := []) m_M_isFrom k_10_534 [(vL (M (R l0 3) (Int.toNat (w32 ((w32 (60 * l2)) + v5))))), (vL 0), (vL 99999)] rfl rfl (c_M_isFrom e_60) (by decide) (Nat.le_of_ble_eq_true rfl) (by decide +kernel) (Nat.le_refl _) (Nat.le_refl _) ?_
      show XR false 2 174 sc y_M_gauge (167, [(0, (vR 10 l0)), (1, (vI l1)), (2, (vI l2)), (3, (vI l3)), (4, (vI l4)), (5, (vI v5))], [(vI r_59)], R, M, 174) _
      rcases xif_ex h with ⟨c_61, h⟩ | ⟨c_61, h⟩
      · skip
        refine s_M_gauge [(167, .ifCond .ne 9, 0, (-1)), (170, .aload_n 0, 0, 0), (171, .iconst 1, 0, 1)] (by decide +kernel) (z' := (172, [(0, (vR 10 l0)), (1, (vI l1)), (2, (vI l2)), (3, (vI l3)), (4, (vI l4)), (5, (vI v5))], [(vI 1), (vR 10 l0)], R, M, 174)) (cs := [¬ (r_59 ≠ 0)]) (by rfl) ⟨fun q => q c_61, trivial⟩ (Nat.le_refl _) ?_
        obtain ⟨r_62, M_63, e_64, h⟩ := xb2_ex h
        refine XR.callV 10 rfl (rest := []) m_M_refuse k_10_377 10 l0 (Or.inl ⟨by decide, rfl⟩) [(vI 1)] rfl rfl (c_M_refuse e_64) (by decide) (Nat.le_of_ble_eq_true rfl) (by decide +kernel) (Nat.le_refl _) (Nat.le_refl _) ?_
        show XR false 2 174 sc y_M_gauge (175, [(0, (vR 10 l0)), (1, (vI l1)), (2, (vI l2)), (3, (vI l3)), (4, (vI l4)), (5, (vI v5))], [(vI r_62)], R, M_63, 174) _
        obtain rfl := Option.some.inj h
        exact XR.retI .int rfl rfl (by decide +kernel)
      · skip
        obtain ⟨v5_65, hv5_65, h⟩ := xl_ex h
        refine s_M_gauge [(167, .ifCond .ne 9, 0, 176), (176, .iinc 5 1, 0, 0), (179, .goto (-37), 0, 142)] (by decide +kernel) (z' := (142, [(5, (vI v5_65)), (0, (vR 10 l0)), (1, (vI l1)), (2, (vI l2)), (3, (vI l3)), (4, (vI l4))], [], R, M, 174)) (cs := [r_59 ≠ 0]) (by subst hv5_65; rfl) ⟨c_61, trivial⟩ (Nat.le_refl _) ?_
        refine XR.pick [1, 2, 3, 4, 5, 0] (ls' := [(0, (vR 10 l0)), (1, (vI l1)), (2, (vI l2)), (3, (vI l3)), (4, (vI l4)), (5, (vI v5_65))]) rfl ?_
        exact ih v5_65 M _ h
    · skip
      refine s_M_gauge [(145, .if_icmp .ge 37, 0, 182)] (by decide +kernel) (z' := (182, [(0, (vR 10 l0)), (1, (vI l1)), (2, (vI l2)), (3, (vI l3)), (4, (vI l4)), (5, (vI v5))], [], R, M, 174)) (cs := [l3 ≤ v5]) (by rfl) ⟨Int.not_lt.mp c_57, trivial⟩ (Nat.le_refl _) ?_
      refine XR.pick [0, 1, 2, 3, 4] (ls' := [(0, (vR 10 l0)), (1, (vI l1)), (2, (vI l2)), (3, (vI l3)), (4, (vI l4))]) rfl ?_
      exact hq182 M _ h
set_option maxRecDepth 100000 in
set_option maxHeartbeats 4000000 in
theorem o_M_gauge_F196 {sc : List Int} {R : xR}   {l0 : Nat} {l1 : Int} {l2 : Int} {l3 : Int}  {q248 : xM → Option (Int × xM)} (hq248 : ∀ (M : xM) (out : Int × xM), q248 M = some out → XR false 2 174 sc y_M_gauge (248, [(0, (vR 10 l0))], [], R, M, 174) ((some (vI out.1)), R, out.2)) : ∀ (n : Nat) (v5 : Int) (M : xM) (out : Int × xM), M_gauge_F196 R l0 l1 l2 l3 q248 n v5 M = some out → XR false 2 174 sc y_M_gauge (196, [(0, (vR 10 l0)), (1, (vI l1)), (2, (vI l2)), (3, (vI l3)), (5, (vI v5))], [], R, M, 174) ((some (vI out.1)), R, out.2) := by
  intro n
  induction n with
  | zero => intro v5 M out h; exact (xno h).elim
  | succ n ih =>
    intro v5 M out h
    rw [M_gauge_F196] at h
    refine s_M_gauge [(196, .iload 5, 0, 0), (198, .iload_n 3, 0, 0)] (by decide +kernel) (z' := (199, [(0, (vR 10 l0)), (1, (vI l1)), (2, (vI l2)), (3, (vI l3)), (5, (vI v5))], [(vI l3), (vI v5)], R, M, 174)) (cs := []) (by rfl) trivial (Nat.le_refl _) ?_
    rcases xif_ex h with ⟨c_69, h⟩ | ⟨c_69, h⟩
    · skip
      obtain ⟨c_70, h⟩ := xch_ex h
      obtain ⟨c_71, h⟩ := xch_ex h
      obtain ⟨M_72, hM_72, h⟩ := xl_ex h
      obtain ⟨c_73, h⟩ := xch_ex h
      obtain ⟨M_74, hM_74, h⟩ := xl_ex h
      obtain ⟨v5_75, hv5_75, h⟩ := xl_ex h
      refine s_M_gauge [(199, .if_icmp .ge 49, 0, (-1)), (202, .aload_n 0, 0, 0), (203, .getfield 238, 10, 102), (206, .iload 5, 0, 0), (208, .aload_n 0, 0, 0), (209, .getfield 16, 10, 3), (212, .bipush 60, 0, 60), (214, .iload_n 1, 0, 0), (215, .imul, 0, 0), (216, .iload 5, 0, 0), (218, .iadd, 0, 0), (219, .laload, 0, 0), (220, .l2i, 0, 0), (221, .iastore, 0, 0), (222, .aload_n 0, 0, 0), (223, .getfield 241, 10, 103), (226, .iload 5, 0, 0), (228, .aload_n 0, 0, 0), (229, .getfield 16, 10, 3), (232, .bipush 60, 0, 60), (234, .iload_n 2, 0, 0), (235, .imul, 0, 0), (236, .iload 5, 0, 0), (238, .iadd, 0, 0), (239, .laload, 0, 0), (240, .l2i, 0, 0), (241, .iastore, 0, 0), (242, .iinc 5 1, 0, 0), (245, .goto (-49), 0, 196)] (by decide +kernel) (z' := (196, [(5, (vI v5_75)), (0, (vR 10 l0)), (1, (vI l1)), (2, (vI l2)), (3, (vI l3))], [], R, M_74, 174)) (cs := [¬ (l3 ≤ v5), xar 40 1, xidx (w32 ((w32 (60 * l1)) + v5)) (xan 40), xar 43 0, xidx v5 (xan 43), xar 40 1, xidx (w32 ((w32 (60 * l2)) + v5)) (xan 40), xar 43 0, xidx v5 (xan 43)]) (by subst hM_72; subst hM_74; subst hv5_75; rfl) ⟨Int.not_le.mpr c_69, xar_40, xix_40 c_70, xar_43, xix_43 c_71, xar_40, xix_40 c_73, xar_43, xix_43 c_71, trivial⟩ (Nat.le_refl _) ?_
      refine XR.pick [1, 2, 3, 4, 0] (ls' := [(0, (vR 10 l0)), (1, (vI l1)), (2, (vI l2)), (3, (vI l3)), (5, (vI v5_75))]) rfl ?_
      exact ih v5_75 M_74 _ h
    · skip
      refine s_M_gauge [(199, .if_icmp .ge 49, 0, 248)] (by decide +kernel) (z' := (248, [(0, (vR 10 l0)), (1, (vI l1)), (2, (vI l2)), (3, (vI l3)), (5, (vI v5))], [], R, M, 174)) (cs := [l3 ≤ v5]) (by rfl) ⟨Int.not_lt.mp c_69, trivial⟩ (Nat.le_refl _) ?_
      refine XR.pick [0] (ls' := [(0, (vR 10 l0))]) rfl ?_
      exact hq248 M _ h
set_option maxRecDepth 100000 in
set_option maxHeartbeats 4000000 in
theorem o_M_gauge_J295 {sc : List Int} {R : xR}   {l0 : Nat}  {rc : Int → Int → xM → Option (Int × xM)} {q305 : Int → xM → Option (Int × xM)} (hrc : ∀ (w5 : Int) (w6 : Int) (M : xM) (out : Int × xM), rc w5 w6 M = some out → XR false 2 174 sc y_M_gauge (266, [(0, (vR 10 l0)), (5, (vI w5)), (6, (vI w6))], [], R, M, 174) ((some (vI out.1)), R, out.2)) (hq305 : ∀ (w5 : Int) (M : xM) (out : Int × xM), q305 w5 M = some out → XR false 2 174 sc y_M_gauge (305, [(0, (vR 10 l0)), (5, (vI w5))], [], R, M, 174) ((some (vI out.1)), R, out.2)) {v5 : Int} {v6 : Int} {s0 : Int} {s1 : Int} {s2 : Nat} {M : xM} {out : Int × xM} (h : M_gauge_J295 R l0 rc q305 v5 v6 s0 s1 s2 M = some out) : XR false 2 174 sc y_M_gauge (295, [(0, (vR 10 l0)), (5, (vI v5)), (6, (vI v6))], [(vI s0), (vI s1), (vR 10 s2)], R, M, 174) ((some (vI out.1)), R, out.2) := by
  unfold M_gauge_J295 at h
  obtain ⟨M_83, hM_83, h⟩ := xl_ex h
  obtain ⟨v6_84, hv6_84, h⟩ := xl_ex h
  refine s_M_gauge [(295, .iadd, 0, 0), (296, .putfield 244, 10, 106), (299, .iinc 6 1, 0, 0), (302, .goto (-36), 0, 266)] (by decide +kernel) (z' := (266, [(6, (vI v6_84)), (0, (vR 10 l0)), (5, (vI v5))], [], R, M_83, 174)) (cs := []) (by subst hM_83; subst hv6_84; rfl) trivial (Nat.le_refl _) ?_
  refine XR.pick [1, 2, 0] (ls' := [(0, (vR 10 l0)), (5, (vI v5)), (6, (vI v6_84))]) rfl ?_
  exact hrc v5 v6_84 M_83 _ h
set_option maxRecDepth 100000 in
set_option maxHeartbeats 4000000 in
theorem o_M_gauge_F266 {sc : List Int} {R : xR}   {l0 : Nat}  {q305 : Int → xM → Option (Int × xM)} (hq305 : ∀ (w5 : Int) (M : xM) (out : Int × xM), q305 w5 M = some out → XR false 2 174 sc y_M_gauge (305, [(0, (vR 10 l0)), (5, (vI w5))], [], R, M, 174) ((some (vI out.1)), R, out.2)) : ∀ (n : Nat) (v5 : Int) (v6 : Int) (M : xM) (out : Int × xM), M_gauge_F266 R l0 q305 n v5 v6 M = some out → XR false 2 174 sc y_M_gauge (266, [(0, (vR 10 l0)), (5, (vI v5)), (6, (vI v6))], [], R, M, 174) ((some (vI out.1)), R, out.2) := by
  intro n
  induction n with
  | zero => intro v5 v6 M out h; exact (xno h).elim
  | succ n ih =>
    intro v5 v6 M out h
    rw [M_gauge_F266] at h
    refine s_M_gauge [(266, .iload 6, 0, 0), (268, .sipush 1000, 0, 1000)] (by decide +kernel) (z' := (271, [(0, (vR 10 l0)), (5, (vI v5)), (6, (vI v6))], [(vI 1000), (vI v6)], R, M, 174)) (cs := []) (by rfl) trivial (Nat.le_refl _) ?_
    rcases xif_ex h with ⟨c_79, h⟩ | ⟨c_79, h⟩
    · skip
      refine s_M_gauge [(271, .if_icmp .ge 34, 0, (-1)), (274, .aload_n 0, 0, 0), (275, .dup, 0, 0), (276, .getfield 244, 10, 106), (279, .aload_n 0, 0, 0), (280, .iload 5, 0, 0), (282, .iload 6, 0, 0)] (by decide +kernel) (z' := (284, [(0, (vR 10 l0)), (5, (vI v5)), (6, (vI v6))], [(vI v6), (vI v5), (vR 10 l0), (vI (M l0 106)), (vR 10 l0)], R, M, 174)) (cs := [¬ (1000 ≤ v6)]) (by rfl) ⟨Int.not_le.mpr c_79, trivial⟩ (Nat.le_refl _) ?_
      obtain ⟨r_80, e_81, h⟩ := xb1_ex h
      refine XR.callV 10 rfl (rest := [(vI (M l0 106)), (vR 10 l0)]) m_M_fits k_10_559 10 l0 (Or.inl ⟨by decide, rfl⟩) [(vI v5), (vI v6)] rfl rfl (c_M_fits e_81) (by decide) (Nat.le_of_ble_eq_true rfl) (by decide +kernel) (Nat.le_refl _) (Nat.le_refl _) ?_
      show XR false 2 174 sc y_M_gauge (287, [(0, (vR 10 l0)), (5, (vI v5)), (6, (vI v6))], [(vI r_80), (vI (M l0 106)), (vR 10 l0)], R, M, 174) _
      rcases xif_ex h with ⟨c_82, h⟩ | ⟨c_82, h⟩
      · skip
        refine s_M_gauge [(287, .ifCond .eq 7, 0, 294), (294, .iconst 0, 0, 0)] (by decide +kernel) (z' := (295, [(0, (vR 10 l0)), (5, (vI v5)), (6, (vI v6))], [(vI 0), (vI (M l0 106)), (vR 10 l0)], R, M, 174)) (cs := [r_80 = 0]) (by rfl) ⟨c_82, trivial⟩ (Nat.le_refl _) ?_
        exact o_M_gauge_J295 ih hq305 h
      · skip
        refine s_M_gauge [(287, .ifCond .eq 7, 0, (-1)), (290, .iconst 1, 0, 1), (291, .goto 4, 0, 295)] (by decide +kernel) (z' := (295, [(0, (vR 10 l0)), (5, (vI v5)), (6, (vI v6))], [(vI 1), (vI (M l0 106)), (vR 10 l0)], R, M, 174)) (cs := [¬ (r_80 = 0)]) (by rfl) ⟨c_82, trivial⟩ (Nat.le_refl _) ?_
        exact o_M_gauge_J295 ih hq305 h
    · skip
      refine s_M_gauge [(271, .if_icmp .ge 34, 0, 305)] (by decide +kernel) (z' := (305, [(0, (vR 10 l0)), (5, (vI v5)), (6, (vI v6))], [], R, M, 174)) (cs := [1000 ≤ v6]) (by rfl) ⟨Int.not_lt.mp c_79, trivial⟩ (Nat.le_refl _) ?_
      refine XR.pick [0, 1] (ls' := [(0, (vR 10 l0)), (5, (vI v5))]) rfl ?_
      exact hq305 v5 M _ h
set_option maxRecDepth 100000 in
set_option maxHeartbeats 4000000 in
theorem o_M_gauge_F256 {sc : List Int} {R : xR}   {l0 : Nat}  : ∀ (n : Nat) (v5 : Int) (M : xM) (out : Int × xM), M_gauge_F256 R l0  n v5 M = some out → XR false 2 174 sc y_M_gauge (256, [(0, (vR 10 l0)), (5, (vI v5))], [], R, M, 174) ((some (vI out.1)), R, out.2) := by
  intro n
  induction n with
  | zero => intro v5 M out h; exact (xno h).elim
  | succ n ih =>
    intro v5 M out h
    rw [M_gauge_F256] at h
    refine s_M_gauge [(256, .iload 5, 0, 0), (258, .bipush 100, 0, 100)] (by decide +kernel) (z' := (260, [(0, (vR 10 l0)), (5, (vI v5))], [(vI 100), (vI v5)], R, M, 174)) (cs := []) (by rfl) trivial (Nat.le_refl _) ?_
    rcases xif_ex h with ⟨c_78, h⟩ | ⟨c_78, h⟩
    · skip
      refine s_M_gauge [(260, .if_icmp .ge 51, 0, (-1)), (263, .iconst 0, 0, 0), (264, .istore 6, 0, 0)] (by decide +kernel) (z' := (266, [(6, (vI 0)), (0, (vR 10 l0)), (5, (vI v5))], [], R, M, 174)) (cs := [¬ (100 ≤ v5)]) (by rfl) ⟨Int.not_le.mpr c_78, trivial⟩ (Nat.le_refl _) ?_
      refine XR.pick [1, 2, 0] (ls' := [(0, (vR 10 l0)), (5, (vI v5)), (6, (vI 0))]) rfl ?_
      refine o_M_gauge_F266 ?_ xfu v5 0 M _ h
      · intro v5_85 M_86 out h
        obtain ⟨v5_87, hv5_87, h⟩ := xl_ex h
        refine s_M_gauge [(305, .iinc 5 1, 0, 0), (308, .goto (-52), 0, 256)] (by decide +kernel) (z' := (256, [(5, (vI v5_87)), (0, (vR 10 l0))], [], R, M_86, 174)) (cs := []) (by subst hv5_87; rfl) trivial (Nat.le_refl _) ?_
        refine XR.pick [1, 0] (ls' := [(0, (vR 10 l0)), (5, (vI v5_87))]) rfl ?_
        exact ih v5_87 M_86 _ h
    · skip
      refine s_M_gauge [(260, .if_icmp .ge 51, 0, 311), (311, .aload_n 0, 0, 0), (312, .aload_n 0, 0, 0), (313, .getfield 244, 10, 106)] (by decide +kernel) (z' := (316, [(0, (vR 10 l0)), (5, (vI v5))], [(vI (M l0 106)), (vR 10 l0)], R, M, 174)) (cs := [100 ≤ v5]) (by rfl) ⟨Int.not_lt.mp c_78, trivial⟩ (Nat.le_refl _) ?_
      obtain ⟨r_88, M_89, e_90, h⟩ := xb2_ex h
      refine XR.callV 10 rfl (rest := []) m_M_gives k_10_405 10 l0 (Or.inl ⟨by decide, rfl⟩) [(vI (M l0 106))] rfl rfl (c_M_gives e_90) (by decide) (Nat.le_of_ble_eq_true rfl) (by decide +kernel) (Nat.le_refl _) (Nat.le_refl _) ?_
      show XR false 2 174 sc y_M_gauge (319, [(0, (vR 10 l0)), (5, (vI v5))], [(vI r_88)], R, M_89, 174) _
      obtain rfl := Option.some.inj h
      exact XR.retI .int rfl rfl (by decide +kernel)
set_option maxRecDepth 100000 in
set_option maxHeartbeats 4000000 in
theorem o_M_gauge {sc : List Int} {R : xR} {M : xM} {l0 : Nat} {l1 : Int} {l2 : Int} {l3 : Int} {l4 : Int} {out : Int × xM} (h : f_M_gauge R l0 l1 l2 l3 l4 M = some out) : XR false 2 174 sc y_M_gauge (0, [(0, (vR 10 l0)), (1, (vI l1)), (2, (vI l2)), (3, (vI l3)), (4, (vI l4))], [], R, M, 174) ((some (vI out.1)), R, out.2) := by
  unfold f_M_gauge at h
  refine s_M_gauge [(0, .iload_n 1, 0, 0)] (by decide +kernel) (z' := (1, [(0, (vR 10 l0)), (1, (vI l1)), (2, (vI l2)), (3, (vI l3)), (4, (vI l4))], [(vI l1)], R, M, 174)) (cs := []) (by rfl) trivial (Nat.le_refl _) ?_
  obtain ⟨r_1, e_2, h⟩ := xb1_ex h
  refine XR.callS 10 rfl (rest := []) m_M_isTray k_10_250 [(vI l1)] rfl rfl (c_M_isTray e_2) (by decide) (Nat.le_of_ble_eq_true rfl) (by decide +kernel) (Nat.le_refl _) (Nat.le_refl _) ?_
  show XR false 2 174 sc y_M_gauge (4, [(0, (vR 10 l0)), (1, (vI l1)), (2, (vI l2)), (3, (vI l3)), (4, (vI l4))], [(vI r_1)], R, M, 174) _
  rcases xif_ex h with ⟨c_3, h⟩ | ⟨c_3, h⟩
  · skip
    refine s_M_gauge [(4, .ifCond .eq 34, 0, 38), (38, .aload_n 0, 0, 0), (39, .iconst 1, 0, 1)] (by decide +kernel) (z' := (40, [(0, (vR 10 l0)), (1, (vI l1)), (2, (vI l2)), (3, (vI l3)), (4, (vI l4))], [(vI 1), (vR 10 l0)], R, M, 174)) (cs := [r_1 = 0]) (by rfl) ⟨c_3, trivial⟩ (Nat.le_refl _) ?_
    obtain ⟨r_4, M_5, e_6, h⟩ := xb2_ex h
    refine XR.callV 10 rfl (rest := []) m_M_refuse k_10_377 10 l0 (Or.inl ⟨by decide, rfl⟩) [(vI 1)] rfl rfl (c_M_refuse e_6) (by decide) (Nat.le_of_ble_eq_true rfl) (by decide +kernel) (Nat.le_refl _) (Nat.le_refl _) ?_
    show XR false 2 174 sc y_M_gauge (43, [(0, (vR 10 l0)), (1, (vI l1)), (2, (vI l2)), (3, (vI l3)), (4, (vI l4))], [(vI r_4)], R, M_5, 174) _
    obtain rfl := Option.some.inj h
    exact XR.retI .int rfl rfl (by decide +kernel)
  · skip
    refine s_M_gauge [(4, .ifCond .eq 34, 0, (-1)), (7, .iload_n 2, 0, 0)] (by decide +kernel) (z' := (8, [(0, (vR 10 l0)), (1, (vI l1)), (2, (vI l2)), (3, (vI l3)), (4, (vI l4))], [(vI l2)], R, M, 174)) (cs := [¬ (r_1 = 0)]) (by rfl) ⟨c_3, trivial⟩ (Nat.le_refl _) ?_
    obtain ⟨r_7, e_8, h⟩ := xb1_ex h
    refine XR.callS 10 rfl (rest := []) m_M_isTray k_10_250 [(vI l2)] rfl rfl (c_M_isTray e_8) (by decide) (Nat.le_of_ble_eq_true rfl) (by decide +kernel) (Nat.le_refl _) (Nat.le_refl _) ?_
    show XR false 2 174 sc y_M_gauge (11, [(0, (vR 10 l0)), (1, (vI l1)), (2, (vI l2)), (3, (vI l3)), (4, (vI l4))], [(vI r_7)], R, M, 174) _
    rcases xif_ex h with ⟨c_9, h⟩ | ⟨c_9, h⟩
    · skip
      refine s_M_gauge [(11, .ifCond .eq 27, 0, 38), (38, .aload_n 0, 0, 0), (39, .iconst 1, 0, 1)] (by decide +kernel) (z' := (40, [(0, (vR 10 l0)), (1, (vI l1)), (2, (vI l2)), (3, (vI l3)), (4, (vI l4))], [(vI 1), (vR 10 l0)], R, M, 174)) (cs := [r_7 = 0]) (by rfl) ⟨c_9, trivial⟩ (Nat.le_refl _) ?_
      obtain ⟨r_10, M_11, e_12, h⟩ := xb2_ex h
      refine XR.callV 10 rfl (rest := []) m_M_refuse k_10_377 10 l0 (Or.inl ⟨by decide, rfl⟩) [(vI 1)] rfl rfl (c_M_refuse e_12) (by decide) (Nat.le_of_ble_eq_true rfl) (by decide +kernel) (Nat.le_refl _) (Nat.le_refl _) ?_
      show XR false 2 174 sc y_M_gauge (43, [(0, (vR 10 l0)), (1, (vI l1)), (2, (vI l2)), (3, (vI l3)), (4, (vI l4))], [(vI r_10)], R, M_11, 174) _
      obtain rfl := Option.some.inj h
      exact XR.retI .int rfl rfl (by decide +kernel)
    · skip
      refine s_M_gauge [(11, .ifCond .eq 27, 0, (-1)), (14, .iload_n 3, 0, 0), (15, .iconst 1, 0, 1)] (by decide +kernel) (z' := (16, [(0, (vR 10 l0)), (1, (vI l1)), (2, (vI l2)), (3, (vI l3)), (4, (vI l4))], [(vI 1), (vI l3)], R, M, 174)) (cs := [¬ (r_7 = 0)]) (by rfl) ⟨c_9, trivial⟩ (Nat.le_refl _) ?_
      rcases xif_ex h with ⟨c_13, h⟩ | ⟨c_13, h⟩
      · skip
        refine s_M_gauge [(16, .if_icmp .lt 22, 0, 38), (38, .aload_n 0, 0, 0), (39, .iconst 1, 0, 1)] (by decide +kernel) (z' := (40, [(0, (vR 10 l0)), (1, (vI l1)), (2, (vI l2)), (3, (vI l3)), (4, (vI l4))], [(vI 1), (vR 10 l0)], R, M, 174)) (cs := [l3 < 1]) (by rfl) ⟨c_13, trivial⟩ (Nat.le_refl _) ?_
        obtain ⟨r_14, M_15, e_16, h⟩ := xb2_ex h
        refine XR.callV 10 rfl (rest := []) m_M_refuse k_10_377 10 l0 (Or.inl ⟨by decide, rfl⟩) [(vI 1)] rfl rfl (c_M_refuse e_16) (by decide) (Nat.le_of_ble_eq_true rfl) (by decide +kernel) (Nat.le_refl _) (Nat.le_refl _) ?_
        show XR false 2 174 sc y_M_gauge (43, [(0, (vR 10 l0)), (1, (vI l1)), (2, (vI l2)), (3, (vI l3)), (4, (vI l4))], [(vI r_14)], R, M_15, 174) _
        obtain rfl := Option.some.inj h
        exact XR.retI .int rfl rfl (by decide +kernel)
      · skip
        refine s_M_gauge [(16, .if_icmp .lt 22, 0, (-1)), (19, .iload_n 3, 0, 0), (20, .bipush 10, 0, 10)] (by decide +kernel) (z' := (22, [(0, (vR 10 l0)), (1, (vI l1)), (2, (vI l2)), (3, (vI l3)), (4, (vI l4))], [(vI 10), (vI l3)], R, M, 174)) (cs := [¬ (l3 < 1)]) (by rfl) ⟨c_13, trivial⟩ (Nat.le_refl _) ?_
        rcases xif_ex h with ⟨c_17, h⟩ | ⟨c_17, h⟩
        · skip
          refine s_M_gauge [(22, .if_icmp .gt 16, 0, 38), (38, .aload_n 0, 0, 0), (39, .iconst 1, 0, 1)] (by decide +kernel) (z' := (40, [(0, (vR 10 l0)), (1, (vI l1)), (2, (vI l2)), (3, (vI l3)), (4, (vI l4))], [(vI 1), (vR 10 l0)], R, M, 174)) (cs := [10 < l3]) (by rfl) ⟨c_17, trivial⟩ (Nat.le_refl _) ?_
          obtain ⟨r_18, M_19, e_20, h⟩ := xb2_ex h
          refine XR.callV 10 rfl (rest := []) m_M_refuse k_10_377 10 l0 (Or.inl ⟨by decide, rfl⟩) [(vI 1)] rfl rfl (c_M_refuse e_20) (by decide) (Nat.le_of_ble_eq_true rfl) (by decide +kernel) (Nat.le_refl _) (Nat.le_refl _) ?_
          show XR false 2 174 sc y_M_gauge (43, [(0, (vR 10 l0)), (1, (vI l1)), (2, (vI l2)), (3, (vI l3)), (4, (vI l4))], [(vI r_18)], R, M_19, 174) _
          obtain rfl := Option.some.inj h
          exact XR.retI .int rfl rfl (by decide +kernel)
        · skip
          refine s_M_gauge [(22, .if_icmp .gt 16, 0, (-1)), (25, .iload 4, 0, 0)] (by decide +kernel) (z' := (27, [(0, (vR 10 l0)), (1, (vI l1)), (2, (vI l2)), (3, (vI l3)), (4, (vI l4))], [(vI l4)], R, M, 174)) (cs := [¬ (10 < l3)]) (by rfl) ⟨c_17, trivial⟩ (Nat.le_refl _) ?_
          rcases xif_ex h with ⟨c_21, h⟩ | ⟨c_21, h⟩
          · skip
            refine s_M_gauge [(27, .ifCond .lt 11, 0, 38), (38, .aload_n 0, 0, 0), (39, .iconst 1, 0, 1)] (by decide +kernel) (z' := (40, [(0, (vR 10 l0)), (1, (vI l1)), (2, (vI l2)), (3, (vI l3)), (4, (vI l4))], [(vI 1), (vR 10 l0)], R, M, 174)) (cs := [l4 < 0]) (by rfl) ⟨c_21, trivial⟩ (Nat.le_refl _) ?_
            obtain ⟨r_22, M_23, e_24, h⟩ := xb2_ex h
            refine XR.callV 10 rfl (rest := []) m_M_refuse k_10_377 10 l0 (Or.inl ⟨by decide, rfl⟩) [(vI 1)] rfl rfl (c_M_refuse e_24) (by decide) (Nat.le_of_ble_eq_true rfl) (by decide +kernel) (Nat.le_refl _) (Nat.le_refl _) ?_
            show XR false 2 174 sc y_M_gauge (43, [(0, (vR 10 l0)), (1, (vI l1)), (2, (vI l2)), (3, (vI l3)), (4, (vI l4))], [(vI r_22)], R, M_23, 174) _
            obtain rfl := Option.some.inj h
            exact XR.retI .int rfl rfl (by decide +kernel)
          · skip
            refine s_M_gauge [(27, .ifCond .lt 11, 0, (-1)), (30, .iload 4, 0, 0), (32, .sipush 1000, 0, 1000)] (by decide +kernel) (z' := (35, [(0, (vR 10 l0)), (1, (vI l1)), (2, (vI l2)), (3, (vI l3)), (4, (vI l4))], [(vI 1000), (vI l4)], R, M, 174)) (cs := [¬ (l4 < 0)]) (by rfl) ⟨c_21, trivial⟩ (Nat.le_refl _) ?_
            rcases xif_ex h with ⟨c_25, h⟩ | ⟨c_25, h⟩
            · skip
              refine s_M_gauge [(35, .if_icmp .le 9, 0, (-1)), (38, .aload_n 0, 0, 0), (39, .iconst 1, 0, 1)] (by decide +kernel) (z' := (40, [(0, (vR 10 l0)), (1, (vI l1)), (2, (vI l2)), (3, (vI l3)), (4, (vI l4))], [(vI 1), (vR 10 l0)], R, M, 174)) (cs := [¬ (l4 ≤ 1000)]) (by rfl) ⟨Int.not_le.mpr c_25, trivial⟩ (Nat.le_refl _) ?_
              obtain ⟨r_26, M_27, e_28, h⟩ := xb2_ex h
              refine XR.callV 10 rfl (rest := []) m_M_refuse k_10_377 10 l0 (Or.inl ⟨by decide, rfl⟩) [(vI 1)] rfl rfl (c_M_refuse e_28) (by decide) (Nat.le_of_ble_eq_true rfl) (by decide +kernel) (Nat.le_refl _) (Nat.le_refl _) ?_
              show XR false 2 174 sc y_M_gauge (43, [(0, (vR 10 l0)), (1, (vI l1)), (2, (vI l2)), (3, (vI l3)), (4, (vI l4))], [(vI r_26)], R, M_27, 174) _
              obtain rfl := Option.some.inj h
              exact XR.retI .int rfl rfl (by decide +kernel)
            · skip
              obtain ⟨c_29, h⟩ := xch_ex h
              refine s_M_gauge [(35, .if_icmp .le 9, 0, 44), (44, .aload_n 0, 0, 0), (45, .getfield 13, 10, 2), (48, .iload_n 1, 0, 0), (49, .iaload, 0, 0), (50, .iconst (-1), 0, (-1))] (by decide +kernel) (z' := (51, [(0, (vR 10 l0)), (1, (vI l1)), (2, (vI l2)), (3, (vI l3)), (4, (vI l4))], [(vI (-1)), (vI (M (R l0 2) (Int.toNat l1)))], R, M, 174)) (cs := [l4 ≤ 1000, xar 34 0, xidx l1 (xan 34)]) (by rfl) ⟨Int.not_lt.mp c_25, xar_34, xix_34 c_29, trivial⟩ (Nat.le_refl _) ?_
              rcases xif_ex h with ⟨c_30, h⟩ | ⟨c_30, h⟩
              · skip
                refine s_M_gauge [(51, .if_icmp .eq 13, 0, 64), (64, .aload_n 0, 0, 0), (65, .iconst 2, 0, 2)] (by decide +kernel) (z' := (66, [(0, (vR 10 l0)), (1, (vI l1)), (2, (vI l2)), (3, (vI l3)), (4, (vI l4))], [(vI 2), (vR 10 l0)], R, M, 174)) (cs := [M (R l0 2) (Int.toNat l1) = -1]) (by rfl) ⟨c_30, trivial⟩ (Nat.le_refl _) ?_
                obtain ⟨r_31, M_32, e_33, h⟩ := xb2_ex h
                refine XR.callV 10 rfl (rest := []) m_M_refuse k_10_377 10 l0 (Or.inl ⟨by decide, rfl⟩) [(vI 2)] rfl rfl (c_M_refuse e_33) (by decide) (Nat.le_of_ble_eq_true rfl) (by decide +kernel) (Nat.le_refl _) (Nat.le_refl _) ?_
                show XR false 2 174 sc y_M_gauge (69, [(0, (vR 10 l0)), (1, (vI l1)), (2, (vI l2)), (3, (vI l3)), (4, (vI l4))], [(vI r_31)], R, M_32, 174) _
                obtain rfl := Option.some.inj h
                exact XR.retI .int rfl rfl (by decide +kernel)
              · skip
                obtain ⟨c_34, h⟩ := xch_ex h
                refine s_M_gauge [(51, .if_icmp .eq 13, 0, (-1)), (54, .aload_n 0, 0, 0), (55, .getfield 13, 10, 2), (58, .iload_n 2, 0, 0), (59, .iaload, 0, 0), (60, .iconst (-1), 0, (-1))] (by decide +kernel) (z' := (61, [(0, (vR 10 l0)), (1, (vI l1)), (2, (vI l2)), (3, (vI l3)), (4, (vI l4))], [(vI (-1)), (vI (M (R l0 2) (Int.toNat l2)))], R, M, 174)) (cs := [¬ (M (R l0 2) (Int.toNat l1) = -1), xar 34 0, xidx l2 (xan 34)]) (by rfl) ⟨c_30, xar_34, xix_34 c_34, trivial⟩ (Nat.le_refl _) ?_
                rcases xif_ex h with ⟨c_35, h⟩ | ⟨c_35, h⟩
                · skip
                  refine s_M_gauge [(61, .if_icmp .ne 9, 0, (-1)), (64, .aload_n 0, 0, 0), (65, .iconst 2, 0, 2)] (by decide +kernel) (z' := (66, [(0, (vR 10 l0)), (1, (vI l1)), (2, (vI l2)), (3, (vI l3)), (4, (vI l4))], [(vI 2), (vR 10 l0)], R, M, 174)) (cs := [¬ (M (R l0 2) (Int.toNat l2) ≠ -1)]) (by rfl) ⟨fun q => q c_35, trivial⟩ (Nat.le_refl _) ?_
                  obtain ⟨r_36, M_37, e_38, h⟩ := xb2_ex h
                  refine XR.callV 10 rfl (rest := []) m_M_refuse k_10_377 10 l0 (Or.inl ⟨by decide, rfl⟩) [(vI 2)] rfl rfl (c_M_refuse e_38) (by decide) (Nat.le_of_ble_eq_true rfl) (by decide +kernel) (Nat.le_refl _) (Nat.le_refl _) ?_
                  show XR false 2 174 sc y_M_gauge (69, [(0, (vR 10 l0)), (1, (vI l1)), (2, (vI l2)), (3, (vI l3)), (4, (vI l4))], [(vI r_36)], R, M_37, 174) _
                  obtain rfl := Option.some.inj h
                  exact XR.retI .int rfl rfl (by decide +kernel)
                · skip
                  refine s_M_gauge [(61, .if_icmp .ne 9, 0, 70), (70, .aload_n 0, 0, 0), (71, .getfield 13, 10, 2), (74, .iload_n 1, 0, 0), (75, .iaload, 0, 0), (76, .iload_n 3, 0, 0)] (by decide +kernel) (z' := (77, [(0, (vR 10 l0)), (1, (vI l1)), (2, (vI l2)), (3, (vI l3)), (4, (vI l4))], [(vI l3), (vI (M (R l0 2) (Int.toNat l1)))], R, M, 174)) (cs := [M (R l0 2) (Int.toNat l2) ≠ -1, xar 34 0, xidx l1 (xan 34)]) (by rfl) ⟨c_35, xar_34, xix_34 c_29, trivial⟩ (Nat.le_refl _) ?_
                  rcases xif_ex h with ⟨c_39, h⟩ | ⟨c_39, h⟩
                  · skip
                    refine s_M_gauge [(77, .if_icmp .lt 13, 0, 90), (90, .aload_n 0, 0, 0), (91, .iconst 3, 0, 3)] (by decide +kernel) (z' := (92, [(0, (vR 10 l0)), (1, (vI l1)), (2, (vI l2)), (3, (vI l3)), (4, (vI l4))], [(vI 3), (vR 10 l0)], R, M, 174)) (cs := [M (R l0 2) (Int.toNat l1) < l3]) (by rfl) ⟨c_39, trivial⟩ (Nat.le_refl _) ?_
                    obtain ⟨r_40, M_41, e_42, h⟩ := xb2_ex h
                    refine XR.callV 10 rfl (rest := []) m_M_refuse k_10_377 10 l0 (Or.inl ⟨by decide, rfl⟩) [(vI 3)] rfl rfl (c_M_refuse e_42) (by decide) (Nat.le_of_ble_eq_true rfl) (by decide +kernel) (Nat.le_refl _) (Nat.le_refl _) ?_
                    show XR false 2 174 sc y_M_gauge (95, [(0, (vR 10 l0)), (1, (vI l1)), (2, (vI l2)), (3, (vI l3)), (4, (vI l4))], [(vI r_40)], R, M_41, 174) _
                    obtain rfl := Option.some.inj h
                    exact XR.retI .int rfl rfl (by decide +kernel)
                  · skip
                    refine s_M_gauge [(77, .if_icmp .lt 13, 0, (-1)), (80, .aload_n 0, 0, 0), (81, .getfield 13, 10, 2), (84, .iload_n 2, 0, 0), (85, .iaload, 0, 0), (86, .iload_n 3, 0, 0)] (by decide +kernel) (z' := (87, [(0, (vR 10 l0)), (1, (vI l1)), (2, (vI l2)), (3, (vI l3)), (4, (vI l4))], [(vI l3), (vI (M (R l0 2) (Int.toNat l2)))], R, M, 174)) (cs := [¬ (M (R l0 2) (Int.toNat l1) < l3), xar 34 0, xidx l2 (xan 34)]) (by rfl) ⟨c_39, xar_34, xix_34 c_34, trivial⟩ (Nat.le_refl _) ?_
                    rcases xif_ex h with ⟨c_43, h⟩ | ⟨c_43, h⟩
                    · skip
                      refine s_M_gauge [(87, .if_icmp .ge 9, 0, (-1)), (90, .aload_n 0, 0, 0), (91, .iconst 3, 0, 3)] (by decide +kernel) (z' := (92, [(0, (vR 10 l0)), (1, (vI l1)), (2, (vI l2)), (3, (vI l3)), (4, (vI l4))], [(vI 3), (vR 10 l0)], R, M, 174)) (cs := [¬ (l3 ≤ M (R l0 2) (Int.toNat l2))]) (by rfl) ⟨Int.not_le.mpr c_43, trivial⟩ (Nat.le_refl _) ?_
                      obtain ⟨r_44, M_45, e_46, h⟩ := xb2_ex h
                      refine XR.callV 10 rfl (rest := []) m_M_refuse k_10_377 10 l0 (Or.inl ⟨by decide, rfl⟩) [(vI 3)] rfl rfl (c_M_refuse e_46) (by decide) (Nat.le_of_ble_eq_true rfl) (by decide +kernel) (Nat.le_refl _) (Nat.le_refl _) ?_
                      show XR false 2 174 sc y_M_gauge (95, [(0, (vR 10 l0)), (1, (vI l1)), (2, (vI l2)), (3, (vI l3)), (4, (vI l4))], [(vI r_44)], R, M_45, 174) _
                      obtain rfl := Option.some.inj h
                      exact XR.retI .int rfl rfl (by decide +kernel)
                    · skip
                      refine s_M_gauge [(87, .if_icmp .ge 9, 0, 96), (96, .iconst 0, 0, 0), (97, .istore 5, 0, 0)] (by decide +kernel) (z' := (99, [(5, (vI 0)), (0, (vR 10 l0)), (1, (vI l1)), (2, (vI l2)), (3, (vI l3)), (4, (vI l4))], [], R, M, 174)) (cs := [l3 ≤ M (R l0 2) (Int.toNat l2)]) (by rfl) ⟨Int.not_lt.mp c_43, trivial⟩ (Nat.le_refl _) ?_
                      refine XR.pick [1, 2, 3, 4, 5, 0] (ls' := [(0, (vR 10 l0)), (1, (vI l1)), (2, (vI l2)), (3, (vI l3)), (4, (vI l4)), (5, (vI 0))]) rfl ?_
                      refine o_M_gauge_F99 ?_ xfu 0 M _ h
                      · intro M_56 out h
                        refine s_M_gauge [(139, .iconst 0, 0, 0), (140, .istore 5, 0, 0)] (by decide +kernel) (z' := (142, [(5, (vI 0)), (0, (vR 10 l0)), (1, (vI l1)), (2, (vI l2)), (3, (vI l3)), (4, (vI l4))], [], R, M_56, 174)) (cs := []) (by rfl) trivial (Nat.le_refl _) ?_
                        refine XR.pick [1, 2, 3, 4, 5, 0] (ls' := [(0, (vR 10 l0)), (1, (vI l1)), (2, (vI l2)), (3, (vI l3)), (4, (vI l4)), (5, (vI 0))]) rfl ?_
                        refine o_M_gauge_F142 ?_ xfu 0 M_56 _ h
                        · intro M_66 out h
                          obtain ⟨M_67, hM_67, h⟩ := xl_ex h
                          obtain ⟨M_68, hM_68, h⟩ := xl_ex h
                          refine s_M_gauge [(182, .aload_n 0, 0, 0), (183, .iload_n 3, 0, 0), (184, .putfield 546, 10, 104), (187, .aload_n 0, 0, 0), (188, .iload 4, 0, 0), (190, .putfield 552, 10, 105), (193, .iconst 0, 0, 0), (194, .istore 5, 0, 0)] (by decide +kernel) (z' := (196, [(5, (vI 0)), (0, (vR 10 l0)), (1, (vI l1)), (2, (vI l2)), (3, (vI l3)), (4, (vI l4))], [], R, M_68, 174)) (cs := []) (by subst hM_67; subst hM_68; rfl) trivial (Nat.le_refl _) ?_
                          refine XR.pick [1, 2, 3, 4, 0] (ls' := [(0, (vR 10 l0)), (1, (vI l1)), (2, (vI l2)), (3, (vI l3)), (5, (vI 0))]) rfl ?_
                          refine o_M_gauge_F196 ?_ xfu 0 M_68 _ h
                          · intro M_76 out h
                            obtain ⟨M_77, hM_77, h⟩ := xl_ex h
                            refine s_M_gauge [(248, .aload_n 0, 0, 0), (249, .iconst 0, 0, 0), (250, .putfield 244, 10, 106), (253, .iconst 0, 0, 0), (254, .istore 5, 0, 0)] (by decide +kernel) (z' := (256, [(5, (vI 0)), (0, (vR 10 l0))], [], R, M_77, 174)) (cs := []) (by subst hM_77; rfl) trivial (Nat.le_refl _) ?_
                            refine XR.pick [1, 0] (ls' := [(0, (vR 10 l0)), (5, (vI 0))]) rfl ?_
                            refine o_M_gauge_F256  xfu 0 M_77 _ h
set_option maxRecDepth 100000 in
set_option maxHeartbeats 4000000 in
theorem c_M_gauge {sc : List Int} {R : xR} {M : xM} {l0 : Nat} {l1 : Int} {l2 : Int} {l3 : Int} {l4 : Int} {out : Int × xM} (h : f_M_gauge R l0 l1 l2 l3 l4 M = some out) : XC false 2 sc y_M_gauge [(vR 10 l0), (vI l1), (vI l2), (vI l3), (vI l4)] R M 174 174 ((some (vI out.1)), R, out.2) := XC.of (by decide) (Nat.le_of_ble_eq_true rfl) (Nat.le_refl _) (Nat.le_refl _) (o_M_gauge h)
def M_gaugeTold_J123 (R : xR) (l0 : Nat) (l1 : Int) (l2 : Int) (rc : Int → Int → Int → xM → Option (Int × xM)) (q129 : Int → Int → xM → Option (Int × xM)) (v3 : Int) (v4 : Int) (v5 : Int) (M : xM) : Option (Int × xM) :=
  xl (w32 (v5 + 1)) fun v5_26 =>
  rc v3 v4 v5_26 M
def M_gaugeTold_J102 (R : xR) (l0 : Nat) (l1 : Int) (l2 : Int) (rc : Int → Int → Int → xM → Option (Int × xM)) (q129 : Int → Int → xM → Option (Int × xM)) (v3 : Int) (v4 : Int) (v5 : Int) (v6 : Int) (s0 : Int) (M : xM) : Option (Int × xM) :=
  if s0 = 0 then
    M_gaugeTold_J123 R l0 l1 l2 rc q129 v3 v4 v5 M
  else
    xb1 (f_M_fits R l0 v4 v5 M) fun r_27 =>
    if r_27 = 0 then
      M_gaugeTold_J123 R l0 l1 l2 rc q129 v3 v4 v5 M
    else
      M_gaugeTold_J123 R l0 l1 l2 rc q129 v6 v4 v5 M
def M_gaugeTold_F56 (R : xR) (l0 : Nat) (l1 : Int) (l2 : Int) (q129 : Int → Int → xM → Option (Int × xM)) : Nat → Int → Int → Int → xM → Option (Int × xM)
  | 0, _, _, _, _ => none
  | n + 1, v3, v4, v5, M =>
    if v5 < 1000 then
      xl (w32 ((w32 (v4 * l1)) + v5)) fun v6_23 =>
      if v3 = -1 then
        M_gaugeTold_J102 R l0 l1 l2 (M_gaugeTold_F56 R l0 l1 l2 q129 n) q129 v3 v4 v5 v6_23 1 M
      else
        if l2 = 0 then
          if v6_23 < v3 then
            M_gaugeTold_J102 R l0 l1 l2 (M_gaugeTold_F56 R l0 l1 l2 q129 n) q129 v3 v4 v5 v6_23 1 M
          else
            M_gaugeTold_J102 R l0 l1 l2 (M_gaugeTold_F56 R l0 l1 l2 q129 n) q129 v3 v4 v5 v6_23 0 M
        else
          if v3 < v6_23 then
            M_gaugeTold_J102 R l0 l1 l2 (M_gaugeTold_F56 R l0 l1 l2 q129 n) q129 v3 v4 v5 v6_23 1 M
          else
            M_gaugeTold_J102 R l0 l1 l2 (M_gaugeTold_F56 R l0 l1 l2 q129 n) q129 v3 v4 v5 v6_23 0 M
    else
      q129 v3 v4 M
def M_gaugeTold_F46 (R : xR) (l0 : Nat) (l1 : Int) (l2 : Int) : Nat → Int → Int → xM → Option (Int × xM)
  | 0, _, _, _ => none
  | n + 1, v3, v4, M =>
    if v4 < 100 then
      M_gaugeTold_F56 R l0 l1 l2
        (fun (v3_33 : Int) (v4_34 : Int) (M_35 : xM) =>
          xl (w32 (v4_34 + 1)) fun v4_36 =>
          M_gaugeTold_F46 R l0 l1 l2  n v3_33 v4_36 M_35)
        xfu v3 v4 0 M
    else
      xb2 (f_M_gives l0 v3 M) fun r_37 M_38 =>
      some (r_37, M_38)
def f_M_gaugeTold (R : xR) (l0 : Nat) (l1 : Int) (l2 : Int) (M : xM) : Option (Int × xM) :=
  if l1 < 0 then
    xb2 (f_M_refuse l0 1 M) fun r_2 M_3 =>
    some (r_2, M_3)
  else
    if 999 < l1 then
      xb2 (f_M_refuse l0 1 M) fun r_6 M_7 =>
      some (r_6, M_7)
    else
      if l2 < 0 then
        xb2 (f_M_refuse l0 1 M) fun r_10 M_11 =>
        some (r_10, M_11)
      else
        if 1 < l2 then
          xb2 (f_M_refuse l0 1 M) fun r_14 M_15 =>
          some (r_14, M_15)
        else
          if M l0 106 < 1 then
            xb2 (f_M_refuse l0 6 M) fun r_18 M_19 =>
            some (r_18, M_19)
          else
            M_gaugeTold_F46 R l0 l1 l2
              xfu (-1) 0 M
set_option maxRecDepth 100000 in
set_option maxHeartbeats 4000000 in
theorem s_M_gaugeTold {d : Nat} {sc : List Int} {z z' : xS} {out : xO} (qs : List xI) {cs : List Prop} (hq : qs.all (xqb 10 false y_M_gaugeTold.2.2.1 y_M_gaugeTold.2.1) = true) (h : xN false sc qs z = some (z', cs)) (hc : xAll cs) (hE : z'.2.2.2.2.2 ≤ 174) (k : XR false d 174 sc y_M_gaugeTold z' out) : XR false d 174 sc y_M_gaugeTold z out := XR.seg 10 false rfl (fun q => by cases q) qs hq h hc hE k
set_option maxRecDepth 100000 in
set_option maxHeartbeats 4000000 in
theorem o_M_gaugeTold_J123 {sc : List Int} {R : xR}   {l0 : Nat} {l1 : Int} {l2 : Int}  {rc : Int → Int → Int → xM → Option (Int × xM)} {q129 : Int → Int → xM → Option (Int × xM)} (hrc : ∀ (w3 : Int) (w4 : Int) (w5 : Int) (M : xM) (out : Int × xM), rc w3 w4 w5 M = some out → XR false 2 174 sc y_M_gaugeTold (56, [(0, (vR 10 l0)), (1, (vI l1)), (2, (vI l2)), (3, (vI w3)), (4, (vI w4)), (5, (vI w5))], [], R, M, 174) ((some (vI out.1)), R, out.2)) (hq129 : ∀ (w3 : Int) (w4 : Int) (M : xM) (out : Int × xM), q129 w3 w4 M = some out → XR false 2 174 sc y_M_gaugeTold (129, [(0, (vR 10 l0)), (1, (vI l1)), (2, (vI l2)), (3, (vI w3)), (4, (vI w4))], [], R, M, 174) ((some (vI out.1)), R, out.2)) {v3 : Int} {v4 : Int} {v5 : Int} {M : xM} {out : Int × xM} (h : M_gaugeTold_J123 R l0 l1 l2 rc q129 v3 v4 v5 M = some out) : XR false 2 174 sc y_M_gaugeTold (123, [(0, (vR 10 l0)), (1, (vI l1)), (2, (vI l2)), (3, (vI v3)), (4, (vI v4)), (5, (vI v5))], [], R, M, 174) ((some (vI out.1)), R, out.2) := by
  unfold M_gaugeTold_J123 at h
  obtain ⟨v5_26, hv5_26, h⟩ := xl_ex h
  refine s_M_gaugeTold [(123, .iinc 5 1, 0, 0), (126, .goto (-70), 0, 56)] (by decide +kernel) (z' := (56, [(5, (vI v5_26)), (0, (vR 10 l0)), (1, (vI l1)), (2, (vI l2)), (3, (vI v3)), (4, (vI v4))], [], R, M, 174)) (cs := []) (by subst hv5_26; rfl) trivial (Nat.le_refl _) ?_
  refine XR.pick [1, 2, 3, 4, 5, 0] (ls' := [(0, (vR 10 l0)), (1, (vI l1)), (2, (vI l2)), (3, (vI v3)), (4, (vI v4)), (5, (vI v5_26))]) rfl ?_
  exact hrc v3 v4 v5_26 M _ h
set_option maxRecDepth 100000 in
set_option maxHeartbeats 4000000 in
theorem o_M_gaugeTold_J102 {sc : List Int} {R : xR}   {l0 : Nat} {l1 : Int} {l2 : Int}  {rc : Int → Int → Int → xM → Option (Int × xM)} {q129 : Int → Int → xM → Option (Int × xM)} (hrc : ∀ (w3 : Int) (w4 : Int) (w5 : Int) (M : xM) (out : Int × xM), rc w3 w4 w5 M = some out → XR false 2 174 sc y_M_gaugeTold (56, [(0, (vR 10 l0)), (1, (vI l1)), (2, (vI l2)), (3, (vI w3)), (4, (vI w4)), (5, (vI w5))], [], R, M, 174) ((some (vI out.1)), R, out.2)) (hq129 : ∀ (w3 : Int) (w4 : Int) (M : xM) (out : Int × xM), q129 w3 w4 M = some out → XR false 2 174 sc y_M_gaugeTold (129, [(0, (vR 10 l0)), (1, (vI l1)), (2, (vI l2)), (3, (vI w3)), (4, (vI w4))], [], R, M, 174) ((some (vI out.1)), R, out.2)) {v3 : Int} {v4 : Int} {v5 : Int} {v6 : Int} {s0 : Int} {M : xM} {out : Int × xM} (h : M_gaugeTold_J102 R l0 l1 l2 rc q129 v3 v4 v5 v6 s0 M = some out) : XR false 2 174 sc y_M_gaugeTold (102, [(0, (vR 10 l0)), (1, (vI l1)), (2, (vI l2)), (3, (vI v3)), (4, (vI v4)), (5, (vI v5)), (6, (vI v6))], [(vI s0)], R, M, 174) ((some (vI out.1)), R, out.2) := by
  unfold M_gaugeTold_J102 at h
  refine s_M_gaugeTold [(102, .istore 7, 0, 0), (104, .iload 7, 0, 0)] (by decide +kernel) (z' := (106, [(7, (vI s0)), (0, (vR 10 l0)), (1, (vI l1)), (2, (vI l2)), (3, (vI v3)), (4, (vI v4)), (5, (vI v5)), (6, (vI v6))], [(vI s0)], R, M, 174)) (cs := []) (by rfl) trivial (Nat.le_refl _) ?_
  rcases xif_ex h with ⟨c_25, h⟩ | ⟨c_25, h⟩
  · skip
    refine s_M_gaugeTold [(106, .ifCond .eq 17, 0, 123)] (by decide +kernel) (z' := (123, [(7, (vI s0)), (0, (vR 10 l0)), (1, (vI l1)), (2, (vI l2)), (3, (vI v3)), (4, (vI v4)), (5, (vI v5)), (6, (vI v6))], [], R, M, 174)) (cs := [s0 = 0]) (by rfl) ⟨c_25, trivial⟩ (Nat.le_refl _) ?_
    refine XR.pick [1, 2, 3, 4, 5, 6] (ls' := [(0, (vR 10 l0)), (1, (vI l1)), (2, (vI l2)), (3, (vI v3)), (4, (vI v4)), (5, (vI v5))]) rfl ?_
    exact o_M_gaugeTold_J123 hrc hq129 h
  · skip
    refine s_M_gaugeTold [(106, .ifCond .eq 17, 0, (-1)), (109, .aload_n 0, 0, 0), (110, .iload 4, 0, 0), (112, .iload 5, 0, 0)] (by decide +kernel) (z' := (114, [(7, (vI s0)), (0, (vR 10 l0)), (1, (vI l1)), (2, (vI l2)), (3, (vI v3)), (4, (vI v4)), (5, (vI v5)), (6, (vI v6))], [(vI v5), (vI v4), (vR 10 l0)], R, M, 174)) (cs := [¬ (s0 = 0)]) (by rfl) ⟨c_25, trivial⟩ (Nat.le_refl _) ?_
    obtain ⟨r_27, e_28, h⟩ := xb1_ex h
    refine XR.callV 10 rfl (rest := []) m_M_fits k_10_559 10 l0 (Or.inl ⟨by decide, rfl⟩) [(vI v4), (vI v5)] rfl rfl (c_M_fits e_28) (by decide) (Nat.le_of_ble_eq_true rfl) (by decide +kernel) (Nat.le_refl _) (Nat.le_refl _) ?_
    show XR false 2 174 sc y_M_gaugeTold (117, [(7, (vI s0)), (0, (vR 10 l0)), (1, (vI l1)), (2, (vI l2)), (3, (vI v3)), (4, (vI v4)), (5, (vI v5)), (6, (vI v6))], [(vI r_27)], R, M, 174) _
    rcases xif_ex h with ⟨c_29, h⟩ | ⟨c_29, h⟩
    · skip
      refine s_M_gaugeTold [(117, .ifCond .eq 6, 0, 123)] (by decide +kernel) (z' := (123, [(7, (vI s0)), (0, (vR 10 l0)), (1, (vI l1)), (2, (vI l2)), (3, (vI v3)), (4, (vI v4)), (5, (vI v5)), (6, (vI v6))], [], R, M, 174)) (cs := [r_27 = 0]) (by rfl) ⟨c_29, trivial⟩ (Nat.le_refl _) ?_
      refine XR.pick [1, 2, 3, 4, 5, 6] (ls' := [(0, (vR 10 l0)), (1, (vI l1)), (2, (vI l2)), (3, (vI v3)), (4, (vI v4)), (5, (vI v5))]) rfl ?_
      exact o_M_gaugeTold_J123 hrc hq129 h
    · skip
      refine s_M_gaugeTold [(117, .ifCond .eq 6, 0, (-1)), (120, .iload 6, 0, 0), (122, .istore_n 3, 0, 0)] (by decide +kernel) (z' := (123, [(3, (vI v6)), (7, (vI s0)), (0, (vR 10 l0)), (1, (vI l1)), (2, (vI l2)), (4, (vI v4)), (5, (vI v5)), (6, (vI v6))], [], R, M, 174)) (cs := [¬ (r_27 = 0)]) (by rfl) ⟨c_29, trivial⟩ (Nat.le_refl _) ?_
      refine XR.pick [2, 3, 4, 0, 5, 6] (ls' := [(0, (vR 10 l0)), (1, (vI l1)), (2, (vI l2)), (3, (vI v6)), (4, (vI v4)), (5, (vI v5))]) rfl ?_
      exact o_M_gaugeTold_J123 hrc hq129 h
set_option maxRecDepth 100000 in
set_option maxHeartbeats 4000000 in
theorem o_M_gaugeTold_F56 {sc : List Int} {R : xR}   {l0 : Nat} {l1 : Int} {l2 : Int}  {q129 : Int → Int → xM → Option (Int × xM)} (hq129 : ∀ (w3 : Int) (w4 : Int) (M : xM) (out : Int × xM), q129 w3 w4 M = some out → XR false 2 174 sc y_M_gaugeTold (129, [(0, (vR 10 l0)), (1, (vI l1)), (2, (vI l2)), (3, (vI w3)), (4, (vI w4))], [], R, M, 174) ((some (vI out.1)), R, out.2)) : ∀ (n : Nat) (v3 : Int) (v4 : Int) (v5 : Int) (M : xM) (out : Int × xM), M_gaugeTold_F56 R l0 l1 l2 q129 n v3 v4 v5 M = some out → XR false 2 174 sc y_M_gaugeTold (56, [(0, (vR 10 l0)), (1, (vI l1)), (2, (vI l2)), (3, (vI v3)), (4, (vI v4)), (5, (vI v5))], [], R, M, 174) ((some (vI out.1)), R, out.2) := by
  intro n
  induction n with
  | zero => intro v3 v4 v5 M out h; exact (xno h).elim
  | succ n ih =>
    intro v3 v4 v5 M out h
    rw [M_gaugeTold_F56] at h
    refine s_M_gaugeTold [(56, .iload 5, 0, 0), (58, .sipush 1000, 0, 1000)] (by decide +kernel) (z' := (61, [(0, (vR 10 l0)), (1, (vI l1)), (2, (vI l2)), (3, (vI v3)), (4, (vI v4)), (5, (vI v5))], [(vI 1000), (vI v5)], R, M, 174)) (cs := []) (by rfl) trivial (Nat.le_refl _) ?_
    rcases xif_ex h with ⟨c_22, h⟩ | ⟨c_22, h⟩
    · skip
      obtain ⟨v6_23, hv6_23, h⟩ := xl_ex h
      refine s_M_gaugeTold [(61, .if_icmp .ge 68, 0, (-1)), (64, .iload 4, 0, 0), (66, .iload_n 1, 0, 0), (67, .imul, 0, 0), (68, .iload 5, 0, 0), (70, .iadd, 0, 0), (71, .istore 6, 0, 0), (73, .iload_n 3, 0, 0), (74, .iconst (-1), 0, (-1))] (by decide +kernel) (z' := (75, [(6, (vI v6_23)), (0, (vR 10 l0)), (1, (vI l1)), (2, (vI l2)), (3, (vI v3)), (4, (vI v4)), (5, (vI v5))], [(vI (-1)), (vI v3)], R, M, 174)) (cs := [¬ (1000 ≤ v5)]) (by subst hv6_23; rfl) ⟨Int.not_le.mpr c_22, trivial⟩ (Nat.le_refl _) ?_
      rcases xif_ex h with ⟨c_24, h⟩ | ⟨c_24, h⟩
      · skip
        refine s_M_gaugeTold [(75, .if_icmp .eq 22, 0, 97), (97, .iconst 1, 0, 1), (98, .goto 4, 0, 102)] (by decide +kernel) (z' := (102, [(6, (vI v6_23)), (0, (vR 10 l0)), (1, (vI l1)), (2, (vI l2)), (3, (vI v3)), (4, (vI v4)), (5, (vI v5))], [(vI 1)], R, M, 174)) (cs := [v3 = -1]) (by rfl) ⟨c_24, trivial⟩ (Nat.le_refl _) ?_
        refine XR.pick [1, 2, 3, 4, 5, 6, 0] (ls' := [(0, (vR 10 l0)), (1, (vI l1)), (2, (vI l2)), (3, (vI v3)), (4, (vI v4)), (5, (vI v5)), (6, (vI v6_23))]) rfl ?_
        exact o_M_gaugeTold_J102 ih hq129 h
      · skip
        refine s_M_gaugeTold [(75, .if_icmp .eq 22, 0, (-1)), (78, .iload_n 2, 0, 0)] (by decide +kernel) (z' := (79, [(6, (vI v6_23)), (0, (vR 10 l0)), (1, (vI l1)), (2, (vI l2)), (3, (vI v3)), (4, (vI v4)), (5, (vI v5))], [(vI l2)], R, M, 174)) (cs := [¬ (v3 = -1)]) (by rfl) ⟨c_24, trivial⟩ (Nat.le_refl _) ?_
        rcases xif_ex h with ⟨c_30, h⟩ | ⟨c_30, h⟩
        · skip
          refine s_M_gaugeTold [(79, .ifCond .ne 12, 0, (-1)), (82, .iload 6, 0, 0), (84, .iload_n 3, 0, 0)] (by decide +kernel) (z' := (85, [(6, (vI v6_23)), (0, (vR 10 l0)), (1, (vI l1)), (2, (vI l2)), (3, (vI v3)), (4, (vI v4)), (5, (vI v5))], [(vI v3), (vI v6_23)], R, M, 174)) (cs := [¬ (l2 ≠ 0)]) (by rfl) ⟨fun q => q c_30, trivial⟩ (Nat.le_refl _) ?_
          rcases xif_ex h with ⟨c_31, h⟩ | ⟨c_31, h⟩
          · skip
            refine s_M_gaugeTold [(85, .if_icmp .ge 16, 0, (-1)), (88, .goto 9, 0, 97), (97, .iconst 1, 0, 1), (98, .goto 4, 0, 102)] (by decide +kernel) (z' := (102, [(6, (vI v6_23)), (0, (vR 10 l0)), (1, (vI l1)), (2, (vI l2)), (3, (vI v3)), (4, (vI v4)), (5, (vI v5))], [(vI 1)], R, M, 174)) (cs := [¬ (v3 ≤ v6_23)]) (by rfl) ⟨Int.not_le.mpr c_31, trivial⟩ (Nat.le_refl _) ?_
            refine XR.pick [1, 2, 3, 4, 5, 6, 0] (ls' := [(0, (vR 10 l0)), (1, (vI l1)), (2, (vI l2)), (3, (vI v3)), (4, (vI v4)), (5, (vI v5)), (6, (vI v6_23))]) rfl ?_
            exact o_M_gaugeTold_J102 ih hq129 h
          · skip
            refine s_M_gaugeTold [(85, .if_icmp .ge 16, 0, 101), (101, .iconst 0, 0, 0)] (by decide +kernel) (z' := (102, [(6, (vI v6_23)), (0, (vR 10 l0)), (1, (vI l1)), (2, (vI l2)), (3, (vI v3)), (4, (vI v4)), (5, (vI v5))], [(vI 0)], R, M, 174)) (cs := [v3 ≤ v6_23]) (by rfl) ⟨Int.not_lt.mp c_31, trivial⟩ (Nat.le_refl _) ?_
            refine XR.pick [1, 2, 3, 4, 5, 6, 0] (ls' := [(0, (vR 10 l0)), (1, (vI l1)), (2, (vI l2)), (3, (vI v3)), (4, (vI v4)), (5, (vI v5)), (6, (vI v6_23))]) rfl ?_
            exact o_M_gaugeTold_J102 ih hq129 h
        · skip
          refine s_M_gaugeTold [(79, .ifCond .ne 12, 0, 91), (91, .iload 6, 0, 0), (93, .iload_n 3, 0, 0)] (by decide +kernel) (z' := (94, [(6, (vI v6_23)), (0, (vR 10 l0)), (1, (vI l1)), (2, (vI l2)), (3, (vI v3)), (4, (vI v4)), (5, (vI v5))], [(vI v3), (vI v6_23)], R, M, 174)) (cs := [l2 ≠ 0]) (by rfl) ⟨c_30, trivial⟩ (Nat.le_refl _) ?_
          rcases xif_ex h with ⟨c_32, h⟩ | ⟨c_32, h⟩
          · skip
            refine s_M_gaugeTold [(94, .if_icmp .le 7, 0, (-1)), (97, .iconst 1, 0, 1), (98, .goto 4, 0, 102)] (by decide +kernel) (z' := (102, [(6, (vI v6_23)), (0, (vR 10 l0)), (1, (vI l1)), (2, (vI l2)), (3, (vI v3)), (4, (vI v4)), (5, (vI v5))], [(vI 1)], R, M, 174)) (cs := [¬ (v6_23 ≤ v3)]) (by rfl) ⟨Int.not_le.mpr c_32, trivial⟩ (Nat.le_refl _) ?_
            refine XR.pick [1, 2, 3, 4, 5, 6, 0] (ls' := [(0, (vR 10 l0)), (1, (vI l1)), (2, (vI l2)), (3, (vI v3)), (4, (vI v4)), (5, (vI v5)), (6, (vI v6_23))]) rfl ?_
            exact o_M_gaugeTold_J102 ih hq129 h
          · skip
            refine s_M_gaugeTold [(94, .if_icmp .le 7, 0, 101), (101, .iconst 0, 0, 0)] (by decide +kernel) (z' := (102, [(6, (vI v6_23)), (0, (vR 10 l0)), (1, (vI l1)), (2, (vI l2)), (3, (vI v3)), (4, (vI v4)), (5, (vI v5))], [(vI 0)], R, M, 174)) (cs := [v6_23 ≤ v3]) (by rfl) ⟨Int.not_lt.mp c_32, trivial⟩ (Nat.le_refl _) ?_
            refine XR.pick [1, 2, 3, 4, 5, 6, 0] (ls' := [(0, (vR 10 l0)), (1, (vI l1)), (2, (vI l2)), (3, (vI v3)), (4, (vI v4)), (5, (vI v5)), (6, (vI v6_23))]) rfl ?_
            exact o_M_gaugeTold_J102 ih hq129 h
    · skip
      refine s_M_gaugeTold [(61, .if_icmp .ge 68, 0, 129)] (by decide +kernel) (z' := (129, [(0, (vR 10 l0)), (1, (vI l1)), (2, (vI l2)), (3, (vI v3)), (4, (vI v4)), (5, (vI v5))], [], R, M, 174)) (cs := [1000 ≤ v5]) (by rfl) ⟨Int.not_lt.mp c_22, trivial⟩ (Nat.le_refl _) ?_
      refine XR.pick [0, 1, 2, 3, 4] (ls' := [(0, (vR 10 l0)), (1, (vI l1)), (2, (vI l2)), (3, (vI v3)), (4, (vI v4))]) rfl ?_
      exact hq129 v3 v4 M _ h
set_option maxRecDepth 100000 in
set_option maxHeartbeats 4000000 in
theorem o_M_gaugeTold_F46 {sc : List Int} {R : xR}   {l0 : Nat} {l1 : Int} {l2 : Int}  : ∀ (n : Nat) (v3 : Int) (v4 : Int) (M : xM) (out : Int × xM), M_gaugeTold_F46 R l0 l1 l2  n v3 v4 M = some out → XR false 2 174 sc y_M_gaugeTold (46, [(0, (vR 10 l0)), (1, (vI l1)), (2, (vI l2)), (3, (vI v3)), (4, (vI v4))], [], R, M, 174) ((some (vI out.1)), R, out.2) := by
  intro n
  induction n with
  | zero => intro v3 v4 M out h; exact (xno h).elim
  | succ n ih =>
    intro v3 v4 M out h
    rw [M_gaugeTold_F46] at h
    refine s_M_gaugeTold [(46, .iload 4, 0, 0), (48, .bipush 100, 0, 100)] (by decide +kernel) (z' := (50, [(0, (vR 10 l0)), (1, (vI l1)), (2, (vI l2)), (3, (vI v3)), (4, (vI v4))], [(vI 100), (vI v4)], R, M, 174)) (cs := []) (by rfl) trivial (Nat.le_refl _) ?_
    rcases xif_ex h with ⟨c_21, h⟩ | ⟨c_21, h⟩
    · skip
      refine s_M_gaugeTold [(50, .if_icmp .ge 85, 0, (-1)), (53, .iconst 0, 0, 0), (54, .istore 5, 0, 0)] (by decide +kernel) (z' := (56, [(5, (vI 0)), (0, (vR 10 l0)), (1, (vI l1)), (2, (vI l2)), (3, (vI v3)), (4, (vI v4))], [], R, M, 174)) (cs := [¬ (100 ≤ v4)]) (by rfl) ⟨Int.not_le.mpr c_21, trivial⟩ (Nat.le_refl _) ?_
      refine XR.pick [1, 2, 3, 4, 5, 0] (ls' := [(0, (vR 10 l0)), (1, (vI l1)), (2, (vI l2)), (3, (vI v3)), (4, (vI v4)), (5, (vI 0))]) rfl ?_
      refine o_M_gaugeTold_F56 ?_ xfu v3 v4 0 M _ h
      · intro v3_33 v4_34 M_35 out h
        obtain ⟨v4_36, hv4_36, h⟩ := xl_ex h
        refine s_M_gaugeTold [(129, .iinc 4 1, 0, 0), (132, .goto (-86), 0, 46)] (by decide +kernel) (z' := (46, [(4, (vI v4_36)), (0, (vR 10 l0)), (1, (vI l1)), (2, (vI l2)), (3, (vI v3_33))], [], R, M_35, 174)) (cs := []) (by subst hv4_36; rfl) trivial (Nat.le_refl _) ?_
        refine XR.pick [1, 2, 3, 4, 0] (ls' := [(0, (vR 10 l0)), (1, (vI l1)), (2, (vI l2)), (3, (vI v3_33)), (4, (vI v4_36))]) rfl ?_
        exact ih v3_33 v4_36 M_35 _ h
    · skip
      refine s_M_gaugeTold [(50, .if_icmp .ge 85, 0, 135), (135, .aload_n 0, 0, 0), (136, .iload_n 3, 0, 0)] (by decide +kernel) (z' := (137, [(0, (vR 10 l0)), (1, (vI l1)), (2, (vI l2)), (3, (vI v3)), (4, (vI v4))], [(vI v3), (vR 10 l0)], R, M, 174)) (cs := [100 ≤ v4]) (by rfl) ⟨Int.not_lt.mp c_21, trivial⟩ (Nat.le_refl _) ?_
      obtain ⟨r_37, M_38, e_39, h⟩ := xb2_ex h
      refine XR.callV 10 rfl (rest := []) m_M_gives k_10_405 10 l0 (Or.inl ⟨by decide, rfl⟩) [(vI v3)] rfl rfl (c_M_gives e_39) (by decide) (Nat.le_of_ble_eq_true rfl) (by decide +kernel) (Nat.le_refl _) (Nat.le_refl _) ?_
      show XR false 2 174 sc y_M_gaugeTold (140, [(0, (vR 10 l0)), (1, (vI l1)), (2, (vI l2)), (3, (vI v3)), (4, (vI v4))], [(vI r_37)], R, M_38, 174) _
      obtain rfl := Option.some.inj h
      exact XR.retI .int rfl rfl (by decide +kernel)
set_option maxRecDepth 100000 in
set_option maxHeartbeats 4000000 in
theorem o_M_gaugeTold {sc : List Int} {R : xR} {M : xM} {l0 : Nat} {l1 : Int} {l2 : Int} {out : Int × xM} (h : f_M_gaugeTold R l0 l1 l2 M = some out) : XR false 2 174 sc y_M_gaugeTold (0, [(0, (vR 10 l0)), (1, (vI l1)), (2, (vI l2))], [], R, M, 174) ((some (vI out.1)), R, out.2) := by
  unfold f_M_gaugeTold at h
  refine s_M_gaugeTold [(0, .iload_n 1, 0, 0)] (by decide +kernel) (z' := (1, [(0, (vR 10 l0)), (1, (vI l1)), (2, (vI l2))], [(vI l1)], R, M, 174)) (cs := []) (by rfl) trivial (Nat.le_refl _) ?_
  rcases xif_ex h with ⟨c_1, h⟩ | ⟨c_1, h⟩
  · skip
    refine s_M_gaugeTold [(1, .ifCond .lt 19, 0, 20), (20, .aload_n 0, 0, 0), (21, .iconst 1, 0, 1)] (by decide +kernel) (z' := (22, [(0, (vR 10 l0)), (1, (vI l1)), (2, (vI l2))], [(vI 1), (vR 10 l0)], R, M, 174)) (cs := [l1 < 0]) (by rfl) ⟨c_1, trivial⟩ (Nat.le_refl _) ?_
    obtain ⟨r_2, M_3, e_4, h⟩ := xb2_ex h
    refine XR.callV 10 rfl (rest := []) m_M_refuse k_10_377 10 l0 (Or.inl ⟨by decide, rfl⟩) [(vI 1)] rfl rfl (c_M_refuse e_4) (by decide) (Nat.le_of_ble_eq_true rfl) (by decide +kernel) (Nat.le_refl _) (Nat.le_refl _) ?_
    show XR false 2 174 sc y_M_gaugeTold (25, [(0, (vR 10 l0)), (1, (vI l1)), (2, (vI l2))], [(vI r_2)], R, M_3, 174) _
    obtain rfl := Option.some.inj h
    exact XR.retI .int rfl rfl (by decide +kernel)
  · skip
    refine s_M_gaugeTold [(1, .ifCond .lt 19, 0, (-1)), (4, .iload_n 1, 0, 0), (5, .sipush 999, 0, 999)] (by decide +kernel) (z' := (8, [(0, (vR 10 l0)), (1, (vI l1)), (2, (vI l2))], [(vI 999), (vI l1)], R, M, 174)) (cs := [¬ (l1 < 0)]) (by rfl) ⟨c_1, trivial⟩ (Nat.le_refl _) ?_
    rcases xif_ex h with ⟨c_5, h⟩ | ⟨c_5, h⟩
    · skip
      refine s_M_gaugeTold [(8, .if_icmp .gt 12, 0, 20), (20, .aload_n 0, 0, 0), (21, .iconst 1, 0, 1)] (by decide +kernel) (z' := (22, [(0, (vR 10 l0)), (1, (vI l1)), (2, (vI l2))], [(vI 1), (vR 10 l0)], R, M, 174)) (cs := [999 < l1]) (by rfl) ⟨c_5, trivial⟩ (Nat.le_refl _) ?_
      obtain ⟨r_6, M_7, e_8, h⟩ := xb2_ex h
      refine XR.callV 10 rfl (rest := []) m_M_refuse k_10_377 10 l0 (Or.inl ⟨by decide, rfl⟩) [(vI 1)] rfl rfl (c_M_refuse e_8) (by decide) (Nat.le_of_ble_eq_true rfl) (by decide +kernel) (Nat.le_refl _) (Nat.le_refl _) ?_
      show XR false 2 174 sc y_M_gaugeTold (25, [(0, (vR 10 l0)), (1, (vI l1)), (2, (vI l2))], [(vI r_6)], R, M_7, 174) _
      obtain rfl := Option.some.inj h
      exact XR.retI .int rfl rfl (by decide +kernel)
    · skip
      refine s_M_gaugeTold [(8, .if_icmp .gt 12, 0, (-1)), (11, .iload_n 2, 0, 0)] (by decide +kernel) (z' := (12, [(0, (vR 10 l0)), (1, (vI l1)), (2, (vI l2))], [(vI l2)], R, M, 174)) (cs := [¬ (999 < l1)]) (by rfl) ⟨c_5, trivial⟩ (Nat.le_refl _) ?_
      rcases xif_ex h with ⟨c_9, h⟩ | ⟨c_9, h⟩
      · skip
        refine s_M_gaugeTold [(12, .ifCond .lt 8, 0, 20), (20, .aload_n 0, 0, 0), (21, .iconst 1, 0, 1)] (by decide +kernel) (z' := (22, [(0, (vR 10 l0)), (1, (vI l1)), (2, (vI l2))], [(vI 1), (vR 10 l0)], R, M, 174)) (cs := [l2 < 0]) (by rfl) ⟨c_9, trivial⟩ (Nat.le_refl _) ?_
        obtain ⟨r_10, M_11, e_12, h⟩ := xb2_ex h
        refine XR.callV 10 rfl (rest := []) m_M_refuse k_10_377 10 l0 (Or.inl ⟨by decide, rfl⟩) [(vI 1)] rfl rfl (c_M_refuse e_12) (by decide) (Nat.le_of_ble_eq_true rfl) (by decide +kernel) (Nat.le_refl _) (Nat.le_refl _) ?_
        show XR false 2 174 sc y_M_gaugeTold (25, [(0, (vR 10 l0)), (1, (vI l1)), (2, (vI l2))], [(vI r_10)], R, M_11, 174) _
        obtain rfl := Option.some.inj h
        exact XR.retI .int rfl rfl (by decide +kernel)
      · skip
        refine s_M_gaugeTold [(12, .ifCond .lt 8, 0, (-1)), (15, .iload_n 2, 0, 0), (16, .iconst 1, 0, 1)] (by decide +kernel) (z' := (17, [(0, (vR 10 l0)), (1, (vI l1)), (2, (vI l2))], [(vI 1), (vI l2)], R, M, 174)) (cs := [¬ (l2 < 0)]) (by rfl) ⟨c_9, trivial⟩ (Nat.le_refl _) ?_
        rcases xif_ex h with ⟨c_13, h⟩ | ⟨c_13, h⟩
        · skip
          refine s_M_gaugeTold [(17, .if_icmp .le 9, 0, (-1)), (20, .aload_n 0, 0, 0), (21, .iconst 1, 0, 1)] (by decide +kernel) (z' := (22, [(0, (vR 10 l0)), (1, (vI l1)), (2, (vI l2))], [(vI 1), (vR 10 l0)], R, M, 174)) (cs := [¬ (l2 ≤ 1)]) (by rfl) ⟨Int.not_le.mpr c_13, trivial⟩ (Nat.le_refl _) ?_
          obtain ⟨r_14, M_15, e_16, h⟩ := xb2_ex h
          refine XR.callV 10 rfl (rest := []) m_M_refuse k_10_377 10 l0 (Or.inl ⟨by decide, rfl⟩) [(vI 1)] rfl rfl (c_M_refuse e_16) (by decide) (Nat.le_of_ble_eq_true rfl) (by decide +kernel) (Nat.le_refl _) (Nat.le_refl _) ?_
          show XR false 2 174 sc y_M_gaugeTold (25, [(0, (vR 10 l0)), (1, (vI l1)), (2, (vI l2))], [(vI r_14)], R, M_15, 174) _
          obtain rfl := Option.some.inj h
          exact XR.retI .int rfl rfl (by decide +kernel)
        · skip
          refine s_M_gaugeTold [(17, .if_icmp .le 9, 0, 26), (26, .aload_n 0, 0, 0), (27, .getfield 244, 10, 106), (30, .iconst 1, 0, 1)] (by decide +kernel) (z' := (31, [(0, (vR 10 l0)), (1, (vI l1)), (2, (vI l2))], [(vI 1), (vI (M l0 106))], R, M, 174)) (cs := [l2 ≤ 1]) (by rfl) ⟨Int.not_lt.mp c_13, trivial⟩ (Nat.le_refl _) ?_
          rcases xif_ex h with ⟨c_17, h⟩ | ⟨c_17, h⟩
          · skip
            refine s_M_gaugeTold [(31, .if_icmp .ge 10, 0, (-1)), (34, .aload_n 0, 0, 0), (35, .bipush 6, 0, 6)] (by decide +kernel) (z' := (37, [(0, (vR 10 l0)), (1, (vI l1)), (2, (vI l2))], [(vI 6), (vR 10 l0)], R, M, 174)) (cs := [¬ (1 ≤ M l0 106)]) (by rfl) ⟨Int.not_le.mpr c_17, trivial⟩ (Nat.le_refl _) ?_
            obtain ⟨r_18, M_19, e_20, h⟩ := xb2_ex h
            refine XR.callV 10 rfl (rest := []) m_M_refuse k_10_377 10 l0 (Or.inl ⟨by decide, rfl⟩) [(vI 6)] rfl rfl (c_M_refuse e_20) (by decide) (Nat.le_of_ble_eq_true rfl) (by decide +kernel) (Nat.le_refl _) (Nat.le_refl _) ?_
            show XR false 2 174 sc y_M_gaugeTold (40, [(0, (vR 10 l0)), (1, (vI l1)), (2, (vI l2))], [(vI r_18)], R, M_19, 174) _
            obtain rfl := Option.some.inj h
            exact XR.retI .int rfl rfl (by decide +kernel)
          · skip
            refine s_M_gaugeTold [(31, .if_icmp .ge 10, 0, 41), (41, .iconst (-1), 0, (-1)), (42, .istore_n 3, 0, 0), (43, .iconst 0, 0, 0), (44, .istore 4, 0, 0)] (by decide +kernel) (z' := (46, [(4, (vI 0)), (3, (vI (-1))), (0, (vR 10 l0)), (1, (vI l1)), (2, (vI l2))], [], R, M, 174)) (cs := [1 ≤ M l0 106]) (by rfl) ⟨Int.not_lt.mp c_17, trivial⟩ (Nat.le_refl _) ?_
            refine XR.pick [2, 3, 4, 1, 0] (ls' := [(0, (vR 10 l0)), (1, (vI l1)), (2, (vI l2)), (3, (vI (-1))), (4, (vI 0))]) rfl ?_
            refine o_M_gaugeTold_F46  xfu (-1) 0 M _ h
set_option maxRecDepth 100000 in
set_option maxHeartbeats 4000000 in
theorem c_M_gaugeTold {sc : List Int} {R : xR} {M : xM} {l0 : Nat} {l1 : Int} {l2 : Int} {out : Int × xM} (h : f_M_gaugeTold R l0 l1 l2 M = some out) : XC false 2 sc y_M_gaugeTold [(vR 10 l0), (vI l1), (vI l2)] R M 174 174 ((some (vI out.1)), R, out.2) := XC.of (by decide) (Nat.le_of_ble_eq_true rfl) (Nat.le_refl _) (Nat.le_refl _) (o_M_gaugeTold h)
def f_M_happens (R : xR) (l0 : Nat) (l1 : Int) (l2 : Int) (l3 : Int) (l4 : Int) (l5 : Int) (l6 : Int) (M : xM) : Option (Int × xM) :=
  if M l0 60 = 40 then
    xb2 (f_M_is l0 4 M) fun r_2 M_3 =>
    xch (r_2 = 0 ∨ r_2 = 1) <|
    some (r_2, M_3)
  else
    if l5 < M l0 61 then
      xb2 (f_M_is l0 5 M) fun r_7 M_8 =>
      xch (r_7 = 0 ∨ r_7 = 1) <|
      some (r_7, M_8)
    else
      if l6 = 0 then
        xb2 (f_M_is l0 7 M) fun r_12 M_13 =>
        xch (r_12 = 0 ∨ r_12 = 1) <|
        some (r_12, M_13)
      else
        xl (xu M l0 61 l5) fun M_16 =>
        xch (0 ≤ M_16 l0 60 ∧ M_16 l0 60 < 40) <|
        xl (xu M_16 (R l0 68) (Int.toNat (M_16 l0 60)) l1) fun M_18 =>
        xch (0 ≤ M_18 l0 60 ∧ M_18 l0 60 < 40) <|
        xl (xu M_18 (R l0 69) (Int.toNat (M_18 l0 60)) l2) fun M_20 =>
        xch (0 ≤ M_20 l0 60 ∧ M_20 l0 60 < 40) <|
        xl (xu M_20 (R l0 70) (Int.toNat (M_20 l0 60)) l3) fun M_22 =>
        xch (0 ≤ M_22 l0 60 ∧ M_22 l0 60 < 40) <|
        xl (xu M_22 (R l0 71) (Int.toNat (M_22 l0 60)) l4) fun M_24 =>
        xch (0 ≤ M_24 l0 60 ∧ M_24 l0 60 < 40) <|
        xl (xu M_24 (R l0 72) (Int.toNat (M_24 l0 60)) l5) fun M_26 =>
        xl (xu M_26 l0 60 (w32 ((M_26 l0 60) + 1))) fun M_27 =>
        xb2 (f_M_is l0 0 M_27) fun r_28 M_29 =>
        xch (r_28 = 0 ∨ r_28 = 1) <|
        some (r_28, M_29)
set_option maxRecDepth 100000 in
set_option maxHeartbeats 4000000 in
theorem s_M_happens {d : Nat} {sc : List Int} {z z' : xS} {out : xO} (qs : List xI) {cs : List Prop} (hq : qs.all (xqb 10 false y_M_happens.2.2.1 y_M_happens.2.1) = true) (h : xN false sc qs z = some (z', cs)) (hc : xAll cs) (hE : z'.2.2.2.2.2 ≤ 174) (k : XR false d 174 sc y_M_happens z' out) : XR false d 174 sc y_M_happens z out := XR.seg 10 false rfl (fun q => by cases q) qs hq h hc hE k
set_option maxRecDepth 100000 in
set_option maxHeartbeats 4000000 in
theorem o_M_happens {sc : List Int} {R : xR} {M : xM} {l0 : Nat} {l1 : Int} {l2 : Int} {l3 : Int} {l4 : Int} {l5 : Int} {l6 : Int} {out : Int × xM} (h : f_M_happens R l0 l1 l2 l3 l4 l5 l6 M = some out) : XR false 1 174 sc y_M_happens (0, [(0, (vR 10 l0)), (1, (vI l1)), (2, (vI l2)), (3, (vI l3)), (4, (vI l4)), (5, (vI l5)), (6, (vI l6))], [], R, M, 174) ((some (vI out.1)), R, out.2) := by
  unfold f_M_happens at h
  refine s_M_happens [(0, .aload_n 0, 0, 0), (1, .getfield 402, 10, 60), (4, .bipush 40, 0, 40)] (by decide +kernel) (z' := (6, [(0, (vR 10 l0)), (1, (vI l1)), (2, (vI l2)), (3, (vI l3)), (4, (vI l4)), (5, (vI l5)), (6, (vI l6))], [(vI 40), (vI (M l0 60))], R, M, 174)) (cs := []) (by rfl) trivial (Nat.le_refl _) ?_
  rcases xif_ex h with ⟨c_1, h⟩ | ⟨c_1, h⟩
  · skip
    refine s_M_happens [(6, .if_icmp .ne 9, 0, (-1)), (9, .aload_n 0, 0, 0), (10, .iconst 4, 0, 4)] (by decide +kernel) (z' := (11, [(0, (vR 10 l0)), (1, (vI l1)), (2, (vI l2)), (3, (vI l3)), (4, (vI l4)), (5, (vI l5)), (6, (vI l6))], [(vI 4), (vR 10 l0)], R, M, 174)) (cs := [¬ (M l0 60 ≠ 40)]) (by rfl) ⟨fun q => q c_1, trivial⟩ (Nat.le_refl _) ?_
    obtain ⟨r_2, M_3, e_4, h⟩ := xb2_ex h
    refine XR.callV 10 rfl (rest := []) m_M_is k_10_254 10 l0 (Or.inl ⟨by decide, rfl⟩) [(vI 4)] rfl rfl (c_M_is e_4) (by decide) (Nat.le_of_ble_eq_true rfl) (by decide +kernel) (Nat.le_refl _) (Nat.le_refl _) ?_
    show XR false 1 174 sc y_M_happens (14, [(0, (vR 10 l0)), (1, (vI l1)), (2, (vI l2)), (3, (vI l3)), (4, (vI l4)), (5, (vI l5)), (6, (vI l6))], [(vI r_2)], R, M_3, 174) _
    obtain ⟨c_5, h⟩ := xch_ex h
    obtain rfl := Option.some.inj h
    exact XR.retI .boolean rfl (xnar_z c_5) (by decide +kernel)
  · skip
    refine s_M_happens [(6, .if_icmp .ne 9, 0, 15), (15, .iload 5, 0, 0), (17, .aload_n 0, 0, 0), (18, .getfield 445, 10, 61)] (by decide +kernel) (z' := (21, [(0, (vR 10 l0)), (1, (vI l1)), (2, (vI l2)), (3, (vI l3)), (4, (vI l4)), (5, (vI l5)), (6, (vI l6))], [(vI (M l0 61)), (vI l5)], R, M, 174)) (cs := [M l0 60 ≠ 40]) (by rfl) ⟨c_1, trivial⟩ (Nat.le_refl _) ?_
    rcases xif_ex h with ⟨c_6, h⟩ | ⟨c_6, h⟩
    · skip
      refine s_M_happens [(21, .if_icmp .ge 9, 0, (-1)), (24, .aload_n 0, 0, 0), (25, .iconst 5, 0, 5)] (by decide +kernel) (z' := (26, [(0, (vR 10 l0)), (1, (vI l1)), (2, (vI l2)), (3, (vI l3)), (4, (vI l4)), (5, (vI l5)), (6, (vI l6))], [(vI 5), (vR 10 l0)], R, M, 174)) (cs := [¬ (M l0 61 ≤ l5)]) (by rfl) ⟨Int.not_le.mpr c_6, trivial⟩ (Nat.le_refl _) ?_
      obtain ⟨r_7, M_8, e_9, h⟩ := xb2_ex h
      refine XR.callV 10 rfl (rest := []) m_M_is k_10_254 10 l0 (Or.inl ⟨by decide, rfl⟩) [(vI 5)] rfl rfl (c_M_is e_9) (by decide) (Nat.le_of_ble_eq_true rfl) (by decide +kernel) (Nat.le_refl _) (Nat.le_refl _) ?_
      show XR false 1 174 sc y_M_happens (29, [(0, (vR 10 l0)), (1, (vI l1)), (2, (vI l2)), (3, (vI l3)), (4, (vI l4)), (5, (vI l5)), (6, (vI l6))], [(vI r_7)], R, M_8, 174) _
      obtain ⟨c_10, h⟩ := xch_ex h
      obtain rfl := Option.some.inj h
      exact XR.retI .boolean rfl (xnar_z c_10) (by decide +kernel)
    · skip
      refine s_M_happens [(21, .if_icmp .ge 9, 0, 30), (30, .iload 6, 0, 0)] (by decide +kernel) (z' := (32, [(0, (vR 10 l0)), (1, (vI l1)), (2, (vI l2)), (3, (vI l3)), (4, (vI l4)), (5, (vI l5)), (6, (vI l6))], [(vI l6)], R, M, 174)) (cs := [M l0 61 ≤ l5]) (by rfl) ⟨Int.not_lt.mp c_6, trivial⟩ (Nat.le_refl _) ?_
      rcases xif_ex h with ⟨c_11, h⟩ | ⟨c_11, h⟩
      · skip
        refine s_M_happens [(32, .ifCond .ne 10, 0, (-1)), (35, .aload_n 0, 0, 0), (36, .bipush 7, 0, 7)] (by decide +kernel) (z' := (38, [(0, (vR 10 l0)), (1, (vI l1)), (2, (vI l2)), (3, (vI l3)), (4, (vI l4)), (5, (vI l5)), (6, (vI l6))], [(vI 7), (vR 10 l0)], R, M, 174)) (cs := [¬ (l6 ≠ 0)]) (by rfl) ⟨fun q => q c_11, trivial⟩ (Nat.le_refl _) ?_
        obtain ⟨r_12, M_13, e_14, h⟩ := xb2_ex h
        refine XR.callV 10 rfl (rest := []) m_M_is k_10_254 10 l0 (Or.inl ⟨by decide, rfl⟩) [(vI 7)] rfl rfl (c_M_is e_14) (by decide) (Nat.le_of_ble_eq_true rfl) (by decide +kernel) (Nat.le_refl _) (Nat.le_refl _) ?_
        show XR false 1 174 sc y_M_happens (41, [(0, (vR 10 l0)), (1, (vI l1)), (2, (vI l2)), (3, (vI l3)), (4, (vI l4)), (5, (vI l5)), (6, (vI l6))], [(vI r_12)], R, M_13, 174) _
        obtain ⟨c_15, h⟩ := xch_ex h
        obtain rfl := Option.some.inj h
        exact XR.retI .boolean rfl (xnar_z c_15) (by decide +kernel)
      · skip
        obtain ⟨M_16, hM_16, h⟩ := xl_ex h
        obtain ⟨c_17, h⟩ := xch_ex h
        obtain ⟨M_18, hM_18, h⟩ := xl_ex h
        obtain ⟨c_19, h⟩ := xch_ex h
        obtain ⟨M_20, hM_20, h⟩ := xl_ex h
        obtain ⟨c_21, h⟩ := xch_ex h
        obtain ⟨M_22, hM_22, h⟩ := xl_ex h
        obtain ⟨c_23, h⟩ := xch_ex h
        obtain ⟨M_24, hM_24, h⟩ := xl_ex h
        obtain ⟨c_25, h⟩ := xch_ex h
        obtain ⟨M_26, hM_26, h⟩ := xl_ex h
        obtain ⟨M_27, hM_27, h⟩ := xl_ex h
        refine s_M_happens [(32, .ifCond .ne 10, 0, 42), (42, .aload_n 0, 0, 0), (43, .iload 5, 0, 0), (45, .putfield 445, 10, 61), (48, .aload_n 0, 0, 0), (49, .getfield 154, 10, 68), (52, .aload_n 0, 0, 0), (53, .getfield 402, 10, 60), (56, .iload_n 1, 0, 0), (57, .iastore, 0, 0), (58, .aload_n 0, 0, 0), (59, .getfield 157, 10, 69), (62, .aload_n 0, 0, 0), (63, .getfield 402, 10, 60), (66, .iload_n 2, 0, 0), (67, .iastore, 0, 0), (68, .aload_n 0, 0, 0), (69, .getfield 160, 10, 70), (72, .aload_n 0, 0, 0), (73, .getfield 402, 10, 60), (76, .iload_n 3, 0, 0), (77, .iastore, 0, 0), (78, .aload_n 0, 0, 0), (79, .getfield 163, 10, 71), (82, .aload_n 0, 0, 0), (83, .getfield 402, 10, 60), (86, .iload 4, 0, 0), (88, .iastore, 0, 0), (89, .aload_n 0, 0, 0), (90, .getfield 166, 10, 72), (93, .aload_n 0, 0, 0), (94, .getfield 402, 10, 60), (97, .iload 5, 0, 0), (99, .iastore, 0, 0), (100, .aload_n 0, 0, 0), (101, .dup, 0, 0), (102, .getfield 402, 10, 60), (105, .iconst 1, 0, 1), (106, .iadd, 0, 0), (107, .putfield 402, 10, 60), (110, .aload_n 0, 0, 0), (111, .iconst 0, 0, 0)] (by decide +kernel) (z' := (112, [(0, (vR 10 l0)), (1, (vI l1)), (2, (vI l2)), (3, (vI l3)), (4, (vI l4)), (5, (vI l5)), (6, (vI l6))], [(vI 0), (vR 10 l0)], R, M_27, 174)) (cs := [l6 ≠ 0, xar 21 0, xidx (M_16 l0 60) (xan 21), xar 21 0, xidx (M_18 l0 60) (xan 21), xar 21 0, xidx (M_20 l0 60) (xan 21), xar 21 0, xidx (M_22 l0 60) (xan 21), xar 21 0, xidx (M_24 l0 60) (xan 21)]) (by subst hM_16; subst hM_18; subst hM_20; subst hM_22; subst hM_24; subst hM_26; subst hM_27; rfl) ⟨c_11, xar_21, xix_21 c_17, xar_21, xix_21 c_19, xar_21, xix_21 c_21, xar_21, xix_21 c_23, xar_21, xix_21 c_25, trivial⟩ (Nat.le_refl _) ?_
        obtain ⟨r_28, M_29, e_30, h⟩ := xb2_ex h
        refine XR.callV 10 rfl (rest := []) m_M_is k_10_254 10 l0 (Or.inl ⟨by decide, rfl⟩) [(vI 0)] rfl rfl (c_M_is e_30) (by decide) (Nat.le_of_ble_eq_true rfl) (by decide +kernel) (Nat.le_refl _) (Nat.le_refl _) ?_
        show XR false 1 174 sc y_M_happens (115, [(0, (vR 10 l0)), (1, (vI l1)), (2, (vI l2)), (3, (vI l3)), (4, (vI l4)), (5, (vI l5)), (6, (vI l6))], [(vI r_28)], R, M_29, 174) _
        obtain ⟨c_31, h⟩ := xch_ex h
        obtain rfl := Option.some.inj h
        exact XR.retI .boolean rfl (xnar_z c_31) (by decide +kernel)
set_option maxRecDepth 100000 in
set_option maxHeartbeats 4000000 in
theorem c_M_happens {sc : List Int} {R : xR} {M : xM} {l0 : Nat} {l1 : Int} {l2 : Int} {l3 : Int} {l4 : Int} {l5 : Int} {l6 : Int} {out : Int × xM} (h : f_M_happens R l0 l1 l2 l3 l4 l5 l6 M = some out) : XC false 1 sc y_M_happens [(vR 10 l0), (vI l1), (vI l2), (vI l3), (vI l4), (vI l5), (vI l6)] R M 174 174 ((some (vI out.1)), R, out.2) := XC.of (by decide) (Nat.le_of_ble_eq_true rfl) (Nat.le_refl _) (Nat.le_refl _) (o_M_happens h)
def f_M_hole (R : xR) (l0 : Nat) (l1 : Int) (l2 : Int) (l3 : Int) (l4 : Int) (M : xM) : Option (Int × xM) :=
  xb1 (f_M_isCleaner l0 l1 M) fun r_1 =>
  if r_1 = 0 then
    xb2 (f_M_is l0 1 M) fun r_4 M_5 =>
    xch (r_4 = 0 ∨ r_4 = 1) <|
    some (r_4, M_5)
  else
    xb1 (f_M_isHour l2) fun r_8 =>
    if r_8 = 0 then
      xb2 (f_M_is l0 1 M) fun r_11 M_12 =>
      xch (r_11 = 0 ∨ r_11 = 1) <|
      some (r_11, M_12)
    else
      if l3 < 1 then
        xb2 (f_M_is l0 1 M) fun r_16 M_17 =>
        xch (r_16 = 0 ∨ r_16 = 1) <|
        some (r_16, M_17)
      else
        if 100 < l3 then
          xb2 (f_M_is l0 1 M) fun r_21 M_22 =>
          xch (r_21 = 0 ∨ r_21 = 1) <|
          some (r_21, M_22)
        else
          xb1 (f_M_isKnown l4) fun r_25 =>
          if r_25 = 0 then
            xb2 (f_M_is l0 1 M) fun r_28 M_29 =>
            xch (r_28 = 0 ∨ r_28 = 1) <|
            some (r_28, M_29)
          else
            xch (0 ≤ l1 ∧ l1 < 8) <|
            if M (R l0 32) (Int.toNat l1) = 2 then
              xb2 (f_M_happens R l0 1 l1 l2 l3 l4 1 M) fun r_34 M_35 =>
              xch (r_34 = 0 ∨ r_34 = 1) <|
              some (r_34, M_35)
            else
              xb2 (f_M_happens R l0 1 l1 l2 l3 l4 0 M) fun r_38 M_39 =>
              xch (r_38 = 0 ∨ r_38 = 1) <|
              some (r_38, M_39)
set_option maxRecDepth 100000 in
set_option maxHeartbeats 4000000 in
theorem s_M_hole {d : Nat} {sc : List Int} {z z' : xS} {out : xO} (qs : List xI) {cs : List Prop} (hq : qs.all (xqb 10 false y_M_hole.2.2.1 y_M_hole.2.1) = true) (h : xN false sc qs z = some (z', cs)) (hc : xAll cs) (hE : z'.2.2.2.2.2 ≤ 174) (k : XR false d 174 sc y_M_hole z' out) : XR false d 174 sc y_M_hole z out := XR.seg 10 false rfl (fun q => by cases q) qs hq h hc hE k
set_option maxRecDepth 100000 in
set_option maxHeartbeats 4000000 in
theorem o_M_hole {sc : List Int} {R : xR} {M : xM} {l0 : Nat} {l1 : Int} {l2 : Int} {l3 : Int} {l4 : Int} {out : Int × xM} (h : f_M_hole R l0 l1 l2 l3 l4 M = some out) : XR false 2 174 sc y_M_hole (0, [(0, (vR 10 l0)), (1, (vI l1)), (2, (vI l2)), (3, (vI l3)), (4, (vI l4))], [], R, M, 174) ((some (vI out.1)), R, out.2) := by
  unfold f_M_hole at h
  refine s_M_hole [(0, .aload_n 0, 0, 0), (1, .iload_n 1, 0, 0)] (by decide +kernel) (z' := (2, [(0, (vR 10 l0)), (1, (vI l1)), (2, (vI l2)), (3, (vI l3)), (4, (vI l4))], [(vI l1), (vR 10 l0)], R, M, 174)) (cs := []) (by rfl) trivial (Nat.le_refl _) ?_
  obtain ⟨r_1, e_2, h⟩ := xb1_ex h
  refine XR.callV 10 rfl (rest := []) m_M_isCleaner k_10_430 10 l0 (Or.inl ⟨by decide, rfl⟩) [(vI l1)] rfl rfl (c_M_isCleaner e_2) (by decide) (Nat.le_of_ble_eq_true rfl) (by decide +kernel) (Nat.le_refl _) (Nat.le_refl _) ?_
  show XR false 2 174 sc y_M_hole (5, [(0, (vR 10 l0)), (1, (vI l1)), (2, (vI l2)), (3, (vI l3)), (4, (vI l4))], [(vI r_1)], R, M, 174) _
  rcases xif_ex h with ⟨c_3, h⟩ | ⟨c_3, h⟩
  · skip
    refine s_M_hole [(5, .ifCond .eq 29, 0, 34), (34, .aload_n 0, 0, 0), (35, .iconst 1, 0, 1)] (by decide +kernel) (z' := (36, [(0, (vR 10 l0)), (1, (vI l1)), (2, (vI l2)), (3, (vI l3)), (4, (vI l4))], [(vI 1), (vR 10 l0)], R, M, 174)) (cs := [r_1 = 0]) (by rfl) ⟨c_3, trivial⟩ (Nat.le_refl _) ?_
    obtain ⟨r_4, M_5, e_6, h⟩ := xb2_ex h
    refine XR.callV 10 rfl (rest := []) m_M_is k_10_254 10 l0 (Or.inl ⟨by decide, rfl⟩) [(vI 1)] rfl rfl (c_M_is e_6) (by decide) (Nat.le_of_ble_eq_true rfl) (by decide +kernel) (Nat.le_refl _) (Nat.le_refl _) ?_
    show XR false 2 174 sc y_M_hole (39, [(0, (vR 10 l0)), (1, (vI l1)), (2, (vI l2)), (3, (vI l3)), (4, (vI l4))], [(vI r_4)], R, M_5, 174) _
    obtain ⟨c_7, h⟩ := xch_ex h
    obtain rfl := Option.some.inj h
    exact XR.retI .boolean rfl (xnar_z c_7) (by decide +kernel)
  · skip
    refine s_M_hole [(5, .ifCond .eq 29, 0, (-1)), (8, .iload_n 2, 0, 0)] (by decide +kernel) (z' := (9, [(0, (vR 10 l0)), (1, (vI l1)), (2, (vI l2)), (3, (vI l3)), (4, (vI l4))], [(vI l2)], R, M, 174)) (cs := [¬ (r_1 = 0)]) (by rfl) ⟨c_3, trivial⟩ (Nat.le_refl _) ?_
    obtain ⟨r_8, e_9, h⟩ := xb1_ex h
    refine XR.callS 10 rfl (rest := []) m_M_isHour k_10_436 [(vI l2)] rfl rfl (c_M_isHour e_9) (by decide) (Nat.le_of_ble_eq_true rfl) (by decide +kernel) (Nat.le_refl _) (Nat.le_refl _) ?_
    show XR false 2 174 sc y_M_hole (12, [(0, (vR 10 l0)), (1, (vI l1)), (2, (vI l2)), (3, (vI l3)), (4, (vI l4))], [(vI r_8)], R, M, 174) _
    rcases xif_ex h with ⟨c_10, h⟩ | ⟨c_10, h⟩
    · skip
      refine s_M_hole [(12, .ifCond .eq 22, 0, 34), (34, .aload_n 0, 0, 0), (35, .iconst 1, 0, 1)] (by decide +kernel) (z' := (36, [(0, (vR 10 l0)), (1, (vI l1)), (2, (vI l2)), (3, (vI l3)), (4, (vI l4))], [(vI 1), (vR 10 l0)], R, M, 174)) (cs := [r_8 = 0]) (by rfl) ⟨c_10, trivial⟩ (Nat.le_refl _) ?_
      obtain ⟨r_11, M_12, e_13, h⟩ := xb2_ex h
      refine XR.callV 10 rfl (rest := []) m_M_is k_10_254 10 l0 (Or.inl ⟨by decide, rfl⟩) [(vI 1)] rfl rfl (c_M_is e_13) (by decide) (Nat.le_of_ble_eq_true rfl) (by decide +kernel) (Nat.le_refl _) (Nat.le_refl _) ?_
      show XR false 2 174 sc y_M_hole (39, [(0, (vR 10 l0)), (1, (vI l1)), (2, (vI l2)), (3, (vI l3)), (4, (vI l4))], [(vI r_11)], R, M_12, 174) _
      obtain ⟨c_14, h⟩ := xch_ex h
      obtain rfl := Option.some.inj h
      exact XR.retI .boolean rfl (xnar_z c_14) (by decide +kernel)
    · skip
      refine s_M_hole [(12, .ifCond .eq 22, 0, (-1)), (15, .iload_n 3, 0, 0), (16, .iconst 1, 0, 1)] (by decide +kernel) (z' := (17, [(0, (vR 10 l0)), (1, (vI l1)), (2, (vI l2)), (3, (vI l3)), (4, (vI l4))], [(vI 1), (vI l3)], R, M, 174)) (cs := [¬ (r_8 = 0)]) (by rfl) ⟨c_10, trivial⟩ (Nat.le_refl _) ?_
      rcases xif_ex h with ⟨c_15, h⟩ | ⟨c_15, h⟩
      · skip
        refine s_M_hole [(17, .if_icmp .lt 17, 0, 34), (34, .aload_n 0, 0, 0), (35, .iconst 1, 0, 1)] (by decide +kernel) (z' := (36, [(0, (vR 10 l0)), (1, (vI l1)), (2, (vI l2)), (3, (vI l3)), (4, (vI l4))], [(vI 1), (vR 10 l0)], R, M, 174)) (cs := [l3 < 1]) (by rfl) ⟨c_15, trivial⟩ (Nat.le_refl _) ?_
        obtain ⟨r_16, M_17, e_18, h⟩ := xb2_ex h
        refine XR.callV 10 rfl (rest := []) m_M_is k_10_254 10 l0 (Or.inl ⟨by decide, rfl⟩) [(vI 1)] rfl rfl (c_M_is e_18) (by decide) (Nat.le_of_ble_eq_true rfl) (by decide +kernel) (Nat.le_refl _) (Nat.le_refl _) ?_
        show XR false 2 174 sc y_M_hole (39, [(0, (vR 10 l0)), (1, (vI l1)), (2, (vI l2)), (3, (vI l3)), (4, (vI l4))], [(vI r_16)], R, M_17, 174) _
        obtain ⟨c_19, h⟩ := xch_ex h
        obtain rfl := Option.some.inj h
        exact XR.retI .boolean rfl (xnar_z c_19) (by decide +kernel)
      · skip
        refine s_M_hole [(17, .if_icmp .lt 17, 0, (-1)), (20, .iload_n 3, 0, 0), (21, .bipush 100, 0, 100)] (by decide +kernel) (z' := (23, [(0, (vR 10 l0)), (1, (vI l1)), (2, (vI l2)), (3, (vI l3)), (4, (vI l4))], [(vI 100), (vI l3)], R, M, 174)) (cs := [¬ (l3 < 1)]) (by rfl) ⟨c_15, trivial⟩ (Nat.le_refl _) ?_
        rcases xif_ex h with ⟨c_20, h⟩ | ⟨c_20, h⟩
        · skip
          refine s_M_hole [(23, .if_icmp .gt 11, 0, 34), (34, .aload_n 0, 0, 0), (35, .iconst 1, 0, 1)] (by decide +kernel) (z' := (36, [(0, (vR 10 l0)), (1, (vI l1)), (2, (vI l2)), (3, (vI l3)), (4, (vI l4))], [(vI 1), (vR 10 l0)], R, M, 174)) (cs := [100 < l3]) (by rfl) ⟨c_20, trivial⟩ (Nat.le_refl _) ?_
          obtain ⟨r_21, M_22, e_23, h⟩ := xb2_ex h
          refine XR.callV 10 rfl (rest := []) m_M_is k_10_254 10 l0 (Or.inl ⟨by decide, rfl⟩) [(vI 1)] rfl rfl (c_M_is e_23) (by decide) (Nat.le_of_ble_eq_true rfl) (by decide +kernel) (Nat.le_refl _) (Nat.le_refl _) ?_
          show XR false 2 174 sc y_M_hole (39, [(0, (vR 10 l0)), (1, (vI l1)), (2, (vI l2)), (3, (vI l3)), (4, (vI l4))], [(vI r_21)], R, M_22, 174) _
          obtain ⟨c_24, h⟩ := xch_ex h
          obtain rfl := Option.some.inj h
          exact XR.retI .boolean rfl (xnar_z c_24) (by decide +kernel)
        · skip
          refine s_M_hole [(23, .if_icmp .gt 11, 0, (-1)), (26, .iload 4, 0, 0)] (by decide +kernel) (z' := (28, [(0, (vR 10 l0)), (1, (vI l1)), (2, (vI l2)), (3, (vI l3)), (4, (vI l4))], [(vI l4)], R, M, 174)) (cs := [¬ (100 < l3)]) (by rfl) ⟨c_20, trivial⟩ (Nat.le_refl _) ?_
          obtain ⟨r_25, e_26, h⟩ := xb1_ex h
          refine XR.callS 10 rfl (rest := []) m_M_isKnown k_10_442 [(vI l4)] rfl rfl (c_M_isKnown e_26) (by decide) (Nat.le_of_ble_eq_true rfl) (by decide +kernel) (Nat.le_refl _) (Nat.le_refl _) ?_
          show XR false 2 174 sc y_M_hole (31, [(0, (vR 10 l0)), (1, (vI l1)), (2, (vI l2)), (3, (vI l3)), (4, (vI l4))], [(vI r_25)], R, M, 174) _
          rcases xif_ex h with ⟨c_27, h⟩ | ⟨c_27, h⟩
          · skip
            refine s_M_hole [(31, .ifCond .ne 9, 0, (-1)), (34, .aload_n 0, 0, 0), (35, .iconst 1, 0, 1)] (by decide +kernel) (z' := (36, [(0, (vR 10 l0)), (1, (vI l1)), (2, (vI l2)), (3, (vI l3)), (4, (vI l4))], [(vI 1), (vR 10 l0)], R, M, 174)) (cs := [¬ (r_25 ≠ 0)]) (by rfl) ⟨fun q => q c_27, trivial⟩ (Nat.le_refl _) ?_
            obtain ⟨r_28, M_29, e_30, h⟩ := xb2_ex h
            refine XR.callV 10 rfl (rest := []) m_M_is k_10_254 10 l0 (Or.inl ⟨by decide, rfl⟩) [(vI 1)] rfl rfl (c_M_is e_30) (by decide) (Nat.le_of_ble_eq_true rfl) (by decide +kernel) (Nat.le_refl _) (Nat.le_refl _) ?_
            show XR false 2 174 sc y_M_hole (39, [(0, (vR 10 l0)), (1, (vI l1)), (2, (vI l2)), (3, (vI l3)), (4, (vI l4))], [(vI r_28)], R, M_29, 174) _
            obtain ⟨c_31, h⟩ := xch_ex h
            obtain rfl := Option.some.inj h
            exact XR.retI .boolean rfl (xnar_z c_31) (by decide +kernel)
          · skip
            obtain ⟨c_32, h⟩ := xch_ex h
            refine s_M_hole [(31, .ifCond .ne 9, 0, 40), (40, .aload_n 0, 0, 0), (41, .iconst 1, 0, 1), (42, .iload_n 1, 0, 0), (43, .iload_n 2, 0, 0), (44, .iload_n 3, 0, 0), (45, .iload 4, 0, 0), (47, .aload_n 0, 0, 0), (48, .getfield 67, 10, 32), (51, .iload_n 1, 0, 0), (52, .iaload, 0, 0), (53, .iconst 2, 0, 2)] (by decide +kernel) (z' := (54, [(0, (vR 10 l0)), (1, (vI l1)), (2, (vI l2)), (3, (vI l3)), (4, (vI l4))], [(vI 2), (vI (M (R l0 32) (Int.toNat l1))), (vI l4), (vI l3), (vI l2), (vI l1), (vI 1), (vR 10 l0)], R, M, 174)) (cs := [r_25 ≠ 0, xar 30 0, xidx l1 (xan 30)]) (by rfl) ⟨c_27, xar_30, xix_30 c_32, trivial⟩ (Nat.le_refl _) ?_
            rcases xif_ex h with ⟨c_33, h⟩ | ⟨c_33, h⟩
            · skip
              refine s_M_hole [(54, .if_icmp .ne 7, 0, (-1)), (57, .iconst 1, 0, 1), (58, .goto 4, 0, 62)] (by decide +kernel) (z' := (62, [(0, (vR 10 l0)), (1, (vI l1)), (2, (vI l2)), (3, (vI l3)), (4, (vI l4))], [(vI 1), (vI l4), (vI l3), (vI l2), (vI l1), (vI 1), (vR 10 l0)], R, M, 174)) (cs := [¬ (M (R l0 32) (Int.toNat l1) ≠ 2)]) (by rfl) ⟨fun q => q c_33, trivial⟩ (Nat.le_refl _) ?_
              obtain ⟨r_34, M_35, e_36, h⟩ := xb2_ex h
              refine XR.callV 10 rfl (rest := []) m_M_happens k_10_451 10 l0 (Or.inl ⟨by decide, rfl⟩) [(vI 1), (vI l1), (vI l2), (vI l3), (vI l4), (vI 1)] rfl rfl (c_M_happens e_36) (by decide) (Nat.le_of_ble_eq_true rfl) (by decide +kernel) (Nat.le_refl _) (Nat.le_refl _) ?_
              show XR false 2 174 sc y_M_hole (65, [(0, (vR 10 l0)), (1, (vI l1)), (2, (vI l2)), (3, (vI l3)), (4, (vI l4))], [(vI r_34)], R, M_35, 174) _
              obtain ⟨c_37, h⟩ := xch_ex h
              obtain rfl := Option.some.inj h
              exact XR.retI .boolean rfl (xnar_z c_37) (by decide +kernel)
            · skip
              refine s_M_hole [(54, .if_icmp .ne 7, 0, 61), (61, .iconst 0, 0, 0)] (by decide +kernel) (z' := (62, [(0, (vR 10 l0)), (1, (vI l1)), (2, (vI l2)), (3, (vI l3)), (4, (vI l4))], [(vI 0), (vI l4), (vI l3), (vI l2), (vI l1), (vI 1), (vR 10 l0)], R, M, 174)) (cs := [M (R l0 32) (Int.toNat l1) ≠ 2]) (by rfl) ⟨c_33, trivial⟩ (Nat.le_refl _) ?_
              obtain ⟨r_38, M_39, e_40, h⟩ := xb2_ex h
              refine XR.callV 10 rfl (rest := []) m_M_happens k_10_451 10 l0 (Or.inl ⟨by decide, rfl⟩) [(vI 1), (vI l1), (vI l2), (vI l3), (vI l4), (vI 0)] rfl rfl (c_M_happens e_40) (by decide) (Nat.le_of_ble_eq_true rfl) (by decide +kernel) (Nat.le_refl _) (Nat.le_refl _) ?_
              show XR false 2 174 sc y_M_hole (65, [(0, (vR 10 l0)), (1, (vI l1)), (2, (vI l2)), (3, (vI l3)), (4, (vI l4))], [(vI r_38)], R, M_39, 174) _
              obtain ⟨c_41, h⟩ := xch_ex h
              obtain rfl := Option.some.inj h
              exact XR.retI .boolean rfl (xnar_z c_41) (by decide +kernel)
set_option maxRecDepth 100000 in
set_option maxHeartbeats 4000000 in
theorem c_M_hole {sc : List Int} {R : xR} {M : xM} {l0 : Nat} {l1 : Int} {l2 : Int} {l3 : Int} {l4 : Int} {out : Int × xM} (h : f_M_hole R l0 l1 l2 l3 l4 M = some out) : XC false 2 sc y_M_hole [(vR 10 l0), (vI l1), (vI l2), (vI l3), (vI l4)] R M 174 174 ((some (vI out.1)), R, out.2) := XC.of (by decide) (Nat.le_of_ble_eq_true rfl) (Nat.le_refl _) (Nat.le_refl _) (o_M_hole h)
