def M_pour_J143 (R : xR) (l0 : Nat) (l1 : Int) (l2 : Int) (l3 : Int) (l4 : Int) (l5 : Int) (rc : Int → xM → Option (Int × xM)) (v6 : Int) (s0 : Int) (M : xM) : Option (Int × xM) :=
  xch (0 ≤ w32 ((w32 ((w32 (60 * l1)) + l2)) + s0) ∧ w32 ((w32 ((w32 (60 * l1)) + l2)) + s0) < 240) <|
  xch (0 ≤ w32 ((w32 ((w32 (60 * l3)) + l4)) + s0) ∧ w32 ((w32 ((w32 (60 * l3)) + l4)) + s0) < 240) <|
  xl (xu M (R l0 3) (Int.toNat (w32 ((w32 ((w32 (60 * l3)) + l4)) + s0))) (M (R l0 3) (Int.toNat (w32 ((w32 ((w32 (60 * l1)) + l2)) + s0))))) fun M_57 =>
  xl (w32 (v6 + 1)) fun v6_58 =>
  rc v6_58 M_57
def M_pour_F118 (R : xR) (l0 : Nat) (l1 : Int) (l2 : Int) (l3 : Int) (l4 : Int) (l5 : Int) : Nat → Int → xM → Option (Int × xM)
  | 0, _, _ => none
  | n + 1, v6, M =>
    if v6 < l5 then
      if l2 < l4 then
        M_pour_J143 R l0 l1 l2 l3 l4 l5 (M_pour_F118 R l0 l1 l2 l3 l4 l5  n) v6 (w32 ((w32 (l5 - 1)) - v6)) M
      else
        M_pour_J143 R l0 l1 l2 l3 l4 l5 (M_pour_F118 R l0 l1 l2 l3 l4 l5  n) v6 v6 M
    else
      xb2 (f_M_is l0 0 M) fun r_59 M_60 =>
      xch (r_59 = 0 ∨ r_59 = 1) <|
      some (r_59, M_60)
def f_M_pour (R : xR) (l0 : Nat) (l1 : Int) (l2 : Int) (l3 : Int) (l4 : Int) (l5 : Int) (M : xM) : Option (Int × xM) :=
  xb1 (f_M_isTray l1) fun r_1 =>
  if r_1 = 0 then
    xb2 (f_M_is l0 1 M) fun r_4 M_5 =>
    xch (r_4 = 0 ∨ r_4 = 1) <|
    some (r_4, M_5)
  else
    xb1 (f_M_isTray l3) fun r_8 =>
    if r_8 = 0 then
      xb2 (f_M_is l0 1 M) fun r_11 M_12 =>
      xch (r_11 = 0 ∨ r_11 = 1) <|
      some (r_11, M_12)
    else
      if l2 < 0 then
        xb2 (f_M_is l0 1 M) fun r_16 M_17 =>
        xch (r_16 = 0 ∨ r_16 = 1) <|
        some (r_16, M_17)
      else
        if l4 < 0 then
          xb2 (f_M_is l0 1 M) fun r_21 M_22 =>
          xch (r_21 = 0 ∨ r_21 = 1) <|
          some (r_21, M_22)
        else
          if l5 < 0 then
            xb2 (f_M_is l0 1 M) fun r_26 M_27 =>
            xch (r_26 = 0 ∨ r_26 = 1) <|
            some (r_26, M_27)
          else
            xch (0 ≤ l1 ∧ l1 < 4) <|
            if M (R l0 2) (Int.toNat l1) = -1 then
              xb2 (f_M_is l0 2 M) fun r_32 M_33 =>
              xch (r_32 = 0 ∨ r_32 = 1) <|
              some (r_32, M_33)
            else
              xch (0 ≤ l3 ∧ l3 < 4) <|
              if M (R l0 2) (Int.toNat l3) = -1 then
                xb2 (f_M_is l0 2 M) fun r_38 M_39 =>
                xch (r_38 = 0 ∨ r_38 = 1) <|
                some (r_38, M_39)
              else
                if M (R l0 1) (Int.toNat l1) = M (R l0 1) (Int.toNat l3) then
                  if w32 ((M (R l0 2) (Int.toNat l1)) - l2) < l5 then
                    xb2 (f_M_is l0 3 M) fun r_44 M_45 =>
                    xch (r_44 = 0 ∨ r_44 = 1) <|
                    some (r_44, M_45)
                  else
                    if w32 ((M (R l0 2) (Int.toNat l3)) - l4) < l5 then
                      xb2 (f_M_is l0 3 M) fun r_49 M_50 =>
                      xch (r_49 = 0 ∨ r_49 = 1) <|
                      some (r_49, M_50)
                    else
                      M_pour_F118 R l0 l1 l2 l3 l4 l5
                        xfu 0 M
                else
                  xb2 (f_M_is l0 8 M) fun r_63 M_64 =>
                  xch (r_63 = 0 ∨ r_63 = 1) <|
                  some (r_63, M_64)
set_option maxRecDepth 100000 in
set_option maxHeartbeats 4000000 in
theorem s_M_pour {d : Nat} {sc : List Int} {z z' : xS} {out : xO} (qs : List xI) {cs : List Prop} (hq : qs.all (xqb 10 false y_M_pour.2.2.1 y_M_pour.2.1) = true) (h : xN false sc qs z = some (z', cs)) (hc : xAll cs) (hE : z'.2.2.2.2.2 ≤ 174) (k : XR false d 174 sc y_M_pour z' out) : XR false d 174 sc y_M_pour z out := XR.seg 10 false rfl (fun q => by cases q) qs hq h hc hE k
set_option maxRecDepth 100000 in
set_option maxHeartbeats 4000000 in
theorem o_M_pour_J143 {sc : List Int} {R : xR}   {l0 : Nat} {l1 : Int} {l2 : Int} {l3 : Int} {l4 : Int} {l5 : Int}  {rc : Int → xM → Option (Int × xM)} (hrc : ∀ (w6 : Int) (M : xM) (out : Int × xM), rc w6 M = some out → XR false 1 174 sc y_M_pour (118, [(0, (vR 10 l0)), (1, (vI l1)), (2, (vI l2)), (3, (vI l3)), (4, (vI l4)), (5, (vI l5)), (6, (vI w6))], [], R, M, 174) ((some (vI out.1)), R, out.2)) {v6 : Int} {s0 : Int} {M : xM} {out : Int × xM} (h : M_pour_J143 R l0 l1 l2 l3 l4 l5 rc v6 s0 M = some out) : XR false 1 174 sc y_M_pour (143, [(0, (vR 10 l0)), (1, (vI l1)), (2, (vI l2)), (3, (vI l3)), (4, (vI l4)), (5, (vI l5)), (6, (vI v6))], [(vI s0)], R, M, 174) ((some (vI out.1)), R, out.2) := by
  unfold M_pour_J143 at h
  obtain ⟨c_55, h⟩ := xch_ex h
  obtain ⟨c_56, h⟩ := xch_ex h
  obtain ⟨M_57, hM_57, h⟩ := xl_ex h
  obtain ⟨v6_58, hv6_58, h⟩ := xl_ex h
  refine s_M_pour [(143, .istore 7, 0, 0), (145, .aload_n 0, 0, 0), (146, .getfield 16, 10, 3), (149, .bipush 60, 0, 60), (151, .iload_n 3, 0, 0), (152, .imul, 0, 0), (153, .iload 4, 0, 0), (155, .iadd, 0, 0), (156, .iload 7, 0, 0), (158, .iadd, 0, 0), (159, .aload_n 0, 0, 0), (160, .getfield 16, 10, 3), (163, .bipush 60, 0, 60), (165, .iload_n 1, 0, 0), (166, .imul, 0, 0), (167, .iload_n 2, 0, 0), (168, .iadd, 0, 0), (169, .iload 7, 0, 0), (171, .iadd, 0, 0), (172, .laload, 0, 0), (173, .lastore, 0, 0), (174, .iinc 6 1, 0, 0), (177, .goto (-59), 0, 118)] (by decide +kernel) (z' := (118, [(6, (vI v6_58)), (7, (vI s0)), (0, (vR 10 l0)), (1, (vI l1)), (2, (vI l2)), (3, (vI l3)), (4, (vI l4)), (5, (vI l5))], [], R, M_57, 174)) (cs := [xar 40 1, xidx (w32 ((w32 ((w32 (60 * l1)) + l2)) + s0)) (xan 40), xar 40 1, xidx (w32 ((w32 ((w32 (60 * l3)) + l4)) + s0)) (xan 40)]) (by subst hM_57; subst hv6_58; rfl) ⟨xar_40, xix_40 c_55, xar_40, xix_40 c_56, trivial⟩ (Nat.le_refl _) ?_
  refine XR.pick [2, 3, 4, 5, 6, 7, 0] (ls' := [(0, (vR 10 l0)), (1, (vI l1)), (2, (vI l2)), (3, (vI l3)), (4, (vI l4)), (5, (vI l5)), (6, (vI v6_58))]) rfl ?_
  exact hrc v6_58 M_57 _ h
set_option maxRecDepth 100000 in
set_option maxHeartbeats 4000000 in
theorem o_M_pour_F118 {sc : List Int} {R : xR}   {l0 : Nat} {l1 : Int} {l2 : Int} {l3 : Int} {l4 : Int} {l5 : Int}  : ∀ (n : Nat) (v6 : Int) (M : xM) (out : Int × xM), M_pour_F118 R l0 l1 l2 l3 l4 l5  n v6 M = some out → XR false 1 174 sc y_M_pour (118, [(0, (vR 10 l0)), (1, (vI l1)), (2, (vI l2)), (3, (vI l3)), (4, (vI l4)), (5, (vI l5)), (6, (vI v6))], [], R, M, 174) ((some (vI out.1)), R, out.2) := by
  intro n
  induction n with
  | zero => intro v6 M out h; exact (xno h).elim
  | succ n ih =>
    intro v6 M out h
    rw [M_pour_F118] at h
    refine s_M_pour [(118, .iload 6, 0, 0), (120, .iload 5, 0, 0)] (by decide +kernel) (z' := (122, [(0, (vR 10 l0)), (1, (vI l1)), (2, (vI l2)), (3, (vI l3)), (4, (vI l4)), (5, (vI l5)), (6, (vI v6))], [(vI l5), (vI v6)], R, M, 174)) (cs := []) (by rfl) trivial (Nat.le_refl _) ?_
    rcases xif_ex h with ⟨c_53, h⟩ | ⟨c_53, h⟩
    · skip
      refine s_M_pour [(122, .if_icmp .ge 58, 0, (-1)), (125, .iload_n 2, 0, 0), (126, .iload 4, 0, 0)] (by decide +kernel) (z' := (128, [(0, (vR 10 l0)), (1, (vI l1)), (2, (vI l2)), (3, (vI l3)), (4, (vI l4)), (5, (vI l5)), (6, (vI v6))], [(vI l4), (vI l2)], R, M, 174)) (cs := [¬ (l5 ≤ v6)]) (by rfl) ⟨Int.not_le.mpr c_53, trivial⟩ (Nat.le_refl _) ?_
      rcases xif_ex h with ⟨c_54, h⟩ | ⟨c_54, h⟩
      · skip
        refine s_M_pour [(128, .if_icmp .ge 13, 0, (-1)), (131, .iload 5, 0, 0), (133, .iconst 1, 0, 1), (134, .isub, 0, 0), (135, .iload 6, 0, 0), (137, .isub, 0, 0), (138, .goto 5, 0, 143)] (by decide +kernel) (z' := (143, [(0, (vR 10 l0)), (1, (vI l1)), (2, (vI l2)), (3, (vI l3)), (4, (vI l4)), (5, (vI l5)), (6, (vI v6))], [(vI (w32 ((w32 (l5 - 1)) - v6)))], R, M, 174)) (cs := [¬ (l4 ≤ l2)]) (by rfl) ⟨Int.not_le.mpr c_54, trivial⟩ (Nat.le_refl _) ?_
        exact o_M_pour_J143 ih h
      · skip
        refine s_M_pour [(128, .if_icmp .ge 13, 0, 141), (141, .iload 6, 0, 0)] (by decide +kernel) (z' := (143, [(0, (vR 10 l0)), (1, (vI l1)), (2, (vI l2)), (3, (vI l3)), (4, (vI l4)), (5, (vI l5)), (6, (vI v6))], [(vI v6)], R, M, 174)) (cs := [l4 ≤ l2]) (by rfl) ⟨Int.not_lt.mp c_54, trivial⟩ (Nat.le_refl _) ?_
        exact o_M_pour_J143 ih h
    · skip
      refine s_M_pour [(122, .if_icmp .ge 58, 0, 180), (180, .aload_n 0, 0, 0), (181, .iconst 0, 0, 0)] (by decide +kernel) (z' := (182, [(0, (vR 10 l0)), (1, (vI l1)), (2, (vI l2)), (3, (vI l3)), (4, (vI l4)), (5, (vI l5)), (6, (vI v6))], [(vI 0), (vR 10 l0)], R, M, 174)) (cs := [l5 ≤ v6]) (by rfl) ⟨Int.not_lt.mp c_53, trivial⟩ (Nat.le_refl _) ?_
      obtain ⟨r_59, M_60, e_61, h⟩ := xb2_ex h
      refine XR.callV 10 rfl (rest := []) m_M_is k_10_254 10 l0 (Or.inl ⟨by decide, rfl⟩) [(vI 0)] rfl rfl (c_M_is e_61) (by decide) (Nat.le_of_ble_eq_true rfl) (by decide +kernel) (Nat.le_refl _) (Nat.le_refl _) ?_
      show XR false 1 174 sc y_M_pour (185, [(0, (vR 10 l0)), (1, (vI l1)), (2, (vI l2)), (3, (vI l3)), (4, (vI l4)), (5, (vI l5)), (6, (vI v6))], [(vI r_59)], R, M_60, 174) _
      obtain ⟨c_62, h⟩ := xch_ex h
      obtain rfl := Option.some.inj h
      exact XR.retI .boolean rfl (xnar_z c_62) (by decide +kernel)
set_option maxRecDepth 100000 in
set_option maxHeartbeats 4000000 in
theorem o_M_pour {sc : List Int} {R : xR} {M : xM} {l0 : Nat} {l1 : Int} {l2 : Int} {l3 : Int} {l4 : Int} {l5 : Int} {out : Int × xM} (h : f_M_pour R l0 l1 l2 l3 l4 l5 M = some out) : XR false 1 174 sc y_M_pour (0, [(0, (vR 10 l0)), (1, (vI l1)), (2, (vI l2)), (3, (vI l3)), (4, (vI l4)), (5, (vI l5))], [], R, M, 174) ((some (vI out.1)), R, out.2) := by
  unfold f_M_pour at h
  refine s_M_pour [(0, .iload_n 1, 0, 0)] (by decide +kernel) (z' := (1, [(0, (vR 10 l0)), (1, (vI l1)), (2, (vI l2)), (3, (vI l3)), (4, (vI l4)), (5, (vI l5))], [(vI l1)], R, M, 174)) (cs := []) (by rfl) trivial (Nat.le_refl _) ?_
  obtain ⟨r_1, e_2, h⟩ := xb1_ex h
  refine XR.callS 10 rfl (rest := []) m_M_isTray k_10_250 [(vI l1)] rfl rfl (c_M_isTray e_2) (by decide) (Nat.le_of_ble_eq_true rfl) (by decide +kernel) (Nat.le_refl _) (Nat.le_refl _) ?_
  show XR false 1 174 sc y_M_pour (4, [(0, (vR 10 l0)), (1, (vI l1)), (2, (vI l2)), (3, (vI l3)), (4, (vI l4)), (5, (vI l5))], [(vI r_1)], R, M, 174) _
  rcases xif_ex h with ⟨c_3, h⟩ | ⟨c_3, h⟩
  · skip
    refine s_M_pour [(4, .ifCond .eq 24, 0, 28), (28, .aload_n 0, 0, 0), (29, .iconst 1, 0, 1)] (by decide +kernel) (z' := (30, [(0, (vR 10 l0)), (1, (vI l1)), (2, (vI l2)), (3, (vI l3)), (4, (vI l4)), (5, (vI l5))], [(vI 1), (vR 10 l0)], R, M, 174)) (cs := [r_1 = 0]) (by rfl) ⟨c_3, trivial⟩ (Nat.le_refl _) ?_
    obtain ⟨r_4, M_5, e_6, h⟩ := xb2_ex h
    refine XR.callV 10 rfl (rest := []) m_M_is k_10_254 10 l0 (Or.inl ⟨by decide, rfl⟩) [(vI 1)] rfl rfl (c_M_is e_6) (by decide) (Nat.le_of_ble_eq_true rfl) (by decide +kernel) (Nat.le_refl _) (Nat.le_refl _) ?_
    show XR false 1 174 sc y_M_pour (33, [(0, (vR 10 l0)), (1, (vI l1)), (2, (vI l2)), (3, (vI l3)), (4, (vI l4)), (5, (vI l5))], [(vI r_4)], R, M_5, 174) _
    obtain ⟨c_7, h⟩ := xch_ex h
    obtain rfl := Option.some.inj h
    exact XR.retI .boolean rfl (xnar_z c_7) (by decide +kernel)
  · skip
    refine s_M_pour [(4, .ifCond .eq 24, 0, (-1)), (7, .iload_n 3, 0, 0)] (by decide +kernel) (z' := (8, [(0, (vR 10 l0)), (1, (vI l1)), (2, (vI l2)), (3, (vI l3)), (4, (vI l4)), (5, (vI l5))], [(vI l3)], R, M, 174)) (cs := [¬ (r_1 = 0)]) (by rfl) ⟨c_3, trivial⟩ (Nat.le_refl _) ?_
    obtain ⟨r_8, e_9, h⟩ := xb1_ex h
    refine XR.callS 10 rfl (rest := []) m_M_isTray k_10_250 [(vI l3)] rfl rfl (c_M_isTray e_9) (by decide) (Nat.le_of_ble_eq_true rfl) (by decide +kernel) (Nat.le_refl _) (Nat.le_refl _) ?_
    show XR false 1 174 sc y_M_pour (11, [(0, (vR 10 l0)), (1, (vI l1)), (2, (vI l2)), (3, (vI l3)), (4, (vI l4)), (5, (vI l5))], [(vI r_8)], R, M, 174) _
    rcases xif_ex h with ⟨c_10, h⟩ | ⟨c_10, h⟩
    · skip
      refine s_M_pour [(11, .ifCond .eq 17, 0, 28), (28, .aload_n 0, 0, 0), (29, .iconst 1, 0, 1)] (by decide +kernel) (z' := (30, [(0, (vR 10 l0)), (1, (vI l1)), (2, (vI l2)), (3, (vI l3)), (4, (vI l4)), (5, (vI l5))], [(vI 1), (vR 10 l0)], R, M, 174)) (cs := [r_8 = 0]) (by rfl) ⟨c_10, trivial⟩ (Nat.le_refl _) ?_
      obtain ⟨r_11, M_12, e_13, h⟩ := xb2_ex h
      refine XR.callV 10 rfl (rest := []) m_M_is k_10_254 10 l0 (Or.inl ⟨by decide, rfl⟩) [(vI 1)] rfl rfl (c_M_is e_13) (by decide) (Nat.le_of_ble_eq_true rfl) (by decide +kernel) (Nat.le_refl _) (Nat.le_refl _) ?_
      show XR false 1 174 sc y_M_pour (33, [(0, (vR 10 l0)), (1, (vI l1)), (2, (vI l2)), (3, (vI l3)), (4, (vI l4)), (5, (vI l5))], [(vI r_11)], R, M_12, 174) _
      obtain ⟨c_14, h⟩ := xch_ex h
      obtain rfl := Option.some.inj h
      exact XR.retI .boolean rfl (xnar_z c_14) (by decide +kernel)
    · skip
      refine s_M_pour [(11, .ifCond .eq 17, 0, (-1)), (14, .iload_n 2, 0, 0)] (by decide +kernel) (z' := (15, [(0, (vR 10 l0)), (1, (vI l1)), (2, (vI l2)), (3, (vI l3)), (4, (vI l4)), (5, (vI l5))], [(vI l2)], R, M, 174)) (cs := [¬ (r_8 = 0)]) (by rfl) ⟨c_10, trivial⟩ (Nat.le_refl _) ?_
      rcases xif_ex h with ⟨c_15, h⟩ | ⟨c_15, h⟩
      · skip
        refine s_M_pour [(15, .ifCond .lt 13, 0, 28), (28, .aload_n 0, 0, 0), (29, .iconst 1, 0, 1)] (by decide +kernel) (z' := (30, [(0, (vR 10 l0)), (1, (vI l1)), (2, (vI l2)), (3, (vI l3)), (4, (vI l4)), (5, (vI l5))], [(vI 1), (vR 10 l0)], R, M, 174)) (cs := [l2 < 0]) (by rfl) ⟨c_15, trivial⟩ (Nat.le_refl _) ?_
        obtain ⟨r_16, M_17, e_18, h⟩ := xb2_ex h
        refine XR.callV 10 rfl (rest := []) m_M_is k_10_254 10 l0 (Or.inl ⟨by decide, rfl⟩) [(vI 1)] rfl rfl (c_M_is e_18) (by decide) (Nat.le_of_ble_eq_true rfl) (by decide +kernel) (Nat.le_refl _) (Nat.le_refl _) ?_
        show XR false 1 174 sc y_M_pour (33, [(0, (vR 10 l0)), (1, (vI l1)), (2, (vI l2)), (3, (vI l3)), (4, (vI l4)), (5, (vI l5))], [(vI r_16)], R, M_17, 174) _
        obtain ⟨c_19, h⟩ := xch_ex h
        obtain rfl := Option.some.inj h
        exact XR.retI .boolean rfl (xnar_z c_19) (by decide +kernel)
      · skip
        refine s_M_pour [(15, .ifCond .lt 13, 0, (-1)), (18, .iload 4, 0, 0)] (by decide +kernel) (z' := (20, [(0, (vR 10 l0)), (1, (vI l1)), (2, (vI l2)), (3, (vI l3)), (4, (vI l4)), (5, (vI l5))], [(vI l4)], R, M, 174)) (cs := [¬ (l2 < 0)]) (by rfl) ⟨c_15, trivial⟩ (Nat.le_refl _) ?_
        rcases xif_ex h with ⟨c_20, h⟩ | ⟨c_20, h⟩
        · skip
          refine s_M_pour [(20, .ifCond .lt 8, 0, 28), (28, .aload_n 0, 0, 0), (29, .iconst 1, 0, 1)] (by decide +kernel) (z' := (30, [(0, (vR 10 l0)), (1, (vI l1)), (2, (vI l2)), (3, (vI l3)), (4, (vI l4)), (5, (vI l5))], [(vI 1), (vR 10 l0)], R, M, 174)) (cs := [l4 < 0]) (by rfl) ⟨c_20, trivial⟩ (Nat.le_refl _) ?_
          obtain ⟨r_21, M_22, e_23, h⟩ := xb2_ex h
          refine XR.callV 10 rfl (rest := []) m_M_is k_10_254 10 l0 (Or.inl ⟨by decide, rfl⟩) [(vI 1)] rfl rfl (c_M_is e_23) (by decide) (Nat.le_of_ble_eq_true rfl) (by decide +kernel) (Nat.le_refl _) (Nat.le_refl _) ?_
          show XR false 1 174 sc y_M_pour (33, [(0, (vR 10 l0)), (1, (vI l1)), (2, (vI l2)), (3, (vI l3)), (4, (vI l4)), (5, (vI l5))], [(vI r_21)], R, M_22, 174) _
          obtain ⟨c_24, h⟩ := xch_ex h
          obtain rfl := Option.some.inj h
          exact XR.retI .boolean rfl (xnar_z c_24) (by decide +kernel)
        · skip
          refine s_M_pour [(20, .ifCond .lt 8, 0, (-1)), (23, .iload 5, 0, 0)] (by decide +kernel) (z' := (25, [(0, (vR 10 l0)), (1, (vI l1)), (2, (vI l2)), (3, (vI l3)), (4, (vI l4)), (5, (vI l5))], [(vI l5)], R, M, 174)) (cs := [¬ (l4 < 0)]) (by rfl) ⟨c_20, trivial⟩ (Nat.le_refl _) ?_
          rcases xif_ex h with ⟨c_25, h⟩ | ⟨c_25, h⟩
          · skip
            refine s_M_pour [(25, .ifCond .ge 9, 0, (-1)), (28, .aload_n 0, 0, 0), (29, .iconst 1, 0, 1)] (by decide +kernel) (z' := (30, [(0, (vR 10 l0)), (1, (vI l1)), (2, (vI l2)), (3, (vI l3)), (4, (vI l4)), (5, (vI l5))], [(vI 1), (vR 10 l0)], R, M, 174)) (cs := [¬ (0 ≤ l5)]) (by rfl) ⟨Int.not_le.mpr c_25, trivial⟩ (Nat.le_refl _) ?_
            obtain ⟨r_26, M_27, e_28, h⟩ := xb2_ex h
            refine XR.callV 10 rfl (rest := []) m_M_is k_10_254 10 l0 (Or.inl ⟨by decide, rfl⟩) [(vI 1)] rfl rfl (c_M_is e_28) (by decide) (Nat.le_of_ble_eq_true rfl) (by decide +kernel) (Nat.le_refl _) (Nat.le_refl _) ?_
            show XR false 1 174 sc y_M_pour (33, [(0, (vR 10 l0)), (1, (vI l1)), (2, (vI l2)), (3, (vI l3)), (4, (vI l4)), (5, (vI l5))], [(vI r_26)], R, M_27, 174) _
            obtain ⟨c_29, h⟩ := xch_ex h
            obtain rfl := Option.some.inj h
            exact XR.retI .boolean rfl (xnar_z c_29) (by decide +kernel)
          · skip
            obtain ⟨c_30, h⟩ := xch_ex h
            refine s_M_pour [(25, .ifCond .ge 9, 0, 34), (34, .aload_n 0, 0, 0), (35, .getfield 13, 10, 2), (38, .iload_n 1, 0, 0), (39, .iaload, 0, 0), (40, .iconst (-1), 0, (-1))] (by decide +kernel) (z' := (41, [(0, (vR 10 l0)), (1, (vI l1)), (2, (vI l2)), (3, (vI l3)), (4, (vI l4)), (5, (vI l5))], [(vI (-1)), (vI (M (R l0 2) (Int.toNat l1)))], R, M, 174)) (cs := [0 ≤ l5, xar 34 0, xidx l1 (xan 34)]) (by rfl) ⟨Int.not_lt.mp c_25, xar_34, xix_34 c_30, trivial⟩ (Nat.le_refl _) ?_
            rcases xif_ex h with ⟨c_31, h⟩ | ⟨c_31, h⟩
            · skip
              refine s_M_pour [(41, .if_icmp .eq 13, 0, 54), (54, .aload_n 0, 0, 0), (55, .iconst 2, 0, 2)] (by decide +kernel) (z' := (56, [(0, (vR 10 l0)), (1, (vI l1)), (2, (vI l2)), (3, (vI l3)), (4, (vI l4)), (5, (vI l5))], [(vI 2), (vR 10 l0)], R, M, 174)) (cs := [M (R l0 2) (Int.toNat l1) = -1]) (by rfl) ⟨c_31, trivial⟩ (Nat.le_refl _) ?_
              obtain ⟨r_32, M_33, e_34, h⟩ := xb2_ex h
              refine XR.callV 10 rfl (rest := []) m_M_is k_10_254 10 l0 (Or.inl ⟨by decide, rfl⟩) [(vI 2)] rfl rfl (c_M_is e_34) (by decide) (Nat.le_of_ble_eq_true rfl) (by decide +kernel) (Nat.le_refl _) (Nat.le_refl _) ?_
              show XR false 1 174 sc y_M_pour (59, [(0, (vR 10 l0)), (1, (vI l1)), (2, (vI l2)), (3, (vI l3)), (4, (vI l4)), (5, (vI l5))], [(vI r_32)], R, M_33, 174) _
              obtain ⟨c_35, h⟩ := xch_ex h
              obtain rfl := Option.some.inj h
              exact XR.retI .boolean rfl (xnar_z c_35) (by decide +kernel)
            · skip
              obtain ⟨c_36, h⟩ := xch_ex h
              refine s_M_pour [(41, .if_icmp .eq 13, 0, (-1)), (44, .aload_n 0, 0, 0), (45, .getfield 13, 10, 2), (48, .iload_n 3, 0, 0), (49, .iaload, 0, 0), (50, .iconst (-1), 0, (-1))] (by decide +kernel) (z' := (51, [(0, (vR 10 l0)), (1, (vI l1)), (2, (vI l2)), (3, (vI l3)), (4, (vI l4)), (5, (vI l5))], [(vI (-1)), (vI (M (R l0 2) (Int.toNat l3)))], R, M, 174)) (cs := [¬ (M (R l0 2) (Int.toNat l1) = -1), xar 34 0, xidx l3 (xan 34)]) (by rfl) ⟨c_31, xar_34, xix_34 c_36, trivial⟩ (Nat.le_refl _) ?_
              rcases xif_ex h with ⟨c_37, h⟩ | ⟨c_37, h⟩
              · skip
                refine s_M_pour [(51, .if_icmp .ne 9, 0, (-1)), (54, .aload_n 0, 0, 0), (55, .iconst 2, 0, 2)] (by decide +kernel) (z' := (56, [(0, (vR 10 l0)), (1, (vI l1)), (2, (vI l2)), (3, (vI l3)), (4, (vI l4)), (5, (vI l5))], [(vI 2), (vR 10 l0)], R, M, 174)) (cs := [¬ (M (R l0 2) (Int.toNat l3) ≠ -1)]) (by rfl) ⟨fun q => q c_37, trivial⟩ (Nat.le_refl _) ?_
                obtain ⟨r_38, M_39, e_40, h⟩ := xb2_ex h
                refine XR.callV 10 rfl (rest := []) m_M_is k_10_254 10 l0 (Or.inl ⟨by decide, rfl⟩) [(vI 2)] rfl rfl (c_M_is e_40) (by decide) (Nat.le_of_ble_eq_true rfl) (by decide +kernel) (Nat.le_refl _) (Nat.le_refl _) ?_
                show XR false 1 174 sc y_M_pour (59, [(0, (vR 10 l0)), (1, (vI l1)), (2, (vI l2)), (3, (vI l3)), (4, (vI l4)), (5, (vI l5))], [(vI r_38)], R, M_39, 174) _
                obtain ⟨c_41, h⟩ := xch_ex h
                obtain rfl := Option.some.inj h
                exact XR.retI .boolean rfl (xnar_z c_41) (by decide +kernel)
              · skip
                refine s_M_pour [(51, .if_icmp .ne 9, 0, 60), (60, .aload_n 0, 0, 0), (61, .getfield 7, 10, 1), (64, .iload_n 1, 0, 0), (65, .iaload, 0, 0), (66, .aload_n 0, 0, 0), (67, .getfield 7, 10, 1), (70, .iload_n 3, 0, 0), (71, .iaload, 0, 0)] (by decide +kernel) (z' := (72, [(0, (vR 10 l0)), (1, (vI l1)), (2, (vI l2)), (3, (vI l3)), (4, (vI l4)), (5, (vI l5))], [(vI (M (R l0 1) (Int.toNat l3))), (vI (M (R l0 1) (Int.toNat l1)))], R, M, 174)) (cs := [M (R l0 2) (Int.toNat l3) ≠ -1, xar 34 0, xidx l1 (xan 34), xar 34 0, xidx l3 (xan 34)]) (by rfl) ⟨c_37, xar_34, xix_34 c_30, xar_34, xix_34 c_36, trivial⟩ (Nat.le_refl _) ?_
                rcases xif_ex h with ⟨c_42, h⟩ | ⟨c_42, h⟩
                · skip
                  refine s_M_pour [(72, .if_icmp .eq 10, 0, 82), (82, .iload 5, 0, 0), (84, .aload_n 0, 0, 0), (85, .getfield 13, 10, 2), (88, .iload_n 1, 0, 0), (89, .iaload, 0, 0), (90, .iload_n 2, 0, 0), (91, .isub, 0, 0)] (by decide +kernel) (z' := (92, [(0, (vR 10 l0)), (1, (vI l1)), (2, (vI l2)), (3, (vI l3)), (4, (vI l4)), (5, (vI l5))], [(vI (w32 ((M (R l0 2) (Int.toNat l1)) - l2))), (vI l5)], R, M, 174)) (cs := [M (R l0 1) (Int.toNat l1) = M (R l0 1) (Int.toNat l3), xar 34 0, xidx l1 (xan 34)]) (by rfl) ⟨c_42, xar_34, xix_34 c_30, trivial⟩ (Nat.le_refl _) ?_
                  rcases xif_ex h with ⟨c_43, h⟩ | ⟨c_43, h⟩
                  · skip
                    refine s_M_pour [(92, .if_icmp .gt 17, 0, 109), (109, .aload_n 0, 0, 0), (110, .iconst 3, 0, 3)] (by decide +kernel) (z' := (111, [(0, (vR 10 l0)), (1, (vI l1)), (2, (vI l2)), (3, (vI l3)), (4, (vI l4)), (5, (vI l5))], [(vI 3), (vR 10 l0)], R, M, 174)) (cs := [w32 ((M (R l0 2) (Int.toNat l1)) - l2) < l5]) (by rfl) ⟨c_43, trivial⟩ (Nat.le_refl _) ?_
                    obtain ⟨r_44, M_45, e_46, h⟩ := xb2_ex h
                    refine XR.callV 10 rfl (rest := []) m_M_is k_10_254 10 l0 (Or.inl ⟨by decide, rfl⟩) [(vI 3)] rfl rfl (c_M_is e_46) (by decide) (Nat.le_of_ble_eq_true rfl) (by decide +kernel) (Nat.le_refl _) (Nat.le_refl _) ?_
                    show XR false 1 174 sc y_M_pour (114, [(0, (vR 10 l0)), (1, (vI l1)), (2, (vI l2)), (3, (vI l3)), (4, (vI l4)), (5, (vI l5))], [(vI r_44)], R, M_45, 174) _
                    obtain ⟨c_47, h⟩ := xch_ex h
                    obtain rfl := Option.some.inj h
                    exact XR.retI .boolean rfl (xnar_z c_47) (by decide +kernel)
                  · skip
                    refine s_M_pour [(92, .if_icmp .gt 17, 0, (-1)), (95, .iload 5, 0, 0), (97, .aload_n 0, 0, 0), (98, .getfield 13, 10, 2), (101, .iload_n 3, 0, 0), (102, .iaload, 0, 0), (103, .iload 4, 0, 0), (105, .isub, 0, 0)] (by decide +kernel) (z' := (106, [(0, (vR 10 l0)), (1, (vI l1)), (2, (vI l2)), (3, (vI l3)), (4, (vI l4)), (5, (vI l5))], [(vI (w32 ((M (R l0 2) (Int.toNat l3)) - l4))), (vI l5)], R, M, 174)) (cs := [¬ (w32 ((M (R l0 2) (Int.toNat l1)) - l2) < l5), xar 34 0, xidx l3 (xan 34)]) (by rfl) ⟨c_43, xar_34, xix_34 c_36, trivial⟩ (Nat.le_refl _) ?_
                    rcases xif_ex h with ⟨c_48, h⟩ | ⟨c_48, h⟩
                    · skip
                      refine s_M_pour [(106, .if_icmp .le 9, 0, (-1)), (109, .aload_n 0, 0, 0), (110, .iconst 3, 0, 3)] (by decide +kernel) (z' := (111, [(0, (vR 10 l0)), (1, (vI l1)), (2, (vI l2)), (3, (vI l3)), (4, (vI l4)), (5, (vI l5))], [(vI 3), (vR 10 l0)], R, M, 174)) (cs := [¬ (l5 ≤ w32 ((M (R l0 2) (Int.toNat l3)) - l4))]) (by rfl) ⟨Int.not_le.mpr c_48, trivial⟩ (Nat.le_refl _) ?_
                      obtain ⟨r_49, M_50, e_51, h⟩ := xb2_ex h
                      refine XR.callV 10 rfl (rest := []) m_M_is k_10_254 10 l0 (Or.inl ⟨by decide, rfl⟩) [(vI 3)] rfl rfl (c_M_is e_51) (by decide) (Nat.le_of_ble_eq_true rfl) (by decide +kernel) (Nat.le_refl _) (Nat.le_refl _) ?_
                      show XR false 1 174 sc y_M_pour (114, [(0, (vR 10 l0)), (1, (vI l1)), (2, (vI l2)), (3, (vI l3)), (4, (vI l4)), (5, (vI l5))], [(vI r_49)], R, M_50, 174) _
                      obtain ⟨c_52, h⟩ := xch_ex h
                      obtain rfl := Option.some.inj h
                      exact XR.retI .boolean rfl (xnar_z c_52) (by decide +kernel)
                    · skip
                      refine s_M_pour [(106, .if_icmp .le 9, 0, 115), (115, .iconst 0, 0, 0), (116, .istore 6, 0, 0)] (by decide +kernel) (z' := (118, [(6, (vI 0)), (0, (vR 10 l0)), (1, (vI l1)), (2, (vI l2)), (3, (vI l3)), (4, (vI l4)), (5, (vI l5))], [], R, M, 174)) (cs := [l5 ≤ w32 ((M (R l0 2) (Int.toNat l3)) - l4)]) (by rfl) ⟨Int.not_lt.mp c_48, trivial⟩ (Nat.le_refl _) ?_
                      refine XR.pick [1, 2, 3, 4, 5, 6, 0] (ls' := [(0, (vR 10 l0)), (1, (vI l1)), (2, (vI l2)), (3, (vI l3)), (4, (vI l4)), (5, (vI l5)), (6, (vI 0))]) rfl ?_
                      refine o_M_pour_F118  xfu 0 M _ h
                · skip
                  refine s_M_pour [(72, .if_icmp .eq 10, 0, (-1)), (75, .aload_n 0, 0, 0), (76, .bipush 8, 0, 8)] (by decide +kernel) (z' := (78, [(0, (vR 10 l0)), (1, (vI l1)), (2, (vI l2)), (3, (vI l3)), (4, (vI l4)), (5, (vI l5))], [(vI 8), (vR 10 l0)], R, M, 174)) (cs := [¬ (M (R l0 1) (Int.toNat l1) = M (R l0 1) (Int.toNat l3))]) (by rfl) ⟨c_42, trivial⟩ (Nat.le_refl _) ?_
                  obtain ⟨r_63, M_64, e_65, h⟩ := xb2_ex h
                  refine XR.callV 10 rfl (rest := []) m_M_is k_10_254 10 l0 (Or.inl ⟨by decide, rfl⟩) [(vI 8)] rfl rfl (c_M_is e_65) (by decide) (Nat.le_of_ble_eq_true rfl) (by decide +kernel) (Nat.le_refl _) (Nat.le_refl _) ?_
                  show XR false 1 174 sc y_M_pour (81, [(0, (vR 10 l0)), (1, (vI l1)), (2, (vI l2)), (3, (vI l3)), (4, (vI l4)), (5, (vI l5))], [(vI r_63)], R, M_64, 174) _
                  obtain ⟨c_66, h⟩ := xch_ex h
                  obtain rfl := Option.some.inj h
                  exact XR.retI .boolean rfl (xnar_z c_66) (by decide +kernel)
set_option maxRecDepth 100000 in
set_option maxHeartbeats 4000000 in
theorem c_M_pour {sc : List Int} {R : xR} {M : xM} {l0 : Nat} {l1 : Int} {l2 : Int} {l3 : Int} {l4 : Int} {l5 : Int} {out : Int × xM} (h : f_M_pour R l0 l1 l2 l3 l4 l5 M = some out) : XC false 1 sc y_M_pour [(vR 10 l0), (vI l1), (vI l2), (vI l3), (vI l4), (vI l5)] R M 174 174 ((some (vI out.1)), R, out.2) := XC.of (by decide) (Nat.le_of_ble_eq_true rfl) (Nat.le_refl _) (Nat.le_refl _) (o_M_pour h)
def f_M_wrongPlace (R : xR) (l0 : Nat) (l1 : Int) (l2 : Int) (M : xM) : Option Int :=
  xb1 (f_M_isTray l1) fun r_1 =>
  if r_1 = 0 then
    some (1)
  else
    xch (0 ≤ l1 ∧ l1 < 4) <|
    if M (R l0 2) (Int.toNat l1) = -1 then
      some (2)
    else
      if l2 < 0 then
        some (3)
      else
        if l2 < M (R l0 2) (Int.toNat l1) then
          some (0)
        else
          some (3)
set_option maxRecDepth 100000 in
set_option maxHeartbeats 4000000 in
theorem s_M_wrongPlace {d : Nat} {sc : List Int} {z z' : xS} {out : xO} (qs : List xI) {cs : List Prop} (hq : qs.all (xqb 10 false y_M_wrongPlace.2.2.1 y_M_wrongPlace.2.1) = true) (h : xN false sc qs z = some (z', cs)) (hc : xAll cs) (hE : z'.2.2.2.2.2 ≤ 174) (k : XR false d 174 sc y_M_wrongPlace z' out) : XR false d 174 sc y_M_wrongPlace z out := XR.seg 10 false rfl (fun q => by cases q) qs hq h hc hE k
set_option maxRecDepth 100000 in
set_option maxHeartbeats 4000000 in
theorem o_M_wrongPlace {sc : List Int} {R : xR} {M : xM} {l0 : Nat} {l1 : Int} {l2 : Int} {out : Int} (h : f_M_wrongPlace R l0 l1 l2 M = some out) : XR false 1 174 sc y_M_wrongPlace (0, [(0, (vR 10 l0)), (1, (vI l1)), (2, (vI l2))], [], R, M, 174) ((some (vI out)), R, M) := by
  unfold f_M_wrongPlace at h
  refine s_M_wrongPlace [(0, .iload_n 1, 0, 0)] (by decide +kernel) (z' := (1, [(0, (vR 10 l0)), (1, (vI l1)), (2, (vI l2))], [(vI l1)], R, M, 174)) (cs := []) (by rfl) trivial (Nat.le_refl _) ?_
  obtain ⟨r_1, e_2, h⟩ := xb1_ex h
  refine XR.callS 10 rfl (rest := []) m_M_isTray k_10_250 [(vI l1)] rfl rfl (c_M_isTray e_2) (by decide) (Nat.le_of_ble_eq_true rfl) (by decide +kernel) (Nat.le_refl _) (Nat.le_refl _) ?_
  show XR false 1 174 sc y_M_wrongPlace (4, [(0, (vR 10 l0)), (1, (vI l1)), (2, (vI l2))], [(vI r_1)], R, M, 174) _
  rcases xif_ex h with ⟨c_3, h⟩ | ⟨c_3, h⟩
  · skip
    refine s_M_wrongPlace [(4, .ifCond .ne 7, 0, (-1)), (7, .iconst 1, 0, 1), (8, .goto 36, 0, 44)] (by decide +kernel) (z' := (44, [(0, (vR 10 l0)), (1, (vI l1)), (2, (vI l2))], [(vI 1)], R, M, 174)) (cs := [¬ (r_1 ≠ 0)]) (by rfl) ⟨fun q => q c_3, trivial⟩ (Nat.le_refl _) ?_
    obtain rfl := Option.some.inj h
    exact XR.retI .int rfl rfl (by decide +kernel)
  · skip
    obtain ⟨c_4, h⟩ := xch_ex h
    refine s_M_wrongPlace [(4, .ifCond .ne 7, 0, 11), (11, .aload_n 0, 0, 0), (12, .getfield 13, 10, 2), (15, .iload_n 1, 0, 0), (16, .iaload, 0, 0), (17, .iconst (-1), 0, (-1))] (by decide +kernel) (z' := (18, [(0, (vR 10 l0)), (1, (vI l1)), (2, (vI l2))], [(vI (-1)), (vI (M (R l0 2) (Int.toNat l1)))], R, M, 174)) (cs := [r_1 ≠ 0, xar 34 0, xidx l1 (xan 34)]) (by rfl) ⟨c_3, xar_34, xix_34 c_4, trivial⟩ (Nat.le_refl _) ?_
    rcases xif_ex h with ⟨c_5, h⟩ | ⟨c_5, h⟩
    · skip
      refine s_M_wrongPlace [(18, .if_icmp .ne 7, 0, (-1)), (21, .iconst 2, 0, 2), (22, .goto 22, 0, 44)] (by decide +kernel) (z' := (44, [(0, (vR 10 l0)), (1, (vI l1)), (2, (vI l2))], [(vI 2)], R, M, 174)) (cs := [¬ (M (R l0 2) (Int.toNat l1) ≠ -1)]) (by rfl) ⟨fun q => q c_5, trivial⟩ (Nat.le_refl _) ?_
      obtain rfl := Option.some.inj h
      exact XR.retI .int rfl rfl (by decide +kernel)
    · skip
      refine s_M_wrongPlace [(18, .if_icmp .ne 7, 0, 25), (25, .iload_n 2, 0, 0)] (by decide +kernel) (z' := (26, [(0, (vR 10 l0)), (1, (vI l1)), (2, (vI l2))], [(vI l2)], R, M, 174)) (cs := [M (R l0 2) (Int.toNat l1) ≠ -1]) (by rfl) ⟨c_5, trivial⟩ (Nat.le_refl _) ?_
      rcases xif_ex h with ⟨c_6, h⟩ | ⟨c_6, h⟩
      · skip
        refine s_M_wrongPlace [(26, .ifCond .lt 13, 0, 39), (39, .iconst 3, 0, 3), (40, .goto 4, 0, 44)] (by decide +kernel) (z' := (44, [(0, (vR 10 l0)), (1, (vI l1)), (2, (vI l2))], [(vI 3)], R, M, 174)) (cs := [l2 < 0]) (by rfl) ⟨c_6, trivial⟩ (Nat.le_refl _) ?_
        obtain rfl := Option.some.inj h
        exact XR.retI .int rfl rfl (by decide +kernel)
      · skip
        refine s_M_wrongPlace [(26, .ifCond .lt 13, 0, (-1)), (29, .iload_n 2, 0, 0), (30, .aload_n 0, 0, 0), (31, .getfield 13, 10, 2), (34, .iload_n 1, 0, 0), (35, .iaload, 0, 0)] (by decide +kernel) (z' := (36, [(0, (vR 10 l0)), (1, (vI l1)), (2, (vI l2))], [(vI (M (R l0 2) (Int.toNat l1))), (vI l2)], R, M, 174)) (cs := [¬ (l2 < 0), xar 34 0, xidx l1 (xan 34)]) (by rfl) ⟨c_6, xar_34, xix_34 c_4, trivial⟩ (Nat.le_refl _) ?_
        rcases xif_ex h with ⟨c_7, h⟩ | ⟨c_7, h⟩
        · skip
          refine s_M_wrongPlace [(36, .if_icmp .lt 7, 0, 43), (43, .iconst 0, 0, 0)] (by decide +kernel) (z' := (44, [(0, (vR 10 l0)), (1, (vI l1)), (2, (vI l2))], [(vI 0)], R, M, 174)) (cs := [l2 < M (R l0 2) (Int.toNat l1)]) (by rfl) ⟨c_7, trivial⟩ (Nat.le_refl _) ?_
          obtain rfl := Option.some.inj h
          exact XR.retI .int rfl rfl (by decide +kernel)
        · skip
          refine s_M_wrongPlace [(36, .if_icmp .lt 7, 0, (-1)), (39, .iconst 3, 0, 3), (40, .goto 4, 0, 44)] (by decide +kernel) (z' := (44, [(0, (vR 10 l0)), (1, (vI l1)), (2, (vI l2))], [(vI 3)], R, M, 174)) (cs := [¬ (l2 < M (R l0 2) (Int.toNat l1))]) (by rfl) ⟨c_7, trivial⟩ (Nat.le_refl _) ?_
          obtain rfl := Option.some.inj h
          exact XR.retI .int rfl rfl (by decide +kernel)
set_option maxRecDepth 100000 in
set_option maxHeartbeats 4000000 in
theorem c_M_wrongPlace {sc : List Int} {R : xR} {M : xM} {l0 : Nat} {l1 : Int} {l2 : Int} {out : Int} (h : f_M_wrongPlace R l0 l1 l2 M = some out) : XC false 1 sc y_M_wrongPlace [(vR 10 l0), (vI l1), (vI l2)] R M 174 174 ((some (vI out)), R, M) := XC.of (by decide) (Nat.le_of_ble_eq_true rfl) (Nat.le_refl _) (Nat.le_refl _) (o_M_wrongPlace h)
def f_M_read (R : xR) (l0 : Nat) (l1 : Int) (l2 : Int) (M : xM) : Option (Int × xM) :=
  xb1 (f_M_wrongPlace R l0 l1 l2 M) fun r_1 =>
  xl (xu M l0 0 r_1) fun M_3 =>
  if 0 < M_3 l0 0 then
    some (-1, M_3)
  else
    xch (0 ≤ w32 ((w32 (60 * l1)) + l2) ∧ w32 ((w32 (60 * l1)) + l2) < 240) <|
    some (M_3 (R l0 3) (Int.toNat (w32 ((w32 (60 * l1)) + l2))), M_3)
set_option maxRecDepth 100000 in
set_option maxHeartbeats 4000000 in
theorem s_M_read {d : Nat} {sc : List Int} {z z' : xS} {out : xO} (qs : List xI) {cs : List Prop} (hq : qs.all (xqb 10 false y_M_read.2.2.1 y_M_read.2.1) = true) (h : xN false sc qs z = some (z', cs)) (hc : xAll cs) (hE : z'.2.2.2.2.2 ≤ 174) (k : XR false d 174 sc y_M_read z' out) : XR false d 174 sc y_M_read z out := XR.seg 10 false rfl (fun q => by cases q) qs hq h hc hE k
set_option maxRecDepth 100000 in
set_option maxHeartbeats 4000000 in
theorem o_M_read {sc : List Int} {R : xR} {M : xM} {l0 : Nat} {l1 : Int} {l2 : Int} {out : Int × xM} (h : f_M_read R l0 l1 l2 M = some out) : XR false 2 174 sc y_M_read (0, [(0, (vR 10 l0)), (1, (vI l1)), (2, (vI l2))], [], R, M, 174) ((some (vL out.1)), R, out.2) := by
  unfold f_M_read at h
  refine s_M_read [(0, .aload_n 0, 0, 0), (1, .aload_n 0, 0, 0), (2, .iload_n 1, 0, 0), (3, .iload_n 2, 0, 0)] (by decide +kernel) (z' := (4, [(0, (vR 10 l0)), (1, (vI l1)), (2, (vI l2))], [(vI l2), (vI l1), (vR 10 l0), (vR 10 l0)], R, M, 174)) (cs := []) (by rfl) trivial (Nat.le_refl _) ?_
  obtain ⟨r_1, e_2, h⟩ := xb1_ex h
  refine XR.callV 10 rfl (rest := [(vR 10 l0)]) m_M_wrongPlace k_10_257 10 l0 (Or.inl ⟨by decide, rfl⟩) [(vI l1), (vI l2)] rfl rfl (c_M_wrongPlace e_2) (by decide) (Nat.le_of_ble_eq_true rfl) (by decide +kernel) (Nat.le_refl _) (Nat.le_refl _) ?_
  show XR false 2 174 sc y_M_read (7, [(0, (vR 10 l0)), (1, (vI l1)), (2, (vI l2))], [(vI r_1), (vR 10 l0)], R, M, 174) _
  obtain ⟨M_3, hM_3, h⟩ := xl_ex h
  refine s_M_read [(7, .putfield 247, 10, 0), (10, .aload_n 0, 0, 0), (11, .getfield 247, 10, 0)] (by decide +kernel) (z' := (14, [(0, (vR 10 l0)), (1, (vI l1)), (2, (vI l2))], [(vI (M_3 l0 0))], R, M_3, 174)) (cs := []) (by subst hM_3; rfl) trivial (Nat.le_refl _) ?_
  rcases xif_ex h with ⟨c_4, h⟩ | ⟨c_4, h⟩
  · skip
    refine s_M_read [(14, .ifCond .le 9, 0, (-1)), (17, .ldc2_w 265, 0, (-1)), (20, .goto 14, 0, 34)] (by decide +kernel) (z' := (34, [(0, (vR 10 l0)), (1, (vI l1)), (2, (vI l2))], [(vL (-1))], R, M_3, 174)) (cs := [¬ (M_3 l0 0 ≤ 0)]) (by rfl) ⟨Int.not_le.mpr c_4, trivial⟩ (Nat.le_refl _) ?_
    obtain rfl := Option.some.inj h
    exact XR.retL rfl (by decide +kernel)
  · skip
    obtain ⟨c_5, h⟩ := xch_ex h
    refine s_M_read [(14, .ifCond .le 9, 0, 23), (23, .aload_n 0, 0, 0), (24, .getfield 16, 10, 3), (27, .bipush 60, 0, 60), (29, .iload_n 1, 0, 0), (30, .imul, 0, 0), (31, .iload_n 2, 0, 0), (32, .iadd, 0, 0), (33, .laload, 0, 0)] (by decide +kernel) (z' := (34, [(0, (vR 10 l0)), (1, (vI l1)), (2, (vI l2))], [(vL (M_3 (R l0 3) (Int.toNat (w32 ((w32 (60 * l1)) + l2)))))], R, M_3, 174)) (cs := [M_3 l0 0 ≤ 0, xar 40 1, xidx (w32 ((w32 (60 * l1)) + l2)) (xan 40)]) (by rfl) ⟨Int.not_lt.mp c_4, xar_40, xix_40 c_5, trivial⟩ (Nat.le_refl _) ?_
    obtain rfl := Option.some.inj h
    exact XR.retL rfl (by decide +kernel)
set_option maxRecDepth 100000 in
set_option maxHeartbeats 4000000 in
theorem c_M_read {sc : List Int} {R : xR} {M : xM} {l0 : Nat} {l1 : Int} {l2 : Int} {out : Int × xM} (h : f_M_read R l0 l1 l2 M = some out) : XC false 2 sc y_M_read [(vR 10 l0), (vI l1), (vI l2)] R M 174 174 ((some (vL out.1)), R, out.2) := XC.of (by decide) (Nat.le_of_ble_eq_true rfl) (Nat.le_refl _) (Nat.le_refl _) (o_M_read h)
def f_M_row (R : xR) (l0 : Nat) (l1 : Int) (l2 : Int) (l3 : Int) (l4 : Int) (l5 : Int) (M : xM) : Option (Int × xM) :=
  xb1 (f_M_isWorks l0 l1 M) fun r_1 =>
  if r_1 = 0 then
    xb2 (f_M_is l0 1 M) fun r_4 M_5 =>
    xch (r_4 = 0 ∨ r_4 = 1) <|
    some (r_4, M_5)
  else
    xb1 (f_M_isHour l2) fun r_8 =>
    if r_8 = 0 then
      xb2 (f_M_is l0 1 M) fun r_11 M_12 =>
      xch (r_11 = 0 ∨ r_11 = 1) <|
      some (r_11, M_12)
    else
      xb1 (f_M_isSize l3) fun r_15 =>
      if r_15 = 0 then
        xb2 (f_M_is l0 1 M) fun r_18 M_19 =>
        xch (r_18 = 0 ∨ r_18 = 1) <|
        some (r_18, M_19)
      else
        if l4 < 0 then
          xb2 (f_M_is l0 1 M) fun r_23 M_24 =>
          xch (r_23 = 0 ∨ r_23 = 1) <|
          some (r_23, M_24)
        else
          if 9999 < l4 then
            xb2 (f_M_is l0 1 M) fun r_28 M_29 =>
            xch (r_28 = 0 ∨ r_28 = 1) <|
            some (r_28, M_29)
          else
            xb1 (f_M_isKnown l5) fun r_32 =>
            if r_32 = 0 then
              xb2 (f_M_is l0 1 M) fun r_35 M_36 =>
              xch (r_35 = 0 ∨ r_35 = 1) <|
              some (r_35, M_36)
            else
              if M l0 59 = 200 then
                xb2 (f_M_is l0 4 M) fun r_40 M_41 =>
                xch (r_40 = 0 ∨ r_40 = 1) <|
                some (r_40, M_41)
              else
                if l5 < M l0 61 then
                  xb2 (f_M_is l0 5 M) fun r_45 M_46 =>
                  xch (r_45 = 0 ∨ r_45 = 1) <|
                  some (r_45, M_46)
                else
                  xl (xu M l0 61 l5) fun M_49 =>
                  xch (0 ≤ M_49 l0 59 ∧ M_49 l0 59 < 200) <|
                  xl (xu M_49 (R l0 63) (Int.toNat (M_49 l0 59)) l1) fun M_51 =>
                  xch (0 ≤ M_51 l0 59 ∧ M_51 l0 59 < 200) <|
                  xl (xu M_51 (R l0 64) (Int.toNat (M_51 l0 59)) l2) fun M_53 =>
                  xch (0 ≤ M_53 l0 59 ∧ M_53 l0 59 < 200) <|
                  xl (xu M_53 (R l0 65) (Int.toNat (M_53 l0 59)) l3) fun M_55 =>
                  xch (0 ≤ M_55 l0 59 ∧ M_55 l0 59 < 200) <|
                  xl (xu M_55 (R l0 66) (Int.toNat (M_55 l0 59)) l4) fun M_57 =>
                  xch (0 ≤ M_57 l0 59 ∧ M_57 l0 59 < 200) <|
                  xl (xu M_57 (R l0 67) (Int.toNat (M_57 l0 59)) l5) fun M_59 =>
                  xl (xu M_59 l0 59 (w32 ((M_59 l0 59) + 1))) fun M_60 =>
                  xb2 (f_M_is l0 0 M_60) fun r_61 M_62 =>
                  xch (r_61 = 0 ∨ r_61 = 1) <|
                  some (r_61, M_62)
set_option maxRecDepth 100000 in
set_option maxHeartbeats 4000000 in
theorem s_M_row {d : Nat} {sc : List Int} {z z' : xS} {out : xO} (qs : List xI) {cs : List Prop} (hq : qs.all (xqb 10 false y_M_row.2.2.1 y_M_row.2.1) = true) (h : xN false sc qs z = some (z', cs)) (hc : xAll cs) (hE : z'.2.2.2.2.2 ≤ 174) (k : XR false d 174 sc y_M_row z' out) : XR false d 174 sc y_M_row z out := XR.seg 10 false rfl (fun q => by cases q) qs hq h hc hE k
set_option maxRecDepth 100000 in
set_option maxHeartbeats 4000000 in
theorem o_M_row {sc : List Int} {R : xR} {M : xM} {l0 : Nat} {l1 : Int} {l2 : Int} {l3 : Int} {l4 : Int} {l5 : Int} {out : Int × xM} (h : f_M_row R l0 l1 l2 l3 l4 l5 M = some out) : XR false 1 174 sc y_M_row (0, [(0, (vR 10 l0)), (1, (vI l1)), (2, (vI l2)), (3, (vI l3)), (4, (vI l4)), (5, (vI l5))], [], R, M, 174) ((some (vI out.1)), R, out.2) := by
  unfold f_M_row at h
  refine s_M_row [(0, .aload_n 0, 0, 0), (1, .iload_n 1, 0, 0)] (by decide +kernel) (z' := (2, [(0, (vR 10 l0)), (1, (vI l1)), (2, (vI l2)), (3, (vI l3)), (4, (vI l4)), (5, (vI l5))], [(vI l1), (vR 10 l0)], R, M, 174)) (cs := []) (by rfl) trivial (Nat.le_refl _) ?_
  obtain ⟨r_1, e_2, h⟩ := xb1_ex h
  refine XR.callV 10 rfl (rest := []) m_M_isWorks k_10_433 10 l0 (Or.inl ⟨by decide, rfl⟩) [(vI l1)] rfl rfl (c_M_isWorks e_2) (by decide) (Nat.le_of_ble_eq_true rfl) (by decide +kernel) (Nat.le_refl _) (Nat.le_refl _) ?_
  show XR false 1 174 sc y_M_row (5, [(0, (vR 10 l0)), (1, (vI l1)), (2, (vI l2)), (3, (vI l3)), (4, (vI l4)), (5, (vI l5))], [(vI r_1)], R, M, 174) _
  rcases xif_ex h with ⟨c_3, h⟩ | ⟨c_3, h⟩
  · skip
    refine s_M_row [(5, .ifCond .eq 38, 0, 43), (43, .aload_n 0, 0, 0), (44, .iconst 1, 0, 1)] (by decide +kernel) (z' := (45, [(0, (vR 10 l0)), (1, (vI l1)), (2, (vI l2)), (3, (vI l3)), (4, (vI l4)), (5, (vI l5))], [(vI 1), (vR 10 l0)], R, M, 174)) (cs := [r_1 = 0]) (by rfl) ⟨c_3, trivial⟩ (Nat.le_refl _) ?_
    obtain ⟨r_4, M_5, e_6, h⟩ := xb2_ex h
    refine XR.callV 10 rfl (rest := []) m_M_is k_10_254 10 l0 (Or.inl ⟨by decide, rfl⟩) [(vI 1)] rfl rfl (c_M_is e_6) (by decide) (Nat.le_of_ble_eq_true rfl) (by decide +kernel) (Nat.le_refl _) (Nat.le_refl _) ?_
    show XR false 1 174 sc y_M_row (48, [(0, (vR 10 l0)), (1, (vI l1)), (2, (vI l2)), (3, (vI l3)), (4, (vI l4)), (5, (vI l5))], [(vI r_4)], R, M_5, 174) _
    obtain ⟨c_7, h⟩ := xch_ex h
    obtain rfl := Option.some.inj h
    exact XR.retI .boolean rfl (xnar_z c_7) (by decide +kernel)
  · skip
    refine s_M_row [(5, .ifCond .eq 38, 0, (-1)), (8, .iload_n 2, 0, 0)] (by decide +kernel) (z' := (9, [(0, (vR 10 l0)), (1, (vI l1)), (2, (vI l2)), (3, (vI l3)), (4, (vI l4)), (5, (vI l5))], [(vI l2)], R, M, 174)) (cs := [¬ (r_1 = 0)]) (by rfl) ⟨c_3, trivial⟩ (Nat.le_refl _) ?_
    obtain ⟨r_8, e_9, h⟩ := xb1_ex h
    refine XR.callS 10 rfl (rest := []) m_M_isHour k_10_436 [(vI l2)] rfl rfl (c_M_isHour e_9) (by decide) (Nat.le_of_ble_eq_true rfl) (by decide +kernel) (Nat.le_refl _) (Nat.le_refl _) ?_
    show XR false 1 174 sc y_M_row (12, [(0, (vR 10 l0)), (1, (vI l1)), (2, (vI l2)), (3, (vI l3)), (4, (vI l4)), (5, (vI l5))], [(vI r_8)], R, M, 174) _
    rcases xif_ex h with ⟨c_10, h⟩ | ⟨c_10, h⟩
    · skip
      refine s_M_row [(12, .ifCond .eq 31, 0, 43), (43, .aload_n 0, 0, 0), (44, .iconst 1, 0, 1)] (by decide +kernel) (z' := (45, [(0, (vR 10 l0)), (1, (vI l1)), (2, (vI l2)), (3, (vI l3)), (4, (vI l4)), (5, (vI l5))], [(vI 1), (vR 10 l0)], R, M, 174)) (cs := [r_8 = 0]) (by rfl) ⟨c_10, trivial⟩ (Nat.le_refl _) ?_
      obtain ⟨r_11, M_12, e_13, h⟩ := xb2_ex h
      refine XR.callV 10 rfl (rest := []) m_M_is k_10_254 10 l0 (Or.inl ⟨by decide, rfl⟩) [(vI 1)] rfl rfl (c_M_is e_13) (by decide) (Nat.le_of_ble_eq_true rfl) (by decide +kernel) (Nat.le_refl _) (Nat.le_refl _) ?_
      show XR false 1 174 sc y_M_row (48, [(0, (vR 10 l0)), (1, (vI l1)), (2, (vI l2)), (3, (vI l3)), (4, (vI l4)), (5, (vI l5))], [(vI r_11)], R, M_12, 174) _
      obtain ⟨c_14, h⟩ := xch_ex h
      obtain rfl := Option.some.inj h
      exact XR.retI .boolean rfl (xnar_z c_14) (by decide +kernel)
    · skip
      refine s_M_row [(12, .ifCond .eq 31, 0, (-1)), (15, .iload_n 3, 0, 0)] (by decide +kernel) (z' := (16, [(0, (vR 10 l0)), (1, (vI l1)), (2, (vI l2)), (3, (vI l3)), (4, (vI l4)), (5, (vI l5))], [(vI l3)], R, M, 174)) (cs := [¬ (r_8 = 0)]) (by rfl) ⟨c_10, trivial⟩ (Nat.le_refl _) ?_
      obtain ⟨r_15, e_16, h⟩ := xb1_ex h
      refine XR.callS 10 rfl (rest := []) m_M_isSize k_10_439 [(vI l3)] rfl rfl (c_M_isSize e_16) (by decide) (Nat.le_of_ble_eq_true rfl) (by decide +kernel) (Nat.le_refl _) (Nat.le_refl _) ?_
      show XR false 1 174 sc y_M_row (19, [(0, (vR 10 l0)), (1, (vI l1)), (2, (vI l2)), (3, (vI l3)), (4, (vI l4)), (5, (vI l5))], [(vI r_15)], R, M, 174) _
      rcases xif_ex h with ⟨c_17, h⟩ | ⟨c_17, h⟩
      · skip
        refine s_M_row [(19, .ifCond .eq 24, 0, 43), (43, .aload_n 0, 0, 0), (44, .iconst 1, 0, 1)] (by decide +kernel) (z' := (45, [(0, (vR 10 l0)), (1, (vI l1)), (2, (vI l2)), (3, (vI l3)), (4, (vI l4)), (5, (vI l5))], [(vI 1), (vR 10 l0)], R, M, 174)) (cs := [r_15 = 0]) (by rfl) ⟨c_17, trivial⟩ (Nat.le_refl _) ?_
        obtain ⟨r_18, M_19, e_20, h⟩ := xb2_ex h
        refine XR.callV 10 rfl (rest := []) m_M_is k_10_254 10 l0 (Or.inl ⟨by decide, rfl⟩) [(vI 1)] rfl rfl (c_M_is e_20) (by decide) (Nat.le_of_ble_eq_true rfl) (by decide +kernel) (Nat.le_refl _) (Nat.le_refl _) ?_
        show XR false 1 174 sc y_M_row (48, [(0, (vR 10 l0)), (1, (vI l1)), (2, (vI l2)), (3, (vI l3)), (4, (vI l4)), (5, (vI l5))], [(vI r_18)], R, M_19, 174) _
        obtain ⟨c_21, h⟩ := xch_ex h
        obtain rfl := Option.some.inj h
        exact XR.retI .boolean rfl (xnar_z c_21) (by decide +kernel)
      · skip
        refine s_M_row [(19, .ifCond .eq 24, 0, (-1)), (22, .iload 4, 0, 0)] (by decide +kernel) (z' := (24, [(0, (vR 10 l0)), (1, (vI l1)), (2, (vI l2)), (3, (vI l3)), (4, (vI l4)), (5, (vI l5))], [(vI l4)], R, M, 174)) (cs := [¬ (r_15 = 0)]) (by rfl) ⟨c_17, trivial⟩ (Nat.le_refl _) ?_
        rcases xif_ex h with ⟨c_22, h⟩ | ⟨c_22, h⟩
        · skip
          refine s_M_row [(24, .ifCond .lt 19, 0, 43), (43, .aload_n 0, 0, 0), (44, .iconst 1, 0, 1)] (by decide +kernel) (z' := (45, [(0, (vR 10 l0)), (1, (vI l1)), (2, (vI l2)), (3, (vI l3)), (4, (vI l4)), (5, (vI l5))], [(vI 1), (vR 10 l0)], R, M, 174)) (cs := [l4 < 0]) (by rfl) ⟨c_22, trivial⟩ (Nat.le_refl _) ?_
          obtain ⟨r_23, M_24, e_25, h⟩ := xb2_ex h
          refine XR.callV 10 rfl (rest := []) m_M_is k_10_254 10 l0 (Or.inl ⟨by decide, rfl⟩) [(vI 1)] rfl rfl (c_M_is e_25) (by decide) (Nat.le_of_ble_eq_true rfl) (by decide +kernel) (Nat.le_refl _) (Nat.le_refl _) ?_
          show XR false 1 174 sc y_M_row (48, [(0, (vR 10 l0)), (1, (vI l1)), (2, (vI l2)), (3, (vI l3)), (4, (vI l4)), (5, (vI l5))], [(vI r_23)], R, M_24, 174) _
          obtain ⟨c_26, h⟩ := xch_ex h
          obtain rfl := Option.some.inj h
          exact XR.retI .boolean rfl (xnar_z c_26) (by decide +kernel)
        · skip
          refine s_M_row [(24, .ifCond .lt 19, 0, (-1)), (27, .iload 4, 0, 0), (29, .sipush 9999, 0, 9999)] (by decide +kernel) (z' := (32, [(0, (vR 10 l0)), (1, (vI l1)), (2, (vI l2)), (3, (vI l3)), (4, (vI l4)), (5, (vI l5))], [(vI 9999), (vI l4)], R, M, 174)) (cs := [¬ (l4 < 0)]) (by rfl) ⟨c_22, trivial⟩ (Nat.le_refl _) ?_
          rcases xif_ex h with ⟨c_27, h⟩ | ⟨c_27, h⟩
          · skip
            refine s_M_row [(32, .if_icmp .gt 11, 0, 43), (43, .aload_n 0, 0, 0), (44, .iconst 1, 0, 1)] (by decide +kernel) (z' := (45, [(0, (vR 10 l0)), (1, (vI l1)), (2, (vI l2)), (3, (vI l3)), (4, (vI l4)), (5, (vI l5))], [(vI 1), (vR 10 l0)], R, M, 174)) (cs := [9999 < l4]) (by rfl) ⟨c_27, trivial⟩ (Nat.le_refl _) ?_
            obtain ⟨r_28, M_29, e_30, h⟩ := xb2_ex h
            refine XR.callV 10 rfl (rest := []) m_M_is k_10_254 10 l0 (Or.inl ⟨by decide, rfl⟩) [(vI 1)] rfl rfl (c_M_is e_30) (by decide) (Nat.le_of_ble_eq_true rfl) (by decide +kernel) (Nat.le_refl _) (Nat.le_refl _) ?_
            show XR false 1 174 sc y_M_row (48, [(0, (vR 10 l0)), (1, (vI l1)), (2, (vI l2)), (3, (vI l3)), (4, (vI l4)), (5, (vI l5))], [(vI r_28)], R, M_29, 174) _
            obtain ⟨c_31, h⟩ := xch_ex h
            obtain rfl := Option.some.inj h
            exact XR.retI .boolean rfl (xnar_z c_31) (by decide +kernel)
          · skip
            refine s_M_row [(32, .if_icmp .gt 11, 0, (-1)), (35, .iload 5, 0, 0)] (by decide +kernel) (z' := (37, [(0, (vR 10 l0)), (1, (vI l1)), (2, (vI l2)), (3, (vI l3)), (4, (vI l4)), (5, (vI l5))], [(vI l5)], R, M, 174)) (cs := [¬ (9999 < l4)]) (by rfl) ⟨c_27, trivial⟩ (Nat.le_refl _) ?_
            obtain ⟨r_32, e_33, h⟩ := xb1_ex h
            refine XR.callS 10 rfl (rest := []) m_M_isKnown k_10_442 [(vI l5)] rfl rfl (c_M_isKnown e_33) (by decide) (Nat.le_of_ble_eq_true rfl) (by decide +kernel) (Nat.le_refl _) (Nat.le_refl _) ?_
            show XR false 1 174 sc y_M_row (40, [(0, (vR 10 l0)), (1, (vI l1)), (2, (vI l2)), (3, (vI l3)), (4, (vI l4)), (5, (vI l5))], [(vI r_32)], R, M, 174) _
            rcases xif_ex h with ⟨c_34, h⟩ | ⟨c_34, h⟩
            · skip
              refine s_M_row [(40, .ifCond .ne 9, 0, (-1)), (43, .aload_n 0, 0, 0), (44, .iconst 1, 0, 1)] (by decide +kernel) (z' := (45, [(0, (vR 10 l0)), (1, (vI l1)), (2, (vI l2)), (3, (vI l3)), (4, (vI l4)), (5, (vI l5))], [(vI 1), (vR 10 l0)], R, M, 174)) (cs := [¬ (r_32 ≠ 0)]) (by rfl) ⟨fun q => q c_34, trivial⟩ (Nat.le_refl _) ?_
              obtain ⟨r_35, M_36, e_37, h⟩ := xb2_ex h
              refine XR.callV 10 rfl (rest := []) m_M_is k_10_254 10 l0 (Or.inl ⟨by decide, rfl⟩) [(vI 1)] rfl rfl (c_M_is e_37) (by decide) (Nat.le_of_ble_eq_true rfl) (by decide +kernel) (Nat.le_refl _) (Nat.le_refl _) ?_
              show XR false 1 174 sc y_M_row (48, [(0, (vR 10 l0)), (1, (vI l1)), (2, (vI l2)), (3, (vI l3)), (4, (vI l4)), (5, (vI l5))], [(vI r_35)], R, M_36, 174) _
              obtain ⟨c_38, h⟩ := xch_ex h
              obtain rfl := Option.some.inj h
              exact XR.retI .boolean rfl (xnar_z c_38) (by decide +kernel)
            · skip
              refine s_M_row [(40, .ifCond .ne 9, 0, 49), (49, .aload_n 0, 0, 0), (50, .getfield 399, 10, 59), (53, .sipush 200, 0, 200)] (by decide +kernel) (z' := (56, [(0, (vR 10 l0)), (1, (vI l1)), (2, (vI l2)), (3, (vI l3)), (4, (vI l4)), (5, (vI l5))], [(vI 200), (vI (M l0 59))], R, M, 174)) (cs := [r_32 ≠ 0]) (by rfl) ⟨c_34, trivial⟩ (Nat.le_refl _) ?_
              rcases xif_ex h with ⟨c_39, h⟩ | ⟨c_39, h⟩
              · skip
                refine s_M_row [(56, .if_icmp .ne 9, 0, (-1)), (59, .aload_n 0, 0, 0), (60, .iconst 4, 0, 4)] (by decide +kernel) (z' := (61, [(0, (vR 10 l0)), (1, (vI l1)), (2, (vI l2)), (3, (vI l3)), (4, (vI l4)), (5, (vI l5))], [(vI 4), (vR 10 l0)], R, M, 174)) (cs := [¬ (M l0 59 ≠ 200)]) (by rfl) ⟨fun q => q c_39, trivial⟩ (Nat.le_refl _) ?_
                obtain ⟨r_40, M_41, e_42, h⟩ := xb2_ex h
                refine XR.callV 10 rfl (rest := []) m_M_is k_10_254 10 l0 (Or.inl ⟨by decide, rfl⟩) [(vI 4)] rfl rfl (c_M_is e_42) (by decide) (Nat.le_of_ble_eq_true rfl) (by decide +kernel) (Nat.le_refl _) (Nat.le_refl _) ?_
                show XR false 1 174 sc y_M_row (64, [(0, (vR 10 l0)), (1, (vI l1)), (2, (vI l2)), (3, (vI l3)), (4, (vI l4)), (5, (vI l5))], [(vI r_40)], R, M_41, 174) _
                obtain ⟨c_43, h⟩ := xch_ex h
                obtain rfl := Option.some.inj h
                exact XR.retI .boolean rfl (xnar_z c_43) (by decide +kernel)
              · skip
                refine s_M_row [(56, .if_icmp .ne 9, 0, 65), (65, .iload 5, 0, 0), (67, .aload_n 0, 0, 0), (68, .getfield 445, 10, 61)] (by decide +kernel) (z' := (71, [(0, (vR 10 l0)), (1, (vI l1)), (2, (vI l2)), (3, (vI l3)), (4, (vI l4)), (5, (vI l5))], [(vI (M l0 61)), (vI l5)], R, M, 174)) (cs := [M l0 59 ≠ 200]) (by rfl) ⟨c_39, trivial⟩ (Nat.le_refl _) ?_
                rcases xif_ex h with ⟨c_44, h⟩ | ⟨c_44, h⟩
                · skip
                  refine s_M_row [(71, .if_icmp .ge 9, 0, (-1)), (74, .aload_n 0, 0, 0), (75, .iconst 5, 0, 5)] (by decide +kernel) (z' := (76, [(0, (vR 10 l0)), (1, (vI l1)), (2, (vI l2)), (3, (vI l3)), (4, (vI l4)), (5, (vI l5))], [(vI 5), (vR 10 l0)], R, M, 174)) (cs := [¬ (M l0 61 ≤ l5)]) (by rfl) ⟨Int.not_le.mpr c_44, trivial⟩ (Nat.le_refl _) ?_
                  obtain ⟨r_45, M_46, e_47, h⟩ := xb2_ex h
                  refine XR.callV 10 rfl (rest := []) m_M_is k_10_254 10 l0 (Or.inl ⟨by decide, rfl⟩) [(vI 5)] rfl rfl (c_M_is e_47) (by decide) (Nat.le_of_ble_eq_true rfl) (by decide +kernel) (Nat.le_refl _) (Nat.le_refl _) ?_
                  show XR false 1 174 sc y_M_row (79, [(0, (vR 10 l0)), (1, (vI l1)), (2, (vI l2)), (3, (vI l3)), (4, (vI l4)), (5, (vI l5))], [(vI r_45)], R, M_46, 174) _
                  obtain ⟨c_48, h⟩ := xch_ex h
                  obtain rfl := Option.some.inj h
                  exact XR.retI .boolean rfl (xnar_z c_48) (by decide +kernel)
                · skip
                  obtain ⟨M_49, hM_49, h⟩ := xl_ex h
                  obtain ⟨c_50, h⟩ := xch_ex h
                  obtain ⟨M_51, hM_51, h⟩ := xl_ex h
                  obtain ⟨c_52, h⟩ := xch_ex h
                  obtain ⟨M_53, hM_53, h⟩ := xl_ex h
                  obtain ⟨c_54, h⟩ := xch_ex h
                  obtain ⟨M_55, hM_55, h⟩ := xl_ex h
                  obtain ⟨c_56, h⟩ := xch_ex h
                  obtain ⟨M_57, hM_57, h⟩ := xl_ex h
                  obtain ⟨c_58, h⟩ := xch_ex h
                  obtain ⟨M_59, hM_59, h⟩ := xl_ex h
                  obtain ⟨M_60, hM_60, h⟩ := xl_ex h
                  refine s_M_row [(71, .if_icmp .ge 9, 0, 80), (80, .aload_n 0, 0, 0), (81, .iload 5, 0, 0), (83, .putfield 445, 10, 61), (86, .aload_n 0, 0, 0), (87, .getfield 139, 10, 63), (90, .aload_n 0, 0, 0), (91, .getfield 399, 10, 59), (94, .iload_n 1, 0, 0), (95, .iastore, 0, 0), (96, .aload_n 0, 0, 0), (97, .getfield 142, 10, 64), (100, .aload_n 0, 0, 0), (101, .getfield 399, 10, 59), (104, .iload_n 2, 0, 0), (105, .iastore, 0, 0), (106, .aload_n 0, 0, 0), (107, .getfield 145, 10, 65), (110, .aload_n 0, 0, 0), (111, .getfield 399, 10, 59), (114, .iload_n 3, 0, 0), (115, .iastore, 0, 0), (116, .aload_n 0, 0, 0), (117, .getfield 148, 10, 66), (120, .aload_n 0, 0, 0), (121, .getfield 399, 10, 59), (124, .iload 4, 0, 0), (126, .iastore, 0, 0), (127, .aload_n 0, 0, 0), (128, .getfield 151, 10, 67), (131, .aload_n 0, 0, 0), (132, .getfield 399, 10, 59), (135, .iload 5, 0, 0), (137, .iastore, 0, 0), (138, .aload_n 0, 0, 0), (139, .dup, 0, 0), (140, .getfield 399, 10, 59), (143, .iconst 1, 0, 1), (144, .iadd, 0, 0), (145, .putfield 399, 10, 59), (148, .aload_n 0, 0, 0), (149, .iconst 0, 0, 0)] (by decide +kernel) (z' := (150, [(0, (vR 10 l0)), (1, (vI l1)), (2, (vI l2)), (3, (vI l3)), (4, (vI l4)), (5, (vI l5))], [(vI 0), (vR 10 l0)], R, M_60, 174)) (cs := [M l0 61 ≤ l5, xar 20 0, xidx (M_49 l0 59) (xan 20), xar 20 0, xidx (M_51 l0 59) (xan 20), xar 20 0, xidx (M_53 l0 59) (xan 20), xar 20 0, xidx (M_55 l0 59) (xan 20), xar 20 0, xidx (M_57 l0 59) (xan 20)]) (by subst hM_49; subst hM_51; subst hM_53; subst hM_55; subst hM_57; subst hM_59; subst hM_60; rfl) ⟨Int.not_lt.mp c_44, xar_20, xix_20 c_50, xar_20, xix_20 c_52, xar_20, xix_20 c_54, xar_20, xix_20 c_56, xar_20, xix_20 c_58, trivial⟩ (Nat.le_refl _) ?_
                  obtain ⟨r_61, M_62, e_63, h⟩ := xb2_ex h
                  refine XR.callV 10 rfl (rest := []) m_M_is k_10_254 10 l0 (Or.inl ⟨by decide, rfl⟩) [(vI 0)] rfl rfl (c_M_is e_63) (by decide) (Nat.le_of_ble_eq_true rfl) (by decide +kernel) (Nat.le_refl _) (Nat.le_refl _) ?_
                  show XR false 1 174 sc y_M_row (153, [(0, (vR 10 l0)), (1, (vI l1)), (2, (vI l2)), (3, (vI l3)), (4, (vI l4)), (5, (vI l5))], [(vI r_61)], R, M_62, 174) _
                  obtain ⟨c_64, h⟩ := xch_ex h
                  obtain rfl := Option.some.inj h
                  exact XR.retI .boolean rfl (xnar_z c_64) (by decide +kernel)
set_option maxRecDepth 100000 in
set_option maxHeartbeats 4000000 in
theorem c_M_row {sc : List Int} {R : xR} {M : xM} {l0 : Nat} {l1 : Int} {l2 : Int} {l3 : Int} {l4 : Int} {l5 : Int} {out : Int × xM} (h : f_M_row R l0 l1 l2 l3 l4 l5 M = some out) : XC false 1 sc y_M_row [(vR 10 l0), (vI l1), (vI l2), (vI l3), (vI l4), (vI l5)] R M 174 174 ((some (vI out.1)), R, out.2) := XC.of (by decide) (Nat.le_of_ble_eq_true rfl) (Nat.le_refl _) (Nat.le_refl _) (o_M_row h)
def f_M_rowAt (R : xR) (l0 : Nat) (l1 : Int) (M : xM) : Option (Int × xM) :=
  if l1 < 0 then
    xb2 (f_M_refuse l0 1 M) fun r_2 M_3 =>
    some (r_2, M_3)
  else
    if l1 < M l0 99 then
      xch (0 ≤ l1 ∧ l1 < 4) <|
      xb2 (f_M_gives l0 (M (R l0 98) (Int.toNat l1)) M) fun r_7 M_8 =>
      some (r_7, M_8)
    else
      xb2 (f_M_refuse l0 6 M) fun r_10 M_11 =>
      some (r_10, M_11)
set_option maxRecDepth 100000 in
set_option maxHeartbeats 4000000 in
theorem s_M_rowAt {d : Nat} {sc : List Int} {z z' : xS} {out : xO} (qs : List xI) {cs : List Prop} (hq : qs.all (xqb 10 false y_M_rowAt.2.2.1 y_M_rowAt.2.1) = true) (h : xN false sc qs z = some (z', cs)) (hc : xAll cs) (hE : z'.2.2.2.2.2 ≤ 174) (k : XR false d 174 sc y_M_rowAt z' out) : XR false d 174 sc y_M_rowAt z out := XR.seg 10 false rfl (fun q => by cases q) qs hq h hc hE k
set_option maxRecDepth 100000 in
set_option maxHeartbeats 4000000 in
theorem o_M_rowAt {sc : List Int} {R : xR} {M : xM} {l0 : Nat} {l1 : Int} {out : Int × xM} (h : f_M_rowAt R l0 l1 M = some out) : XR false 1 174 sc y_M_rowAt (0, [(0, (vR 10 l0)), (1, (vI l1))], [], R, M, 174) ((some (vI out.1)), R, out.2) := by
  unfold f_M_rowAt at h
  refine s_M_rowAt [(0, .iload_n 1, 0, 0)] (by decide +kernel) (z' := (1, [(0, (vR 10 l0)), (1, (vI l1))], [(vI l1)], R, M, 174)) (cs := []) (by rfl) trivial (Nat.le_refl _) ?_
  rcases xif_ex h with ⟨c_1, h⟩ | ⟨c_1, h⟩
  · skip
    refine s_M_rowAt [(1, .ifCond .ge 11, 0, (-1)), (4, .aload_n 0, 0, 0), (5, .iconst 1, 0, 1)] (by decide +kernel) (z' := (6, [(0, (vR 10 l0)), (1, (vI l1))], [(vI 1), (vR 10 l0)], R, M, 174)) (cs := [¬ (0 ≤ l1)]) (by rfl) ⟨Int.not_le.mpr c_1, trivial⟩ (Nat.le_refl _) ?_
    obtain ⟨r_2, M_3, e_4, h⟩ := xb2_ex h
    refine XR.callV 10 rfl (rest := []) m_M_refuse k_10_377 10 l0 (Or.inl ⟨by decide, rfl⟩) [(vI 1)] rfl rfl (c_M_refuse e_4) (by decide) (Nat.le_of_ble_eq_true rfl) (by decide +kernel) (Nat.le_refl _) (Nat.le_refl _) ?_
    show XR false 1 174 sc y_M_rowAt (9, [(0, (vR 10 l0)), (1, (vI l1))], [(vI r_2)], R, M_3, 174) _
    refine s_M_rowAt [(9, .goto 30, 0, 39)] (by decide +kernel) (z' := (39, [(0, (vR 10 l0)), (1, (vI l1))], [(vI r_2)], R, M_3, 174)) (cs := []) (by rfl) trivial (Nat.le_refl _) ?_
    obtain rfl := Option.some.inj h
    exact XR.retI .int rfl rfl (by decide +kernel)
  · skip
    refine s_M_rowAt [(1, .ifCond .ge 11, 0, 12), (12, .iload_n 1, 0, 0), (13, .aload_n 0, 0, 0), (14, .getfield 229, 10, 99)] (by decide +kernel) (z' := (17, [(0, (vR 10 l0)), (1, (vI l1))], [(vI (M l0 99)), (vI l1)], R, M, 174)) (cs := [0 ≤ l1]) (by rfl) ⟨Int.not_lt.mp c_1, trivial⟩ (Nat.le_refl _) ?_
    rcases xif_ex h with ⟨c_5, h⟩ | ⟨c_5, h⟩
    · skip
      obtain ⟨c_6, h⟩ := xch_ex h
      refine s_M_rowAt [(17, .if_icmp .lt 12, 0, 29), (29, .aload_n 0, 0, 0), (30, .aload_n 0, 0, 0), (31, .getfield 226, 10, 98), (34, .iload_n 1, 0, 0), (35, .iaload, 0, 0)] (by decide +kernel) (z' := (36, [(0, (vR 10 l0)), (1, (vI l1))], [(vI (M (R l0 98) (Int.toNat l1))), (vR 10 l0)], R, M, 174)) (cs := [l1 < M l0 99, xar 34 0, xidx l1 (xan 34)]) (by rfl) ⟨c_5, xar_34, xix_34 c_6, trivial⟩ (Nat.le_refl _) ?_
      obtain ⟨r_7, M_8, e_9, h⟩ := xb2_ex h
      refine XR.callV 10 rfl (rest := []) m_M_gives k_10_405 10 l0 (Or.inl ⟨by decide, rfl⟩) [(vI (M (R l0 98) (Int.toNat l1)))] rfl rfl (c_M_gives e_9) (by decide) (Nat.le_of_ble_eq_true rfl) (by decide +kernel) (Nat.le_refl _) (Nat.le_refl _) ?_
      show XR false 1 174 sc y_M_rowAt (39, [(0, (vR 10 l0)), (1, (vI l1))], [(vI r_7)], R, M_8, 174) _
      obtain rfl := Option.some.inj h
      exact XR.retI .int rfl rfl (by decide +kernel)
    · skip
      refine s_M_rowAt [(17, .if_icmp .lt 12, 0, (-1)), (20, .aload_n 0, 0, 0), (21, .bipush 6, 0, 6)] (by decide +kernel) (z' := (23, [(0, (vR 10 l0)), (1, (vI l1))], [(vI 6), (vR 10 l0)], R, M, 174)) (cs := [¬ (l1 < M l0 99)]) (by rfl) ⟨c_5, trivial⟩ (Nat.le_refl _) ?_
      obtain ⟨r_10, M_11, e_12, h⟩ := xb2_ex h
      refine XR.callV 10 rfl (rest := []) m_M_refuse k_10_377 10 l0 (Or.inl ⟨by decide, rfl⟩) [(vI 6)] rfl rfl (c_M_refuse e_12) (by decide) (Nat.le_of_ble_eq_true rfl) (by decide +kernel) (Nat.le_refl _) (Nat.le_refl _) ?_
      show XR false 1 174 sc y_M_rowAt (26, [(0, (vR 10 l0)), (1, (vI l1))], [(vI r_10)], R, M_11, 174) _
      refine s_M_rowAt [(26, .goto 13, 0, 39)] (by decide +kernel) (z' := (39, [(0, (vR 10 l0)), (1, (vI l1))], [(vI r_10)], R, M_11, 174)) (cs := []) (by rfl) trivial (Nat.le_refl _) ?_
      obtain rfl := Option.some.inj h
      exact XR.retI .int rfl rfl (by decide +kernel)
set_option maxRecDepth 100000 in
set_option maxHeartbeats 4000000 in
theorem c_M_rowAt {sc : List Int} {R : xR} {M : xM} {l0 : Nat} {l1 : Int} {out : Int × xM} (h : f_M_rowAt R l0 l1 M = some out) : XC false 1 sc y_M_rowAt [(vR 10 l0), (vI l1)] R M 174 174 ((some (vI out.1)), R, out.2) := XC.of (by decide) (Nat.le_of_ble_eq_true rfl) (Nat.le_refl _) (Nat.le_refl _) (o_M_rowAt h)
