def M_torn_J200 (R : xR) (l0 : Nat) (l1 : Int) (l2 : Int) (l3 : Int) (l4 : Int) (rc : Int → Int → Int → Int → xM → Option (Int × xM)) (q206 : Int → Int → Int → xM → Option (Int × xM)) (v5 : Int) (v6 : Int) (v7 : Int) (v8 : Int) (M : xM) : Option (Int × xM) :=
  xl (w32 (v8 + 10)) fun v8_55 =>
  rc v5 v6 v7 v8_55 M
def M_torn_J197 (R : xR) (l0 : Nat) (l1 : Int) (l2 : Int) (l3 : Int) (l4 : Int) (rc : Int → Int → Int → Int → xM → Option (Int × xM)) (q206 : Int → Int → Int → xM → Option (Int × xM)) (v5 : Int) (v6 : Int) (v7 : Int) (v8 : Int) (M : xM) : Option (Int × xM) :=
  xl (w32 (v5 + 1)) fun v5_60 =>
  M_torn_J200 R l0 l1 l2 l3 l4 rc q206 v5_60 v6 v7 v8 M
def M_torn_F125 (R : xR) (l0 : Nat) (l1 : Int) (l2 : Int) (l3 : Int) (l4 : Int) (q206 : Int → Int → Int → xM → Option (Int × xM)) : Nat → Int → Int → Int → Int → xM → Option (Int × xM)
  | 0, _, _, _, _, _ => none
  | n + 1, v5, v6, v7, v8, M =>
    if 100 < v8 then
      q206 v5 v6 v7 M
    else
      xl (xu M l0 74 v6) fun M_47 =>
      xl (xu M_47 l0 75 v7) fun M_48 =>
      xl (xu M_48 l0 76 v8) fun M_49 =>
      xb1 (f_M_steps R l0 (w32 ((w32 (l2 + l3)) - 1)) M_49) fun M_50 =>
      xb1 (f_M_explains R l0 l1 l2 l3 l4 M_50) fun r_52 =>
      if r_52 = 0 then
        M_torn_J200 R l0 l1 l2 l3 l4 (M_torn_F125 R l0 l1 l2 l3 l4 q206 n) q206 v5 v6 v7 v8 M_50
      else
        if v5 = 0 then
          xl (xu M_50 l0 91 v6) fun M_57 =>
          xl (xu M_57 l0 92 v7) fun M_58 =>
          xl (xu M_58 l0 93 v8) fun M_59 =>
          M_torn_J197 R l0 l1 l2 l3 l4 (M_torn_F125 R l0 l1 l2 l3 l4 q206 n) q206 v5 v6 v7 v8 M_59
        else
          M_torn_J197 R l0 l1 l2 l3 l4 (M_torn_F125 R l0 l1 l2 l3 l4 q206 n) q206 v5 v6 v7 v8 M_50
def M_torn_F102 (R : xR) (l0 : Nat) (l1 : Int) (l2 : Int) (l3 : Int) (l4 : Int) (q212 : Int → Int → xM → Option (Int × xM)) : Nat → Int → Int → Int → xM → Option (Int × xM)
  | 0, _, _, _, _ => none
  | n + 1, v5, v6, v7, M =>
    if v7 < w32 (l2 + l3) then
      xch (0 ≤ v6 ∧ v6 < 8) <|
      if M (R l0 32) (Int.toNat v6) = 2 then
        M_torn_F125 R l0 l1 l2 l3 l4
          (fun (v5_61 : Int) (v6_62 : Int) (v7_63 : Int) (M_64 : xM) =>
            xl (w32 (v7_63 + 1)) fun v7_65 =>
            M_torn_F102 R l0 l1 l2 l3 l4 q212 n v5_61 v6_62 v7_65 M_64)
          xfu v5 v6 v7 10 M
      else
        q212 v5 v6 M
    else
      q212 v5 v6 M
def M_torn_J212 (R : xR) (l0 : Nat) (l1 : Int) (l2 : Int) (l3 : Int) (l4 : Int) (rc : Int → Int → xM → Option (Int × xM)) (q218 : Int → xM → Option (Int × xM)) (v5 : Int) (v6 : Int) (M : xM) : Option (Int × xM) :=
  xl (w32 (v6 + 1)) fun v6_69 =>
  rc v5 v6_69 M
def M_torn_F90 (R : xR) (l0 : Nat) (l1 : Int) (l2 : Int) (l3 : Int) (l4 : Int) (q218 : Int → xM → Option (Int × xM)) : Nat → Int → Int → xM → Option (Int × xM)
  | 0, _, _, _ => none
  | n + 1, v5, v6, M =>
    if v6 < M l0 30 then
      M_torn_F102 R l0 l1 l2 l3 l4
        (fun (v5_66 : Int) (v6_67 : Int) (M_68 : xM) =>
          M_torn_J212 R l0 l1 l2 l3 l4 (M_torn_F90 R l0 l1 l2 l3 l4 q218 n) q218 v5_66 v6_67 M_68)
        xfu v5 v6 0 M
    else
      q218 v5 M
def f_M_torn (R : xR) (l0 : Nat) (l1 : Int) (l2 : Int) (l3 : Int) (l4 : Int) (M : xM) : Option (Int × xM) :=
  xb1 (f_M_isTray l1) fun r_1 =>
  if r_1 = 0 then
    xb2 (f_M_refuse l0 1 M) fun r_4 M_5 =>
    some (r_4, M_5)
  else
    xb1 (f_M_isHour l2) fun r_7 =>
    if r_7 = 0 then
      xb2 (f_M_refuse l0 1 M) fun r_10 M_11 =>
      some (r_10, M_11)
    else
      if l3 < 1 then
        xb2 (f_M_refuse l0 1 M) fun r_14 M_15 =>
        some (r_14, M_15)
      else
        if 24 < l3 then
          xb2 (f_M_refuse l0 1 M) fun r_18 M_19 =>
          some (r_18, M_19)
        else
          if 48 < w32 (l2 + l3) then
            xb2 (f_M_refuse l0 1 M) fun r_22 M_23 =>
            some (r_22, M_23)
          else
            if l4 < 0 then
              xb2 (f_M_refuse l0 1 M) fun r_26 M_27 =>
              some (r_26, M_27)
            else
              if 1000 < l4 then
                xb2 (f_M_refuse l0 1 M) fun r_30 M_31 =>
                some (r_30, M_31)
              else
                xch (0 ≤ l1 ∧ l1 < 4) <|
                if M (R l0 2) (Int.toNat l1) = -1 then
                  xb2 (f_M_refuse l0 2 M) fun r_35 M_36 =>
                  some (r_35, M_36)
                else
                  if M (R l0 2) (Int.toNat l1) < l3 then
                    xb2 (f_M_refuse l0 3 M) fun r_39 M_40 =>
                    some (r_39, M_40)
                  else
                    M_torn_F90 R l0 l1 l2 l3 l4
                      (fun (v5_70 : Int) (M_71 : xM) =>
                        xl (xu M_71 l0 74 (-1)) fun M_72 =>
                        xl (xu M_72 l0 90 v5_70) fun M_73 =>
                        xb2 (f_M_gives l0 v5_70 M_73) fun r_74 M_75 =>
                        some (r_74, M_75))
                      xfu 0 0 M
set_option maxRecDepth 100000 in
set_option maxHeartbeats 4000000 in
theorem s_M_torn {d : Nat} {sc : List Int} {z z' : xS} {out : xO} (qs : List xI) {cs : List Prop} (hq : qs.all (xqb 10 false y_M_torn.2.2.1 y_M_torn.2.1) = true) (h : xN false sc qs z = some (z', cs)) (hc : xAll cs) (hE : z'.2.2.2.2.2 ≤ 174) (k : XR false d 174 sc y_M_torn z' out) : XR false d 174 sc y_M_torn z out := XR.seg 10 false rfl (fun q => by cases q) qs hq h hc hE k
set_option maxRecDepth 100000 in
set_option maxHeartbeats 4000000 in
theorem o_M_torn_J200 {sc : List Int} {R : xR}   {l0 : Nat} {l1 : Int} {l2 : Int} {l3 : Int} {l4 : Int}  {rc : Int → Int → Int → Int → xM → Option (Int × xM)} {q206 : Int → Int → Int → xM → Option (Int × xM)} (hrc : ∀ (w5 : Int) (w6 : Int) (w7 : Int) (w8 : Int) (M : xM) (out : Int × xM), rc w5 w6 w7 w8 M = some out → XR false 4 174 sc y_M_torn (125, [(0, (vR 10 l0)), (1, (vI l1)), (2, (vI l2)), (3, (vI l3)), (4, (vI l4)), (5, (vI w5)), (6, (vI w6)), (7, (vI w7)), (8, (vI w8))], [], R, M, 174) ((some (vI out.1)), R, out.2)) (hq206 : ∀ (w5 : Int) (w6 : Int) (w7 : Int) (M : xM) (out : Int × xM), q206 w5 w6 w7 M = some out → XR false 4 174 sc y_M_torn (206, [(0, (vR 10 l0)), (1, (vI l1)), (2, (vI l2)), (3, (vI l3)), (4, (vI l4)), (5, (vI w5)), (6, (vI w6)), (7, (vI w7))], [], R, M, 174) ((some (vI out.1)), R, out.2)) {v5 : Int} {v6 : Int} {v7 : Int} {v8 : Int} {M : xM} {out : Int × xM} (h : M_torn_J200 R l0 l1 l2 l3 l4 rc q206 v5 v6 v7 v8 M = some out) : XR false 4 174 sc y_M_torn (200, [(0, (vR 10 l0)), (1, (vI l1)), (2, (vI l2)), (3, (vI l3)), (4, (vI l4)), (5, (vI v5)), (6, (vI v6)), (7, (vI v7)), (8, (vI v8))], [], R, M, 174) ((some (vI out.1)), R, out.2) := by
  unfold M_torn_J200 at h
  obtain ⟨v8_55, hv8_55, h⟩ := xl_ex h
  refine s_M_torn [(200, .iinc 8 10, 0, 0), (203, .goto (-78), 0, 125)] (by decide +kernel) (z' := (125, [(8, (vI v8_55)), (0, (vR 10 l0)), (1, (vI l1)), (2, (vI l2)), (3, (vI l3)), (4, (vI l4)), (5, (vI v5)), (6, (vI v6)), (7, (vI v7))], [], R, M, 174)) (cs := []) (by subst hv8_55; rfl) trivial (Nat.le_refl _) ?_
  refine XR.pick [1, 2, 3, 4, 5, 6, 7, 8, 0] (ls' := [(0, (vR 10 l0)), (1, (vI l1)), (2, (vI l2)), (3, (vI l3)), (4, (vI l4)), (5, (vI v5)), (6, (vI v6)), (7, (vI v7)), (8, (vI v8_55))]) rfl ?_
  exact hrc v5 v6 v7 v8_55 M _ h
set_option maxRecDepth 100000 in
set_option maxHeartbeats 4000000 in
theorem o_M_torn_J197 {sc : List Int} {R : xR}   {l0 : Nat} {l1 : Int} {l2 : Int} {l3 : Int} {l4 : Int}  {rc : Int → Int → Int → Int → xM → Option (Int × xM)} {q206 : Int → Int → Int → xM → Option (Int × xM)} (hrc : ∀ (w5 : Int) (w6 : Int) (w7 : Int) (w8 : Int) (M : xM) (out : Int × xM), rc w5 w6 w7 w8 M = some out → XR false 4 174 sc y_M_torn (125, [(0, (vR 10 l0)), (1, (vI l1)), (2, (vI l2)), (3, (vI l3)), (4, (vI l4)), (5, (vI w5)), (6, (vI w6)), (7, (vI w7)), (8, (vI w8))], [], R, M, 174) ((some (vI out.1)), R, out.2)) (hq206 : ∀ (w5 : Int) (w6 : Int) (w7 : Int) (M : xM) (out : Int × xM), q206 w5 w6 w7 M = some out → XR false 4 174 sc y_M_torn (206, [(0, (vR 10 l0)), (1, (vI l1)), (2, (vI l2)), (3, (vI l3)), (4, (vI l4)), (5, (vI w5)), (6, (vI w6)), (7, (vI w7))], [], R, M, 174) ((some (vI out.1)), R, out.2)) {v5 : Int} {v6 : Int} {v7 : Int} {v8 : Int} {M : xM} {out : Int × xM} (h : M_torn_J197 R l0 l1 l2 l3 l4 rc q206 v5 v6 v7 v8 M = some out) : XR false 4 174 sc y_M_torn (197, [(0, (vR 10 l0)), (1, (vI l1)), (2, (vI l2)), (3, (vI l3)), (4, (vI l4)), (5, (vI v5)), (6, (vI v6)), (7, (vI v7)), (8, (vI v8))], [], R, M, 174) ((some (vI out.1)), R, out.2) := by
  unfold M_torn_J197 at h
  obtain ⟨v5_60, hv5_60, h⟩ := xl_ex h
  refine s_M_torn [(197, .iinc 5 1, 0, 0)] (by decide +kernel) (z' := (200, [(5, (vI v5_60)), (0, (vR 10 l0)), (1, (vI l1)), (2, (vI l2)), (3, (vI l3)), (4, (vI l4)), (6, (vI v6)), (7, (vI v7)), (8, (vI v8))], [], R, M, 174)) (cs := []) (by subst hv5_60; rfl) trivial (Nat.le_refl _) ?_
  refine XR.pick [1, 2, 3, 4, 5, 0, 6, 7, 8] (ls' := [(0, (vR 10 l0)), (1, (vI l1)), (2, (vI l2)), (3, (vI l3)), (4, (vI l4)), (5, (vI v5_60)), (6, (vI v6)), (7, (vI v7)), (8, (vI v8))]) rfl ?_
  exact o_M_torn_J200 hrc hq206 h
set_option maxRecDepth 100000 in
set_option maxHeartbeats 4000000 in
theorem o_M_torn_F125 {sc : List Int} {R : xR}   {l0 : Nat} {l1 : Int} {l2 : Int} {l3 : Int} {l4 : Int}  {q206 : Int → Int → Int → xM → Option (Int × xM)} (hq206 : ∀ (w5 : Int) (w6 : Int) (w7 : Int) (M : xM) (out : Int × xM), q206 w5 w6 w7 M = some out → XR false 4 174 sc y_M_torn (206, [(0, (vR 10 l0)), (1, (vI l1)), (2, (vI l2)), (3, (vI l3)), (4, (vI l4)), (5, (vI w5)), (6, (vI w6)), (7, (vI w7))], [], R, M, 174) ((some (vI out.1)), R, out.2)) : ∀ (n : Nat) (v5 : Int) (v6 : Int) (v7 : Int) (v8 : Int) (M : xM) (out : Int × xM), M_torn_F125 R l0 l1 l2 l3 l4 q206 n v5 v6 v7 v8 M = some out → XR false 4 174 sc y_M_torn (125, [(0, (vR 10 l0)), (1, (vI l1)), (2, (vI l2)), (3, (vI l3)), (4, (vI l4)), (5, (vI v5)), (6, (vI v6)), (7, (vI v7)), (8, (vI v8))], [], R, M, 174) ((some (vI out.1)), R, out.2) := by
  intro n
  induction n with
  | zero => intro v5 v6 v7 v8 M out h; exact (xno h).elim
  | succ n ih =>
    intro v5 v6 v7 v8 M out h
    rw [M_torn_F125] at h
    refine s_M_torn [(125, .iload 8, 0, 0), (127, .bipush 100, 0, 100)] (by decide +kernel) (z' := (129, [(0, (vR 10 l0)), (1, (vI l1)), (2, (vI l2)), (3, (vI l3)), (4, (vI l4)), (5, (vI v5)), (6, (vI v6)), (7, (vI v7)), (8, (vI v8))], [(vI 100), (vI v8)], R, M, 174)) (cs := []) (by rfl) trivial (Nat.le_refl _) ?_
    rcases xif_ex h with ⟨c_46, h⟩ | ⟨c_46, h⟩
    · skip
      refine s_M_torn [(129, .if_icmp .gt 77, 0, 206)] (by decide +kernel) (z' := (206, [(0, (vR 10 l0)), (1, (vI l1)), (2, (vI l2)), (3, (vI l3)), (4, (vI l4)), (5, (vI v5)), (6, (vI v6)), (7, (vI v7)), (8, (vI v8))], [], R, M, 174)) (cs := [100 < v8]) (by rfl) ⟨c_46, trivial⟩ (Nat.le_refl _) ?_
      refine XR.pick [0, 1, 2, 3, 4, 5, 6, 7] (ls' := [(0, (vR 10 l0)), (1, (vI l1)), (2, (vI l2)), (3, (vI l3)), (4, (vI l4)), (5, (vI v5)), (6, (vI v6)), (7, (vI v7))]) rfl ?_
      exact hq206 v5 v6 v7 M _ h
    · skip
      obtain ⟨M_47, hM_47, h⟩ := xl_ex h
      obtain ⟨M_48, hM_48, h⟩ := xl_ex h
      obtain ⟨M_49, hM_49, h⟩ := xl_ex h
      refine s_M_torn [(129, .if_icmp .gt 77, 0, (-1)), (132, .aload_n 0, 0, 0), (133, .iload 6, 0, 0), (135, .putfield 172, 10, 74), (138, .aload_n 0, 0, 0), (139, .iload 7, 0, 0), (141, .putfield 458, 10, 75), (144, .aload_n 0, 0, 0), (145, .iload 8, 0, 0), (147, .putfield 461, 10, 76), (150, .aload_n 0, 0, 0), (151, .iload_n 2, 0, 0), (152, .iload_n 3, 0, 0), (153, .iadd, 0, 0), (154, .iconst 1, 0, 1), (155, .isub, 0, 0)] (by decide +kernel) (z' := (156, [(0, (vR 10 l0)), (1, (vI l1)), (2, (vI l2)), (3, (vI l3)), (4, (vI l4)), (5, (vI v5)), (6, (vI v6)), (7, (vI v7)), (8, (vI v8))], [(vI (w32 ((w32 (l2 + l3)) - 1))), (vR 10 l0)], R, M_49, 174)) (cs := [¬ (100 < v8)]) (by subst hM_47; subst hM_48; subst hM_49; rfl) ⟨c_46, trivial⟩ (Nat.le_refl _) ?_
      obtain ⟨M_50, e_51, h⟩ := xb1_ex h
      refine XR.callV 10 rfl (rest := []) m_M_steps k_10_498 10 l0 (Or.inl ⟨by decide, rfl⟩) [(vI (w32 ((w32 (l2 + l3)) - 1)))] rfl rfl (c_M_steps e_51) (by decide) (Nat.le_of_ble_eq_true rfl) (by decide +kernel) (Nat.le_refl _) (Nat.le_refl _) ?_
      show XR false 4 174 sc y_M_torn (159, [(0, (vR 10 l0)), (1, (vI l1)), (2, (vI l2)), (3, (vI l3)), (4, (vI l4)), (5, (vI v5)), (6, (vI v6)), (7, (vI v7)), (8, (vI v8))], [], R, M_50, 174) _
      refine s_M_torn [(159, .aload_n 0, 0, 0), (160, .iload_n 1, 0, 0), (161, .iload_n 2, 0, 0), (162, .iload_n 3, 0, 0), (163, .iload 4, 0, 0)] (by decide +kernel) (z' := (165, [(0, (vR 10 l0)), (1, (vI l1)), (2, (vI l2)), (3, (vI l3)), (4, (vI l4)), (5, (vI v5)), (6, (vI v6)), (7, (vI v7)), (8, (vI v8))], [(vI l4), (vI l3), (vI l2), (vI l1), (vR 10 l0)], R, M_50, 174)) (cs := []) (by rfl) trivial (Nat.le_refl _) ?_
      obtain ⟨r_52, e_53, h⟩ := xb1_ex h
      refine XR.callV 10 rfl (rest := []) m_M_explains k_10_511 10 l0 (Or.inl ⟨by decide, rfl⟩) [(vI l1), (vI l2), (vI l3), (vI l4)] rfl rfl (c_M_explains e_53) (by decide) (Nat.le_of_ble_eq_true rfl) (by decide +kernel) (Nat.le_refl _) (Nat.le_refl _) ?_
      show XR false 4 174 sc y_M_torn (168, [(0, (vR 10 l0)), (1, (vI l1)), (2, (vI l2)), (3, (vI l3)), (4, (vI l4)), (5, (vI v5)), (6, (vI v6)), (7, (vI v7)), (8, (vI v8))], [(vI r_52)], R, M_50, 174) _
      rcases xif_ex h with ⟨c_54, h⟩ | ⟨c_54, h⟩
      · skip
        refine s_M_torn [(168, .ifCond .ne 6, 0, (-1)), (171, .goto 29, 0, 200)] (by decide +kernel) (z' := (200, [(0, (vR 10 l0)), (1, (vI l1)), (2, (vI l2)), (3, (vI l3)), (4, (vI l4)), (5, (vI v5)), (6, (vI v6)), (7, (vI v7)), (8, (vI v8))], [], R, M_50, 174)) (cs := [¬ (r_52 ≠ 0)]) (by rfl) ⟨fun q => q c_54, trivial⟩ (Nat.le_refl _) ?_
        exact o_M_torn_J200 ih hq206 h
      · skip
        refine s_M_torn [(168, .ifCond .ne 6, 0, 174), (174, .iload 5, 0, 0)] (by decide +kernel) (z' := (176, [(0, (vR 10 l0)), (1, (vI l1)), (2, (vI l2)), (3, (vI l3)), (4, (vI l4)), (5, (vI v5)), (6, (vI v6)), (7, (vI v7)), (8, (vI v8))], [(vI v5)], R, M_50, 174)) (cs := [r_52 ≠ 0]) (by rfl) ⟨c_54, trivial⟩ (Nat.le_refl _) ?_
        rcases xif_ex h with ⟨c_56, h⟩ | ⟨c_56, h⟩
        · skip
          obtain ⟨M_57, hM_57, h⟩ := xl_ex h
          obtain ⟨M_58, hM_58, h⟩ := xl_ex h
          obtain ⟨M_59, hM_59, h⟩ := xl_ex h
          refine s_M_torn [(176, .ifCond .ne 21, 0, (-1)), (179, .aload_n 0, 0, 0), (180, .iload 6, 0, 0), (182, .putfield 515, 10, 91), (185, .aload_n 0, 0, 0), (186, .iload 7, 0, 0), (188, .putfield 518, 10, 92), (191, .aload_n 0, 0, 0), (192, .iload 8, 0, 0), (194, .putfield 521, 10, 93)] (by decide +kernel) (z' := (197, [(0, (vR 10 l0)), (1, (vI l1)), (2, (vI l2)), (3, (vI l3)), (4, (vI l4)), (5, (vI v5)), (6, (vI v6)), (7, (vI v7)), (8, (vI v8))], [], R, M_59, 174)) (cs := [¬ (v5 ≠ 0)]) (by subst hM_57; subst hM_58; subst hM_59; rfl) ⟨fun q => q c_56, trivial⟩ (Nat.le_refl _) ?_
          exact o_M_torn_J197 ih hq206 h
        · skip
          refine s_M_torn [(176, .ifCond .ne 21, 0, 197)] (by decide +kernel) (z' := (197, [(0, (vR 10 l0)), (1, (vI l1)), (2, (vI l2)), (3, (vI l3)), (4, (vI l4)), (5, (vI v5)), (6, (vI v6)), (7, (vI v7)), (8, (vI v8))], [], R, M_50, 174)) (cs := [v5 ≠ 0]) (by rfl) ⟨c_56, trivial⟩ (Nat.le_refl _) ?_
          exact o_M_torn_J197 ih hq206 h
set_option maxRecDepth 100000 in
set_option maxHeartbeats 4000000 in
theorem o_M_torn_F102 {sc : List Int} {R : xR}   {l0 : Nat} {l1 : Int} {l2 : Int} {l3 : Int} {l4 : Int}  {q212 : Int → Int → xM → Option (Int × xM)} (hq212 : ∀ (w5 : Int) (w6 : Int) (M : xM) (out : Int × xM), q212 w5 w6 M = some out → XR false 4 174 sc y_M_torn (212, [(0, (vR 10 l0)), (1, (vI l1)), (2, (vI l2)), (3, (vI l3)), (4, (vI l4)), (5, (vI w5)), (6, (vI w6))], [], R, M, 174) ((some (vI out.1)), R, out.2)) : ∀ (n : Nat) (v5 : Int) (v6 : Int) (v7 : Int) (M : xM) (out : Int × xM), M_torn_F102 R l0 l1 l2 l3 l4 q212 n v5 v6 v7 M = some out → XR false 4 174 sc y_M_torn (102, [(0, (vR 10 l0)), (1, (vI l1)), (2, (vI l2)), (3, (vI l3)), (4, (vI l4)), (5, (vI v5)), (6, (vI v6)), (7, (vI v7))], [], R, M, 174) ((some (vI out.1)), R, out.2) := by
  intro n
  induction n with
  | zero => intro v5 v6 v7 M out h; exact (xno h).elim
  | succ n ih =>
    intro v5 v6 v7 M out h
    rw [M_torn_F102] at h
    refine s_M_torn [(102, .iload 7, 0, 0), (104, .iload_n 2, 0, 0), (105, .iload_n 3, 0, 0), (106, .iadd, 0, 0)] (by decide +kernel) (z' := (107, [(0, (vR 10 l0)), (1, (vI l1)), (2, (vI l2)), (3, (vI l3)), (4, (vI l4)), (5, (vI v5)), (6, (vI v6)), (7, (vI v7))], [(vI (w32 (l2 + l3))), (vI v7)], R, M, 174)) (cs := []) (by rfl) trivial (Nat.le_refl _) ?_
    rcases xif_ex h with ⟨c_43, h⟩ | ⟨c_43, h⟩
    · skip
      obtain ⟨c_44, h⟩ := xch_ex h
      refine s_M_torn [(107, .if_icmp .ge 105, 0, (-1)), (110, .aload_n 0, 0, 0), (111, .getfield 67, 10, 32), (114, .iload 6, 0, 0), (116, .iaload, 0, 0), (117, .iconst 2, 0, 2)] (by decide +kernel) (z' := (118, [(0, (vR 10 l0)), (1, (vI l1)), (2, (vI l2)), (3, (vI l3)), (4, (vI l4)), (5, (vI v5)), (6, (vI v6)), (7, (vI v7))], [(vI 2), (vI (M (R l0 32) (Int.toNat v6)))], R, M, 174)) (cs := [¬ (w32 (l2 + l3) ≤ v7), xar 30 0, xidx v6 (xan 30)]) (by rfl) ⟨Int.not_le.mpr c_43, xar_30, xix_30 c_44, trivial⟩ (Nat.le_refl _) ?_
      rcases xif_ex h with ⟨c_45, h⟩ | ⟨c_45, h⟩
      · skip
        refine s_M_torn [(118, .if_icmp .ne 94, 0, (-1)), (121, .bipush 10, 0, 10), (123, .istore 8, 0, 0)] (by decide +kernel) (z' := (125, [(8, (vI 10)), (0, (vR 10 l0)), (1, (vI l1)), (2, (vI l2)), (3, (vI l3)), (4, (vI l4)), (5, (vI v5)), (6, (vI v6)), (7, (vI v7))], [], R, M, 174)) (cs := [¬ (M (R l0 32) (Int.toNat v6) ≠ 2)]) (by rfl) ⟨fun q => q c_45, trivial⟩ (Nat.le_refl _) ?_
        refine XR.pick [1, 2, 3, 4, 5, 6, 7, 8, 0] (ls' := [(0, (vR 10 l0)), (1, (vI l1)), (2, (vI l2)), (3, (vI l3)), (4, (vI l4)), (5, (vI v5)), (6, (vI v6)), (7, (vI v7)), (8, (vI 10))]) rfl ?_
        refine o_M_torn_F125 ?_ xfu v5 v6 v7 10 M _ h
        · intro v5_61 v6_62 v7_63 M_64 out h
          obtain ⟨v7_65, hv7_65, h⟩ := xl_ex h
          refine s_M_torn [(206, .iinc 7 1, 0, 0), (209, .goto (-107), 0, 102)] (by decide +kernel) (z' := (102, [(7, (vI v7_65)), (0, (vR 10 l0)), (1, (vI l1)), (2, (vI l2)), (3, (vI l3)), (4, (vI l4)), (5, (vI v5_61)), (6, (vI v6_62))], [], R, M_64, 174)) (cs := []) (by subst hv7_65; rfl) trivial (Nat.le_refl _) ?_
          refine XR.pick [1, 2, 3, 4, 5, 6, 7, 0] (ls' := [(0, (vR 10 l0)), (1, (vI l1)), (2, (vI l2)), (3, (vI l3)), (4, (vI l4)), (5, (vI v5_61)), (6, (vI v6_62)), (7, (vI v7_65))]) rfl ?_
          exact ih v5_61 v6_62 v7_65 M_64 _ h
      · skip
        refine s_M_torn [(118, .if_icmp .ne 94, 0, 212)] (by decide +kernel) (z' := (212, [(0, (vR 10 l0)), (1, (vI l1)), (2, (vI l2)), (3, (vI l3)), (4, (vI l4)), (5, (vI v5)), (6, (vI v6)), (7, (vI v7))], [], R, M, 174)) (cs := [M (R l0 32) (Int.toNat v6) ≠ 2]) (by rfl) ⟨c_45, trivial⟩ (Nat.le_refl _) ?_
        refine XR.pick [0, 1, 2, 3, 4, 5, 6] (ls' := [(0, (vR 10 l0)), (1, (vI l1)), (2, (vI l2)), (3, (vI l3)), (4, (vI l4)), (5, (vI v5)), (6, (vI v6))]) rfl ?_
        exact hq212 v5 v6 M _ h
    · skip
      refine s_M_torn [(107, .if_icmp .ge 105, 0, 212)] (by decide +kernel) (z' := (212, [(0, (vR 10 l0)), (1, (vI l1)), (2, (vI l2)), (3, (vI l3)), (4, (vI l4)), (5, (vI v5)), (6, (vI v6)), (7, (vI v7))], [], R, M, 174)) (cs := [w32 (l2 + l3) ≤ v7]) (by rfl) ⟨Int.not_lt.mp c_43, trivial⟩ (Nat.le_refl _) ?_
      refine XR.pick [0, 1, 2, 3, 4, 5, 6] (ls' := [(0, (vR 10 l0)), (1, (vI l1)), (2, (vI l2)), (3, (vI l3)), (4, (vI l4)), (5, (vI v5)), (6, (vI v6))]) rfl ?_
      exact hq212 v5 v6 M _ h
set_option maxRecDepth 100000 in
set_option maxHeartbeats 4000000 in
theorem o_M_torn_J212 {sc : List Int} {R : xR}   {l0 : Nat} {l1 : Int} {l2 : Int} {l3 : Int} {l4 : Int}  {rc : Int → Int → xM → Option (Int × xM)} {q218 : Int → xM → Option (Int × xM)} (hrc : ∀ (w5 : Int) (w6 : Int) (M : xM) (out : Int × xM), rc w5 w6 M = some out → XR false 4 174 sc y_M_torn (90, [(0, (vR 10 l0)), (1, (vI l1)), (2, (vI l2)), (3, (vI l3)), (4, (vI l4)), (5, (vI w5)), (6, (vI w6))], [], R, M, 174) ((some (vI out.1)), R, out.2)) (hq218 : ∀ (w5 : Int) (M : xM) (out : Int × xM), q218 w5 M = some out → XR false 4 174 sc y_M_torn (218, [(0, (vR 10 l0)), (5, (vI w5))], [], R, M, 174) ((some (vI out.1)), R, out.2)) {v5 : Int} {v6 : Int} {M : xM} {out : Int × xM} (h : M_torn_J212 R l0 l1 l2 l3 l4 rc q218 v5 v6 M = some out) : XR false 4 174 sc y_M_torn (212, [(0, (vR 10 l0)), (1, (vI l1)), (2, (vI l2)), (3, (vI l3)), (4, (vI l4)), (5, (vI v5)), (6, (vI v6))], [], R, M, 174) ((some (vI out.1)), R, out.2) := by
  unfold M_torn_J212 at h
  obtain ⟨v6_69, hv6_69, h⟩ := xl_ex h
  refine s_M_torn [(212, .iinc 6 1, 0, 0), (215, .goto (-125), 0, 90)] (by decide +kernel) (z' := (90, [(6, (vI v6_69)), (0, (vR 10 l0)), (1, (vI l1)), (2, (vI l2)), (3, (vI l3)), (4, (vI l4)), (5, (vI v5))], [], R, M, 174)) (cs := []) (by subst hv6_69; rfl) trivial (Nat.le_refl _) ?_
  refine XR.pick [1, 2, 3, 4, 5, 6, 0] (ls' := [(0, (vR 10 l0)), (1, (vI l1)), (2, (vI l2)), (3, (vI l3)), (4, (vI l4)), (5, (vI v5)), (6, (vI v6_69))]) rfl ?_
  exact hrc v5 v6_69 M _ h
set_option maxRecDepth 100000 in
set_option maxHeartbeats 4000000 in
theorem o_M_torn_F90 {sc : List Int} {R : xR}   {l0 : Nat} {l1 : Int} {l2 : Int} {l3 : Int} {l4 : Int}  {q218 : Int → xM → Option (Int × xM)} (hq218 : ∀ (w5 : Int) (M : xM) (out : Int × xM), q218 w5 M = some out → XR false 4 174 sc y_M_torn (218, [(0, (vR 10 l0)), (5, (vI w5))], [], R, M, 174) ((some (vI out.1)), R, out.2)) : ∀ (n : Nat) (v5 : Int) (v6 : Int) (M : xM) (out : Int × xM), M_torn_F90 R l0 l1 l2 l3 l4 q218 n v5 v6 M = some out → XR false 4 174 sc y_M_torn (90, [(0, (vR 10 l0)), (1, (vI l1)), (2, (vI l2)), (3, (vI l3)), (4, (vI l4)), (5, (vI v5)), (6, (vI v6))], [], R, M, 174) ((some (vI out.1)), R, out.2) := by
  intro n
  induction n with
  | zero => intro v5 v6 M out h; exact (xno h).elim
  | succ n ih =>
    intro v5 v6 M out h
    rw [M_torn_F90] at h
    refine s_M_torn [(90, .iload 6, 0, 0), (92, .aload_n 0, 0, 0), (93, .getfield 393, 10, 30)] (by decide +kernel) (z' := (96, [(0, (vR 10 l0)), (1, (vI l1)), (2, (vI l2)), (3, (vI l3)), (4, (vI l4)), (5, (vI v5)), (6, (vI v6))], [(vI (M l0 30)), (vI v6)], R, M, 174)) (cs := []) (by rfl) trivial (Nat.le_refl _) ?_
    rcases xif_ex h with ⟨c_42, h⟩ | ⟨c_42, h⟩
    · skip
      refine s_M_torn [(96, .if_icmp .ge 122, 0, (-1)), (99, .iconst 0, 0, 0), (100, .istore 7, 0, 0)] (by decide +kernel) (z' := (102, [(7, (vI 0)), (0, (vR 10 l0)), (1, (vI l1)), (2, (vI l2)), (3, (vI l3)), (4, (vI l4)), (5, (vI v5)), (6, (vI v6))], [], R, M, 174)) (cs := [¬ (M l0 30 ≤ v6)]) (by rfl) ⟨Int.not_le.mpr c_42, trivial⟩ (Nat.le_refl _) ?_
      refine XR.pick [1, 2, 3, 4, 5, 6, 7, 0] (ls' := [(0, (vR 10 l0)), (1, (vI l1)), (2, (vI l2)), (3, (vI l3)), (4, (vI l4)), (5, (vI v5)), (6, (vI v6)), (7, (vI 0))]) rfl ?_
      refine o_M_torn_F102 ?_ xfu v5 v6 0 M _ h
      · intro v5_66 v6_67 M_68 out h
        exact o_M_torn_J212 ih hq218 h
    · skip
      refine s_M_torn [(96, .if_icmp .ge 122, 0, 218)] (by decide +kernel) (z' := (218, [(0, (vR 10 l0)), (1, (vI l1)), (2, (vI l2)), (3, (vI l3)), (4, (vI l4)), (5, (vI v5)), (6, (vI v6))], [], R, M, 174)) (cs := [M l0 30 ≤ v6]) (by rfl) ⟨Int.not_lt.mp c_42, trivial⟩ (Nat.le_refl _) ?_
      refine XR.pick [0, 5] (ls' := [(0, (vR 10 l0)), (5, (vI v5))]) rfl ?_
      exact hq218 v5 M _ h
set_option maxRecDepth 100000 in
set_option maxHeartbeats 4000000 in
theorem o_M_torn {sc : List Int} {R : xR} {M : xM} {l0 : Nat} {l1 : Int} {l2 : Int} {l3 : Int} {l4 : Int} {out : Int × xM} (h : f_M_torn R l0 l1 l2 l3 l4 M = some out) : XR false 4 174 sc y_M_torn (0, [(0, (vR 10 l0)), (1, (vI l1)), (2, (vI l2)), (3, (vI l3)), (4, (vI l4))], [], R, M, 174) ((some (vI out.1)), R, out.2) := by
  unfold f_M_torn at h
  refine s_M_torn [(0, .iload_n 1, 0, 0)] (by decide +kernel) (z' := (1, [(0, (vR 10 l0)), (1, (vI l1)), (2, (vI l2)), (3, (vI l3)), (4, (vI l4))], [(vI l1)], R, M, 174)) (cs := []) (by rfl) trivial (Nat.le_refl _) ?_
  obtain ⟨r_1, e_2, h⟩ := xb1_ex h
  refine XR.callS 10 rfl (rest := []) m_M_isTray k_10_250 [(vI l1)] rfl rfl (c_M_isTray e_2) (by decide) (Nat.le_of_ble_eq_true rfl) (by decide +kernel) (Nat.le_refl _) (Nat.le_refl _) ?_
  show XR false 4 174 sc y_M_torn (4, [(0, (vR 10 l0)), (1, (vI l1)), (2, (vI l2)), (3, (vI l3)), (4, (vI l4))], [(vI r_1)], R, M, 174) _
  rcases xif_ex h with ⟨c_3, h⟩ | ⟨c_3, h⟩
  · skip
    refine s_M_torn [(4, .ifCond .eq 42, 0, 46), (46, .aload_n 0, 0, 0), (47, .iconst 1, 0, 1)] (by decide +kernel) (z' := (48, [(0, (vR 10 l0)), (1, (vI l1)), (2, (vI l2)), (3, (vI l3)), (4, (vI l4))], [(vI 1), (vR 10 l0)], R, M, 174)) (cs := [r_1 = 0]) (by rfl) ⟨c_3, trivial⟩ (Nat.le_refl _) ?_
    obtain ⟨r_4, M_5, e_6, h⟩ := xb2_ex h
    refine XR.callV 10 rfl (rest := []) m_M_refuse k_10_377 10 l0 (Or.inl ⟨by decide, rfl⟩) [(vI 1)] rfl rfl (c_M_refuse e_6) (by decide) (Nat.le_of_ble_eq_true rfl) (by decide +kernel) (Nat.le_refl _) (Nat.le_refl _) ?_
    show XR false 4 174 sc y_M_torn (51, [(0, (vR 10 l0)), (1, (vI l1)), (2, (vI l2)), (3, (vI l3)), (4, (vI l4))], [(vI r_4)], R, M_5, 174) _
    obtain rfl := Option.some.inj h
    exact XR.retI .int rfl rfl (by decide +kernel)
  · skip
    refine s_M_torn [(4, .ifCond .eq 42, 0, (-1)), (7, .iload_n 2, 0, 0)] (by decide +kernel) (z' := (8, [(0, (vR 10 l0)), (1, (vI l1)), (2, (vI l2)), (3, (vI l3)), (4, (vI l4))], [(vI l2)], R, M, 174)) (cs := [¬ (r_1 = 0)]) (by rfl) ⟨c_3, trivial⟩ (Nat.le_refl _) ?_
    obtain ⟨r_7, e_8, h⟩ := xb1_ex h
    refine XR.callS 10 rfl (rest := []) m_M_isHour k_10_436 [(vI l2)] rfl rfl (c_M_isHour e_8) (by decide) (Nat.le_of_ble_eq_true rfl) (by decide +kernel) (Nat.le_refl _) (Nat.le_refl _) ?_
    show XR false 4 174 sc y_M_torn (11, [(0, (vR 10 l0)), (1, (vI l1)), (2, (vI l2)), (3, (vI l3)), (4, (vI l4))], [(vI r_7)], R, M, 174) _
    rcases xif_ex h with ⟨c_9, h⟩ | ⟨c_9, h⟩
    · skip
      refine s_M_torn [(11, .ifCond .eq 35, 0, 46), (46, .aload_n 0, 0, 0), (47, .iconst 1, 0, 1)] (by decide +kernel) (z' := (48, [(0, (vR 10 l0)), (1, (vI l1)), (2, (vI l2)), (3, (vI l3)), (4, (vI l4))], [(vI 1), (vR 10 l0)], R, M, 174)) (cs := [r_7 = 0]) (by rfl) ⟨c_9, trivial⟩ (Nat.le_refl _) ?_
      obtain ⟨r_10, M_11, e_12, h⟩ := xb2_ex h
      refine XR.callV 10 rfl (rest := []) m_M_refuse k_10_377 10 l0 (Or.inl ⟨by decide, rfl⟩) [(vI 1)] rfl rfl (c_M_refuse e_12) (by decide) (Nat.le_of_ble_eq_true rfl) (by decide +kernel) (Nat.le_refl _) (Nat.le_refl _) ?_
      show XR false 4 174 sc y_M_torn (51, [(0, (vR 10 l0)), (1, (vI l1)), (2, (vI l2)), (3, (vI l3)), (4, (vI l4))], [(vI r_10)], R, M_11, 174) _
      obtain rfl := Option.some.inj h
      exact XR.retI .int rfl rfl (by decide +kernel)
    · skip
      refine s_M_torn [(11, .ifCond .eq 35, 0, (-1)), (14, .iload_n 3, 0, 0), (15, .iconst 1, 0, 1)] (by decide +kernel) (z' := (16, [(0, (vR 10 l0)), (1, (vI l1)), (2, (vI l2)), (3, (vI l3)), (4, (vI l4))], [(vI 1), (vI l3)], R, M, 174)) (cs := [¬ (r_7 = 0)]) (by rfl) ⟨c_9, trivial⟩ (Nat.le_refl _) ?_
      rcases xif_ex h with ⟨c_13, h⟩ | ⟨c_13, h⟩
      · skip
        refine s_M_torn [(16, .if_icmp .lt 30, 0, 46), (46, .aload_n 0, 0, 0), (47, .iconst 1, 0, 1)] (by decide +kernel) (z' := (48, [(0, (vR 10 l0)), (1, (vI l1)), (2, (vI l2)), (3, (vI l3)), (4, (vI l4))], [(vI 1), (vR 10 l0)], R, M, 174)) (cs := [l3 < 1]) (by rfl) ⟨c_13, trivial⟩ (Nat.le_refl _) ?_
        obtain ⟨r_14, M_15, e_16, h⟩ := xb2_ex h
        refine XR.callV 10 rfl (rest := []) m_M_refuse k_10_377 10 l0 (Or.inl ⟨by decide, rfl⟩) [(vI 1)] rfl rfl (c_M_refuse e_16) (by decide) (Nat.le_of_ble_eq_true rfl) (by decide +kernel) (Nat.le_refl _) (Nat.le_refl _) ?_
        show XR false 4 174 sc y_M_torn (51, [(0, (vR 10 l0)), (1, (vI l1)), (2, (vI l2)), (3, (vI l3)), (4, (vI l4))], [(vI r_14)], R, M_15, 174) _
        obtain rfl := Option.some.inj h
        exact XR.retI .int rfl rfl (by decide +kernel)
      · skip
        refine s_M_torn [(16, .if_icmp .lt 30, 0, (-1)), (19, .iload_n 3, 0, 0), (20, .bipush 24, 0, 24)] (by decide +kernel) (z' := (22, [(0, (vR 10 l0)), (1, (vI l1)), (2, (vI l2)), (3, (vI l3)), (4, (vI l4))], [(vI 24), (vI l3)], R, M, 174)) (cs := [¬ (l3 < 1)]) (by rfl) ⟨c_13, trivial⟩ (Nat.le_refl _) ?_
        rcases xif_ex h with ⟨c_17, h⟩ | ⟨c_17, h⟩
        · skip
          refine s_M_torn [(22, .if_icmp .gt 24, 0, 46), (46, .aload_n 0, 0, 0), (47, .iconst 1, 0, 1)] (by decide +kernel) (z' := (48, [(0, (vR 10 l0)), (1, (vI l1)), (2, (vI l2)), (3, (vI l3)), (4, (vI l4))], [(vI 1), (vR 10 l0)], R, M, 174)) (cs := [24 < l3]) (by rfl) ⟨c_17, trivial⟩ (Nat.le_refl _) ?_
          obtain ⟨r_18, M_19, e_20, h⟩ := xb2_ex h
          refine XR.callV 10 rfl (rest := []) m_M_refuse k_10_377 10 l0 (Or.inl ⟨by decide, rfl⟩) [(vI 1)] rfl rfl (c_M_refuse e_20) (by decide) (Nat.le_of_ble_eq_true rfl) (by decide +kernel) (Nat.le_refl _) (Nat.le_refl _) ?_
          show XR false 4 174 sc y_M_torn (51, [(0, (vR 10 l0)), (1, (vI l1)), (2, (vI l2)), (3, (vI l3)), (4, (vI l4))], [(vI r_18)], R, M_19, 174) _
          obtain rfl := Option.some.inj h
          exact XR.retI .int rfl rfl (by decide +kernel)
        · skip
          refine s_M_torn [(22, .if_icmp .gt 24, 0, (-1)), (25, .iload_n 2, 0, 0), (26, .iload_n 3, 0, 0), (27, .iadd, 0, 0), (28, .bipush 48, 0, 48)] (by decide +kernel) (z' := (30, [(0, (vR 10 l0)), (1, (vI l1)), (2, (vI l2)), (3, (vI l3)), (4, (vI l4))], [(vI 48), (vI (w32 (l2 + l3)))], R, M, 174)) (cs := [¬ (24 < l3)]) (by rfl) ⟨c_17, trivial⟩ (Nat.le_refl _) ?_
          rcases xif_ex h with ⟨c_21, h⟩ | ⟨c_21, h⟩
          · skip
            refine s_M_torn [(30, .if_icmp .gt 16, 0, 46), (46, .aload_n 0, 0, 0), (47, .iconst 1, 0, 1)] (by decide +kernel) (z' := (48, [(0, (vR 10 l0)), (1, (vI l1)), (2, (vI l2)), (3, (vI l3)), (4, (vI l4))], [(vI 1), (vR 10 l0)], R, M, 174)) (cs := [48 < w32 (l2 + l3)]) (by rfl) ⟨c_21, trivial⟩ (Nat.le_refl _) ?_
            obtain ⟨r_22, M_23, e_24, h⟩ := xb2_ex h
            refine XR.callV 10 rfl (rest := []) m_M_refuse k_10_377 10 l0 (Or.inl ⟨by decide, rfl⟩) [(vI 1)] rfl rfl (c_M_refuse e_24) (by decide) (Nat.le_of_ble_eq_true rfl) (by decide +kernel) (Nat.le_refl _) (Nat.le_refl _) ?_
            show XR false 4 174 sc y_M_torn (51, [(0, (vR 10 l0)), (1, (vI l1)), (2, (vI l2)), (3, (vI l3)), (4, (vI l4))], [(vI r_22)], R, M_23, 174) _
            obtain rfl := Option.some.inj h
            exact XR.retI .int rfl rfl (by decide +kernel)
          · skip
            refine s_M_torn [(30, .if_icmp .gt 16, 0, (-1)), (33, .iload 4, 0, 0)] (by decide +kernel) (z' := (35, [(0, (vR 10 l0)), (1, (vI l1)), (2, (vI l2)), (3, (vI l3)), (4, (vI l4))], [(vI l4)], R, M, 174)) (cs := [¬ (48 < w32 (l2 + l3))]) (by rfl) ⟨c_21, trivial⟩ (Nat.le_refl _) ?_
            rcases xif_ex h with ⟨c_25, h⟩ | ⟨c_25, h⟩
            · skip
              refine s_M_torn [(35, .ifCond .lt 11, 0, 46), (46, .aload_n 0, 0, 0), (47, .iconst 1, 0, 1)] (by decide +kernel) (z' := (48, [(0, (vR 10 l0)), (1, (vI l1)), (2, (vI l2)), (3, (vI l3)), (4, (vI l4))], [(vI 1), (vR 10 l0)], R, M, 174)) (cs := [l4 < 0]) (by rfl) ⟨c_25, trivial⟩ (Nat.le_refl _) ?_
              obtain ⟨r_26, M_27, e_28, h⟩ := xb2_ex h
              refine XR.callV 10 rfl (rest := []) m_M_refuse k_10_377 10 l0 (Or.inl ⟨by decide, rfl⟩) [(vI 1)] rfl rfl (c_M_refuse e_28) (by decide) (Nat.le_of_ble_eq_true rfl) (by decide +kernel) (Nat.le_refl _) (Nat.le_refl _) ?_
              show XR false 4 174 sc y_M_torn (51, [(0, (vR 10 l0)), (1, (vI l1)), (2, (vI l2)), (3, (vI l3)), (4, (vI l4))], [(vI r_26)], R, M_27, 174) _
              obtain rfl := Option.some.inj h
              exact XR.retI .int rfl rfl (by decide +kernel)
            · skip
              refine s_M_torn [(35, .ifCond .lt 11, 0, (-1)), (38, .iload 4, 0, 0), (40, .sipush 1000, 0, 1000)] (by decide +kernel) (z' := (43, [(0, (vR 10 l0)), (1, (vI l1)), (2, (vI l2)), (3, (vI l3)), (4, (vI l4))], [(vI 1000), (vI l4)], R, M, 174)) (cs := [¬ (l4 < 0)]) (by rfl) ⟨c_25, trivial⟩ (Nat.le_refl _) ?_
              rcases xif_ex h with ⟨c_29, h⟩ | ⟨c_29, h⟩
              · skip
                refine s_M_torn [(43, .if_icmp .le 9, 0, (-1)), (46, .aload_n 0, 0, 0), (47, .iconst 1, 0, 1)] (by decide +kernel) (z' := (48, [(0, (vR 10 l0)), (1, (vI l1)), (2, (vI l2)), (3, (vI l3)), (4, (vI l4))], [(vI 1), (vR 10 l0)], R, M, 174)) (cs := [¬ (l4 ≤ 1000)]) (by rfl) ⟨Int.not_le.mpr c_29, trivial⟩ (Nat.le_refl _) ?_
                obtain ⟨r_30, M_31, e_32, h⟩ := xb2_ex h
                refine XR.callV 10 rfl (rest := []) m_M_refuse k_10_377 10 l0 (Or.inl ⟨by decide, rfl⟩) [(vI 1)] rfl rfl (c_M_refuse e_32) (by decide) (Nat.le_of_ble_eq_true rfl) (by decide +kernel) (Nat.le_refl _) (Nat.le_refl _) ?_
                show XR false 4 174 sc y_M_torn (51, [(0, (vR 10 l0)), (1, (vI l1)), (2, (vI l2)), (3, (vI l3)), (4, (vI l4))], [(vI r_30)], R, M_31, 174) _
                obtain rfl := Option.some.inj h
                exact XR.retI .int rfl rfl (by decide +kernel)
              · skip
                obtain ⟨c_33, h⟩ := xch_ex h
                refine s_M_torn [(43, .if_icmp .le 9, 0, 52), (52, .aload_n 0, 0, 0), (53, .getfield 13, 10, 2), (56, .iload_n 1, 0, 0), (57, .iaload, 0, 0), (58, .iconst (-1), 0, (-1))] (by decide +kernel) (z' := (59, [(0, (vR 10 l0)), (1, (vI l1)), (2, (vI l2)), (3, (vI l3)), (4, (vI l4))], [(vI (-1)), (vI (M (R l0 2) (Int.toNat l1)))], R, M, 174)) (cs := [l4 ≤ 1000, xar 34 0, xidx l1 (xan 34)]) (by rfl) ⟨Int.not_lt.mp c_29, xar_34, xix_34 c_33, trivial⟩ (Nat.le_refl _) ?_
                rcases xif_ex h with ⟨c_34, h⟩ | ⟨c_34, h⟩
                · skip
                  refine s_M_torn [(59, .if_icmp .ne 9, 0, (-1)), (62, .aload_n 0, 0, 0), (63, .iconst 2, 0, 2)] (by decide +kernel) (z' := (64, [(0, (vR 10 l0)), (1, (vI l1)), (2, (vI l2)), (3, (vI l3)), (4, (vI l4))], [(vI 2), (vR 10 l0)], R, M, 174)) (cs := [¬ (M (R l0 2) (Int.toNat l1) ≠ -1)]) (by rfl) ⟨fun q => q c_34, trivial⟩ (Nat.le_refl _) ?_
                  obtain ⟨r_35, M_36, e_37, h⟩ := xb2_ex h
                  refine XR.callV 10 rfl (rest := []) m_M_refuse k_10_377 10 l0 (Or.inl ⟨by decide, rfl⟩) [(vI 2)] rfl rfl (c_M_refuse e_37) (by decide) (Nat.le_of_ble_eq_true rfl) (by decide +kernel) (Nat.le_refl _) (Nat.le_refl _) ?_
                  show XR false 4 174 sc y_M_torn (67, [(0, (vR 10 l0)), (1, (vI l1)), (2, (vI l2)), (3, (vI l3)), (4, (vI l4))], [(vI r_35)], R, M_36, 174) _
                  obtain rfl := Option.some.inj h
                  exact XR.retI .int rfl rfl (by decide +kernel)
                · skip
                  refine s_M_torn [(59, .if_icmp .ne 9, 0, 68), (68, .aload_n 0, 0, 0), (69, .getfield 13, 10, 2), (72, .iload_n 1, 0, 0), (73, .iaload, 0, 0), (74, .iload_n 3, 0, 0)] (by decide +kernel) (z' := (75, [(0, (vR 10 l0)), (1, (vI l1)), (2, (vI l2)), (3, (vI l3)), (4, (vI l4))], [(vI l3), (vI (M (R l0 2) (Int.toNat l1)))], R, M, 174)) (cs := [M (R l0 2) (Int.toNat l1) ≠ -1, xar 34 0, xidx l1 (xan 34)]) (by rfl) ⟨c_34, xar_34, xix_34 c_33, trivial⟩ (Nat.le_refl _) ?_
                  rcases xif_ex h with ⟨c_38, h⟩ | ⟨c_38, h⟩
                  · skip
                    refine s_M_torn [(75, .if_icmp .ge 9, 0, (-1)), (78, .aload_n 0, 0, 0), (79, .iconst 3, 0, 3)] (by decide +kernel) (z' := (80, [(0, (vR 10 l0)), (1, (vI l1)), (2, (vI l2)), (3, (vI l3)), (4, (vI l4))], [(vI 3), (vR 10 l0)], R, M, 174)) (cs := [¬ (l3 ≤ M (R l0 2) (Int.toNat l1))]) (by rfl) ⟨Int.not_le.mpr c_38, trivial⟩ (Nat.le_refl _) ?_
                    obtain ⟨r_39, M_40, e_41, h⟩ := xb2_ex h
                    refine XR.callV 10 rfl (rest := []) m_M_refuse k_10_377 10 l0 (Or.inl ⟨by decide, rfl⟩) [(vI 3)] rfl rfl (c_M_refuse e_41) (by decide) (Nat.le_of_ble_eq_true rfl) (by decide +kernel) (Nat.le_refl _) (Nat.le_refl _) ?_
                    show XR false 4 174 sc y_M_torn (83, [(0, (vR 10 l0)), (1, (vI l1)), (2, (vI l2)), (3, (vI l3)), (4, (vI l4))], [(vI r_39)], R, M_40, 174) _
                    obtain rfl := Option.some.inj h
                    exact XR.retI .int rfl rfl (by decide +kernel)
                  · skip
                    refine s_M_torn [(75, .if_icmp .ge 9, 0, 84), (84, .iconst 0, 0, 0), (85, .istore 5, 0, 0), (87, .iconst 0, 0, 0), (88, .istore 6, 0, 0)] (by decide +kernel) (z' := (90, [(6, (vI 0)), (5, (vI 0)), (0, (vR 10 l0)), (1, (vI l1)), (2, (vI l2)), (3, (vI l3)), (4, (vI l4))], [], R, M, 174)) (cs := [l3 ≤ M (R l0 2) (Int.toNat l1)]) (by rfl) ⟨Int.not_lt.mp c_38, trivial⟩ (Nat.le_refl _) ?_
                    refine XR.pick [2, 3, 4, 5, 6, 1, 0] (ls' := [(0, (vR 10 l0)), (1, (vI l1)), (2, (vI l2)), (3, (vI l3)), (4, (vI l4)), (5, (vI 0)), (6, (vI 0))]) rfl ?_
                    refine o_M_torn_F90 ?_ xfu 0 0 M _ h
                    · intro v5_70 M_71 out h
                      obtain ⟨M_72, hM_72, h⟩ := xl_ex h
                      obtain ⟨M_73, hM_73, h⟩ := xl_ex h
                      refine s_M_torn [(218, .aload_n 0, 0, 0), (219, .iconst (-1), 0, (-1)), (220, .putfield 172, 10, 74), (223, .aload_n 0, 0, 0), (224, .iload 5, 0, 0), (226, .putfield 211, 10, 90), (229, .aload_n 0, 0, 0), (230, .iload 5, 0, 0)] (by decide +kernel) (z' := (232, [(0, (vR 10 l0)), (5, (vI v5_70))], [(vI v5_70), (vR 10 l0)], R, M_73, 174)) (cs := []) (by subst hM_72; subst hM_73; rfl) trivial (Nat.le_refl _) ?_
                      obtain ⟨r_74, M_75, e_76, h⟩ := xb2_ex h
                      refine XR.callV 10 rfl (rest := []) m_M_gives k_10_405 10 l0 (Or.inl ⟨by decide, rfl⟩) [(vI v5_70)] rfl rfl (c_M_gives e_76) (by decide) (Nat.le_of_ble_eq_true rfl) (by decide +kernel) (Nat.le_refl _) (Nat.le_refl _) ?_
                      show XR false 4 174 sc y_M_torn (235, [(0, (vR 10 l0)), (5, (vI v5_70))], [(vI r_74)], R, M_75, 174) _
                      obtain rfl := Option.some.inj h
                      exact XR.retI .int rfl rfl (by decide +kernel)
set_option maxRecDepth 100000 in
set_option maxHeartbeats 4000000 in
theorem c_M_torn {sc : List Int} {R : xR} {M : xM} {l0 : Nat} {l1 : Int} {l2 : Int} {l3 : Int} {l4 : Int} {out : Int × xM} (h : f_M_torn R l0 l1 l2 l3 l4 M = some out) : XC false 4 sc y_M_torn [(vR 10 l0), (vI l1), (vI l2), (vI l3), (vI l4)] R M 174 174 ((some (vI out.1)), R, out.2) := XC.of (by decide) (Nat.le_of_ble_eq_true rfl) (Nat.le_refl _) (Nat.le_refl _) (o_M_torn h)
def f_M_tornTold (l0 : Nat) (l1 : Int) (M : xM) : Option (Int × xM) :=
  if l1 < 0 then
    xb2 (f_M_refuse l0 1 M) fun r_2 M_3 =>
    some (r_2, M_3)
  else
    if 2 < l1 then
      xb2 (f_M_refuse l0 1 M) fun r_6 M_7 =>
      some (r_6, M_7)
    else
      if M l0 90 < 1 then
        xb2 (f_M_refuse l0 6 M) fun r_10 M_11 =>
        some (r_10, M_11)
      else
        if l1 = 0 then
          xb2 (f_M_gives l0 (M l0 91) M) fun r_14 M_15 =>
          some (r_14, M_15)
        else
          if l1 = 1 then
            xb2 (f_M_gives l0 (M l0 92) M) fun r_18 M_19 =>
            some (r_18, M_19)
          else
            xb2 (f_M_gives l0 (M l0 93) M) fun r_21 M_22 =>
            some (r_21, M_22)
set_option maxRecDepth 100000 in
set_option maxHeartbeats 4000000 in
theorem s_M_tornTold {d : Nat} {sc : List Int} {z z' : xS} {out : xO} (qs : List xI) {cs : List Prop} (hq : qs.all (xqb 10 false y_M_tornTold.2.2.1 y_M_tornTold.2.1) = true) (h : xN false sc qs z = some (z', cs)) (hc : xAll cs) (hE : z'.2.2.2.2.2 ≤ 174) (k : XR false d 174 sc y_M_tornTold z' out) : XR false d 174 sc y_M_tornTold z out := XR.seg 10 false rfl (fun q => by cases q) qs hq h hc hE k
set_option maxRecDepth 100000 in
set_option maxHeartbeats 4000000 in
theorem o_M_tornTold {sc : List Int} {R : xR} {M : xM} {l0 : Nat} {l1 : Int} {out : Int × xM} (h : f_M_tornTold l0 l1 M = some out) : XR false 1 174 sc y_M_tornTold (0, [(0, (vR 10 l0)), (1, (vI l1))], [], R, M, 174) ((some (vI out.1)), R, out.2) := by
  unfold f_M_tornTold at h
  refine s_M_tornTold [(0, .iload_n 1, 0, 0)] (by decide +kernel) (z' := (1, [(0, (vR 10 l0)), (1, (vI l1))], [(vI l1)], R, M, 174)) (cs := []) (by rfl) trivial (Nat.le_refl _) ?_
  rcases xif_ex h with ⟨c_1, h⟩ | ⟨c_1, h⟩
  · skip
    refine s_M_tornTold [(1, .ifCond .lt 8, 0, 9), (9, .aload_n 0, 0, 0), (10, .iconst 1, 0, 1)] (by decide +kernel) (z' := (11, [(0, (vR 10 l0)), (1, (vI l1))], [(vI 1), (vR 10 l0)], R, M, 174)) (cs := [l1 < 0]) (by rfl) ⟨c_1, trivial⟩ (Nat.le_refl _) ?_
    obtain ⟨r_2, M_3, e_4, h⟩ := xb2_ex h
    refine XR.callV 10 rfl (rest := []) m_M_refuse k_10_377 10 l0 (Or.inl ⟨by decide, rfl⟩) [(vI 1)] rfl rfl (c_M_refuse e_4) (by decide) (Nat.le_of_ble_eq_true rfl) (by decide +kernel) (Nat.le_refl _) (Nat.le_refl _) ?_
    show XR false 1 174 sc y_M_tornTold (14, [(0, (vR 10 l0)), (1, (vI l1))], [(vI r_2)], R, M_3, 174) _
    obtain rfl := Option.some.inj h
    exact XR.retI .int rfl rfl (by decide +kernel)
  · skip
    refine s_M_tornTold [(1, .ifCond .lt 8, 0, (-1)), (4, .iload_n 1, 0, 0), (5, .iconst 2, 0, 2)] (by decide +kernel) (z' := (6, [(0, (vR 10 l0)), (1, (vI l1))], [(vI 2), (vI l1)], R, M, 174)) (cs := [¬ (l1 < 0)]) (by rfl) ⟨c_1, trivial⟩ (Nat.le_refl _) ?_
    rcases xif_ex h with ⟨c_5, h⟩ | ⟨c_5, h⟩
    · skip
      refine s_M_tornTold [(6, .if_icmp .le 9, 0, (-1)), (9, .aload_n 0, 0, 0), (10, .iconst 1, 0, 1)] (by decide +kernel) (z' := (11, [(0, (vR 10 l0)), (1, (vI l1))], [(vI 1), (vR 10 l0)], R, M, 174)) (cs := [¬ (l1 ≤ 2)]) (by rfl) ⟨Int.not_le.mpr c_5, trivial⟩ (Nat.le_refl _) ?_
      obtain ⟨r_6, M_7, e_8, h⟩ := xb2_ex h
      refine XR.callV 10 rfl (rest := []) m_M_refuse k_10_377 10 l0 (Or.inl ⟨by decide, rfl⟩) [(vI 1)] rfl rfl (c_M_refuse e_8) (by decide) (Nat.le_of_ble_eq_true rfl) (by decide +kernel) (Nat.le_refl _) (Nat.le_refl _) ?_
      show XR false 1 174 sc y_M_tornTold (14, [(0, (vR 10 l0)), (1, (vI l1))], [(vI r_6)], R, M_7, 174) _
      obtain rfl := Option.some.inj h
      exact XR.retI .int rfl rfl (by decide +kernel)
    · skip
      refine s_M_tornTold [(6, .if_icmp .le 9, 0, 15), (15, .aload_n 0, 0, 0), (16, .getfield 211, 10, 90), (19, .iconst 1, 0, 1)] (by decide +kernel) (z' := (20, [(0, (vR 10 l0)), (1, (vI l1))], [(vI 1), (vI (M l0 90))], R, M, 174)) (cs := [l1 ≤ 2]) (by rfl) ⟨Int.not_lt.mp c_5, trivial⟩ (Nat.le_refl _) ?_
      rcases xif_ex h with ⟨c_9, h⟩ | ⟨c_9, h⟩
      · skip
        refine s_M_tornTold [(20, .if_icmp .ge 12, 0, (-1)), (23, .aload_n 0, 0, 0), (24, .bipush 6, 0, 6)] (by decide +kernel) (z' := (26, [(0, (vR 10 l0)), (1, (vI l1))], [(vI 6), (vR 10 l0)], R, M, 174)) (cs := [¬ (1 ≤ M l0 90)]) (by rfl) ⟨Int.not_le.mpr c_9, trivial⟩ (Nat.le_refl _) ?_
        obtain ⟨r_10, M_11, e_12, h⟩ := xb2_ex h
        refine XR.callV 10 rfl (rest := []) m_M_refuse k_10_377 10 l0 (Or.inl ⟨by decide, rfl⟩) [(vI 6)] rfl rfl (c_M_refuse e_12) (by decide) (Nat.le_of_ble_eq_true rfl) (by decide +kernel) (Nat.le_refl _) (Nat.le_refl _) ?_
        show XR false 1 174 sc y_M_tornTold (29, [(0, (vR 10 l0)), (1, (vI l1))], [(vI r_10)], R, M_11, 174) _
        refine s_M_tornTold [(29, .goto 34, 0, 63)] (by decide +kernel) (z' := (63, [(0, (vR 10 l0)), (1, (vI l1))], [(vI r_10)], R, M_11, 174)) (cs := []) (by rfl) trivial (Nat.le_refl _) ?_
        obtain rfl := Option.some.inj h
        exact XR.retI .int rfl rfl (by decide +kernel)
      · skip
        refine s_M_tornTold [(20, .if_icmp .ge 12, 0, 32), (32, .aload_n 0, 0, 0), (33, .iload_n 1, 0, 0)] (by decide +kernel) (z' := (34, [(0, (vR 10 l0)), (1, (vI l1))], [(vI l1), (vR 10 l0)], R, M, 174)) (cs := [1 ≤ M l0 90]) (by rfl) ⟨Int.not_lt.mp c_9, trivial⟩ (Nat.le_refl _) ?_
        rcases xif_ex h with ⟨c_13, h⟩ | ⟨c_13, h⟩
        · skip
          refine s_M_tornTold [(34, .ifCond .ne 10, 0, (-1)), (37, .aload_n 0, 0, 0), (38, .getfield 515, 10, 91), (41, .goto 19, 0, 60)] (by decide +kernel) (z' := (60, [(0, (vR 10 l0)), (1, (vI l1))], [(vI (M l0 91)), (vR 10 l0)], R, M, 174)) (cs := [¬ (l1 ≠ 0)]) (by rfl) ⟨fun q => q c_13, trivial⟩ (Nat.le_refl _) ?_
          obtain ⟨r_14, M_15, e_16, h⟩ := xb2_ex h
          refine XR.callV 10 rfl (rest := []) m_M_gives k_10_405 10 l0 (Or.inl ⟨by decide, rfl⟩) [(vI (M l0 91))] rfl rfl (c_M_gives e_16) (by decide) (Nat.le_of_ble_eq_true rfl) (by decide +kernel) (Nat.le_refl _) (Nat.le_refl _) ?_
          show XR false 1 174 sc y_M_tornTold (63, [(0, (vR 10 l0)), (1, (vI l1))], [(vI r_14)], R, M_15, 174) _
          obtain rfl := Option.some.inj h
          exact XR.retI .int rfl rfl (by decide +kernel)
        · skip
          refine s_M_tornTold [(34, .ifCond .ne 10, 0, 44), (44, .iload_n 1, 0, 0), (45, .iconst 1, 0, 1)] (by decide +kernel) (z' := (46, [(0, (vR 10 l0)), (1, (vI l1))], [(vI 1), (vI l1), (vR 10 l0)], R, M, 174)) (cs := [l1 ≠ 0]) (by rfl) ⟨c_13, trivial⟩ (Nat.le_refl _) ?_
          rcases xif_ex h with ⟨c_17, h⟩ | ⟨c_17, h⟩
          · skip
            refine s_M_tornTold [(46, .if_icmp .ne 10, 0, (-1)), (49, .aload_n 0, 0, 0), (50, .getfield 518, 10, 92), (53, .goto 7, 0, 60)] (by decide +kernel) (z' := (60, [(0, (vR 10 l0)), (1, (vI l1))], [(vI (M l0 92)), (vR 10 l0)], R, M, 174)) (cs := [¬ (l1 ≠ 1)]) (by rfl) ⟨fun q => q c_17, trivial⟩ (Nat.le_refl _) ?_
            obtain ⟨r_18, M_19, e_20, h⟩ := xb2_ex h
            refine XR.callV 10 rfl (rest := []) m_M_gives k_10_405 10 l0 (Or.inl ⟨by decide, rfl⟩) [(vI (M l0 92))] rfl rfl (c_M_gives e_20) (by decide) (Nat.le_of_ble_eq_true rfl) (by decide +kernel) (Nat.le_refl _) (Nat.le_refl _) ?_
            show XR false 1 174 sc y_M_tornTold (63, [(0, (vR 10 l0)), (1, (vI l1))], [(vI r_18)], R, M_19, 174) _
            obtain rfl := Option.some.inj h
            exact XR.retI .int rfl rfl (by decide +kernel)
          · skip
            refine s_M_tornTold [(46, .if_icmp .ne 10, 0, 56), (56, .aload_n 0, 0, 0), (57, .getfield 521, 10, 93)] (by decide +kernel) (z' := (60, [(0, (vR 10 l0)), (1, (vI l1))], [(vI (M l0 93)), (vR 10 l0)], R, M, 174)) (cs := [l1 ≠ 1]) (by rfl) ⟨c_17, trivial⟩ (Nat.le_refl _) ?_
            obtain ⟨r_21, M_22, e_23, h⟩ := xb2_ex h
            refine XR.callV 10 rfl (rest := []) m_M_gives k_10_405 10 l0 (Or.inl ⟨by decide, rfl⟩) [(vI (M l0 93))] rfl rfl (c_M_gives e_23) (by decide) (Nat.le_of_ble_eq_true rfl) (by decide +kernel) (Nat.le_refl _) (Nat.le_refl _) ?_
            show XR false 1 174 sc y_M_tornTold (63, [(0, (vR 10 l0)), (1, (vI l1))], [(vI r_21)], R, M_22, 174) _
            obtain rfl := Option.some.inj h
            exact XR.retI .int rfl rfl (by decide +kernel)
set_option maxRecDepth 100000 in
set_option maxHeartbeats 4000000 in
theorem c_M_tornTold {sc : List Int} {R : xR} {M : xM} {l0 : Nat} {l1 : Int} {out : Int × xM} (h : f_M_tornTold l0 l1 M = some out) : XC false 1 sc y_M_tornTold [(vR 10 l0), (vI l1)] R M 174 174 ((some (vI out.1)), R, out.2) := XC.of (by decide) (Nat.le_of_ble_eq_true rfl) (Nat.le_refl _) (Nat.le_refl _) (o_M_tornTold h)
def M_tray_F49 (R : xR) (l0 : Nat) (l1 : Int) (l3 : Int) : Nat → Int → xM → Option (Int × xM)
  | 0, _, _ => none
  | n + 1, v4, M =>
    if v4 < l3 then
      xch (0 ≤ w32 ((w32 (60 * l1)) + v4) ∧ w32 ((w32 (60 * l1)) + v4) < 240) <|
      xl (xu M (R l0 3) (Int.toNat (w32 ((w32 (60 * l1)) + v4))) 0) fun M_33 =>
      xl (w32 (v4 + 1)) fun v4_34 =>
      M_tray_F49 R l0 l1 l3  n v4_34 M_33
    else
      xb2 (f_M_is l0 0 M) fun r_35 M_36 =>
      xch (r_35 = 0 ∨ r_35 = 1) <|
      some (r_35, M_36)
def f_M_tray (R : xR) (l0 : Nat) (l1 : Int) (l2 : Int) (l3 : Int) (M : xM) : Option (Int × xM) :=
  xb1 (f_M_isTray l1) fun r_1 =>
  if r_1 = 0 then
    xb2 (f_M_is l0 1 M) fun r_4 M_5 =>
    xch (r_4 = 0 ∨ r_4 = 1) <|
    some (r_4, M_5)
  else
    if l2 < 0 then
      xb2 (f_M_is l0 1 M) fun r_9 M_10 =>
      xch (r_9 = 0 ∨ r_9 = 1) <|
      some (r_9, M_10)
    else
      if 3 < l2 then
        xb2 (f_M_is l0 1 M) fun r_14 M_15 =>
        xch (r_14 = 0 ∨ r_14 = 1) <|
        some (r_14, M_15)
      else
        if l3 < 0 then
          xb2 (f_M_is l0 1 M) fun r_19 M_20 =>
          xch (r_19 = 0 ∨ r_19 = 1) <|
          some (r_19, M_20)
        else
          if 60 < l3 then
            xb2 (f_M_is l0 1 M) fun r_24 M_25 =>
            xch (r_24 = 0 ∨ r_24 = 1) <|
            some (r_24, M_25)
          else
            xch (0 ≤ l1 ∧ l1 < 4) <|
            xl (xu M (R l0 1) (Int.toNat l1) l2) fun M_29 =>
            xl (xu M_29 (R l0 2) (Int.toNat l1) l3) fun M_30 =>
            M_tray_F49 R l0 l1 l3
              xfu 0 M_30
set_option maxRecDepth 100000 in
set_option maxHeartbeats 4000000 in
theorem s_M_tray {d : Nat} {sc : List Int} {z z' : xS} {out : xO} (qs : List xI) {cs : List Prop} (hq : qs.all (xqb 10 false y_M_tray.2.2.1 y_M_tray.2.1) = true) (h : xN false sc qs z = some (z', cs)) (hc : xAll cs) (hE : z'.2.2.2.2.2 ≤ 174) (k : XR false d 174 sc y_M_tray z' out) : XR false d 174 sc y_M_tray z out := XR.seg 10 false rfl (fun q => by cases q) qs hq h hc hE k
set_option maxRecDepth 100000 in
set_option maxHeartbeats 4000000 in
theorem o_M_tray_F49 {sc : List Int} {R : xR}   {l0 : Nat} {l1 : Int} {l3 : Int}  : ∀ (n : Nat) (v4 : Int) (M : xM) (out : Int × xM), M_tray_F49 R l0 l1 l3  n v4 M = some out → XR false 1 174 sc y_M_tray (49, [(0, (vR 10 l0)), (1, (vI l1)), (3, (vI l3)), (4, (vI v4))], [], R, M, 174) ((some (vI out.1)), R, out.2) := by
  intro n
  induction n with
  | zero => intro v4 M out h; exact (xno h).elim
  | succ n ih =>
    intro v4 M out h
    rw [M_tray_F49] at h
    refine s_M_tray [(49, .iload 4, 0, 0), (51, .iload_n 3, 0, 0)] (by decide +kernel) (z' := (52, [(0, (vR 10 l0)), (1, (vI l1)), (3, (vI l3)), (4, (vI v4))], [(vI l3), (vI v4)], R, M, 174)) (cs := []) (by rfl) trivial (Nat.le_refl _) ?_
    rcases xif_ex h with ⟨c_31, h⟩ | ⟨c_31, h⟩
    · skip
      obtain ⟨c_32, h⟩ := xch_ex h
      obtain ⟨M_33, hM_33, h⟩ := xl_ex h
      obtain ⟨v4_34, hv4_34, h⟩ := xl_ex h
      refine s_M_tray [(52, .if_icmp .ge 22, 0, (-1)), (55, .aload_n 0, 0, 0), (56, .getfield 16, 10, 3), (59, .bipush 60, 0, 60), (61, .iload_n 1, 0, 0), (62, .imul, 0, 0), (63, .iload 4, 0, 0), (65, .iadd, 0, 0), (66, .lconst 0, 0, 0), (67, .lastore, 0, 0), (68, .iinc 4 1, 0, 0), (71, .goto (-22), 0, 49)] (by decide +kernel) (z' := (49, [(4, (vI v4_34)), (0, (vR 10 l0)), (1, (vI l1)), (3, (vI l3))], [], R, M_33, 174)) (cs := [¬ (l3 ≤ v4), xar 40 1, xidx (w32 ((w32 (60 * l1)) + v4)) (xan 40)]) (by subst hM_33; subst hv4_34; rfl) ⟨Int.not_le.mpr c_31, xar_40, xix_40 c_32, trivial⟩ (Nat.le_refl _) ?_
      refine XR.pick [1, 2, 3, 0] (ls' := [(0, (vR 10 l0)), (1, (vI l1)), (3, (vI l3)), (4, (vI v4_34))]) rfl ?_
      exact ih v4_34 M_33 _ h
    · skip
      refine s_M_tray [(52, .if_icmp .ge 22, 0, 74), (74, .aload_n 0, 0, 0), (75, .iconst 0, 0, 0)] (by decide +kernel) (z' := (76, [(0, (vR 10 l0)), (1, (vI l1)), (3, (vI l3)), (4, (vI v4))], [(vI 0), (vR 10 l0)], R, M, 174)) (cs := [l3 ≤ v4]) (by rfl) ⟨Int.not_lt.mp c_31, trivial⟩ (Nat.le_refl _) ?_
      obtain ⟨r_35, M_36, e_37, h⟩ := xb2_ex h
      refine XR.callV 10 rfl (rest := []) m_M_is k_10_254 10 l0 (Or.inl ⟨by decide, rfl⟩) [(vI 0)] rfl rfl (c_M_is e_37) (by decide) (Nat.le_of_ble_eq_true rfl) (by decide +kernel) (Nat.le_refl _) (Nat.le_refl _) ?_
      show XR false 1 174 sc y_M_tray (79, [(0, (vR 10 l0)), (1, (vI l1)), (3, (vI l3)), (4, (vI v4))], [(vI r_35)], R, M_36, 174) _
      obtain ⟨c_38, h⟩ := xch_ex h
      obtain rfl := Option.some.inj h
      exact XR.retI .boolean rfl (xnar_z c_38) (by decide +kernel)
set_option maxRecDepth 100000 in
set_option maxHeartbeats 4000000 in
theorem o_M_tray {sc : List Int} {R : xR} {M : xM} {l0 : Nat} {l1 : Int} {l2 : Int} {l3 : Int} {out : Int × xM} (h : f_M_tray R l0 l1 l2 l3 M = some out) : XR false 1 174 sc y_M_tray (0, [(0, (vR 10 l0)), (1, (vI l1)), (2, (vI l2)), (3, (vI l3))], [], R, M, 174) ((some (vI out.1)), R, out.2) := by
  unfold f_M_tray at h
  refine s_M_tray [(0, .iload_n 1, 0, 0)] (by decide +kernel) (z' := (1, [(0, (vR 10 l0)), (1, (vI l1)), (2, (vI l2)), (3, (vI l3))], [(vI l1)], R, M, 174)) (cs := []) (by rfl) trivial (Nat.le_refl _) ?_
  obtain ⟨r_1, e_2, h⟩ := xb1_ex h
  refine XR.callS 10 rfl (rest := []) m_M_isTray k_10_250 [(vI l1)] rfl rfl (c_M_isTray e_2) (by decide) (Nat.le_of_ble_eq_true rfl) (by decide +kernel) (Nat.le_refl _) (Nat.le_refl _) ?_
  show XR false 1 174 sc y_M_tray (4, [(0, (vR 10 l0)), (1, (vI l1)), (2, (vI l2)), (3, (vI l3))], [(vI r_1)], R, M, 174) _
  rcases xif_ex h with ⟨c_3, h⟩ | ⟨c_3, h⟩
  · skip
    refine s_M_tray [(4, .ifCond .eq 22, 0, 26), (26, .aload_n 0, 0, 0), (27, .iconst 1, 0, 1)] (by decide +kernel) (z' := (28, [(0, (vR 10 l0)), (1, (vI l1)), (2, (vI l2)), (3, (vI l3))], [(vI 1), (vR 10 l0)], R, M, 174)) (cs := [r_1 = 0]) (by rfl) ⟨c_3, trivial⟩ (Nat.le_refl _) ?_
    obtain ⟨r_4, M_5, e_6, h⟩ := xb2_ex h
    refine XR.callV 10 rfl (rest := []) m_M_is k_10_254 10 l0 (Or.inl ⟨by decide, rfl⟩) [(vI 1)] rfl rfl (c_M_is e_6) (by decide) (Nat.le_of_ble_eq_true rfl) (by decide +kernel) (Nat.le_refl _) (Nat.le_refl _) ?_
    show XR false 1 174 sc y_M_tray (31, [(0, (vR 10 l0)), (1, (vI l1)), (2, (vI l2)), (3, (vI l3))], [(vI r_4)], R, M_5, 174) _
    obtain ⟨c_7, h⟩ := xch_ex h
    obtain rfl := Option.some.inj h
    exact XR.retI .boolean rfl (xnar_z c_7) (by decide +kernel)
  · skip
    refine s_M_tray [(4, .ifCond .eq 22, 0, (-1)), (7, .iload_n 2, 0, 0)] (by decide +kernel) (z' := (8, [(0, (vR 10 l0)), (1, (vI l1)), (2, (vI l2)), (3, (vI l3))], [(vI l2)], R, M, 174)) (cs := [¬ (r_1 = 0)]) (by rfl) ⟨c_3, trivial⟩ (Nat.le_refl _) ?_
    rcases xif_ex h with ⟨c_8, h⟩ | ⟨c_8, h⟩
    · skip
      refine s_M_tray [(8, .ifCond .lt 18, 0, 26), (26, .aload_n 0, 0, 0), (27, .iconst 1, 0, 1)] (by decide +kernel) (z' := (28, [(0, (vR 10 l0)), (1, (vI l1)), (2, (vI l2)), (3, (vI l3))], [(vI 1), (vR 10 l0)], R, M, 174)) (cs := [l2 < 0]) (by rfl) ⟨c_8, trivial⟩ (Nat.le_refl _) ?_
      obtain ⟨r_9, M_10, e_11, h⟩ := xb2_ex h
      refine XR.callV 10 rfl (rest := []) m_M_is k_10_254 10 l0 (Or.inl ⟨by decide, rfl⟩) [(vI 1)] rfl rfl (c_M_is e_11) (by decide) (Nat.le_of_ble_eq_true rfl) (by decide +kernel) (Nat.le_refl _) (Nat.le_refl _) ?_
      show XR false 1 174 sc y_M_tray (31, [(0, (vR 10 l0)), (1, (vI l1)), (2, (vI l2)), (3, (vI l3))], [(vI r_9)], R, M_10, 174) _
      obtain ⟨c_12, h⟩ := xch_ex h
      obtain rfl := Option.some.inj h
      exact XR.retI .boolean rfl (xnar_z c_12) (by decide +kernel)
    · skip
      refine s_M_tray [(8, .ifCond .lt 18, 0, (-1)), (11, .iload_n 2, 0, 0), (12, .iconst 3, 0, 3)] (by decide +kernel) (z' := (13, [(0, (vR 10 l0)), (1, (vI l1)), (2, (vI l2)), (3, (vI l3))], [(vI 3), (vI l2)], R, M, 174)) (cs := [¬ (l2 < 0)]) (by rfl) ⟨c_8, trivial⟩ (Nat.le_refl _) ?_
      rcases xif_ex h with ⟨c_13, h⟩ | ⟨c_13, h⟩
      · skip
        refine s_M_tray [(13, .if_icmp .gt 13, 0, 26), (26, .aload_n 0, 0, 0), (27, .iconst 1, 0, 1)] (by decide +kernel) (z' := (28, [(0, (vR 10 l0)), (1, (vI l1)), (2, (vI l2)), (3, (vI l3))], [(vI 1), (vR 10 l0)], R, M, 174)) (cs := [3 < l2]) (by rfl) ⟨c_13, trivial⟩ (Nat.le_refl _) ?_
        obtain ⟨r_14, M_15, e_16, h⟩ := xb2_ex h
        refine XR.callV 10 rfl (rest := []) m_M_is k_10_254 10 l0 (Or.inl ⟨by decide, rfl⟩) [(vI 1)] rfl rfl (c_M_is e_16) (by decide) (Nat.le_of_ble_eq_true rfl) (by decide +kernel) (Nat.le_refl _) (Nat.le_refl _) ?_
        show XR false 1 174 sc y_M_tray (31, [(0, (vR 10 l0)), (1, (vI l1)), (2, (vI l2)), (3, (vI l3))], [(vI r_14)], R, M_15, 174) _
        obtain ⟨c_17, h⟩ := xch_ex h
        obtain rfl := Option.some.inj h
        exact XR.retI .boolean rfl (xnar_z c_17) (by decide +kernel)
      · skip
        refine s_M_tray [(13, .if_icmp .gt 13, 0, (-1)), (16, .iload_n 3, 0, 0)] (by decide +kernel) (z' := (17, [(0, (vR 10 l0)), (1, (vI l1)), (2, (vI l2)), (3, (vI l3))], [(vI l3)], R, M, 174)) (cs := [¬ (3 < l2)]) (by rfl) ⟨c_13, trivial⟩ (Nat.le_refl _) ?_
        rcases xif_ex h with ⟨c_18, h⟩ | ⟨c_18, h⟩
        · skip
          refine s_M_tray [(17, .ifCond .lt 9, 0, 26), (26, .aload_n 0, 0, 0), (27, .iconst 1, 0, 1)] (by decide +kernel) (z' := (28, [(0, (vR 10 l0)), (1, (vI l1)), (2, (vI l2)), (3, (vI l3))], [(vI 1), (vR 10 l0)], R, M, 174)) (cs := [l3 < 0]) (by rfl) ⟨c_18, trivial⟩ (Nat.le_refl _) ?_
          obtain ⟨r_19, M_20, e_21, h⟩ := xb2_ex h
          refine XR.callV 10 rfl (rest := []) m_M_is k_10_254 10 l0 (Or.inl ⟨by decide, rfl⟩) [(vI 1)] rfl rfl (c_M_is e_21) (by decide) (Nat.le_of_ble_eq_true rfl) (by decide +kernel) (Nat.le_refl _) (Nat.le_refl _) ?_
          show XR false 1 174 sc y_M_tray (31, [(0, (vR 10 l0)), (1, (vI l1)), (2, (vI l2)), (3, (vI l3))], [(vI r_19)], R, M_20, 174) _
          obtain ⟨c_22, h⟩ := xch_ex h
          obtain rfl := Option.some.inj h
          exact XR.retI .boolean rfl (xnar_z c_22) (by decide +kernel)
        · skip
          refine s_M_tray [(17, .ifCond .lt 9, 0, (-1)), (20, .iload_n 3, 0, 0), (21, .bipush 60, 0, 60)] (by decide +kernel) (z' := (23, [(0, (vR 10 l0)), (1, (vI l1)), (2, (vI l2)), (3, (vI l3))], [(vI 60), (vI l3)], R, M, 174)) (cs := [¬ (l3 < 0)]) (by rfl) ⟨c_18, trivial⟩ (Nat.le_refl _) ?_
          rcases xif_ex h with ⟨c_23, h⟩ | ⟨c_23, h⟩
          · skip
            refine s_M_tray [(23, .if_icmp .le 9, 0, (-1)), (26, .aload_n 0, 0, 0), (27, .iconst 1, 0, 1)] (by decide +kernel) (z' := (28, [(0, (vR 10 l0)), (1, (vI l1)), (2, (vI l2)), (3, (vI l3))], [(vI 1), (vR 10 l0)], R, M, 174)) (cs := [¬ (l3 ≤ 60)]) (by rfl) ⟨Int.not_le.mpr c_23, trivial⟩ (Nat.le_refl _) ?_
            obtain ⟨r_24, M_25, e_26, h⟩ := xb2_ex h
            refine XR.callV 10 rfl (rest := []) m_M_is k_10_254 10 l0 (Or.inl ⟨by decide, rfl⟩) [(vI 1)] rfl rfl (c_M_is e_26) (by decide) (Nat.le_of_ble_eq_true rfl) (by decide +kernel) (Nat.le_refl _) (Nat.le_refl _) ?_
            show XR false 1 174 sc y_M_tray (31, [(0, (vR 10 l0)), (1, (vI l1)), (2, (vI l2)), (3, (vI l3))], [(vI r_24)], R, M_25, 174) _
            obtain ⟨c_27, h⟩ := xch_ex h
            obtain rfl := Option.some.inj h
            exact XR.retI .boolean rfl (xnar_z c_27) (by decide +kernel)
          · skip
            obtain ⟨c_28, h⟩ := xch_ex h
            obtain ⟨M_29, hM_29, h⟩ := xl_ex h
            obtain ⟨M_30, hM_30, h⟩ := xl_ex h
            refine s_M_tray [(23, .if_icmp .le 9, 0, 32), (32, .aload_n 0, 0, 0), (33, .getfield 7, 10, 1), (36, .iload_n 1, 0, 0), (37, .iload_n 2, 0, 0), (38, .iastore, 0, 0), (39, .aload_n 0, 0, 0), (40, .getfield 13, 10, 2), (43, .iload_n 1, 0, 0), (44, .iload_n 3, 0, 0), (45, .iastore, 0, 0), (46, .iconst 0, 0, 0), (47, .istore 4, 0, 0)] (by decide +kernel) (z' := (49, [(4, (vI 0)), (0, (vR 10 l0)), (1, (vI l1)), (2, (vI l2)), (3, (vI l3))], [], R, M_30, 174)) (cs := [l3 ≤ 60, xar 34 0, xidx l1 (xan 34), xar 34 0, xidx l1 (xan 34)]) (by subst hM_29; subst hM_30; rfl) ⟨Int.not_lt.mp c_23, xar_34, xix_34 c_28, xar_34, xix_34 c_28, trivial⟩ (Nat.le_refl _) ?_
            refine XR.pick [1, 2, 4, 0] (ls' := [(0, (vR 10 l0)), (1, (vI l1)), (3, (vI l3)), (4, (vI 0))]) rfl ?_
            refine o_M_tray_F49  xfu 0 M_30 _ h
set_option maxRecDepth 100000 in
set_option maxHeartbeats 4000000 in
theorem c_M_tray {sc : List Int} {R : xR} {M : xM} {l0 : Nat} {l1 : Int} {l2 : Int} {l3 : Int} {out : Int × xM} (h : f_M_tray R l0 l1 l2 l3 M = some out) : XC false 1 sc y_M_tray [(vR 10 l0), (vI l1), (vI l2), (vI l3)] R M 174 174 ((some (vI out.1)), R, out.2) := XC.of (by decide) (Nat.le_of_ble_eq_true rfl) (Nat.le_refl _) (Nat.le_refl _) (o_M_tray h)
def M_up_J25 (R : xR) (l0 : Nat) (l1 : Int) (l2 : Int) (M : xM) : Option (Int × xM) :=
  xb1 (f_M_steps R l0 l1 M) fun M_8 =>
  if l2 = -1 then
    xb1 (f_M_upIn R l0 l1 M_8) fun r_11 =>
    xb2 (f_M_gives l0 r_11 M_8) fun r_13 M_14 =>
    some (r_13, M_14)
  else
    xch (0 ≤ w32 ((w32 (4 * l1)) + l2) ∧ w32 ((w32 (4 * l1)) + l2) < 192) <|
    xb2 (f_M_gives l0 (M_8 (R l0 80) (Int.toNat (w32 ((w32 (4 * l1)) + l2)))) M_8) fun r_17 M_18 =>
    some (r_17, M_18)
def f_M_up (R : xR) (l0 : Nat) (l1 : Int) (l2 : Int) (M : xM) : Option (Int × xM) :=
  xb1 (f_M_isHour l1) fun r_1 =>
  if r_1 = 0 then
    xb2 (f_M_refuse l0 1 M) fun r_4 M_5 =>
    some (r_4, M_5)
  else
    if l2 = -1 then
      M_up_J25 R l0 l1 l2 M
    else
      xb1 (f_M_isSize l2) fun r_20 =>
      if r_20 = 0 then
        xb2 (f_M_refuse l0 1 M) fun r_23 M_24 =>
        some (r_23, M_24)
      else
        M_up_J25 R l0 l1 l2 M
set_option maxRecDepth 100000 in
set_option maxHeartbeats 4000000 in
theorem s_M_up {d : Nat} {sc : List Int} {z z' : xS} {out : xO} (qs : List xI) {cs : List Prop} (hq : qs.all (xqb 10 false y_M_up.2.2.1 y_M_up.2.1) = true) (h : xN false sc qs z = some (z', cs)) (hc : xAll cs) (hE : z'.2.2.2.2.2 ≤ 174) (k : XR false d 174 sc y_M_up z' out) : XR false d 174 sc y_M_up z out := XR.seg 10 false rfl (fun q => by cases q) qs hq h hc hE k
set_option maxRecDepth 100000 in
set_option maxHeartbeats 4000000 in
theorem o_M_up_J25 {sc : List Int} {R : xR}   {l0 : Nat} {l1 : Int} {l2 : Int}  {M : xM} {out : Int × xM} (h : M_up_J25 R l0 l1 l2  M = some out) : XR false 4 174 sc y_M_up (25, [(0, (vR 10 l0)), (1, (vI l1)), (2, (vI l2))], [], R, M, 174) ((some (vI out.1)), R, out.2) := by
  unfold M_up_J25 at h
  refine s_M_up [(25, .aload_n 0, 0, 0), (26, .iload_n 1, 0, 0)] (by decide +kernel) (z' := (27, [(0, (vR 10 l0)), (1, (vI l1)), (2, (vI l2))], [(vI l1), (vR 10 l0)], R, M, 174)) (cs := []) (by rfl) trivial (Nat.le_refl _) ?_
  obtain ⟨M_8, e_9, h⟩ := xb1_ex h
  refine XR.callV 10 rfl (rest := []) m_M_steps k_10_498 10 l0 (Or.inl ⟨by decide, rfl⟩) [(vI l1)] rfl rfl (c_M_steps e_9) (by decide) (Nat.le_of_ble_eq_true rfl) (by decide +kernel) (Nat.le_refl _) (Nat.le_refl _) ?_
  show XR false 4 174 sc y_M_up (30, [(0, (vR 10 l0)), (1, (vI l1)), (2, (vI l2))], [], R, M_8, 174) _
  refine s_M_up [(30, .aload_n 0, 0, 0), (31, .iload_n 2, 0, 0), (32, .iconst (-1), 0, (-1))] (by decide +kernel) (z' := (33, [(0, (vR 10 l0)), (1, (vI l1)), (2, (vI l2))], [(vI (-1)), (vI l2), (vR 10 l0)], R, M_8, 174)) (cs := []) (by rfl) trivial (Nat.le_refl _) ?_
  rcases xif_ex h with ⟨c_10, h⟩ | ⟨c_10, h⟩
  · skip
    refine s_M_up [(33, .if_icmp .ne 11, 0, (-1)), (36, .aload_n 0, 0, 0), (37, .iload_n 1, 0, 0)] (by decide +kernel) (z' := (38, [(0, (vR 10 l0)), (1, (vI l1)), (2, (vI l2))], [(vI l1), (vR 10 l0), (vR 10 l0)], R, M_8, 174)) (cs := [¬ (l2 ≠ -1)]) (by rfl) ⟨fun q => q c_10, trivial⟩ (Nat.le_refl _) ?_
    obtain ⟨r_11, e_12, h⟩ := xb1_ex h
    refine XR.callV 10 rfl (rest := [(vR 10 l0)]) m_M_upIn k_10_501 10 l0 (Or.inl ⟨by decide, rfl⟩) [(vI l1)] rfl rfl (c_M_upIn e_12) (by decide) (Nat.le_of_ble_eq_true rfl) (by decide +kernel) (Nat.le_refl _) (Nat.le_refl _) ?_
    show XR false 4 174 sc y_M_up (41, [(0, (vR 10 l0)), (1, (vI l1)), (2, (vI l2))], [(vI r_11), (vR 10 l0)], R, M_8, 174) _
    refine s_M_up [(41, .goto 13, 0, 54)] (by decide +kernel) (z' := (54, [(0, (vR 10 l0)), (1, (vI l1)), (2, (vI l2))], [(vI r_11), (vR 10 l0)], R, M_8, 174)) (cs := []) (by rfl) trivial (Nat.le_refl _) ?_
    obtain ⟨r_13, M_14, e_15, h⟩ := xb2_ex h
    refine XR.callV 10 rfl (rest := []) m_M_gives k_10_405 10 l0 (Or.inl ⟨by decide, rfl⟩) [(vI r_11)] rfl rfl (c_M_gives e_15) (by decide) (Nat.le_of_ble_eq_true rfl) (by decide +kernel) (Nat.le_refl _) (Nat.le_refl _) ?_
    show XR false 4 174 sc y_M_up (57, [(0, (vR 10 l0)), (1, (vI l1)), (2, (vI l2))], [(vI r_13)], R, M_14, 174) _
    obtain rfl := Option.some.inj h
    exact XR.retI .int rfl rfl (by decide +kernel)
  · skip
    obtain ⟨c_16, h⟩ := xch_ex h
    refine s_M_up [(33, .if_icmp .ne 11, 0, 44), (44, .aload_n 0, 0, 0), (45, .getfield 181, 10, 80), (48, .iconst 4, 0, 4), (49, .iload_n 1, 0, 0), (50, .imul, 0, 0), (51, .iload_n 2, 0, 0), (52, .iadd, 0, 0), (53, .iaload, 0, 0)] (by decide +kernel) (z' := (54, [(0, (vR 10 l0)), (1, (vI l1)), (2, (vI l2))], [(vI (M_8 (R l0 80) (Int.toNat (w32 ((w32 (4 * l1)) + l2))))), (vR 10 l0)], R, M_8, 174)) (cs := [l2 ≠ -1, xar 26 0, xidx (w32 ((w32 (4 * l1)) + l2)) (xan 26)]) (by rfl) ⟨c_10, xar_26, xix_26 c_16, trivial⟩ (Nat.le_refl _) ?_
    obtain ⟨r_17, M_18, e_19, h⟩ := xb2_ex h
    refine XR.callV 10 rfl (rest := []) m_M_gives k_10_405 10 l0 (Or.inl ⟨by decide, rfl⟩) [(vI (M_8 (R l0 80) (Int.toNat (w32 ((w32 (4 * l1)) + l2)))))] rfl rfl (c_M_gives e_19) (by decide) (Nat.le_of_ble_eq_true rfl) (by decide +kernel) (Nat.le_refl _) (Nat.le_refl _) ?_
    show XR false 4 174 sc y_M_up (57, [(0, (vR 10 l0)), (1, (vI l1)), (2, (vI l2))], [(vI r_17)], R, M_18, 174) _
    obtain rfl := Option.some.inj h
    exact XR.retI .int rfl rfl (by decide +kernel)
set_option maxRecDepth 100000 in
set_option maxHeartbeats 4000000 in
theorem o_M_up {sc : List Int} {R : xR} {M : xM} {l0 : Nat} {l1 : Int} {l2 : Int} {out : Int × xM} (h : f_M_up R l0 l1 l2 M = some out) : XR false 4 174 sc y_M_up (0, [(0, (vR 10 l0)), (1, (vI l1)), (2, (vI l2))], [], R, M, 174) ((some (vI out.1)), R, out.2) := by
  unfold f_M_up at h
  refine s_M_up [(0, .iload_n 1, 0, 0)] (by decide +kernel) (z' := (1, [(0, (vR 10 l0)), (1, (vI l1)), (2, (vI l2))], [(vI l1)], R, M, 174)) (cs := []) (by rfl) trivial (Nat.le_refl _) ?_
  obtain ⟨r_1, e_2, h⟩ := xb1_ex h
  refine XR.callS 10 rfl (rest := []) m_M_isHour k_10_436 [(vI l1)] rfl rfl (c_M_isHour e_2) (by decide) (Nat.le_of_ble_eq_true rfl) (by decide +kernel) (Nat.le_refl _) (Nat.le_refl _) ?_
  show XR false 4 174 sc y_M_up (4, [(0, (vR 10 l0)), (1, (vI l1)), (2, (vI l2))], [(vI r_1)], R, M, 174) _
  rcases xif_ex h with ⟨c_3, h⟩ | ⟨c_3, h⟩
  · skip
    refine s_M_up [(4, .ifCond .eq 15, 0, 19), (19, .aload_n 0, 0, 0), (20, .iconst 1, 0, 1)] (by decide +kernel) (z' := (21, [(0, (vR 10 l0)), (1, (vI l1)), (2, (vI l2))], [(vI 1), (vR 10 l0)], R, M, 174)) (cs := [r_1 = 0]) (by rfl) ⟨c_3, trivial⟩ (Nat.le_refl _) ?_
    obtain ⟨r_4, M_5, e_6, h⟩ := xb2_ex h
    refine XR.callV 10 rfl (rest := []) m_M_refuse k_10_377 10 l0 (Or.inl ⟨by decide, rfl⟩) [(vI 1)] rfl rfl (c_M_refuse e_6) (by decide) (Nat.le_of_ble_eq_true rfl) (by decide +kernel) (Nat.le_refl _) (Nat.le_refl _) ?_
    show XR false 4 174 sc y_M_up (24, [(0, (vR 10 l0)), (1, (vI l1)), (2, (vI l2))], [(vI r_4)], R, M_5, 174) _
    obtain rfl := Option.some.inj h
    exact XR.retI .int rfl rfl (by decide +kernel)
  · skip
    refine s_M_up [(4, .ifCond .eq 15, 0, (-1)), (7, .iload_n 2, 0, 0), (8, .iconst (-1), 0, (-1))] (by decide +kernel) (z' := (9, [(0, (vR 10 l0)), (1, (vI l1)), (2, (vI l2))], [(vI (-1)), (vI l2)], R, M, 174)) (cs := [¬ (r_1 = 0)]) (by rfl) ⟨c_3, trivial⟩ (Nat.le_refl _) ?_
    rcases xif_ex h with ⟨c_7, h⟩ | ⟨c_7, h⟩
    · skip
      refine s_M_up [(9, .if_icmp .eq 16, 0, 25)] (by decide +kernel) (z' := (25, [(0, (vR 10 l0)), (1, (vI l1)), (2, (vI l2))], [], R, M, 174)) (cs := [l2 = -1]) (by rfl) ⟨c_7, trivial⟩ (Nat.le_refl _) ?_
      exact o_M_up_J25  h
    · skip
      refine s_M_up [(9, .if_icmp .eq 16, 0, (-1)), (12, .iload_n 2, 0, 0)] (by decide +kernel) (z' := (13, [(0, (vR 10 l0)), (1, (vI l1)), (2, (vI l2))], [(vI l2)], R, M, 174)) (cs := [¬ (l2 = -1)]) (by rfl) ⟨c_7, trivial⟩ (Nat.le_refl _) ?_
      obtain ⟨r_20, e_21, h⟩ := xb1_ex h
      refine XR.callS 10 rfl (rest := []) m_M_isSize k_10_439 [(vI l2)] rfl rfl (c_M_isSize e_21) (by decide) (Nat.le_of_ble_eq_true rfl) (by decide +kernel) (Nat.le_refl _) (Nat.le_refl _) ?_
      show XR false 4 174 sc y_M_up (16, [(0, (vR 10 l0)), (1, (vI l1)), (2, (vI l2))], [(vI r_20)], R, M, 174) _
      rcases xif_ex h with ⟨c_22, h⟩ | ⟨c_22, h⟩
      · skip
        refine s_M_up [(16, .ifCond .ne 9, 0, (-1)), (19, .aload_n 0, 0, 0), (20, .iconst 1, 0, 1)] (by decide +kernel) (z' := (21, [(0, (vR 10 l0)), (1, (vI l1)), (2, (vI l2))], [(vI 1), (vR 10 l0)], R, M, 174)) (cs := [¬ (r_20 ≠ 0)]) (by rfl) ⟨fun q => q c_22, trivial⟩ (Nat.le_refl _) ?_
        obtain ⟨r_23, M_24, e_25, h⟩ := xb2_ex h
        refine XR.callV 10 rfl (rest := []) m_M_refuse k_10_377 10 l0 (Or.inl ⟨by decide, rfl⟩) [(vI 1)] rfl rfl (c_M_refuse e_25) (by decide) (Nat.le_of_ble_eq_true rfl) (by decide +kernel) (Nat.le_refl _) (Nat.le_refl _) ?_
        show XR false 4 174 sc y_M_up (24, [(0, (vR 10 l0)), (1, (vI l1)), (2, (vI l2))], [(vI r_23)], R, M_24, 174) _
        obtain rfl := Option.some.inj h
        exact XR.retI .int rfl rfl (by decide +kernel)
      · skip
        refine s_M_up [(16, .ifCond .ne 9, 0, 25)] (by decide +kernel) (z' := (25, [(0, (vR 10 l0)), (1, (vI l1)), (2, (vI l2))], [], R, M, 174)) (cs := [r_20 ≠ 0]) (by rfl) ⟨c_22, trivial⟩ (Nat.le_refl _) ?_
        exact o_M_up_J25  h
set_option maxRecDepth 100000 in
set_option maxHeartbeats 4000000 in
theorem c_M_up {sc : List Int} {R : xR} {M : xM} {l0 : Nat} {l1 : Int} {l2 : Int} {out : Int × xM} (h : f_M_up R l0 l1 l2 M = some out) : XC false 4 sc y_M_up [(vR 10 l0), (vI l1), (vI l2)] R M 174 174 ((some (vI out.1)), R, out.2) := XC.of (by decide) (Nat.le_of_ble_eq_true rfl) (Nat.le_refl _) (Nat.le_refl _) (o_M_up h)
def f_M_warmth (R : xR) (l0 : Nat) (l1 : Int) (l2 : Int) (M : xM) : Option (Int × xM) :=
  xb1 (f_M_isHour l1) fun r_1 =>
  if r_1 = 0 then
    xb2 (f_M_is l0 1 M) fun r_4 M_5 =>
    xch (r_4 = 0 ∨ r_4 = 1) <|
    some (r_4, M_5)
  else
    if l2 < 0 then
      xb2 (f_M_is l0 1 M) fun r_9 M_10 =>
      xch (r_9 = 0 ∨ r_9 = 1) <|
      some (r_9, M_10)
    else
      if 9999 < l2 then
        xb2 (f_M_is l0 1 M) fun r_14 M_15 =>
        xch (r_14 = 0 ∨ r_14 = 1) <|
        some (r_14, M_15)
      else
        xch (0 ≤ l1 ∧ l1 < 48) <|
        xl (xu M (R l0 73) (Int.toNat l1) l2) fun M_19 =>
        xb2 (f_M_is l0 0 M_19) fun r_20 M_21 =>
        xch (r_20 = 0 ∨ r_20 = 1) <|
        some (r_20, M_21)
set_option maxRecDepth 100000 in
set_option maxHeartbeats 4000000 in
theorem s_M_warmth {d : Nat} {sc : List Int} {z z' : xS} {out : xO} (qs : List xI) {cs : List Prop} (hq : qs.all (xqb 10 false y_M_warmth.2.2.1 y_M_warmth.2.1) = true) (h : xN false sc qs z = some (z', cs)) (hc : xAll cs) (hE : z'.2.2.2.2.2 ≤ 174) (k : XR false d 174 sc y_M_warmth z' out) : XR false d 174 sc y_M_warmth z out := XR.seg 10 false rfl (fun q => by cases q) qs hq h hc hE k
set_option maxRecDepth 100000 in
set_option maxHeartbeats 4000000 in
theorem o_M_warmth {sc : List Int} {R : xR} {M : xM} {l0 : Nat} {l1 : Int} {l2 : Int} {out : Int × xM} (h : f_M_warmth R l0 l1 l2 M = some out) : XR false 1 174 sc y_M_warmth (0, [(0, (vR 10 l0)), (1, (vI l1)), (2, (vI l2))], [], R, M, 174) ((some (vI out.1)), R, out.2) := by
  unfold f_M_warmth at h
  refine s_M_warmth [(0, .iload_n 1, 0, 0)] (by decide +kernel) (z' := (1, [(0, (vR 10 l0)), (1, (vI l1)), (2, (vI l2))], [(vI l1)], R, M, 174)) (cs := []) (by rfl) trivial (Nat.le_refl _) ?_
  obtain ⟨r_1, e_2, h⟩ := xb1_ex h
  refine XR.callS 10 rfl (rest := []) m_M_isHour k_10_436 [(vI l1)] rfl rfl (c_M_isHour e_2) (by decide) (Nat.le_of_ble_eq_true rfl) (by decide +kernel) (Nat.le_refl _) (Nat.le_refl _) ?_
  show XR false 1 174 sc y_M_warmth (4, [(0, (vR 10 l0)), (1, (vI l1)), (2, (vI l2))], [(vI r_1)], R, M, 174) _
  rcases xif_ex h with ⟨c_3, h⟩ | ⟨c_3, h⟩
  · skip
    refine s_M_warmth [(4, .ifCond .eq 14, 0, 18), (18, .aload_n 0, 0, 0), (19, .iconst 1, 0, 1)] (by decide +kernel) (z' := (20, [(0, (vR 10 l0)), (1, (vI l1)), (2, (vI l2))], [(vI 1), (vR 10 l0)], R, M, 174)) (cs := [r_1 = 0]) (by rfl) ⟨c_3, trivial⟩ (Nat.le_refl _) ?_
    obtain ⟨r_4, M_5, e_6, h⟩ := xb2_ex h
    refine XR.callV 10 rfl (rest := []) m_M_is k_10_254 10 l0 (Or.inl ⟨by decide, rfl⟩) [(vI 1)] rfl rfl (c_M_is e_6) (by decide) (Nat.le_of_ble_eq_true rfl) (by decide +kernel) (Nat.le_refl _) (Nat.le_refl _) ?_
    show XR false 1 174 sc y_M_warmth (23, [(0, (vR 10 l0)), (1, (vI l1)), (2, (vI l2))], [(vI r_4)], R, M_5, 174) _
    obtain ⟨c_7, h⟩ := xch_ex h
    obtain rfl := Option.some.inj h
    exact XR.retI .boolean rfl (xnar_z c_7) (by decide +kernel)
  · skip
    refine s_M_warmth [(4, .ifCond .eq 14, 0, (-1)), (7, .iload_n 2, 0, 0)] (by decide +kernel) (z' := (8, [(0, (vR 10 l0)), (1, (vI l1)), (2, (vI l2))], [(vI l2)], R, M, 174)) (cs := [¬ (r_1 = 0)]) (by rfl) ⟨c_3, trivial⟩ (Nat.le_refl _) ?_
    rcases xif_ex h with ⟨c_8, h⟩ | ⟨c_8, h⟩
    · skip
      refine s_M_warmth [(8, .ifCond .lt 10, 0, 18), (18, .aload_n 0, 0, 0), (19, .iconst 1, 0, 1)] (by decide +kernel) (z' := (20, [(0, (vR 10 l0)), (1, (vI l1)), (2, (vI l2))], [(vI 1), (vR 10 l0)], R, M, 174)) (cs := [l2 < 0]) (by rfl) ⟨c_8, trivial⟩ (Nat.le_refl _) ?_
      obtain ⟨r_9, M_10, e_11, h⟩ := xb2_ex h
      refine XR.callV 10 rfl (rest := []) m_M_is k_10_254 10 l0 (Or.inl ⟨by decide, rfl⟩) [(vI 1)] rfl rfl (c_M_is e_11) (by decide) (Nat.le_of_ble_eq_true rfl) (by decide +kernel) (Nat.le_refl _) (Nat.le_refl _) ?_
      show XR false 1 174 sc y_M_warmth (23, [(0, (vR 10 l0)), (1, (vI l1)), (2, (vI l2))], [(vI r_9)], R, M_10, 174) _
      obtain ⟨c_12, h⟩ := xch_ex h
      obtain rfl := Option.some.inj h
      exact XR.retI .boolean rfl (xnar_z c_12) (by decide +kernel)
    · skip
      refine s_M_warmth [(8, .ifCond .lt 10, 0, (-1)), (11, .iload_n 2, 0, 0), (12, .sipush 9999, 0, 9999)] (by decide +kernel) (z' := (15, [(0, (vR 10 l0)), (1, (vI l1)), (2, (vI l2))], [(vI 9999), (vI l2)], R, M, 174)) (cs := [¬ (l2 < 0)]) (by rfl) ⟨c_8, trivial⟩ (Nat.le_refl _) ?_
      rcases xif_ex h with ⟨c_13, h⟩ | ⟨c_13, h⟩
      · skip
        refine s_M_warmth [(15, .if_icmp .le 9, 0, (-1)), (18, .aload_n 0, 0, 0), (19, .iconst 1, 0, 1)] (by decide +kernel) (z' := (20, [(0, (vR 10 l0)), (1, (vI l1)), (2, (vI l2))], [(vI 1), (vR 10 l0)], R, M, 174)) (cs := [¬ (l2 ≤ 9999)]) (by rfl) ⟨Int.not_le.mpr c_13, trivial⟩ (Nat.le_refl _) ?_
        obtain ⟨r_14, M_15, e_16, h⟩ := xb2_ex h
        refine XR.callV 10 rfl (rest := []) m_M_is k_10_254 10 l0 (Or.inl ⟨by decide, rfl⟩) [(vI 1)] rfl rfl (c_M_is e_16) (by decide) (Nat.le_of_ble_eq_true rfl) (by decide +kernel) (Nat.le_refl _) (Nat.le_refl _) ?_
        show XR false 1 174 sc y_M_warmth (23, [(0, (vR 10 l0)), (1, (vI l1)), (2, (vI l2))], [(vI r_14)], R, M_15, 174) _
        obtain ⟨c_17, h⟩ := xch_ex h
        obtain rfl := Option.some.inj h
        exact XR.retI .boolean rfl (xnar_z c_17) (by decide +kernel)
      · skip
        obtain ⟨c_18, h⟩ := xch_ex h
        obtain ⟨M_19, hM_19, h⟩ := xl_ex h
        refine s_M_warmth [(15, .if_icmp .le 9, 0, 24), (24, .aload_n 0, 0, 0), (25, .getfield 169, 10, 73), (28, .iload_n 1, 0, 0), (29, .iload_n 2, 0, 0), (30, .iastore, 0, 0), (31, .aload_n 0, 0, 0), (32, .iconst 0, 0, 0)] (by decide +kernel) (z' := (33, [(0, (vR 10 l0)), (1, (vI l1)), (2, (vI l2))], [(vI 0), (vR 10 l0)], R, M_19, 174)) (cs := [l2 ≤ 9999, xar 22 0, xidx l1 (xan 22)]) (by subst hM_19; rfl) ⟨Int.not_lt.mp c_13, xar_22, xix_22 c_18, trivial⟩ (Nat.le_refl _) ?_
        obtain ⟨r_20, M_21, e_22, h⟩ := xb2_ex h
        refine XR.callV 10 rfl (rest := []) m_M_is k_10_254 10 l0 (Or.inl ⟨by decide, rfl⟩) [(vI 0)] rfl rfl (c_M_is e_22) (by decide) (Nat.le_of_ble_eq_true rfl) (by decide +kernel) (Nat.le_refl _) (Nat.le_refl _) ?_
        show XR false 1 174 sc y_M_warmth (36, [(0, (vR 10 l0)), (1, (vI l1)), (2, (vI l2))], [(vI r_20)], R, M_21, 174) _
        obtain ⟨c_23, h⟩ := xch_ex h
        obtain rfl := Option.some.inj h
        exact XR.retI .boolean rfl (xnar_z c_23) (by decide +kernel)
set_option maxRecDepth 100000 in
set_option maxHeartbeats 4000000 in
theorem c_M_warmth {sc : List Int} {R : xR} {M : xM} {l0 : Nat} {l1 : Int} {l2 : Int} {out : Int × xM} (h : f_M_warmth R l0 l1 l2 M = some out) : XC false 1 sc y_M_warmth [(vR 10 l0), (vI l1), (vI l2)] R M 174 174 ((some (vI out.1)), R, out.2) := XC.of (by decide) (Nat.le_of_ble_eq_true rfl) (Nat.le_refl _) (Nat.le_refl _) (o_M_warmth h)
