def f_X_feed (R : xR) (l0 : Nat) (l1 : Int) (l2 : Int) (l3 : Int) (l4 : Int) (l5 : Int) (M : xM) : Option (Int × xM) :=
  xb1 (f_A_hasRoom (R l0 1) M) fun r_1 =>
  if r_1 = 0 then
    some (-1, M)
  else
    xb1 (f_A_append R (R l0 1) l1 M) fun M_4 =>
    xb1 (f_A_append R (R l0 1) l2 M_4) fun M_6 =>
    xb1 (f_A_append R (R l0 1) l3 M_6) fun M_8 =>
    xb1 (f_A_append R (R l0 1) l4 M_8) fun M_10 =>
    xb1 (f_A_append R (R l0 1) l5 M_10) fun M_12 =>
    some (M_12 (R l0 1) 1, M_12)
set_option maxRecDepth 100000 in
set_option maxHeartbeats 4000000 in
theorem s_X_feed {d : Nat} {sc : List Int} {z z' : xS} {out : xO} (qs : List xI) {cs : List Prop} (hq : qs.all (xqb 9 false y_X_feed.2.2.1 y_X_feed.2.1) = true) (h : xN false sc qs z = some (z', cs)) (hc : xAll cs) (hE : z'.2.2.2.2.2 ≤ 174) (k : XR false d 174 sc y_X_feed z' out) : XR false d 174 sc y_X_feed z out := XR.seg 9 false rfl (fun q => by cases q) qs hq h hc hE k
set_option maxRecDepth 100000 in
set_option maxHeartbeats 4000000 in
theorem o_X_feed {sc : List Int} {R : xR} {M : xM} {l0 : Nat} {l1 : Int} {l2 : Int} {l3 : Int} {l4 : Int} {l5 : Int} {out : Int × xM} (h : f_X_feed R l0 l1 l2 l3 l4 l5 M = some out) : XR false 1 174 sc y_X_feed (0, [(0, (vR 9 l0)), (1, (vI l1)), (2, (vI l2)), (3, (vI l3)), (4, (vI l4)), (5, (vI l5))], [], R, M, 174) ((some (vI out.1)), R, out.2) := by
  unfold f_X_feed at h
  refine s_X_feed [(0, .aload_n 0, 0, 0), (1, .getfield 16, 9, 1)] (by decide +kernel) (z' := (4, [(0, (vR 9 l0)), (1, (vI l1)), (2, (vI l2)), (3, (vI l3)), (4, (vI l4)), (5, (vI l5))], [(vR 7 (R l0 1))], R, M, 174)) (cs := []) (by rfl) trivial (Nat.le_refl _) ?_
  obtain ⟨r_1, e_2, h⟩ := xb1_ex h
  refine XR.callV 9 rfl (rest := []) m_A_hasRoom k_9_128 7 (R l0 1) (Or.inl ⟨by decide, rfl⟩) [] rfl rfl (c_A_hasRoom e_2) (by decide) (Nat.le_of_ble_eq_true rfl) (by decide +kernel) (Nat.le_refl _) (Nat.le_refl _) ?_
  show XR false 1 174 sc y_X_feed (7, [(0, (vR 9 l0)), (1, (vI l1)), (2, (vI l2)), (3, (vI l3)), (4, (vI l4)), (5, (vI l5))], [(vI r_1)], R, M, 174) _
  rcases xif_ex h with ⟨c_3, h⟩ | ⟨c_3, h⟩
  · skip
    refine s_X_feed [(7, .ifCond .ne 5, 0, (-1)), (10, .iconst (-1), 0, (-1))] (by decide +kernel) (z' := (11, [(0, (vR 9 l0)), (1, (vI l1)), (2, (vI l2)), (3, (vI l3)), (4, (vI l4)), (5, (vI l5))], [(vI (-1))], R, M, 174)) (cs := [¬ (r_1 ≠ 0)]) (by rfl) ⟨fun q => q c_3, trivial⟩ (Nat.le_refl _) ?_
    obtain rfl := Option.some.inj h
    exact XR.retI .int rfl rfl (by decide +kernel)
  · skip
    refine s_X_feed [(7, .ifCond .ne 5, 0, 12), (12, .aload_n 0, 0, 0), (13, .getfield 16, 9, 1), (16, .iload_n 1, 0, 0)] (by decide +kernel) (z' := (17, [(0, (vR 9 l0)), (1, (vI l1)), (2, (vI l2)), (3, (vI l3)), (4, (vI l4)), (5, (vI l5))], [(vI l1), (vR 7 (R l0 1))], R, M, 174)) (cs := [r_1 ≠ 0]) (by rfl) ⟨c_3, trivial⟩ (Nat.le_refl _) ?_
    obtain ⟨M_4, e_5, h⟩ := xb1_ex h
    refine XR.callV 9 rfl (rest := []) m_A_append k_9_131 7 (R l0 1) (Or.inl ⟨by decide, rfl⟩) [(vI l1)] rfl rfl (c_A_append e_5) (by decide) (Nat.le_of_ble_eq_true rfl) (by decide +kernel) (Nat.le_refl _) (Nat.le_refl _) ?_
    show XR false 1 174 sc y_X_feed (20, [(0, (vR 9 l0)), (1, (vI l1)), (2, (vI l2)), (3, (vI l3)), (4, (vI l4)), (5, (vI l5))], [], R, M_4, 174) _
    refine s_X_feed [(20, .aload_n 0, 0, 0), (21, .getfield 16, 9, 1), (24, .iload_n 2, 0, 0)] (by decide +kernel) (z' := (25, [(0, (vR 9 l0)), (1, (vI l1)), (2, (vI l2)), (3, (vI l3)), (4, (vI l4)), (5, (vI l5))], [(vI l2), (vR 7 (R l0 1))], R, M_4, 174)) (cs := []) (by rfl) trivial (Nat.le_refl _) ?_
    obtain ⟨M_6, e_7, h⟩ := xb1_ex h
    refine XR.callV 9 rfl (rest := []) m_A_append k_9_131 7 (R l0 1) (Or.inl ⟨by decide, rfl⟩) [(vI l2)] rfl rfl (c_A_append e_7) (by decide) (Nat.le_of_ble_eq_true rfl) (by decide +kernel) (Nat.le_refl _) (Nat.le_refl _) ?_
    show XR false 1 174 sc y_X_feed (28, [(0, (vR 9 l0)), (1, (vI l1)), (2, (vI l2)), (3, (vI l3)), (4, (vI l4)), (5, (vI l5))], [], R, M_6, 174) _
    refine s_X_feed [(28, .aload_n 0, 0, 0), (29, .getfield 16, 9, 1), (32, .iload_n 3, 0, 0)] (by decide +kernel) (z' := (33, [(0, (vR 9 l0)), (1, (vI l1)), (2, (vI l2)), (3, (vI l3)), (4, (vI l4)), (5, (vI l5))], [(vI l3), (vR 7 (R l0 1))], R, M_6, 174)) (cs := []) (by rfl) trivial (Nat.le_refl _) ?_
    obtain ⟨M_8, e_9, h⟩ := xb1_ex h
    refine XR.callV 9 rfl (rest := []) m_A_append k_9_131 7 (R l0 1) (Or.inl ⟨by decide, rfl⟩) [(vI l3)] rfl rfl (c_A_append e_9) (by decide) (Nat.le_of_ble_eq_true rfl) (by decide +kernel) (Nat.le_refl _) (Nat.le_refl _) ?_
    show XR false 1 174 sc y_X_feed (36, [(0, (vR 9 l0)), (1, (vI l1)), (2, (vI l2)), (3, (vI l3)), (4, (vI l4)), (5, (vI l5))], [], R, M_8, 174) _
    refine s_X_feed [(36, .aload_n 0, 0, 0), (37, .getfield 16, 9, 1), (40, .iload 4, 0, 0)] (by decide +kernel) (z' := (42, [(0, (vR 9 l0)), (1, (vI l1)), (2, (vI l2)), (3, (vI l3)), (4, (vI l4)), (5, (vI l5))], [(vI l4), (vR 7 (R l0 1))], R, M_8, 174)) (cs := []) (by rfl) trivial (Nat.le_refl _) ?_
    obtain ⟨M_10, e_11, h⟩ := xb1_ex h
    refine XR.callV 9 rfl (rest := []) m_A_append k_9_131 7 (R l0 1) (Or.inl ⟨by decide, rfl⟩) [(vI l4)] rfl rfl (c_A_append e_11) (by decide) (Nat.le_of_ble_eq_true rfl) (by decide +kernel) (Nat.le_refl _) (Nat.le_refl _) ?_
    show XR false 1 174 sc y_X_feed (45, [(0, (vR 9 l0)), (1, (vI l1)), (2, (vI l2)), (3, (vI l3)), (4, (vI l4)), (5, (vI l5))], [], R, M_10, 174) _
    refine s_X_feed [(45, .aload_n 0, 0, 0), (46, .getfield 16, 9, 1), (49, .iload 5, 0, 0)] (by decide +kernel) (z' := (51, [(0, (vR 9 l0)), (1, (vI l1)), (2, (vI l2)), (3, (vI l3)), (4, (vI l4)), (5, (vI l5))], [(vI l5), (vR 7 (R l0 1))], R, M_10, 174)) (cs := []) (by rfl) trivial (Nat.le_refl _) ?_
    obtain ⟨M_12, e_13, h⟩ := xb1_ex h
    refine XR.callV 9 rfl (rest := []) m_A_append k_9_131 7 (R l0 1) (Or.inl ⟨by decide, rfl⟩) [(vI l5)] rfl rfl (c_A_append e_13) (by decide) (Nat.le_of_ble_eq_true rfl) (by decide +kernel) (Nat.le_refl _) (Nat.le_refl _) ?_
    show XR false 1 174 sc y_X_feed (54, [(0, (vR 9 l0)), (1, (vI l1)), (2, (vI l2)), (3, (vI l3)), (4, (vI l4)), (5, (vI l5))], [], R, M_12, 174) _
    refine s_X_feed [(54, .aload_n 0, 0, 0), (55, .getfield 16, 9, 1), (58, .getfield 135, 7, 1)] (by decide +kernel) (z' := (61, [(0, (vR 9 l0)), (1, (vI l1)), (2, (vI l2)), (3, (vI l3)), (4, (vI l4)), (5, (vI l5))], [(vI (M_12 (R l0 1) 1))], R, M_12, 174)) (cs := []) (by rfl) trivial (Nat.le_refl _) ?_
    obtain rfl := Option.some.inj h
    exact XR.retI .int rfl rfl (by decide +kernel)
set_option maxRecDepth 100000 in
set_option maxHeartbeats 4000000 in
theorem c_X_feed {sc : List Int} {R : xR} {M : xM} {l0 : Nat} {l1 : Int} {l2 : Int} {l3 : Int} {l4 : Int} {l5 : Int} {out : Int × xM} (h : f_X_feed R l0 l1 l2 l3 l4 l5 M = some out) : XC false 1 sc y_X_feed [(vR 9 l0), (vI l1), (vI l2), (vI l3), (vI l4), (vI l5)] R M 174 174 ((some (vI out.1)), R, out.2) := XC.of (by decide) (Nat.le_of_ble_eq_true rfl) (Nat.le_refl _) (Nat.le_refl _) (o_X_feed h)
def f_X_isSpan (l0 : Int) : Option Int :=
  if l0 < 0 then
    some (0)
  else
    if 1000 < l0 then
      some (0)
    else
      some (1)
set_option maxRecDepth 100000 in
set_option maxHeartbeats 4000000 in
theorem s_X_isSpan {d : Nat} {sc : List Int} {z z' : xS} {out : xO} (qs : List xI) {cs : List Prop} (hq : qs.all (xqb 9 false y_X_isSpan.2.2.1 y_X_isSpan.2.1) = true) (h : xN false sc qs z = some (z', cs)) (hc : xAll cs) (hE : z'.2.2.2.2.2 ≤ 174) (k : XR false d 174 sc y_X_isSpan z' out) : XR false d 174 sc y_X_isSpan z out := XR.seg 9 false rfl (fun q => by cases q) qs hq h hc hE k
set_option maxRecDepth 100000 in
set_option maxHeartbeats 4000000 in
theorem o_X_isSpan {sc : List Int} {R : xR} {M : xM} {l0 : Int} {out : Int} (h : f_X_isSpan l0 = some out) : XR false 0 174 sc y_X_isSpan (0, [(0, (vI l0))], [], R, M, 174) ((some (vI out)), R, M) := by
  unfold f_X_isSpan at h
  refine s_X_isSpan [(0, .iload_n 0, 0, 0)] (by decide +kernel) (z' := (1, [(0, (vI l0))], [(vI l0)], R, M, 174)) (cs := []) (by rfl) trivial (Nat.le_refl _) ?_
  rcases xif_ex h with ⟨c_1, h⟩ | ⟨c_1, h⟩
  · skip
    refine s_X_isSpan [(1, .ifCond .lt 14, 0, 15), (15, .iconst 0, 0, 0)] (by decide +kernel) (z' := (16, [(0, (vI l0))], [(vI 0)], R, M, 174)) (cs := [l0 < 0]) (by rfl) ⟨c_1, trivial⟩ (Nat.le_refl _) ?_
    obtain rfl := Option.some.inj h
    exact XR.retI .boolean rfl (xnar_z (by decide)) (by decide +kernel)
  · skip
    refine s_X_isSpan [(1, .ifCond .lt 14, 0, (-1)), (4, .iload_n 0, 0, 0), (5, .sipush 1000, 0, 1000)] (by decide +kernel) (z' := (8, [(0, (vI l0))], [(vI 1000), (vI l0)], R, M, 174)) (cs := [¬ (l0 < 0)]) (by rfl) ⟨c_1, trivial⟩ (Nat.le_refl _) ?_
    rcases xif_ex h with ⟨c_2, h⟩ | ⟨c_2, h⟩
    · skip
      refine s_X_isSpan [(8, .if_icmp .gt 7, 0, 15), (15, .iconst 0, 0, 0)] (by decide +kernel) (z' := (16, [(0, (vI l0))], [(vI 0)], R, M, 174)) (cs := [1000 < l0]) (by rfl) ⟨c_2, trivial⟩ (Nat.le_refl _) ?_
      obtain rfl := Option.some.inj h
      exact XR.retI .boolean rfl (xnar_z (by decide)) (by decide +kernel)
    · skip
      refine s_X_isSpan [(8, .if_icmp .gt 7, 0, (-1)), (11, .iconst 1, 0, 1), (12, .goto 4, 0, 16)] (by decide +kernel) (z' := (16, [(0, (vI l0))], [(vI 1)], R, M, 174)) (cs := [¬ (1000 < l0)]) (by rfl) ⟨c_2, trivial⟩ (Nat.le_refl _) ?_
      obtain rfl := Option.some.inj h
      exact XR.retI .boolean rfl (xnar_z (by decide)) (by decide +kernel)
set_option maxRecDepth 100000 in
set_option maxHeartbeats 4000000 in
theorem c_X_isSpan {sc : List Int} {R : xR} {M : xM} {l0 : Int} {out : Int} (h : f_X_isSpan l0 = some out) : XC false 0 sc y_X_isSpan [(vI l0)] R M 174 174 ((some (vI out)), R, M) := XC.of (by decide) (Nat.le_of_ble_eq_true rfl) (Nat.le_refl _) (Nat.le_refl _) (o_X_isSpan h)
def X_gauge_F107 (R : xR) (l0 : Nat) (l1 : Int) (l2 : Int) (l3 : Int) (l4 : Int) (q150 : xM → Option (Int × xM)) : Nat → Int → xM → Option (Int × xM)
  | 0, _, _ => none
  | n + 1, v6, M =>
    if v6 < l3 then
      xb1 (f_Y_get R (R l0 2) l1 v6 M) fun r_45 =>
      xb1 (f_Y_get R (R l0 2) l2 v6 M) fun r_47 =>
      xb1 (f_P_narrowLines R (R l0 11) (w32 r_45) (w32 r_47) l4 M) fun M_49 =>
      xl (w32 (v6 + 1)) fun v6_51 =>
      X_gauge_F107 R l0 l1 l2 l3 l4 q150 n v6_51 M_49
    else
      q150 M
def f_X_gauge (R : xR) (l0 : Nat) (l1 : Int) (l2 : Int) (l3 : Int) (l4 : Int) (M : xM) : Option (Int × xM) :=
  xb1 (f_X_isTray l1) fun r_1 =>
  if r_1 = 0 then
    xb2 (f_X_refuse l0 1 M) fun r_4 M_5 =>
    some (r_4, M_5)
  else
    xb1 (f_X_isTray l2) fun r_7 =>
    if r_7 = 0 then
      xb2 (f_X_refuse l0 1 M) fun r_10 M_11 =>
      some (r_10, M_11)
    else
      if l3 < 1 then
        xb2 (f_X_refuse l0 1 M) fun r_14 M_15 =>
        some (r_14, M_15)
      else
        if 10 < l3 then
          xb2 (f_X_refuse l0 1 M) fun r_18 M_19 =>
          some (r_18, M_19)
        else
          xb1 (f_X_isSpan l4) fun r_21 =>
          if r_21 = 0 then
            xb2 (f_X_refuse l0 1 M) fun r_24 M_25 =>
            some (r_24, M_25)
          else
            xb1 (f_X_bothStatus R l0 l1 l3 l2 l3 M) fun r_27 =>
            if r_27 = 0 then
              xb1 (f_Y_areWithin R (R l0 2) l1 l3 999 M) fun r_30 =>
              if r_30 = 0 then
                xb2 (f_X_refuse l0 1 M) fun r_33 M_34 =>
                some (r_33, M_34)
              else
                xb1 (f_Y_areWithin R (R l0 2) l2 l3 99999 M) fun r_36 =>
                if r_36 = 0 then
                  xb2 (f_X_refuse l0 1 M) fun r_39 M_40 =>
                  some (r_39, M_40)
                else
                  xb1 (f_P_clearLines R (R l0 11) M) fun M_42 =>
                  X_gauge_F107 R l0 l1 l2 l3 l4
                    (fun (M_52 : xM) =>
                      xb1 (f_P_countLines R (R l0 11) M_52) fun r_53 =>
                      xb2 (f_X_answer l0 r_53 M_52) fun r_55 M_56 =>
                      some (r_55, M_56))
                    xfu 0 M_42
            else
              xb2 (f_X_refuse l0 r_27 M) fun r_58 M_59 =>
              some (r_58, M_59)
set_option maxRecDepth 100000 in
set_option maxHeartbeats 4000000 in
theorem s_X_gauge {d : Nat} {sc : List Int} {z z' : xS} {out : xO} (qs : List xI) {cs : List Prop} (hq : qs.all (xqb 9 false y_X_gauge.2.2.1 y_X_gauge.2.1) = true) (h : xN false sc qs z = some (z', cs)) (hc : xAll cs) (hE : z'.2.2.2.2.2 ≤ 174) (k : XR false d 174 sc y_X_gauge z' out) : XR false d 174 sc y_X_gauge z out := XR.seg 9 false rfl (fun q => by cases q) qs hq h hc hE k
set_option maxRecDepth 100000 in
set_option maxHeartbeats 4000000 in
theorem o_X_gauge_F107 {sc : List Int} {R : xR}   {l0 : Nat} {l1 : Int} {l2 : Int} {l3 : Int} {l4 : Int}  {q150 : xM → Option (Int × xM)} (hq150 : ∀ (M : xM) (out : Int × xM), q150 M = some out → XR false 2 174 sc y_X_gauge (150, [(0, (vR 9 l0))], [], R, M, 174) ((some (vI out.1)), R, out.2)) : ∀ (n : Nat) (v6 : Int) (M : xM) (out : Int × xM), X_gauge_F107 R l0 l1 l2 l3 l4 q150 n v6 M = some out → XR false 2 174 sc y_X_gauge (107, [(0, (vR 9 l0)), (1, (vI l1)), (2, (vI l2)), (3, (vI l3)), (4, (vI l4)), (6, (vI v6))], [], R, M, 174) ((some (vI out.1)), R, out.2) := by
  intro n
  induction n with
  | zero => intro v6 M out h; exact (xno h).elim
  | succ n ih =>
    intro v6 M out h
    rw [X_gauge_F107] at h
    refine s_X_gauge [(107, .iload 6, 0, 0), (109, .iload_n 3, 0, 0)] (by decide +kernel) (z' := (110, [(0, (vR 9 l0)), (1, (vI l1)), (2, (vI l2)), (3, (vI l3)), (4, (vI l4)), (6, (vI v6))], [(vI l3), (vI v6)], R, M, 174)) (cs := []) (by rfl) trivial (Nat.le_refl _) ?_
    rcases xif_ex h with ⟨c_44, h⟩ | ⟨c_44, h⟩
    · skip
      refine s_X_gauge [(110, .if_icmp .ge 40, 0, (-1)), (113, .aload_n 0, 0, 0), (114, .getfield 78, 9, 11), (117, .aload_n 0, 0, 0), (118, .getfield 23, 9, 2), (121, .iload_n 1, 0, 0), (122, .iload 6, 0, 0)] (by decide +kernel) (z' := (124, [(0, (vR 9 l0)), (1, (vI l1)), (2, (vI l2)), (3, (vI l3)), (4, (vI l4)), (6, (vI v6))], [(vI v6), (vI l1), (vR 8 (R l0 2)), (vR 4 (R l0 11))], R, M, 174)) (cs := [¬ (l3 ≤ v6)]) (by rfl) ⟨Int.not_le.mpr c_44, trivial⟩ (Nat.le_refl _) ?_
      obtain ⟨r_45, e_46, h⟩ := xb1_ex h
      refine XR.callV 9 rfl (rest := [(vR 4 (R l0 11))]) m_Y_get k_9_109 8 (R l0 2) (Or.inl ⟨by decide, rfl⟩) [(vI l1), (vI v6)] rfl rfl (c_Y_get e_46) (by decide) (Nat.le_of_ble_eq_true rfl) (by decide +kernel) (Nat.le_refl _) (Nat.le_refl _) ?_
      show XR false 2 174 sc y_X_gauge (127, [(0, (vR 9 l0)), (1, (vI l1)), (2, (vI l2)), (3, (vI l3)), (4, (vI l4)), (6, (vI v6))], [(vL r_45), (vR 4 (R l0 11))], R, M, 174) _
      refine s_X_gauge [(127, .l2i, 0, 0), (128, .aload_n 0, 0, 0), (129, .getfield 23, 9, 2), (132, .iload_n 2, 0, 0), (133, .iload 6, 0, 0)] (by decide +kernel) (z' := (135, [(0, (vR 9 l0)), (1, (vI l1)), (2, (vI l2)), (3, (vI l3)), (4, (vI l4)), (6, (vI v6))], [(vI v6), (vI l2), (vR 8 (R l0 2)), (vI (w32 r_45)), (vR 4 (R l0 11))], R, M, 174)) (cs := []) (by rfl) trivial (Nat.le_refl _) ?_
      obtain ⟨r_47, e_48, h⟩ := xb1_ex h
      refine XR.callV 9 rfl (rest := [(vI (w32 r_45)), (vR 4 (R l0 11))]) m_Y_get k_9_109 8 (R l0 2) (Or.inl ⟨by decide, rfl⟩) [(vI l2), (vI v6)] rfl rfl (c_Y_get e_48) (by decide) (Nat.le_of_ble_eq_true rfl) (by decide +kernel) (Nat.le_refl _) (Nat.le_refl _) ?_
      show XR false 2 174 sc y_X_gauge (138, [(0, (vR 9 l0)), (1, (vI l1)), (2, (vI l2)), (3, (vI l3)), (4, (vI l4)), (6, (vI v6))], [(vL r_47), (vI (w32 r_45)), (vR 4 (R l0 11))], R, M, 174) _
      refine s_X_gauge [(138, .l2i, 0, 0), (139, .iload 4, 0, 0)] (by decide +kernel) (z' := (141, [(0, (vR 9 l0)), (1, (vI l1)), (2, (vI l2)), (3, (vI l3)), (4, (vI l4)), (6, (vI v6))], [(vI l4), (vI (w32 r_47)), (vI (w32 r_45)), (vR 4 (R l0 11))], R, M, 174)) (cs := []) (by rfl) trivial (Nat.le_refl _) ?_
      obtain ⟨M_49, e_50, h⟩ := xb1_ex h
      refine XR.callV 9 rfl (rest := []) m_P_narrowLines k_9_354 4 (R l0 11) (Or.inl ⟨by decide, rfl⟩) [(vI (w32 r_45)), (vI (w32 r_47)), (vI l4)] rfl rfl (c_P_narrowLines e_50) (by decide) (Nat.le_of_ble_eq_true rfl) (by decide +kernel) (Nat.le_refl _) (Nat.le_refl _) ?_
      show XR false 2 174 sc y_X_gauge (144, [(0, (vR 9 l0)), (1, (vI l1)), (2, (vI l2)), (3, (vI l3)), (4, (vI l4)), (6, (vI v6))], [], R, M_49, 174) _
      obtain ⟨v6_51, hv6_51, h⟩ := xl_ex h
      refine s_X_gauge [(144, .iinc 6 1, 0, 0), (147, .goto (-40), 0, 107)] (by decide +kernel) (z' := (107, [(6, (vI v6_51)), (0, (vR 9 l0)), (1, (vI l1)), (2, (vI l2)), (3, (vI l3)), (4, (vI l4))], [], R, M_49, 174)) (cs := []) (by subst hv6_51; rfl) trivial (Nat.le_refl _) ?_
      refine XR.pick [1, 2, 3, 4, 5, 0] (ls' := [(0, (vR 9 l0)), (1, (vI l1)), (2, (vI l2)), (3, (vI l3)), (4, (vI l4)), (6, (vI v6_51))]) rfl ?_
      exact ih v6_51 M_49 _ h
    · skip
      refine s_X_gauge [(110, .if_icmp .ge 40, 0, 150)] (by decide +kernel) (z' := (150, [(0, (vR 9 l0)), (1, (vI l1)), (2, (vI l2)), (3, (vI l3)), (4, (vI l4)), (6, (vI v6))], [], R, M, 174)) (cs := [l3 ≤ v6]) (by rfl) ⟨Int.not_lt.mp c_44, trivial⟩ (Nat.le_refl _) ?_
      refine XR.pick [0] (ls' := [(0, (vR 9 l0))]) rfl ?_
      exact hq150 M _ h
set_option maxRecDepth 100000 in
set_option maxHeartbeats 4000000 in
theorem o_X_gauge {sc : List Int} {R : xR} {M : xM} {l0 : Nat} {l1 : Int} {l2 : Int} {l3 : Int} {l4 : Int} {out : Int × xM} (h : f_X_gauge R l0 l1 l2 l3 l4 M = some out) : XR false 2 174 sc y_X_gauge (0, [(0, (vR 9 l0)), (1, (vI l1)), (2, (vI l2)), (3, (vI l3)), (4, (vI l4))], [], R, M, 174) ((some (vI out.1)), R, out.2) := by
  unfold f_X_gauge at h
  refine s_X_gauge [(0, .iload_n 1, 0, 0)] (by decide +kernel) (z' := (1, [(0, (vR 9 l0)), (1, (vI l1)), (2, (vI l2)), (3, (vI l3)), (4, (vI l4))], [(vI l1)], R, M, 174)) (cs := []) (by rfl) trivial (Nat.le_refl _) ?_
  obtain ⟨r_1, e_2, h⟩ := xb1_ex h
  refine XR.callS 9 rfl (rest := []) m_X_isTray k_9_82 [(vI l1)] rfl rfl (c_X_isTray e_2) (by decide) (Nat.le_of_ble_eq_true rfl) (by decide +kernel) (Nat.le_refl _) (Nat.le_refl _) ?_
  show XR false 2 174 sc y_X_gauge (4, [(0, (vR 9 l0)), (1, (vI l1)), (2, (vI l2)), (3, (vI l3)), (4, (vI l4))], [(vI r_1)], R, M, 174) _
  rcases xif_ex h with ⟨c_3, h⟩ | ⟨c_3, h⟩
  · skip
    refine s_X_gauge [(4, .ifCond .eq 29, 0, 33), (33, .aload_n 0, 0, 0), (34, .iconst 1, 0, 1)] (by decide +kernel) (z' := (35, [(0, (vR 9 l0)), (1, (vI l1)), (2, (vI l2)), (3, (vI l3)), (4, (vI l4))], [(vI 1), (vR 9 l0)], R, M, 174)) (cs := [r_1 = 0]) (by rfl) ⟨c_3, trivial⟩ (Nat.le_refl _) ?_
    obtain ⟨r_4, M_5, e_6, h⟩ := xb2_ex h
    refine XR.callV 9 rfl (rest := []) m_X_refuse k_9_105 9 l0 (Or.inl ⟨by decide, rfl⟩) [(vI 1)] rfl rfl (c_X_refuse e_6) (by decide) (Nat.le_of_ble_eq_true rfl) (by decide +kernel) (Nat.le_refl _) (Nat.le_refl _) ?_
    show XR false 2 174 sc y_X_gauge (38, [(0, (vR 9 l0)), (1, (vI l1)), (2, (vI l2)), (3, (vI l3)), (4, (vI l4))], [(vI r_4)], R, M_5, 174) _
    obtain rfl := Option.some.inj h
    exact XR.retI .int rfl rfl (by decide +kernel)
  · skip
    refine s_X_gauge [(4, .ifCond .eq 29, 0, (-1)), (7, .iload_n 2, 0, 0)] (by decide +kernel) (z' := (8, [(0, (vR 9 l0)), (1, (vI l1)), (2, (vI l2)), (3, (vI l3)), (4, (vI l4))], [(vI l2)], R, M, 174)) (cs := [¬ (r_1 = 0)]) (by rfl) ⟨c_3, trivial⟩ (Nat.le_refl _) ?_
    obtain ⟨r_7, e_8, h⟩ := xb1_ex h
    refine XR.callS 9 rfl (rest := []) m_X_isTray k_9_82 [(vI l2)] rfl rfl (c_X_isTray e_8) (by decide) (Nat.le_of_ble_eq_true rfl) (by decide +kernel) (Nat.le_refl _) (Nat.le_refl _) ?_
    show XR false 2 174 sc y_X_gauge (11, [(0, (vR 9 l0)), (1, (vI l1)), (2, (vI l2)), (3, (vI l3)), (4, (vI l4))], [(vI r_7)], R, M, 174) _
    rcases xif_ex h with ⟨c_9, h⟩ | ⟨c_9, h⟩
    · skip
      refine s_X_gauge [(11, .ifCond .eq 22, 0, 33), (33, .aload_n 0, 0, 0), (34, .iconst 1, 0, 1)] (by decide +kernel) (z' := (35, [(0, (vR 9 l0)), (1, (vI l1)), (2, (vI l2)), (3, (vI l3)), (4, (vI l4))], [(vI 1), (vR 9 l0)], R, M, 174)) (cs := [r_7 = 0]) (by rfl) ⟨c_9, trivial⟩ (Nat.le_refl _) ?_
      obtain ⟨r_10, M_11, e_12, h⟩ := xb2_ex h
      refine XR.callV 9 rfl (rest := []) m_X_refuse k_9_105 9 l0 (Or.inl ⟨by decide, rfl⟩) [(vI 1)] rfl rfl (c_X_refuse e_12) (by decide) (Nat.le_of_ble_eq_true rfl) (by decide +kernel) (Nat.le_refl _) (Nat.le_refl _) ?_
      show XR false 2 174 sc y_X_gauge (38, [(0, (vR 9 l0)), (1, (vI l1)), (2, (vI l2)), (3, (vI l3)), (4, (vI l4))], [(vI r_10)], R, M_11, 174) _
      obtain rfl := Option.some.inj h
      exact XR.retI .int rfl rfl (by decide +kernel)
    · skip
      refine s_X_gauge [(11, .ifCond .eq 22, 0, (-1)), (14, .iload_n 3, 0, 0), (15, .iconst 1, 0, 1)] (by decide +kernel) (z' := (16, [(0, (vR 9 l0)), (1, (vI l1)), (2, (vI l2)), (3, (vI l3)), (4, (vI l4))], [(vI 1), (vI l3)], R, M, 174)) (cs := [¬ (r_7 = 0)]) (by rfl) ⟨c_9, trivial⟩ (Nat.le_refl _) ?_
      rcases xif_ex h with ⟨c_13, h⟩ | ⟨c_13, h⟩
      · skip
        refine s_X_gauge [(16, .if_icmp .lt 17, 0, 33), (33, .aload_n 0, 0, 0), (34, .iconst 1, 0, 1)] (by decide +kernel) (z' := (35, [(0, (vR 9 l0)), (1, (vI l1)), (2, (vI l2)), (3, (vI l3)), (4, (vI l4))], [(vI 1), (vR 9 l0)], R, M, 174)) (cs := [l3 < 1]) (by rfl) ⟨c_13, trivial⟩ (Nat.le_refl _) ?_
        obtain ⟨r_14, M_15, e_16, h⟩ := xb2_ex h
        refine XR.callV 9 rfl (rest := []) m_X_refuse k_9_105 9 l0 (Or.inl ⟨by decide, rfl⟩) [(vI 1)] rfl rfl (c_X_refuse e_16) (by decide) (Nat.le_of_ble_eq_true rfl) (by decide +kernel) (Nat.le_refl _) (Nat.le_refl _) ?_
        show XR false 2 174 sc y_X_gauge (38, [(0, (vR 9 l0)), (1, (vI l1)), (2, (vI l2)), (3, (vI l3)), (4, (vI l4))], [(vI r_14)], R, M_15, 174) _
        obtain rfl := Option.some.inj h
        exact XR.retI .int rfl rfl (by decide +kernel)
      · skip
        refine s_X_gauge [(16, .if_icmp .lt 17, 0, (-1)), (19, .iload_n 3, 0, 0), (20, .bipush 10, 0, 10)] (by decide +kernel) (z' := (22, [(0, (vR 9 l0)), (1, (vI l1)), (2, (vI l2)), (3, (vI l3)), (4, (vI l4))], [(vI 10), (vI l3)], R, M, 174)) (cs := [¬ (l3 < 1)]) (by rfl) ⟨c_13, trivial⟩ (Nat.le_refl _) ?_
        rcases xif_ex h with ⟨c_17, h⟩ | ⟨c_17, h⟩
        · skip
          refine s_X_gauge [(22, .if_icmp .gt 11, 0, 33), (33, .aload_n 0, 0, 0), (34, .iconst 1, 0, 1)] (by decide +kernel) (z' := (35, [(0, (vR 9 l0)), (1, (vI l1)), (2, (vI l2)), (3, (vI l3)), (4, (vI l4))], [(vI 1), (vR 9 l0)], R, M, 174)) (cs := [10 < l3]) (by rfl) ⟨c_17, trivial⟩ (Nat.le_refl _) ?_
          obtain ⟨r_18, M_19, e_20, h⟩ := xb2_ex h
          refine XR.callV 9 rfl (rest := []) m_X_refuse k_9_105 9 l0 (Or.inl ⟨by decide, rfl⟩) [(vI 1)] rfl rfl (c_X_refuse e_20) (by decide) (Nat.le_of_ble_eq_true rfl) (by decide +kernel) (Nat.le_refl _) (Nat.le_refl _) ?_
          show XR false 2 174 sc y_X_gauge (38, [(0, (vR 9 l0)), (1, (vI l1)), (2, (vI l2)), (3, (vI l3)), (4, (vI l4))], [(vI r_18)], R, M_19, 174) _
          obtain rfl := Option.some.inj h
          exact XR.retI .int rfl rfl (by decide +kernel)
        · skip
          refine s_X_gauge [(22, .if_icmp .gt 11, 0, (-1)), (25, .iload 4, 0, 0)] (by decide +kernel) (z' := (27, [(0, (vR 9 l0)), (1, (vI l1)), (2, (vI l2)), (3, (vI l3)), (4, (vI l4))], [(vI l4)], R, M, 174)) (cs := [¬ (10 < l3)]) (by rfl) ⟨c_17, trivial⟩ (Nat.le_refl _) ?_
          obtain ⟨r_21, e_22, h⟩ := xb1_ex h
          refine XR.callS 9 rfl (rest := []) m_X_isSpan k_9_271 [(vI l4)] rfl rfl (c_X_isSpan e_22) (by decide) (Nat.le_of_ble_eq_true rfl) (by decide +kernel) (Nat.le_refl _) (Nat.le_refl _) ?_
          show XR false 2 174 sc y_X_gauge (30, [(0, (vR 9 l0)), (1, (vI l1)), (2, (vI l2)), (3, (vI l3)), (4, (vI l4))], [(vI r_21)], R, M, 174) _
          rcases xif_ex h with ⟨c_23, h⟩ | ⟨c_23, h⟩
          · skip
            refine s_X_gauge [(30, .ifCond .ne 9, 0, (-1)), (33, .aload_n 0, 0, 0), (34, .iconst 1, 0, 1)] (by decide +kernel) (z' := (35, [(0, (vR 9 l0)), (1, (vI l1)), (2, (vI l2)), (3, (vI l3)), (4, (vI l4))], [(vI 1), (vR 9 l0)], R, M, 174)) (cs := [¬ (r_21 ≠ 0)]) (by rfl) ⟨fun q => q c_23, trivial⟩ (Nat.le_refl _) ?_
            obtain ⟨r_24, M_25, e_26, h⟩ := xb2_ex h
            refine XR.callV 9 rfl (rest := []) m_X_refuse k_9_105 9 l0 (Or.inl ⟨by decide, rfl⟩) [(vI 1)] rfl rfl (c_X_refuse e_26) (by decide) (Nat.le_of_ble_eq_true rfl) (by decide +kernel) (Nat.le_refl _) (Nat.le_refl _) ?_
            show XR false 2 174 sc y_X_gauge (38, [(0, (vR 9 l0)), (1, (vI l1)), (2, (vI l2)), (3, (vI l3)), (4, (vI l4))], [(vI r_24)], R, M_25, 174) _
            obtain rfl := Option.some.inj h
            exact XR.retI .int rfl rfl (by decide +kernel)
          · skip
            refine s_X_gauge [(30, .ifCond .ne 9, 0, 39), (39, .aload_n 0, 0, 0), (40, .iload_n 1, 0, 0), (41, .iload_n 3, 0, 0), (42, .iload_n 2, 0, 0), (43, .iload_n 3, 0, 0)] (by decide +kernel) (z' := (44, [(0, (vR 9 l0)), (1, (vI l1)), (2, (vI l2)), (3, (vI l3)), (4, (vI l4))], [(vI l3), (vI l2), (vI l3), (vI l1), (vR 9 l0)], R, M, 174)) (cs := [r_21 ≠ 0]) (by rfl) ⟨c_23, trivial⟩ (Nat.le_refl _) ?_
            obtain ⟨r_27, e_28, h⟩ := xb1_ex h
            refine XR.callV 9 rfl (rest := []) m_X_bothStatus k_9_317 9 l0 (Or.inl ⟨by decide, rfl⟩) [(vI l1), (vI l3), (vI l2), (vI l3)] rfl rfl (c_X_bothStatus e_28) (by decide) (Nat.le_of_ble_eq_true rfl) (by decide +kernel) (Nat.le_refl _) (Nat.le_refl _) ?_
            show XR false 2 174 sc y_X_gauge (47, [(0, (vR 9 l0)), (1, (vI l1)), (2, (vI l2)), (3, (vI l3)), (4, (vI l4))], [(vI r_27)], R, M, 174) _
            refine s_X_gauge [(47, .istore 5, 0, 0), (49, .iload 5, 0, 0)] (by decide +kernel) (z' := (51, [(5, (vI r_27)), (0, (vR 9 l0)), (1, (vI l1)), (2, (vI l2)), (3, (vI l3)), (4, (vI l4))], [(vI r_27)], R, M, 174)) (cs := []) (by rfl) trivial (Nat.le_refl _) ?_
            rcases xif_ex h with ⟨c_29, h⟩ | ⟨c_29, h⟩
            · skip
              refine s_X_gauge [(51, .ifCond .eq 10, 0, 61), (61, .aload_n 0, 0, 0), (62, .getfield 23, 9, 2), (65, .iload_n 1, 0, 0), (66, .iload_n 3, 0, 0), (67, .ldc2_w 347, 0, 999)] (by decide +kernel) (z' := (70, [(5, (vI r_27)), (0, (vR 9 l0)), (1, (vI l1)), (2, (vI l2)), (3, (vI l3)), (4, (vI l4))], [(vL 999), (vI l3), (vI l1), (vR 8 (R l0 2))], R, M, 174)) (cs := [r_27 = 0]) (by rfl) ⟨c_29, trivial⟩ (Nat.le_refl _) ?_
              obtain ⟨r_30, e_31, h⟩ := xb1_ex h
              refine XR.callV 9 rfl (rest := []) m_Y_areWithin k_9_298 8 (R l0 2) (Or.inl ⟨by decide, rfl⟩) [(vI l1), (vI l3), (vL 999)] rfl rfl (c_Y_areWithin e_31) (by decide) (Nat.le_of_ble_eq_true rfl) (by decide +kernel) (Nat.le_refl _) (Nat.le_refl _) ?_
              show XR false 2 174 sc y_X_gauge (73, [(5, (vI r_27)), (0, (vR 9 l0)), (1, (vI l1)), (2, (vI l2)), (3, (vI l3)), (4, (vI l4))], [(vI r_30)], R, M, 174) _
              rcases xif_ex h with ⟨c_32, h⟩ | ⟨c_32, h⟩
              · skip
                refine s_X_gauge [(73, .ifCond .eq 18, 0, 91), (91, .aload_n 0, 0, 0), (92, .iconst 1, 0, 1)] (by decide +kernel) (z' := (93, [(5, (vI r_27)), (0, (vR 9 l0)), (1, (vI l1)), (2, (vI l2)), (3, (vI l3)), (4, (vI l4))], [(vI 1), (vR 9 l0)], R, M, 174)) (cs := [r_30 = 0]) (by rfl) ⟨c_32, trivial⟩ (Nat.le_refl _) ?_
                obtain ⟨r_33, M_34, e_35, h⟩ := xb2_ex h
                refine XR.callV 9 rfl (rest := []) m_X_refuse k_9_105 9 l0 (Or.inl ⟨by decide, rfl⟩) [(vI 1)] rfl rfl (c_X_refuse e_35) (by decide) (Nat.le_of_ble_eq_true rfl) (by decide +kernel) (Nat.le_refl _) (Nat.le_refl _) ?_
                show XR false 2 174 sc y_X_gauge (96, [(5, (vI r_27)), (0, (vR 9 l0)), (1, (vI l1)), (2, (vI l2)), (3, (vI l3)), (4, (vI l4))], [(vI r_33)], R, M_34, 174) _
                obtain rfl := Option.some.inj h
                exact XR.retI .int rfl rfl (by decide +kernel)
              · skip
                refine s_X_gauge [(73, .ifCond .eq 18, 0, (-1)), (76, .aload_n 0, 0, 0), (77, .getfield 23, 9, 2), (80, .iload_n 2, 0, 0), (81, .iload_n 3, 0, 0), (82, .ldc2_w 349, 0, 99999)] (by decide +kernel) (z' := (85, [(5, (vI r_27)), (0, (vR 9 l0)), (1, (vI l1)), (2, (vI l2)), (3, (vI l3)), (4, (vI l4))], [(vL 99999), (vI l3), (vI l2), (vR 8 (R l0 2))], R, M, 174)) (cs := [¬ (r_30 = 0)]) (by rfl) ⟨c_32, trivial⟩ (Nat.le_refl _) ?_
                obtain ⟨r_36, e_37, h⟩ := xb1_ex h
                refine XR.callV 9 rfl (rest := []) m_Y_areWithin k_9_298 8 (R l0 2) (Or.inl ⟨by decide, rfl⟩) [(vI l2), (vI l3), (vL 99999)] rfl rfl (c_Y_areWithin e_37) (by decide) (Nat.le_of_ble_eq_true rfl) (by decide +kernel) (Nat.le_refl _) (Nat.le_refl _) ?_
                show XR false 2 174 sc y_X_gauge (88, [(5, (vI r_27)), (0, (vR 9 l0)), (1, (vI l1)), (2, (vI l2)), (3, (vI l3)), (4, (vI l4))], [(vI r_36)], R, M, 174) _
                rcases xif_ex h with ⟨c_38, h⟩ | ⟨c_38, h⟩
                · skip
                  refine s_X_gauge [(88, .ifCond .ne 9, 0, (-1)), (91, .aload_n 0, 0, 0), (92, .iconst 1, 0, 1)] (by decide +kernel) (z' := (93, [(5, (vI r_27)), (0, (vR 9 l0)), (1, (vI l1)), (2, (vI l2)), (3, (vI l3)), (4, (vI l4))], [(vI 1), (vR 9 l0)], R, M, 174)) (cs := [¬ (r_36 ≠ 0)]) (by rfl) ⟨fun q => q c_38, trivial⟩ (Nat.le_refl _) ?_
                  obtain ⟨r_39, M_40, e_41, h⟩ := xb2_ex h
                  refine XR.callV 9 rfl (rest := []) m_X_refuse k_9_105 9 l0 (Or.inl ⟨by decide, rfl⟩) [(vI 1)] rfl rfl (c_X_refuse e_41) (by decide) (Nat.le_of_ble_eq_true rfl) (by decide +kernel) (Nat.le_refl _) (Nat.le_refl _) ?_
                  show XR false 2 174 sc y_X_gauge (96, [(5, (vI r_27)), (0, (vR 9 l0)), (1, (vI l1)), (2, (vI l2)), (3, (vI l3)), (4, (vI l4))], [(vI r_39)], R, M_40, 174) _
                  obtain rfl := Option.some.inj h
                  exact XR.retI .int rfl rfl (by decide +kernel)
                · skip
                  refine s_X_gauge [(88, .ifCond .ne 9, 0, 97), (97, .aload_n 0, 0, 0), (98, .getfield 78, 9, 11)] (by decide +kernel) (z' := (101, [(5, (vI r_27)), (0, (vR 9 l0)), (1, (vI l1)), (2, (vI l2)), (3, (vI l3)), (4, (vI l4))], [(vR 4 (R l0 11))], R, M, 174)) (cs := [r_36 ≠ 0]) (by rfl) ⟨c_38, trivial⟩ (Nat.le_refl _) ?_
                  obtain ⟨M_42, e_43, h⟩ := xb1_ex h
                  refine XR.callV 9 rfl (rest := []) m_P_clearLines k_9_351 4 (R l0 11) (Or.inl ⟨by decide, rfl⟩) [] rfl rfl (c_P_clearLines e_43) (by decide) (Nat.le_of_ble_eq_true rfl) (by decide +kernel) (Nat.le_refl _) (Nat.le_refl _) ?_
                  show XR false 2 174 sc y_X_gauge (104, [(5, (vI r_27)), (0, (vR 9 l0)), (1, (vI l1)), (2, (vI l2)), (3, (vI l3)), (4, (vI l4))], [], R, M_42, 174) _
                  refine s_X_gauge [(104, .iconst 0, 0, 0), (105, .istore 6, 0, 0)] (by decide +kernel) (z' := (107, [(6, (vI 0)), (5, (vI r_27)), (0, (vR 9 l0)), (1, (vI l1)), (2, (vI l2)), (3, (vI l3)), (4, (vI l4))], [], R, M_42, 174)) (cs := []) (by rfl) trivial (Nat.le_refl _) ?_
                  refine XR.pick [2, 3, 4, 5, 6, 0] (ls' := [(0, (vR 9 l0)), (1, (vI l1)), (2, (vI l2)), (3, (vI l3)), (4, (vI l4)), (6, (vI 0))]) rfl ?_
                  refine o_X_gauge_F107 ?_ xfu 0 M_42 _ h
                  · intro M_52 out h
                    refine s_X_gauge [(150, .aload_n 0, 0, 0), (151, .aload_n 0, 0, 0), (152, .getfield 78, 9, 11)] (by decide +kernel) (z' := (155, [(0, (vR 9 l0))], [(vR 4 (R l0 11)), (vR 9 l0)], R, M_52, 174)) (cs := []) (by rfl) trivial (Nat.le_refl _) ?_
                    obtain ⟨r_53, e_54, h⟩ := xb1_ex h
                    refine XR.callV 9 rfl (rest := [(vR 9 l0)]) m_P_countLines k_9_357 4 (R l0 11) (Or.inl ⟨by decide, rfl⟩) [] rfl rfl (c_P_countLines e_54) (by decide) (Nat.le_of_ble_eq_true rfl) (by decide +kernel) (Nat.le_refl _) (Nat.le_refl _) ?_
                    show XR false 2 174 sc y_X_gauge (158, [(0, (vR 9 l0))], [(vI r_53), (vR 9 l0)], R, M_52, 174) _
                    obtain ⟨r_55, M_56, e_57, h⟩ := xb2_ex h
                    refine XR.callV 9 rfl (rest := []) m_X_answer k_9_156 9 l0 (Or.inl ⟨by decide, rfl⟩) [(vI r_53)] rfl rfl (c_X_answer e_57) (by decide) (Nat.le_of_ble_eq_true rfl) (by decide +kernel) (Nat.le_refl _) (Nat.le_refl _) ?_
                    show XR false 2 174 sc y_X_gauge (161, [(0, (vR 9 l0))], [(vI r_55)], R, M_56, 174) _
                    obtain rfl := Option.some.inj h
                    exact XR.retI .int rfl rfl (by decide +kernel)
            · skip
              refine s_X_gauge [(51, .ifCond .eq 10, 0, (-1)), (54, .aload_n 0, 0, 0), (55, .iload 5, 0, 0)] (by decide +kernel) (z' := (57, [(5, (vI r_27)), (0, (vR 9 l0)), (1, (vI l1)), (2, (vI l2)), (3, (vI l3)), (4, (vI l4))], [(vI r_27), (vR 9 l0)], R, M, 174)) (cs := [¬ (r_27 = 0)]) (by rfl) ⟨c_29, trivial⟩ (Nat.le_refl _) ?_
              obtain ⟨r_58, M_59, e_60, h⟩ := xb2_ex h
              refine XR.callV 9 rfl (rest := []) m_X_refuse k_9_105 9 l0 (Or.inl ⟨by decide, rfl⟩) [(vI r_27)] rfl rfl (c_X_refuse e_60) (by decide) (Nat.le_of_ble_eq_true rfl) (by decide +kernel) (Nat.le_refl _) (Nat.le_refl _) ?_
              show XR false 2 174 sc y_X_gauge (60, [(5, (vI r_27)), (0, (vR 9 l0)), (1, (vI l1)), (2, (vI l2)), (3, (vI l3)), (4, (vI l4))], [(vI r_58)], R, M_59, 174) _
              obtain rfl := Option.some.inj h
              exact XR.retI .int rfl rfl (by decide +kernel)
set_option maxRecDepth 100000 in
set_option maxHeartbeats 4000000 in
theorem c_X_gauge {sc : List Int} {R : xR} {M : xM} {l0 : Nat} {l1 : Int} {l2 : Int} {l3 : Int} {l4 : Int} {out : Int × xM} (h : f_X_gauge R l0 l1 l2 l3 l4 M = some out) : XC false 2 sc y_X_gauge [(vR 9 l0), (vI l1), (vI l2), (vI l3), (vI l4)] R M 174 174 ((some (vI out.1)), R, out.2) := XC.of (by decide) (Nat.le_of_ble_eq_true rfl) (Nat.le_refl _) (Nat.le_refl _) (o_X_gauge h)
def X_gaugeTold_J49 (R : xR) (l0 : Nat) (s0 : Int) (M : xM) : Option (Int × xM) :=
  if s0 = -1 then
    xb2 (f_X_refuse l0 6 M) fun r_21 M_22 =>
    some (r_21, M_22)
  else
    xb2 (f_X_answer l0 s0 M) fun r_24 M_25 =>
    some (r_24, M_25)
def f_X_gaugeTold (R : xR) (l0 : Nat) (l1 : Int) (l2 : Int) (M : xM) : Option (Int × xM) :=
  if l1 < 0 then
    xb2 (f_X_refuse l0 1 M) fun r_2 M_3 =>
    some (r_2, M_3)
  else
    if 999 < l1 then
      xb2 (f_X_refuse l0 1 M) fun r_6 M_7 =>
      some (r_6, M_7)
    else
      if l2 < 0 then
        xb2 (f_X_refuse l0 1 M) fun r_10 M_11 =>
        some (r_10, M_11)
      else
        if 1 < l2 then
          xb2 (f_X_refuse l0 1 M) fun r_14 M_15 =>
          some (r_14, M_15)
        else
          if l2 = 0 then
            xb1 (f_P_leastTold R (R l0 11) l1 M) fun r_18 =>
            X_gaugeTold_J49 R l0 r_18 M
          else
            xb1 (f_P_mostTold R (R l0 11) l1 M) fun r_27 =>
            X_gaugeTold_J49 R l0 r_27 M
set_option maxRecDepth 100000 in
set_option maxHeartbeats 4000000 in
theorem s_X_gaugeTold {d : Nat} {sc : List Int} {z z' : xS} {out : xO} (qs : List xI) {cs : List Prop} (hq : qs.all (xqb 9 false y_X_gaugeTold.2.2.1 y_X_gaugeTold.2.1) = true) (h : xN false sc qs z = some (z', cs)) (hc : xAll cs) (hE : z'.2.2.2.2.2 ≤ 174) (k : XR false d 174 sc y_X_gaugeTold z' out) : XR false d 174 sc y_X_gaugeTold z out := XR.seg 9 false rfl (fun q => by cases q) qs hq h hc hE k
set_option maxRecDepth 100000 in
set_option maxHeartbeats 4000000 in
theorem o_X_gaugeTold_J49 {sc : List Int} {R : xR}   {l0 : Nat}  {s0 : Int} {M : xM} {out : Int × xM} (h : X_gaugeTold_J49 R l0  s0 M = some out) : XR false 2 174 sc y_X_gaugeTold (49, [(0, (vR 9 l0))], [(vI s0)], R, M, 174) ((some (vI out.1)), R, out.2) := by
  unfold X_gaugeTold_J49 at h
  refine s_X_gaugeTold [(49, .istore_n 3, 0, 0), (50, .iload_n 3, 0, 0), (51, .iconst (-1), 0, (-1))] (by decide +kernel) (z' := (52, [(3, (vI s0)), (0, (vR 9 l0))], [(vI (-1)), (vI s0)], R, M, 174)) (cs := []) (by rfl) trivial (Nat.le_refl _) ?_
  rcases xif_ex h with ⟨c_20, h⟩ | ⟨c_20, h⟩
  · skip
    refine s_X_gaugeTold [(52, .if_icmp .ne 12, 0, (-1)), (55, .aload_n 0, 0, 0), (56, .bipush 6, 0, 6)] (by decide +kernel) (z' := (58, [(3, (vI s0)), (0, (vR 9 l0))], [(vI 6), (vR 9 l0)], R, M, 174)) (cs := [¬ (s0 ≠ -1)]) (by rfl) ⟨fun q => q c_20, trivial⟩ (Nat.le_refl _) ?_
    obtain ⟨r_21, M_22, e_23, h⟩ := xb2_ex h
    refine XR.callV 9 rfl (rest := []) m_X_refuse k_9_105 9 l0 (Or.inl ⟨by decide, rfl⟩) [(vI 6)] rfl rfl (c_X_refuse e_23) (by decide) (Nat.le_of_ble_eq_true rfl) (by decide +kernel) (Nat.le_refl _) (Nat.le_refl _) ?_
    show XR false 2 174 sc y_X_gaugeTold (61, [(3, (vI s0)), (0, (vR 9 l0))], [(vI r_21)], R, M_22, 174) _
    refine s_X_gaugeTold [(61, .goto 8, 0, 69)] (by decide +kernel) (z' := (69, [(3, (vI s0)), (0, (vR 9 l0))], [(vI r_21)], R, M_22, 174)) (cs := []) (by rfl) trivial (Nat.le_refl _) ?_
    obtain rfl := Option.some.inj h
    exact XR.retI .int rfl rfl (by decide +kernel)
  · skip
    refine s_X_gaugeTold [(52, .if_icmp .ne 12, 0, 64), (64, .aload_n 0, 0, 0), (65, .iload_n 3, 0, 0)] (by decide +kernel) (z' := (66, [(3, (vI s0)), (0, (vR 9 l0))], [(vI s0), (vR 9 l0)], R, M, 174)) (cs := [s0 ≠ -1]) (by rfl) ⟨c_20, trivial⟩ (Nat.le_refl _) ?_
    obtain ⟨r_24, M_25, e_26, h⟩ := xb2_ex h
    refine XR.callV 9 rfl (rest := []) m_X_answer k_9_156 9 l0 (Or.inl ⟨by decide, rfl⟩) [(vI s0)] rfl rfl (c_X_answer e_26) (by decide) (Nat.le_of_ble_eq_true rfl) (by decide +kernel) (Nat.le_refl _) (Nat.le_refl _) ?_
    show XR false 2 174 sc y_X_gaugeTold (69, [(3, (vI s0)), (0, (vR 9 l0))], [(vI r_24)], R, M_25, 174) _
    obtain rfl := Option.some.inj h
    exact XR.retI .int rfl rfl (by decide +kernel)
set_option maxRecDepth 100000 in
set_option maxHeartbeats 4000000 in
theorem o_X_gaugeTold {sc : List Int} {R : xR} {M : xM} {l0 : Nat} {l1 : Int} {l2 : Int} {out : Int × xM} (h : f_X_gaugeTold R l0 l1 l2 M = some out) : XR false 2 174 sc y_X_gaugeTold (0, [(0, (vR 9 l0)), (1, (vI l1)), (2, (vI l2))], [], R, M, 174) ((some (vI out.1)), R, out.2) := by
  unfold f_X_gaugeTold at h
  refine s_X_gaugeTold [(0, .iload_n 1, 0, 0)] (by decide +kernel) (z' := (1, [(0, (vR 9 l0)), (1, (vI l1)), (2, (vI l2))], [(vI l1)], R, M, 174)) (cs := []) (by rfl) trivial (Nat.le_refl _) ?_
  rcases xif_ex h with ⟨c_1, h⟩ | ⟨c_1, h⟩
  · skip
    refine s_X_gaugeTold [(1, .ifCond .lt 19, 0, 20), (20, .aload_n 0, 0, 0), (21, .iconst 1, 0, 1)] (by decide +kernel) (z' := (22, [(0, (vR 9 l0)), (1, (vI l1)), (2, (vI l2))], [(vI 1), (vR 9 l0)], R, M, 174)) (cs := [l1 < 0]) (by rfl) ⟨c_1, trivial⟩ (Nat.le_refl _) ?_
    obtain ⟨r_2, M_3, e_4, h⟩ := xb2_ex h
    refine XR.callV 9 rfl (rest := []) m_X_refuse k_9_105 9 l0 (Or.inl ⟨by decide, rfl⟩) [(vI 1)] rfl rfl (c_X_refuse e_4) (by decide) (Nat.le_of_ble_eq_true rfl) (by decide +kernel) (Nat.le_refl _) (Nat.le_refl _) ?_
    show XR false 2 174 sc y_X_gaugeTold (25, [(0, (vR 9 l0)), (1, (vI l1)), (2, (vI l2))], [(vI r_2)], R, M_3, 174) _
    obtain rfl := Option.some.inj h
    exact XR.retI .int rfl rfl (by decide +kernel)
  · skip
    refine s_X_gaugeTold [(1, .ifCond .lt 19, 0, (-1)), (4, .iload_n 1, 0, 0), (5, .sipush 999, 0, 999)] (by decide +kernel) (z' := (8, [(0, (vR 9 l0)), (1, (vI l1)), (2, (vI l2))], [(vI 999), (vI l1)], R, M, 174)) (cs := [¬ (l1 < 0)]) (by rfl) ⟨c_1, trivial⟩ (Nat.le_refl _) ?_
    rcases xif_ex h with ⟨c_5, h⟩ | ⟨c_5, h⟩
    · skip
      refine s_X_gaugeTold [(8, .if_icmp .gt 12, 0, 20), (20, .aload_n 0, 0, 0), (21, .iconst 1, 0, 1)] (by decide +kernel) (z' := (22, [(0, (vR 9 l0)), (1, (vI l1)), (2, (vI l2))], [(vI 1), (vR 9 l0)], R, M, 174)) (cs := [999 < l1]) (by rfl) ⟨c_5, trivial⟩ (Nat.le_refl _) ?_
      obtain ⟨r_6, M_7, e_8, h⟩ := xb2_ex h
      refine XR.callV 9 rfl (rest := []) m_X_refuse k_9_105 9 l0 (Or.inl ⟨by decide, rfl⟩) [(vI 1)] rfl rfl (c_X_refuse e_8) (by decide) (Nat.le_of_ble_eq_true rfl) (by decide +kernel) (Nat.le_refl _) (Nat.le_refl _) ?_
      show XR false 2 174 sc y_X_gaugeTold (25, [(0, (vR 9 l0)), (1, (vI l1)), (2, (vI l2))], [(vI r_6)], R, M_7, 174) _
      obtain rfl := Option.some.inj h
      exact XR.retI .int rfl rfl (by decide +kernel)
    · skip
      refine s_X_gaugeTold [(8, .if_icmp .gt 12, 0, (-1)), (11, .iload_n 2, 0, 0)] (by decide +kernel) (z' := (12, [(0, (vR 9 l0)), (1, (vI l1)), (2, (vI l2))], [(vI l2)], R, M, 174)) (cs := [¬ (999 < l1)]) (by rfl) ⟨c_5, trivial⟩ (Nat.le_refl _) ?_
      rcases xif_ex h with ⟨c_9, h⟩ | ⟨c_9, h⟩
      · skip
        refine s_X_gaugeTold [(12, .ifCond .lt 8, 0, 20), (20, .aload_n 0, 0, 0), (21, .iconst 1, 0, 1)] (by decide +kernel) (z' := (22, [(0, (vR 9 l0)), (1, (vI l1)), (2, (vI l2))], [(vI 1), (vR 9 l0)], R, M, 174)) (cs := [l2 < 0]) (by rfl) ⟨c_9, trivial⟩ (Nat.le_refl _) ?_
        obtain ⟨r_10, M_11, e_12, h⟩ := xb2_ex h
        refine XR.callV 9 rfl (rest := []) m_X_refuse k_9_105 9 l0 (Or.inl ⟨by decide, rfl⟩) [(vI 1)] rfl rfl (c_X_refuse e_12) (by decide) (Nat.le_of_ble_eq_true rfl) (by decide +kernel) (Nat.le_refl _) (Nat.le_refl _) ?_
        show XR false 2 174 sc y_X_gaugeTold (25, [(0, (vR 9 l0)), (1, (vI l1)), (2, (vI l2))], [(vI r_10)], R, M_11, 174) _
        obtain rfl := Option.some.inj h
        exact XR.retI .int rfl rfl (by decide +kernel)
      · skip
        refine s_X_gaugeTold [(12, .ifCond .lt 8, 0, (-1)), (15, .iload_n 2, 0, 0), (16, .iconst 1, 0, 1)] (by decide +kernel) (z' := (17, [(0, (vR 9 l0)), (1, (vI l1)), (2, (vI l2))], [(vI 1), (vI l2)], R, M, 174)) (cs := [¬ (l2 < 0)]) (by rfl) ⟨c_9, trivial⟩ (Nat.le_refl _) ?_
        rcases xif_ex h with ⟨c_13, h⟩ | ⟨c_13, h⟩
        · skip
          refine s_X_gaugeTold [(17, .if_icmp .le 9, 0, (-1)), (20, .aload_n 0, 0, 0), (21, .iconst 1, 0, 1)] (by decide +kernel) (z' := (22, [(0, (vR 9 l0)), (1, (vI l1)), (2, (vI l2))], [(vI 1), (vR 9 l0)], R, M, 174)) (cs := [¬ (l2 ≤ 1)]) (by rfl) ⟨Int.not_le.mpr c_13, trivial⟩ (Nat.le_refl _) ?_
          obtain ⟨r_14, M_15, e_16, h⟩ := xb2_ex h
          refine XR.callV 9 rfl (rest := []) m_X_refuse k_9_105 9 l0 (Or.inl ⟨by decide, rfl⟩) [(vI 1)] rfl rfl (c_X_refuse e_16) (by decide) (Nat.le_of_ble_eq_true rfl) (by decide +kernel) (Nat.le_refl _) (Nat.le_refl _) ?_
          show XR false 2 174 sc y_X_gaugeTold (25, [(0, (vR 9 l0)), (1, (vI l1)), (2, (vI l2))], [(vI r_14)], R, M_15, 174) _
          obtain rfl := Option.some.inj h
          exact XR.retI .int rfl rfl (by decide +kernel)
        · skip
          refine s_X_gaugeTold [(17, .if_icmp .le 9, 0, 26), (26, .iload_n 2, 0, 0)] (by decide +kernel) (z' := (27, [(0, (vR 9 l0)), (1, (vI l1)), (2, (vI l2))], [(vI l2)], R, M, 174)) (cs := [l2 ≤ 1]) (by rfl) ⟨Int.not_lt.mp c_13, trivial⟩ (Nat.le_refl _) ?_
          rcases xif_ex h with ⟨c_17, h⟩ | ⟨c_17, h⟩
          · skip
            refine s_X_gaugeTold [(27, .ifCond .ne 14, 0, (-1)), (30, .aload_n 0, 0, 0), (31, .getfield 78, 9, 11), (34, .iload_n 1, 0, 0)] (by decide +kernel) (z' := (35, [(0, (vR 9 l0)), (1, (vI l1)), (2, (vI l2))], [(vI l1), (vR 4 (R l0 11))], R, M, 174)) (cs := [¬ (l2 ≠ 0)]) (by rfl) ⟨fun q => q c_17, trivial⟩ (Nat.le_refl _) ?_
            obtain ⟨r_18, e_19, h⟩ := xb1_ex h
            refine XR.callV 9 rfl (rest := []) m_P_leastTold k_9_361 4 (R l0 11) (Or.inl ⟨by decide, rfl⟩) [(vI l1)] rfl rfl (c_P_leastTold e_19) (by decide) (Nat.le_of_ble_eq_true rfl) (by decide +kernel) (Nat.le_refl _) (Nat.le_refl _) ?_
            show XR false 2 174 sc y_X_gaugeTold (38, [(0, (vR 9 l0)), (1, (vI l1)), (2, (vI l2))], [(vI r_18)], R, M, 174) _
            refine s_X_gaugeTold [(38, .goto 11, 0, 49)] (by decide +kernel) (z' := (49, [(0, (vR 9 l0)), (1, (vI l1)), (2, (vI l2))], [(vI r_18)], R, M, 174)) (cs := []) (by rfl) trivial (Nat.le_refl _) ?_
            refine XR.pick [0] (ls' := [(0, (vR 9 l0))]) rfl ?_
            exact o_X_gaugeTold_J49  h
          · skip
            refine s_X_gaugeTold [(27, .ifCond .ne 14, 0, 41), (41, .aload_n 0, 0, 0), (42, .getfield 78, 9, 11), (45, .iload_n 1, 0, 0)] (by decide +kernel) (z' := (46, [(0, (vR 9 l0)), (1, (vI l1)), (2, (vI l2))], [(vI l1), (vR 4 (R l0 11))], R, M, 174)) (cs := [l2 ≠ 0]) (by rfl) ⟨c_17, trivial⟩ (Nat.le_refl _) ?_
            obtain ⟨r_27, e_28, h⟩ := xb1_ex h
            refine XR.callV 9 rfl (rest := []) m_P_mostTold k_9_364 4 (R l0 11) (Or.inl ⟨by decide, rfl⟩) [(vI l1)] rfl rfl (c_P_mostTold e_28) (by decide) (Nat.le_of_ble_eq_true rfl) (by decide +kernel) (Nat.le_refl _) (Nat.le_refl _) ?_
            show XR false 2 174 sc y_X_gaugeTold (49, [(0, (vR 9 l0)), (1, (vI l1)), (2, (vI l2))], [(vI r_27)], R, M, 174) _
            refine XR.pick [0] (ls' := [(0, (vR 9 l0))]) rfl ?_
            exact o_X_gaugeTold_J49  h
set_option maxRecDepth 100000 in
set_option maxHeartbeats 4000000 in
theorem c_X_gaugeTold {sc : List Int} {R : xR} {M : xM} {l0 : Nat} {l1 : Int} {l2 : Int} {out : Int × xM} (h : f_X_gaugeTold R l0 l1 l2 M = some out) : XC false 2 sc y_X_gaugeTold [(vR 9 l0), (vI l1), (vI l2)] R M 174 174 ((some (vI out.1)), R, out.2) := XC.of (by decide) (Nat.le_of_ble_eq_true rfl) (Nat.le_refl _) (Nat.le_refl _) (o_X_gaugeTold h)
def X_hole_J73 (R : xR) (l0 : Nat) (l1 : Int) (l2 : Int) (l3 : Int) (l4 : Int) (v5 : Int) (M : xM) : Option (Int × xM) :=
  if v5 = 0 then
    xb1 (f_B_addEvent R (R l0 7) 1 l1 l2 l3 l4 M) fun M_38 =>
    xb2 (f_X_done l0 M_38) fun r_40 M_41 =>
    xch (r_40 = 0 ∨ r_40 = 1) <|
    some (r_40, M_41)
  else
    xb2 (f_X_deny l0 v5 M) fun r_44 M_45 =>
    xch (r_44 = 0 ∨ r_44 = 1) <|
    some (r_44, M_45)
def f_X_hole (R : xR) (l0 : Nat) (l1 : Int) (l2 : Int) (l3 : Int) (l4 : Int) (M : xM) : Option (Int × xM) :=
  xb1 (f_X_isCleaner R l0 l1 M) fun r_1 =>
  if r_1 = 0 then
    xb2 (f_X_deny l0 1 M) fun r_4 M_5 =>
    xch (r_4 = 0 ∨ r_4 = 1) <|
    some (r_4, M_5)
  else
    xb1 (f_X_isHour l2) fun r_8 =>
    if r_8 = 0 then
      xb2 (f_X_deny l0 1 M) fun r_11 M_12 =>
      xch (r_11 = 0 ∨ r_11 = 1) <|
      some (r_11, M_12)
    else
      if l3 < 1 then
        xb2 (f_X_deny l0 1 M) fun r_16 M_17 =>
        xch (r_16 = 0 ∨ r_16 = 1) <|
        some (r_16, M_17)
      else
        if 100 < l3 then
          xb2 (f_X_deny l0 1 M) fun r_21 M_22 =>
          xch (r_21 = 0 ∨ r_21 = 1) <|
          some (r_21, M_22)
        else
          xb1 (f_X_isKnownHour l4) fun r_25 =>
          if r_25 = 0 then
            xb2 (f_X_deny l0 1 M) fun r_28 M_29 =>
            xch (r_28 = 0 ∨ r_28 = 1) <|
            some (r_28, M_29)
          else
            xb1 (f_B_eventStatus (R l0 7) l4 M) fun r_32 =>
            if r_32 = 0 then
              xch (0 ≤ l1 ∧ l1 < 8) <|
              if M (R (R l0 3) 4) (Int.toNat l1) = 2 then
                X_hole_J73 R l0 l1 l2 l3 l4 r_32 M
              else
                X_hole_J73 R l0 l1 l2 l3 l4 7 M
            else
              X_hole_J73 R l0 l1 l2 l3 l4 r_32 M
set_option maxRecDepth 100000 in
set_option maxHeartbeats 4000000 in
theorem s_X_hole {d : Nat} {sc : List Int} {z z' : xS} {out : xO} (qs : List xI) {cs : List Prop} (hq : qs.all (xqb 9 false y_X_hole.2.2.1 y_X_hole.2.1) = true) (h : xN false sc qs z = some (z', cs)) (hc : xAll cs) (hE : z'.2.2.2.2.2 ≤ 174) (k : XR false d 174 sc y_X_hole z' out) : XR false d 174 sc y_X_hole z out := XR.seg 9 false rfl (fun q => by cases q) qs hq h hc hE k
set_option maxRecDepth 100000 in
set_option maxHeartbeats 4000000 in
theorem o_X_hole_J73 {sc : List Int} {R : xR}   {l0 : Nat} {l1 : Int} {l2 : Int} {l3 : Int} {l4 : Int}  {v5 : Int} {M : xM} {out : Int × xM} (h : X_hole_J73 R l0 l1 l2 l3 l4  v5 M = some out) : XR false 2 174 sc y_X_hole (73, [(0, (vR 9 l0)), (1, (vI l1)), (2, (vI l2)), (3, (vI l3)), (4, (vI l4)), (5, (vI v5))], [], R, M, 174) ((some (vI out.1)), R, out.2) := by
  unfold X_hole_J73 at h
  refine s_X_hole [(73, .iload 5, 0, 0)] (by decide +kernel) (z' := (75, [(0, (vR 9 l0)), (1, (vI l1)), (2, (vI l2)), (3, (vI l3)), (4, (vI l4)), (5, (vI v5))], [(vI v5)], R, M, 174)) (cs := []) (by rfl) trivial (Nat.le_refl _) ?_
  rcases xif_ex h with ⟨c_37, h⟩ | ⟨c_37, h⟩
  · skip
    refine s_X_hole [(75, .ifCond .eq 10, 0, 85), (85, .aload_n 0, 0, 0), (86, .getfield 50, 9, 7), (89, .iconst 1, 0, 1), (90, .iload_n 1, 0, 0), (91, .iload_n 2, 0, 0), (92, .iload_n 3, 0, 0), (93, .iload 4, 0, 0)] (by decide +kernel) (z' := (95, [(0, (vR 9 l0)), (1, (vI l1)), (2, (vI l2)), (3, (vI l3)), (4, (vI l4)), (5, (vI v5))], [(vI l4), (vI l3), (vI l2), (vI l1), (vI 1), (vR 0 (R l0 7))], R, M, 174)) (cs := [v5 = 0]) (by rfl) ⟨c_37, trivial⟩ (Nat.le_refl _) ?_
    obtain ⟨M_38, e_39, h⟩ := xb1_ex h
    refine XR.callV 9 rfl (rest := []) m_B_addEvent k_9_219 0 (R l0 7) (Or.inl ⟨by decide, rfl⟩) [(vI 1), (vI l1), (vI l2), (vI l3), (vI l4)] rfl rfl (c_B_addEvent e_39) (by decide) (Nat.le_of_ble_eq_true rfl) (by decide +kernel) (Nat.le_refl _) (Nat.le_refl _) ?_
    show XR false 2 174 sc y_X_hole (98, [(0, (vR 9 l0)), (1, (vI l1)), (2, (vI l2)), (3, (vI l3)), (4, (vI l4)), (5, (vI v5))], [], R, M_38, 174) _
    refine s_X_hole [(98, .aload_n 0, 0, 0)] (by decide +kernel) (z' := (99, [(0, (vR 9 l0)), (1, (vI l1)), (2, (vI l2)), (3, (vI l3)), (4, (vI l4)), (5, (vI v5))], [(vR 9 l0)], R, M_38, 174)) (cs := []) (by rfl) trivial (Nat.le_refl _) ?_
    obtain ⟨r_40, M_41, e_42, h⟩ := xb2_ex h
    refine XR.callV 9 rfl (rest := []) m_X_done k_9_93 9 l0 (Or.inl ⟨by decide, rfl⟩) [] rfl rfl (c_X_done e_42) (by decide) (Nat.le_of_ble_eq_true rfl) (by decide +kernel) (Nat.le_refl _) (Nat.le_refl _) ?_
    show XR false 2 174 sc y_X_hole (102, [(0, (vR 9 l0)), (1, (vI l1)), (2, (vI l2)), (3, (vI l3)), (4, (vI l4)), (5, (vI v5))], [(vI r_40)], R, M_41, 174) _
    obtain ⟨c_43, h⟩ := xch_ex h
    obtain rfl := Option.some.inj h
    exact XR.retI .boolean rfl (xnar_z c_43) (by decide +kernel)
  · skip
    refine s_X_hole [(75, .ifCond .eq 10, 0, (-1)), (78, .aload_n 0, 0, 0), (79, .iload 5, 0, 0)] (by decide +kernel) (z' := (81, [(0, (vR 9 l0)), (1, (vI l1)), (2, (vI l2)), (3, (vI l3)), (4, (vI l4)), (5, (vI v5))], [(vI v5), (vR 9 l0)], R, M, 174)) (cs := [¬ (v5 = 0)]) (by rfl) ⟨c_37, trivial⟩ (Nat.le_refl _) ?_
    obtain ⟨r_44, M_45, e_46, h⟩ := xb2_ex h
    refine XR.callV 9 rfl (rest := []) m_X_deny k_9_86 9 l0 (Or.inl ⟨by decide, rfl⟩) [(vI v5)] rfl rfl (c_X_deny e_46) (by decide) (Nat.le_of_ble_eq_true rfl) (by decide +kernel) (Nat.le_refl _) (Nat.le_refl _) ?_
    show XR false 2 174 sc y_X_hole (84, [(0, (vR 9 l0)), (1, (vI l1)), (2, (vI l2)), (3, (vI l3)), (4, (vI l4)), (5, (vI v5))], [(vI r_44)], R, M_45, 174) _
    obtain ⟨c_47, h⟩ := xch_ex h
    obtain rfl := Option.some.inj h
    exact XR.retI .boolean rfl (xnar_z c_47) (by decide +kernel)
set_option maxRecDepth 100000 in
set_option maxHeartbeats 4000000 in
theorem o_X_hole {sc : List Int} {R : xR} {M : xM} {l0 : Nat} {l1 : Int} {l2 : Int} {l3 : Int} {l4 : Int} {out : Int × xM} (h : f_X_hole R l0 l1 l2 l3 l4 M = some out) : XR false 2 174 sc y_X_hole (0, [(0, (vR 9 l0)), (1, (vI l1)), (2, (vI l2)), (3, (vI l3)), (4, (vI l4))], [], R, M, 174) ((some (vI out.1)), R, out.2) := by
  unfold f_X_hole at h
  refine s_X_hole [(0, .aload_n 0, 0, 0), (1, .iload_n 1, 0, 0)] (by decide +kernel) (z' := (2, [(0, (vR 9 l0)), (1, (vI l1)), (2, (vI l2)), (3, (vI l3)), (4, (vI l4))], [(vI l1), (vR 9 l0)], R, M, 174)) (cs := []) (by rfl) trivial (Nat.le_refl _) ?_
  obtain ⟨r_1, e_2, h⟩ := xb1_ex h
  refine XR.callV 9 rfl (rest := []) m_X_isCleaner k_9_171 9 l0 (Or.inl ⟨by decide, rfl⟩) [(vI l1)] rfl rfl (c_X_isCleaner e_2) (by decide) (Nat.le_of_ble_eq_true rfl) (by decide +kernel) (Nat.le_refl _) (Nat.le_refl _) ?_
  show XR false 2 174 sc y_X_hole (5, [(0, (vR 9 l0)), (1, (vI l1)), (2, (vI l2)), (3, (vI l3)), (4, (vI l4))], [(vI r_1)], R, M, 174) _
  rcases xif_ex h with ⟨c_3, h⟩ | ⟨c_3, h⟩
  · skip
    refine s_X_hole [(5, .ifCond .eq 29, 0, 34), (34, .aload_n 0, 0, 0), (35, .iconst 1, 0, 1)] (by decide +kernel) (z' := (36, [(0, (vR 9 l0)), (1, (vI l1)), (2, (vI l2)), (3, (vI l3)), (4, (vI l4))], [(vI 1), (vR 9 l0)], R, M, 174)) (cs := [r_1 = 0]) (by rfl) ⟨c_3, trivial⟩ (Nat.le_refl _) ?_
    obtain ⟨r_4, M_5, e_6, h⟩ := xb2_ex h
    refine XR.callV 9 rfl (rest := []) m_X_deny k_9_86 9 l0 (Or.inl ⟨by decide, rfl⟩) [(vI 1)] rfl rfl (c_X_deny e_6) (by decide) (Nat.le_of_ble_eq_true rfl) (by decide +kernel) (Nat.le_refl _) (Nat.le_refl _) ?_
    show XR false 2 174 sc y_X_hole (39, [(0, (vR 9 l0)), (1, (vI l1)), (2, (vI l2)), (3, (vI l3)), (4, (vI l4))], [(vI r_4)], R, M_5, 174) _
    obtain ⟨c_7, h⟩ := xch_ex h
    obtain rfl := Option.some.inj h
    exact XR.retI .boolean rfl (xnar_z c_7) (by decide +kernel)
  · skip
    refine s_X_hole [(5, .ifCond .eq 29, 0, (-1)), (8, .iload_n 2, 0, 0)] (by decide +kernel) (z' := (9, [(0, (vR 9 l0)), (1, (vI l1)), (2, (vI l2)), (3, (vI l3)), (4, (vI l4))], [(vI l2)], R, M, 174)) (cs := [¬ (r_1 = 0)]) (by rfl) ⟨c_3, trivial⟩ (Nat.le_refl _) ?_
    obtain ⟨r_8, e_9, h⟩ := xb1_ex h
    refine XR.callS 9 rfl (rest := []) m_X_isHour k_9_190 [(vI l2)] rfl rfl (c_X_isHour e_9) (by decide) (Nat.le_of_ble_eq_true rfl) (by decide +kernel) (Nat.le_refl _) (Nat.le_refl _) ?_
    show XR false 2 174 sc y_X_hole (12, [(0, (vR 9 l0)), (1, (vI l1)), (2, (vI l2)), (3, (vI l3)), (4, (vI l4))], [(vI r_8)], R, M, 174) _
    rcases xif_ex h with ⟨c_10, h⟩ | ⟨c_10, h⟩
    · skip
      refine s_X_hole [(12, .ifCond .eq 22, 0, 34), (34, .aload_n 0, 0, 0), (35, .iconst 1, 0, 1)] (by decide +kernel) (z' := (36, [(0, (vR 9 l0)), (1, (vI l1)), (2, (vI l2)), (3, (vI l3)), (4, (vI l4))], [(vI 1), (vR 9 l0)], R, M, 174)) (cs := [r_8 = 0]) (by rfl) ⟨c_10, trivial⟩ (Nat.le_refl _) ?_
      obtain ⟨r_11, M_12, e_13, h⟩ := xb2_ex h
      refine XR.callV 9 rfl (rest := []) m_X_deny k_9_86 9 l0 (Or.inl ⟨by decide, rfl⟩) [(vI 1)] rfl rfl (c_X_deny e_13) (by decide) (Nat.le_of_ble_eq_true rfl) (by decide +kernel) (Nat.le_refl _) (Nat.le_refl _) ?_
      show XR false 2 174 sc y_X_hole (39, [(0, (vR 9 l0)), (1, (vI l1)), (2, (vI l2)), (3, (vI l3)), (4, (vI l4))], [(vI r_11)], R, M_12, 174) _
      obtain ⟨c_14, h⟩ := xch_ex h
      obtain rfl := Option.some.inj h
      exact XR.retI .boolean rfl (xnar_z c_14) (by decide +kernel)
    · skip
      refine s_X_hole [(12, .ifCond .eq 22, 0, (-1)), (15, .iload_n 3, 0, 0), (16, .iconst 1, 0, 1)] (by decide +kernel) (z' := (17, [(0, (vR 9 l0)), (1, (vI l1)), (2, (vI l2)), (3, (vI l3)), (4, (vI l4))], [(vI 1), (vI l3)], R, M, 174)) (cs := [¬ (r_8 = 0)]) (by rfl) ⟨c_10, trivial⟩ (Nat.le_refl _) ?_
      rcases xif_ex h with ⟨c_15, h⟩ | ⟨c_15, h⟩
      · skip
        refine s_X_hole [(17, .if_icmp .lt 17, 0, 34), (34, .aload_n 0, 0, 0), (35, .iconst 1, 0, 1)] (by decide +kernel) (z' := (36, [(0, (vR 9 l0)), (1, (vI l1)), (2, (vI l2)), (3, (vI l3)), (4, (vI l4))], [(vI 1), (vR 9 l0)], R, M, 174)) (cs := [l3 < 1]) (by rfl) ⟨c_15, trivial⟩ (Nat.le_refl _) ?_
        obtain ⟨r_16, M_17, e_18, h⟩ := xb2_ex h
        refine XR.callV 9 rfl (rest := []) m_X_deny k_9_86 9 l0 (Or.inl ⟨by decide, rfl⟩) [(vI 1)] rfl rfl (c_X_deny e_18) (by decide) (Nat.le_of_ble_eq_true rfl) (by decide +kernel) (Nat.le_refl _) (Nat.le_refl _) ?_
        show XR false 2 174 sc y_X_hole (39, [(0, (vR 9 l0)), (1, (vI l1)), (2, (vI l2)), (3, (vI l3)), (4, (vI l4))], [(vI r_16)], R, M_17, 174) _
        obtain ⟨c_19, h⟩ := xch_ex h
        obtain rfl := Option.some.inj h
        exact XR.retI .boolean rfl (xnar_z c_19) (by decide +kernel)
      · skip
        refine s_X_hole [(17, .if_icmp .lt 17, 0, (-1)), (20, .iload_n 3, 0, 0), (21, .bipush 100, 0, 100)] (by decide +kernel) (z' := (23, [(0, (vR 9 l0)), (1, (vI l1)), (2, (vI l2)), (3, (vI l3)), (4, (vI l4))], [(vI 100), (vI l3)], R, M, 174)) (cs := [¬ (l3 < 1)]) (by rfl) ⟨c_15, trivial⟩ (Nat.le_refl _) ?_
        rcases xif_ex h with ⟨c_20, h⟩ | ⟨c_20, h⟩
        · skip
          refine s_X_hole [(23, .if_icmp .gt 11, 0, 34), (34, .aload_n 0, 0, 0), (35, .iconst 1, 0, 1)] (by decide +kernel) (z' := (36, [(0, (vR 9 l0)), (1, (vI l1)), (2, (vI l2)), (3, (vI l3)), (4, (vI l4))], [(vI 1), (vR 9 l0)], R, M, 174)) (cs := [100 < l3]) (by rfl) ⟨c_20, trivial⟩ (Nat.le_refl _) ?_
          obtain ⟨r_21, M_22, e_23, h⟩ := xb2_ex h
          refine XR.callV 9 rfl (rest := []) m_X_deny k_9_86 9 l0 (Or.inl ⟨by decide, rfl⟩) [(vI 1)] rfl rfl (c_X_deny e_23) (by decide) (Nat.le_of_ble_eq_true rfl) (by decide +kernel) (Nat.le_refl _) (Nat.le_refl _) ?_
          show XR false 2 174 sc y_X_hole (39, [(0, (vR 9 l0)), (1, (vI l1)), (2, (vI l2)), (3, (vI l3)), (4, (vI l4))], [(vI r_21)], R, M_22, 174) _
          obtain ⟨c_24, h⟩ := xch_ex h
          obtain rfl := Option.some.inj h
          exact XR.retI .boolean rfl (xnar_z c_24) (by decide +kernel)
        · skip
          refine s_X_hole [(23, .if_icmp .gt 11, 0, (-1)), (26, .iload 4, 0, 0)] (by decide +kernel) (z' := (28, [(0, (vR 9 l0)), (1, (vI l1)), (2, (vI l2)), (3, (vI l3)), (4, (vI l4))], [(vI l4)], R, M, 174)) (cs := [¬ (100 < l3)]) (by rfl) ⟨c_20, trivial⟩ (Nat.le_refl _) ?_
          obtain ⟨r_25, e_26, h⟩ := xb1_ex h
          refine XR.callS 9 rfl (rest := []) m_X_isKnownHour k_9_196 [(vI l4)] rfl rfl (c_X_isKnownHour e_26) (by decide) (Nat.le_of_ble_eq_true rfl) (by decide +kernel) (Nat.le_refl _) (Nat.le_refl _) ?_
          show XR false 2 174 sc y_X_hole (31, [(0, (vR 9 l0)), (1, (vI l1)), (2, (vI l2)), (3, (vI l3)), (4, (vI l4))], [(vI r_25)], R, M, 174) _
          rcases xif_ex h with ⟨c_27, h⟩ | ⟨c_27, h⟩
          · skip
            refine s_X_hole [(31, .ifCond .ne 9, 0, (-1)), (34, .aload_n 0, 0, 0), (35, .iconst 1, 0, 1)] (by decide +kernel) (z' := (36, [(0, (vR 9 l0)), (1, (vI l1)), (2, (vI l2)), (3, (vI l3)), (4, (vI l4))], [(vI 1), (vR 9 l0)], R, M, 174)) (cs := [¬ (r_25 ≠ 0)]) (by rfl) ⟨fun q => q c_27, trivial⟩ (Nat.le_refl _) ?_
            obtain ⟨r_28, M_29, e_30, h⟩ := xb2_ex h
            refine XR.callV 9 rfl (rest := []) m_X_deny k_9_86 9 l0 (Or.inl ⟨by decide, rfl⟩) [(vI 1)] rfl rfl (c_X_deny e_30) (by decide) (Nat.le_of_ble_eq_true rfl) (by decide +kernel) (Nat.le_refl _) (Nat.le_refl _) ?_
            show XR false 2 174 sc y_X_hole (39, [(0, (vR 9 l0)), (1, (vI l1)), (2, (vI l2)), (3, (vI l3)), (4, (vI l4))], [(vI r_28)], R, M_29, 174) _
            obtain ⟨c_31, h⟩ := xch_ex h
            obtain rfl := Option.some.inj h
            exact XR.retI .boolean rfl (xnar_z c_31) (by decide +kernel)
          · skip
            refine s_X_hole [(31, .ifCond .ne 9, 0, 40), (40, .aload_n 0, 0, 0), (41, .getfield 50, 9, 7), (44, .iload 4, 0, 0)] (by decide +kernel) (z' := (46, [(0, (vR 9 l0)), (1, (vI l1)), (2, (vI l2)), (3, (vI l3)), (4, (vI l4))], [(vI l4), (vR 0 (R l0 7))], R, M, 174)) (cs := [r_25 ≠ 0]) (by rfl) ⟨c_27, trivial⟩ (Nat.le_refl _) ?_
            obtain ⟨r_32, e_33, h⟩ := xb1_ex h
            refine XR.callV 9 rfl (rest := []) m_B_eventStatus k_9_213 0 (R l0 7) (Or.inl ⟨by decide, rfl⟩) [(vI l4)] rfl rfl (c_B_eventStatus e_33) (by decide) (Nat.le_of_ble_eq_true rfl) (by decide +kernel) (Nat.le_refl _) (Nat.le_refl _) ?_
            show XR false 2 174 sc y_X_hole (49, [(0, (vR 9 l0)), (1, (vI l1)), (2, (vI l2)), (3, (vI l3)), (4, (vI l4))], [(vI r_32)], R, M, 174) _
            refine s_X_hole [(49, .istore 5, 0, 0), (51, .iload 5, 0, 0)] (by decide +kernel) (z' := (53, [(5, (vI r_32)), (0, (vR 9 l0)), (1, (vI l1)), (2, (vI l2)), (3, (vI l3)), (4, (vI l4))], [(vI r_32)], R, M, 174)) (cs := []) (by rfl) trivial (Nat.le_refl _) ?_
            rcases xif_ex h with ⟨c_34, h⟩ | ⟨c_34, h⟩
            · skip
              obtain ⟨c_35, h⟩ := xch_ex h
              refine s_X_hole [(53, .ifCond .ne 20, 0, (-1)), (56, .aload_n 0, 0, 0), (57, .getfield 30, 9, 3), (60, .getfield 174, 6, 4), (63, .iload_n 1, 0, 0), (64, .iaload, 0, 0), (65, .iconst 2, 0, 2)] (by decide +kernel) (z' := (66, [(5, (vI r_32)), (0, (vR 9 l0)), (1, (vI l1)), (2, (vI l2)), (3, (vI l3)), (4, (vI l4))], [(vI 2), (vI (M (R (R l0 3) 4) (Int.toNat l1)))], R, M, 174)) (cs := [¬ (r_32 ≠ 0), xar 30 0, xidx l1 (xan 30)]) (by rfl) ⟨fun q => q c_34, xar_30, xix_30 c_35, trivial⟩ (Nat.le_refl _) ?_
              rcases xif_ex h with ⟨c_36, h⟩ | ⟨c_36, h⟩
              · skip
                refine s_X_hole [(66, .if_icmp .eq 7, 0, 73)] (by decide +kernel) (z' := (73, [(5, (vI r_32)), (0, (vR 9 l0)), (1, (vI l1)), (2, (vI l2)), (3, (vI l3)), (4, (vI l4))], [], R, M, 174)) (cs := [M (R (R l0 3) 4) (Int.toNat l1) = 2]) (by rfl) ⟨c_36, trivial⟩ (Nat.le_refl _) ?_
                refine XR.pick [1, 2, 3, 4, 5, 0] (ls' := [(0, (vR 9 l0)), (1, (vI l1)), (2, (vI l2)), (3, (vI l3)), (4, (vI l4)), (5, (vI r_32))]) rfl ?_
                exact o_X_hole_J73  h
              · skip
                refine s_X_hole [(66, .if_icmp .eq 7, 0, (-1)), (69, .bipush 7, 0, 7), (71, .istore 5, 0, 0)] (by decide +kernel) (z' := (73, [(5, (vI 7)), (0, (vR 9 l0)), (1, (vI l1)), (2, (vI l2)), (3, (vI l3)), (4, (vI l4))], [], R, M, 174)) (cs := [¬ (M (R (R l0 3) 4) (Int.toNat l1) = 2)]) (by rfl) ⟨c_36, trivial⟩ (Nat.le_refl _) ?_
                refine XR.pick [1, 2, 3, 4, 5, 0] (ls' := [(0, (vR 9 l0)), (1, (vI l1)), (2, (vI l2)), (3, (vI l3)), (4, (vI l4)), (5, (vI 7))]) rfl ?_
                exact o_X_hole_J73  h
            · skip
              refine s_X_hole [(53, .ifCond .ne 20, 0, 73)] (by decide +kernel) (z' := (73, [(5, (vI r_32)), (0, (vR 9 l0)), (1, (vI l1)), (2, (vI l2)), (3, (vI l3)), (4, (vI l4))], [], R, M, 174)) (cs := [r_32 ≠ 0]) (by rfl) ⟨c_34, trivial⟩ (Nat.le_refl _) ?_
              refine XR.pick [1, 2, 3, 4, 5, 0] (ls' := [(0, (vR 9 l0)), (1, (vI l1)), (2, (vI l2)), (3, (vI l3)), (4, (vI l4)), (5, (vI r_32))]) rfl ?_
              exact o_X_hole_J73  h
set_option maxRecDepth 100000 in
set_option maxHeartbeats 4000000 in
theorem c_X_hole {sc : List Int} {R : xR} {M : xM} {l0 : Nat} {l1 : Int} {l2 : Int} {l3 : Int} {l4 : Int} {out : Int × xM} (h : f_X_hole R l0 l1 l2 l3 l4 M = some out) : XC false 2 sc y_X_hole [(vR 9 l0), (vI l1), (vI l2), (vI l3), (vI l4)] R M 174 174 ((some (vI out.1)), R, out.2) := XC.of (by decide) (Nat.le_of_ble_eq_true rfl) (Nat.le_refl _) (Nat.le_refl _) (o_X_hole h)
def f_X_isWorks (R : xR) (l0 : Nat) (l1 : Int) (M : xM) : Option Int :=
  if l1 < 0 then
    some (0)
  else
    if l1 < M (R l0 3) 1 then
      some (1)
    else
      some (0)
set_option maxRecDepth 100000 in
set_option maxHeartbeats 4000000 in
theorem s_X_isWorks {d : Nat} {sc : List Int} {z z' : xS} {out : xO} (qs : List xI) {cs : List Prop} (hq : qs.all (xqb 9 false y_X_isWorks.2.2.1 y_X_isWorks.2.1) = true) (h : xN false sc qs z = some (z', cs)) (hc : xAll cs) (hE : z'.2.2.2.2.2 ≤ 174) (k : XR false d 174 sc y_X_isWorks z' out) : XR false d 174 sc y_X_isWorks z out := XR.seg 9 false rfl (fun q => by cases q) qs hq h hc hE k
set_option maxRecDepth 100000 in
set_option maxHeartbeats 4000000 in
theorem o_X_isWorks {sc : List Int} {R : xR} {M : xM} {l0 : Nat} {l1 : Int} {out : Int} (h : f_X_isWorks R l0 l1 M = some out) : XR false 0 174 sc y_X_isWorks (0, [(0, (vR 9 l0)), (1, (vI l1))], [], R, M, 174) ((some (vI out)), R, M) := by
  unfold f_X_isWorks at h
  refine s_X_isWorks [(0, .iload_n 1, 0, 0)] (by decide +kernel) (z' := (1, [(0, (vR 9 l0)), (1, (vI l1))], [(vI l1)], R, M, 174)) (cs := []) (by rfl) trivial (Nat.le_refl _) ?_
  rcases xif_ex h with ⟨c_1, h⟩ | ⟨c_1, h⟩
  · skip
    refine s_X_isWorks [(1, .ifCond .lt 18, 0, 19), (19, .iconst 0, 0, 0)] (by decide +kernel) (z' := (20, [(0, (vR 9 l0)), (1, (vI l1))], [(vI 0)], R, M, 174)) (cs := [l1 < 0]) (by rfl) ⟨c_1, trivial⟩ (Nat.le_refl _) ?_
    obtain rfl := Option.some.inj h
    exact XR.retI .boolean rfl (xnar_z (by decide)) (by decide +kernel)
  · skip
    refine s_X_isWorks [(1, .ifCond .lt 18, 0, (-1)), (4, .iload_n 1, 0, 0), (5, .aload_n 0, 0, 0), (6, .getfield 30, 9, 3), (9, .getfield 240, 6, 1)] (by decide +kernel) (z' := (12, [(0, (vR 9 l0)), (1, (vI l1))], [(vI (M (R l0 3) 1)), (vI l1)], R, M, 174)) (cs := [¬ (l1 < 0)]) (by rfl) ⟨c_1, trivial⟩ (Nat.le_refl _) ?_
    rcases xif_ex h with ⟨c_2, h⟩ | ⟨c_2, h⟩
    · skip
      refine s_X_isWorks [(12, .if_icmp .ge 7, 0, (-1)), (15, .iconst 1, 0, 1), (16, .goto 4, 0, 20)] (by decide +kernel) (z' := (20, [(0, (vR 9 l0)), (1, (vI l1))], [(vI 1)], R, M, 174)) (cs := [¬ (M (R l0 3) 1 ≤ l1)]) (by rfl) ⟨Int.not_le.mpr c_2, trivial⟩ (Nat.le_refl _) ?_
      obtain rfl := Option.some.inj h
      exact XR.retI .boolean rfl (xnar_z (by decide)) (by decide +kernel)
    · skip
      refine s_X_isWorks [(12, .if_icmp .ge 7, 0, 19), (19, .iconst 0, 0, 0)] (by decide +kernel) (z' := (20, [(0, (vR 9 l0)), (1, (vI l1))], [(vI 0)], R, M, 174)) (cs := [M (R l0 3) 1 ≤ l1]) (by rfl) ⟨Int.not_lt.mp c_2, trivial⟩ (Nat.le_refl _) ?_
      obtain rfl := Option.some.inj h
      exact XR.retI .boolean rfl (xnar_z (by decide)) (by decide +kernel)
set_option maxRecDepth 100000 in
set_option maxHeartbeats 4000000 in
theorem c_X_isWorks {sc : List Int} {R : xR} {M : xM} {l0 : Nat} {l1 : Int} {out : Int} (h : f_X_isWorks R l0 l1 M = some out) : XC false 0 sc y_X_isWorks [(vR 9 l0), (vI l1)] R M 174 174 ((some (vI out)), R, M) := XC.of (by decide) (Nat.le_of_ble_eq_true rfl) (Nat.le_refl _) (Nat.le_refl _) (o_X_isWorks h)
def X_knock_J58 (R : xR) (l0 : Nat) (l1 : Int) (l2 : Int) (l3 : Int) (v4 : Int) (M : xM) : Option (Int × xM) :=
  if v4 = 0 then
    xb1 (f_B_addEvent R (R l0 7) 0 l1 l2 0 l3 M) fun M_29 =>
    xb2 (f_X_done l0 M_29) fun r_31 M_32 =>
    xch (r_31 = 0 ∨ r_31 = 1) <|
    some (r_31, M_32)
  else
    xb2 (f_X_deny l0 v4 M) fun r_35 M_36 =>
    xch (r_35 = 0 ∨ r_35 = 1) <|
    some (r_35, M_36)
def f_X_knock (R : xR) (l0 : Nat) (l1 : Int) (l2 : Int) (l3 : Int) (M : xM) : Option (Int × xM) :=
  xb1 (f_X_isCleaner R l0 l1 M) fun r_1 =>
  if r_1 = 0 then
    xb2 (f_X_deny l0 1 M) fun r_4 M_5 =>
    xch (r_4 = 0 ∨ r_4 = 1) <|
    some (r_4, M_5)
  else
    xb1 (f_X_isHour l2) fun r_8 =>
    if r_8 = 0 then
      xb2 (f_X_deny l0 1 M) fun r_11 M_12 =>
      xch (r_11 = 0 ∨ r_11 = 1) <|
      some (r_11, M_12)
    else
      xb1 (f_X_isKnownHour l3) fun r_15 =>
      if r_15 = 0 then
        xb2 (f_X_deny l0 1 M) fun r_18 M_19 =>
        xch (r_18 = 0 ∨ r_18 = 1) <|
        some (r_18, M_19)
      else
        xb1 (f_B_eventStatus (R l0 7) l3 M) fun r_22 =>
        if r_22 = 0 then
          xb1 (f_N_keepsLayer R (R l0 3) l1 M) fun r_25 =>
          if r_25 = 0 then
            X_knock_J58 R l0 l1 l2 l3 7 M
          else
            X_knock_J58 R l0 l1 l2 l3 r_22 M
        else
          X_knock_J58 R l0 l1 l2 l3 r_22 M
set_option maxRecDepth 100000 in
set_option maxHeartbeats 4000000 in
theorem s_X_knock {d : Nat} {sc : List Int} {z z' : xS} {out : xO} (qs : List xI) {cs : List Prop} (hq : qs.all (xqb 9 false y_X_knock.2.2.1 y_X_knock.2.1) = true) (h : xN false sc qs z = some (z', cs)) (hc : xAll cs) (hE : z'.2.2.2.2.2 ≤ 174) (k : XR false d 174 sc y_X_knock z' out) : XR false d 174 sc y_X_knock z out := XR.seg 9 false rfl (fun q => by cases q) qs hq h hc hE k
set_option maxRecDepth 100000 in
set_option maxHeartbeats 4000000 in
theorem o_X_knock_J58 {sc : List Int} {R : xR}   {l0 : Nat} {l1 : Int} {l2 : Int} {l3 : Int}  {v4 : Int} {M : xM} {out : Int × xM} (h : X_knock_J58 R l0 l1 l2 l3  v4 M = some out) : XR false 2 174 sc y_X_knock (58, [(0, (vR 9 l0)), (1, (vI l1)), (2, (vI l2)), (3, (vI l3)), (4, (vI v4))], [], R, M, 174) ((some (vI out.1)), R, out.2) := by
  unfold X_knock_J58 at h
  refine s_X_knock [(58, .iload 4, 0, 0)] (by decide +kernel) (z' := (60, [(0, (vR 9 l0)), (1, (vI l1)), (2, (vI l2)), (3, (vI l3)), (4, (vI v4))], [(vI v4)], R, M, 174)) (cs := []) (by rfl) trivial (Nat.le_refl _) ?_
  rcases xif_ex h with ⟨c_28, h⟩ | ⟨c_28, h⟩
  · skip
    refine s_X_knock [(60, .ifCond .eq 10, 0, 70), (70, .aload_n 0, 0, 0), (71, .getfield 50, 9, 7), (74, .iconst 0, 0, 0), (75, .iload_n 1, 0, 0), (76, .iload_n 2, 0, 0), (77, .iconst 0, 0, 0), (78, .iload_n 3, 0, 0)] (by decide +kernel) (z' := (79, [(0, (vR 9 l0)), (1, (vI l1)), (2, (vI l2)), (3, (vI l3)), (4, (vI v4))], [(vI l3), (vI 0), (vI l2), (vI l1), (vI 0), (vR 0 (R l0 7))], R, M, 174)) (cs := [v4 = 0]) (by rfl) ⟨c_28, trivial⟩ (Nat.le_refl _) ?_
    obtain ⟨M_29, e_30, h⟩ := xb1_ex h
    refine XR.callV 9 rfl (rest := []) m_B_addEvent k_9_219 0 (R l0 7) (Or.inl ⟨by decide, rfl⟩) [(vI 0), (vI l1), (vI l2), (vI 0), (vI l3)] rfl rfl (c_B_addEvent e_30) (by decide) (Nat.le_of_ble_eq_true rfl) (by decide +kernel) (Nat.le_refl _) (Nat.le_refl _) ?_
    show XR false 2 174 sc y_X_knock (82, [(0, (vR 9 l0)), (1, (vI l1)), (2, (vI l2)), (3, (vI l3)), (4, (vI v4))], [], R, M_29, 174) _
    refine s_X_knock [(82, .aload_n 0, 0, 0)] (by decide +kernel) (z' := (83, [(0, (vR 9 l0)), (1, (vI l1)), (2, (vI l2)), (3, (vI l3)), (4, (vI v4))], [(vR 9 l0)], R, M_29, 174)) (cs := []) (by rfl) trivial (Nat.le_refl _) ?_
    obtain ⟨r_31, M_32, e_33, h⟩ := xb2_ex h
    refine XR.callV 9 rfl (rest := []) m_X_done k_9_93 9 l0 (Or.inl ⟨by decide, rfl⟩) [] rfl rfl (c_X_done e_33) (by decide) (Nat.le_of_ble_eq_true rfl) (by decide +kernel) (Nat.le_refl _) (Nat.le_refl _) ?_
    show XR false 2 174 sc y_X_knock (86, [(0, (vR 9 l0)), (1, (vI l1)), (2, (vI l2)), (3, (vI l3)), (4, (vI v4))], [(vI r_31)], R, M_32, 174) _
    obtain ⟨c_34, h⟩ := xch_ex h
    obtain rfl := Option.some.inj h
    exact XR.retI .boolean rfl (xnar_z c_34) (by decide +kernel)
  · skip
    refine s_X_knock [(60, .ifCond .eq 10, 0, (-1)), (63, .aload_n 0, 0, 0), (64, .iload 4, 0, 0)] (by decide +kernel) (z' := (66, [(0, (vR 9 l0)), (1, (vI l1)), (2, (vI l2)), (3, (vI l3)), (4, (vI v4))], [(vI v4), (vR 9 l0)], R, M, 174)) (cs := [¬ (v4 = 0)]) (by rfl) ⟨c_28, trivial⟩ (Nat.le_refl _) ?_
    obtain ⟨r_35, M_36, e_37, h⟩ := xb2_ex h
    refine XR.callV 9 rfl (rest := []) m_X_deny k_9_86 9 l0 (Or.inl ⟨by decide, rfl⟩) [(vI v4)] rfl rfl (c_X_deny e_37) (by decide) (Nat.le_of_ble_eq_true rfl) (by decide +kernel) (Nat.le_refl _) (Nat.le_refl _) ?_
    show XR false 2 174 sc y_X_knock (69, [(0, (vR 9 l0)), (1, (vI l1)), (2, (vI l2)), (3, (vI l3)), (4, (vI v4))], [(vI r_35)], R, M_36, 174) _
    obtain ⟨c_38, h⟩ := xch_ex h
    obtain rfl := Option.some.inj h
    exact XR.retI .boolean rfl (xnar_z c_38) (by decide +kernel)
set_option maxRecDepth 100000 in
set_option maxHeartbeats 4000000 in
theorem o_X_knock {sc : List Int} {R : xR} {M : xM} {l0 : Nat} {l1 : Int} {l2 : Int} {l3 : Int} {out : Int × xM} (h : f_X_knock R l0 l1 l2 l3 M = some out) : XR false 2 174 sc y_X_knock (0, [(0, (vR 9 l0)), (1, (vI l1)), (2, (vI l2)), (3, (vI l3))], [], R, M, 174) ((some (vI out.1)), R, out.2) := by
  unfold f_X_knock at h
  refine s_X_knock [(0, .aload_n 0, 0, 0), (1, .iload_n 1, 0, 0)] (by decide +kernel) (z' := (2, [(0, (vR 9 l0)), (1, (vI l1)), (2, (vI l2)), (3, (vI l3))], [(vI l1), (vR 9 l0)], R, M, 174)) (cs := []) (by rfl) trivial (Nat.le_refl _) ?_
  obtain ⟨r_1, e_2, h⟩ := xb1_ex h
  refine XR.callV 9 rfl (rest := []) m_X_isCleaner k_9_171 9 l0 (Or.inl ⟨by decide, rfl⟩) [(vI l1)] rfl rfl (c_X_isCleaner e_2) (by decide) (Nat.le_of_ble_eq_true rfl) (by decide +kernel) (Nat.le_refl _) (Nat.le_refl _) ?_
  show XR false 2 174 sc y_X_knock (5, [(0, (vR 9 l0)), (1, (vI l1)), (2, (vI l2)), (3, (vI l3))], [(vI r_1)], R, M, 174) _
  rcases xif_ex h with ⟨c_3, h⟩ | ⟨c_3, h⟩
  · skip
    refine s_X_knock [(5, .ifCond .eq 17, 0, 22), (22, .aload_n 0, 0, 0), (23, .iconst 1, 0, 1)] (by decide +kernel) (z' := (24, [(0, (vR 9 l0)), (1, (vI l1)), (2, (vI l2)), (3, (vI l3))], [(vI 1), (vR 9 l0)], R, M, 174)) (cs := [r_1 = 0]) (by rfl) ⟨c_3, trivial⟩ (Nat.le_refl _) ?_
    obtain ⟨r_4, M_5, e_6, h⟩ := xb2_ex h
    refine XR.callV 9 rfl (rest := []) m_X_deny k_9_86 9 l0 (Or.inl ⟨by decide, rfl⟩) [(vI 1)] rfl rfl (c_X_deny e_6) (by decide) (Nat.le_of_ble_eq_true rfl) (by decide +kernel) (Nat.le_refl _) (Nat.le_refl _) ?_
    show XR false 2 174 sc y_X_knock (27, [(0, (vR 9 l0)), (1, (vI l1)), (2, (vI l2)), (3, (vI l3))], [(vI r_4)], R, M_5, 174) _
    obtain ⟨c_7, h⟩ := xch_ex h
    obtain rfl := Option.some.inj h
    exact XR.retI .boolean rfl (xnar_z c_7) (by decide +kernel)
  · skip
    refine s_X_knock [(5, .ifCond .eq 17, 0, (-1)), (8, .iload_n 2, 0, 0)] (by decide +kernel) (z' := (9, [(0, (vR 9 l0)), (1, (vI l1)), (2, (vI l2)), (3, (vI l3))], [(vI l2)], R, M, 174)) (cs := [¬ (r_1 = 0)]) (by rfl) ⟨c_3, trivial⟩ (Nat.le_refl _) ?_
    obtain ⟨r_8, e_9, h⟩ := xb1_ex h
    refine XR.callS 9 rfl (rest := []) m_X_isHour k_9_190 [(vI l2)] rfl rfl (c_X_isHour e_9) (by decide) (Nat.le_of_ble_eq_true rfl) (by decide +kernel) (Nat.le_refl _) (Nat.le_refl _) ?_
    show XR false 2 174 sc y_X_knock (12, [(0, (vR 9 l0)), (1, (vI l1)), (2, (vI l2)), (3, (vI l3))], [(vI r_8)], R, M, 174) _
    rcases xif_ex h with ⟨c_10, h⟩ | ⟨c_10, h⟩
    · skip
      refine s_X_knock [(12, .ifCond .eq 10, 0, 22), (22, .aload_n 0, 0, 0), (23, .iconst 1, 0, 1)] (by decide +kernel) (z' := (24, [(0, (vR 9 l0)), (1, (vI l1)), (2, (vI l2)), (3, (vI l3))], [(vI 1), (vR 9 l0)], R, M, 174)) (cs := [r_8 = 0]) (by rfl) ⟨c_10, trivial⟩ (Nat.le_refl _) ?_
      obtain ⟨r_11, M_12, e_13, h⟩ := xb2_ex h
      refine XR.callV 9 rfl (rest := []) m_X_deny k_9_86 9 l0 (Or.inl ⟨by decide, rfl⟩) [(vI 1)] rfl rfl (c_X_deny e_13) (by decide) (Nat.le_of_ble_eq_true rfl) (by decide +kernel) (Nat.le_refl _) (Nat.le_refl _) ?_
      show XR false 2 174 sc y_X_knock (27, [(0, (vR 9 l0)), (1, (vI l1)), (2, (vI l2)), (3, (vI l3))], [(vI r_11)], R, M_12, 174) _
      obtain ⟨c_14, h⟩ := xch_ex h
      obtain rfl := Option.some.inj h
      exact XR.retI .boolean rfl (xnar_z c_14) (by decide +kernel)
    · skip
      refine s_X_knock [(12, .ifCond .eq 10, 0, (-1)), (15, .iload_n 3, 0, 0)] (by decide +kernel) (z' := (16, [(0, (vR 9 l0)), (1, (vI l1)), (2, (vI l2)), (3, (vI l3))], [(vI l3)], R, M, 174)) (cs := [¬ (r_8 = 0)]) (by rfl) ⟨c_10, trivial⟩ (Nat.le_refl _) ?_
      obtain ⟨r_15, e_16, h⟩ := xb1_ex h
      refine XR.callS 9 rfl (rest := []) m_X_isKnownHour k_9_196 [(vI l3)] rfl rfl (c_X_isKnownHour e_16) (by decide) (Nat.le_of_ble_eq_true rfl) (by decide +kernel) (Nat.le_refl _) (Nat.le_refl _) ?_
      show XR false 2 174 sc y_X_knock (19, [(0, (vR 9 l0)), (1, (vI l1)), (2, (vI l2)), (3, (vI l3))], [(vI r_15)], R, M, 174) _
      rcases xif_ex h with ⟨c_17, h⟩ | ⟨c_17, h⟩
      · skip
        refine s_X_knock [(19, .ifCond .ne 9, 0, (-1)), (22, .aload_n 0, 0, 0), (23, .iconst 1, 0, 1)] (by decide +kernel) (z' := (24, [(0, (vR 9 l0)), (1, (vI l1)), (2, (vI l2)), (3, (vI l3))], [(vI 1), (vR 9 l0)], R, M, 174)) (cs := [¬ (r_15 ≠ 0)]) (by rfl) ⟨fun q => q c_17, trivial⟩ (Nat.le_refl _) ?_
        obtain ⟨r_18, M_19, e_20, h⟩ := xb2_ex h
        refine XR.callV 9 rfl (rest := []) m_X_deny k_9_86 9 l0 (Or.inl ⟨by decide, rfl⟩) [(vI 1)] rfl rfl (c_X_deny e_20) (by decide) (Nat.le_of_ble_eq_true rfl) (by decide +kernel) (Nat.le_refl _) (Nat.le_refl _) ?_
        show XR false 2 174 sc y_X_knock (27, [(0, (vR 9 l0)), (1, (vI l1)), (2, (vI l2)), (3, (vI l3))], [(vI r_18)], R, M_19, 174) _
        obtain ⟨c_21, h⟩ := xch_ex h
        obtain rfl := Option.some.inj h
        exact XR.retI .boolean rfl (xnar_z c_21) (by decide +kernel)
      · skip
        refine s_X_knock [(19, .ifCond .ne 9, 0, 28), (28, .aload_n 0, 0, 0), (29, .getfield 50, 9, 7), (32, .iload_n 3, 0, 0)] (by decide +kernel) (z' := (33, [(0, (vR 9 l0)), (1, (vI l1)), (2, (vI l2)), (3, (vI l3))], [(vI l3), (vR 0 (R l0 7))], R, M, 174)) (cs := [r_15 ≠ 0]) (by rfl) ⟨c_17, trivial⟩ (Nat.le_refl _) ?_
        obtain ⟨r_22, e_23, h⟩ := xb1_ex h
        refine XR.callV 9 rfl (rest := []) m_B_eventStatus k_9_213 0 (R l0 7) (Or.inl ⟨by decide, rfl⟩) [(vI l3)] rfl rfl (c_B_eventStatus e_23) (by decide) (Nat.le_of_ble_eq_true rfl) (by decide +kernel) (Nat.le_refl _) (Nat.le_refl _) ?_
        show XR false 2 174 sc y_X_knock (36, [(0, (vR 9 l0)), (1, (vI l1)), (2, (vI l2)), (3, (vI l3))], [(vI r_22)], R, M, 174) _
        refine s_X_knock [(36, .istore 4, 0, 0), (38, .iload 4, 0, 0)] (by decide +kernel) (z' := (40, [(4, (vI r_22)), (0, (vR 9 l0)), (1, (vI l1)), (2, (vI l2)), (3, (vI l3))], [(vI r_22)], R, M, 174)) (cs := []) (by rfl) trivial (Nat.le_refl _) ?_
        rcases xif_ex h with ⟨c_24, h⟩ | ⟨c_24, h⟩
        · skip
          refine s_X_knock [(40, .ifCond .ne 18, 0, (-1)), (43, .aload_n 0, 0, 0), (44, .getfield 30, 9, 3), (47, .iload_n 1, 0, 0)] (by decide +kernel) (z' := (48, [(4, (vI r_22)), (0, (vR 9 l0)), (1, (vI l1)), (2, (vI l2)), (3, (vI l3))], [(vI l1), (vR 6 (R l0 3))], R, M, 174)) (cs := [¬ (r_22 ≠ 0)]) (by rfl) ⟨fun q => q c_24, trivial⟩ (Nat.le_refl _) ?_
          obtain ⟨r_25, e_26, h⟩ := xb1_ex h
          refine XR.callV 9 rfl (rest := []) m_N_keepsLayer k_9_216 6 (R l0 3) (Or.inl ⟨by decide, rfl⟩) [(vI l1)] rfl rfl (c_N_keepsLayer e_26) (by decide) (Nat.le_of_ble_eq_true rfl) (by decide +kernel) (Nat.le_refl _) (Nat.le_refl _) ?_
          show XR false 2 174 sc y_X_knock (51, [(4, (vI r_22)), (0, (vR 9 l0)), (1, (vI l1)), (2, (vI l2)), (3, (vI l3))], [(vI r_25)], R, M, 174) _
          rcases xif_ex h with ⟨c_27, h⟩ | ⟨c_27, h⟩
          · skip
            refine s_X_knock [(51, .ifCond .ne 7, 0, (-1)), (54, .bipush 7, 0, 7), (56, .istore 4, 0, 0)] (by decide +kernel) (z' := (58, [(4, (vI 7)), (0, (vR 9 l0)), (1, (vI l1)), (2, (vI l2)), (3, (vI l3))], [], R, M, 174)) (cs := [¬ (r_25 ≠ 0)]) (by rfl) ⟨fun q => q c_27, trivial⟩ (Nat.le_refl _) ?_
            refine XR.pick [1, 2, 3, 4, 0] (ls' := [(0, (vR 9 l0)), (1, (vI l1)), (2, (vI l2)), (3, (vI l3)), (4, (vI 7))]) rfl ?_
            exact o_X_knock_J58  h
          · skip
            refine s_X_knock [(51, .ifCond .ne 7, 0, 58)] (by decide +kernel) (z' := (58, [(4, (vI r_22)), (0, (vR 9 l0)), (1, (vI l1)), (2, (vI l2)), (3, (vI l3))], [], R, M, 174)) (cs := [r_25 ≠ 0]) (by rfl) ⟨c_27, trivial⟩ (Nat.le_refl _) ?_
            refine XR.pick [1, 2, 3, 4, 0] (ls' := [(0, (vR 9 l0)), (1, (vI l1)), (2, (vI l2)), (3, (vI l3)), (4, (vI r_22))]) rfl ?_
            exact o_X_knock_J58  h
        · skip
          refine s_X_knock [(40, .ifCond .ne 18, 0, 58)] (by decide +kernel) (z' := (58, [(4, (vI r_22)), (0, (vR 9 l0)), (1, (vI l1)), (2, (vI l2)), (3, (vI l3))], [], R, M, 174)) (cs := [r_22 ≠ 0]) (by rfl) ⟨c_24, trivial⟩ (Nat.le_refl _) ?_
          refine XR.pick [1, 2, 3, 4, 0] (ls' := [(0, (vR 9 l0)), (1, (vI l1)), (2, (vI l2)), (3, (vI l3)), (4, (vI r_22))]) rfl ?_
          exact o_X_knock_J58  h
set_option maxRecDepth 100000 in
set_option maxHeartbeats 4000000 in
theorem c_X_knock {sc : List Int} {R : xR} {M : xM} {l0 : Nat} {l1 : Int} {l2 : Int} {l3 : Int} {out : Int × xM} (h : f_X_knock R l0 l1 l2 l3 M = some out) : XC false 2 sc y_X_knock [(vR 9 l0), (vI l1), (vI l2), (vI l3)] R M 174 174 ((some (vI out.1)), R, out.2) := XC.of (by decide) (Nat.le_of_ble_eq_true rfl) (Nat.le_refl _) (Nat.le_refl _) (o_X_knock h)
def f_X_knockSet (R : xR) (l0 : Nat) (M : xM) : Option (Int × xM) :=
  if M (R l0 10) 11 = -1 then
    xb2 (f_X_refuse l0 6 M) fun r_2 M_3 =>
    some (r_2, M_3)
  else
    xb2 (f_X_answer l0 (M (R l0 10) 11) M) fun r_5 M_6 =>
    some (r_5, M_6)
set_option maxRecDepth 100000 in
set_option maxHeartbeats 4000000 in
theorem s_X_knockSet {d : Nat} {sc : List Int} {z z' : xS} {out : xO} (qs : List xI) {cs : List Prop} (hq : qs.all (xqb 9 false y_X_knockSet.2.2.1 y_X_knockSet.2.1) = true) (h : xN false sc qs z = some (z', cs)) (hc : xAll cs) (hE : z'.2.2.2.2.2 ≤ 174) (k : XR false d 174 sc y_X_knockSet z' out) : XR false d 174 sc y_X_knockSet z out := XR.seg 9 false rfl (fun q => by cases q) qs hq h hc hE k
set_option maxRecDepth 100000 in
set_option maxHeartbeats 4000000 in
theorem o_X_knockSet {sc : List Int} {R : xR} {M : xM} {l0 : Nat} {out : Int × xM} (h : f_X_knockSet R l0 M = some out) : XR false 1 174 sc y_X_knockSet (0, [(0, (vR 9 l0))], [], R, M, 174) ((some (vI out.1)), R, out.2) := by
  unfold f_X_knockSet at h
  refine s_X_knockSet [(0, .aload_n 0, 0, 0), (1, .getfield 71, 9, 10), (4, .getfield 313, 2, 11), (7, .iconst (-1), 0, (-1))] (by decide +kernel) (z' := (8, [(0, (vR 9 l0))], [(vI (-1)), (vI (M (R l0 10) 11))], R, M, 174)) (cs := []) (by rfl) trivial (Nat.le_refl _) ?_
  rcases xif_ex h with ⟨c_1, h⟩ | ⟨c_1, h⟩
  · skip
    refine s_X_knockSet [(8, .if_icmp .ne 10, 0, (-1)), (11, .aload_n 0, 0, 0), (12, .bipush 6, 0, 6)] (by decide +kernel) (z' := (14, [(0, (vR 9 l0))], [(vI 6), (vR 9 l0)], R, M, 174)) (cs := [¬ (M (R l0 10) 11 ≠ -1)]) (by rfl) ⟨fun q => q c_1, trivial⟩ (Nat.le_refl _) ?_
    obtain ⟨r_2, M_3, e_4, h⟩ := xb2_ex h
    refine XR.callV 9 rfl (rest := []) m_X_refuse k_9_105 9 l0 (Or.inl ⟨by decide, rfl⟩) [(vI 6)] rfl rfl (c_X_refuse e_4) (by decide) (Nat.le_of_ble_eq_true rfl) (by decide +kernel) (Nat.le_refl _) (Nat.le_refl _) ?_
    show XR false 1 174 sc y_X_knockSet (17, [(0, (vR 9 l0))], [(vI r_2)], R, M_3, 174) _
    obtain rfl := Option.some.inj h
    exact XR.retI .int rfl rfl (by decide +kernel)
  · skip
    refine s_X_knockSet [(8, .if_icmp .ne 10, 0, 18), (18, .aload_n 0, 0, 0), (19, .aload_n 0, 0, 0), (20, .getfield 71, 9, 10), (23, .getfield 313, 2, 11)] (by decide +kernel) (z' := (26, [(0, (vR 9 l0))], [(vI (M (R l0 10) 11)), (vR 9 l0)], R, M, 174)) (cs := [M (R l0 10) 11 ≠ -1]) (by rfl) ⟨c_1, trivial⟩ (Nat.le_refl _) ?_
    obtain ⟨r_5, M_6, e_7, h⟩ := xb2_ex h
    refine XR.callV 9 rfl (rest := []) m_X_answer k_9_156 9 l0 (Or.inl ⟨by decide, rfl⟩) [(vI (M (R l0 10) 11))] rfl rfl (c_X_answer e_7) (by decide) (Nat.le_of_ble_eq_true rfl) (by decide +kernel) (Nat.le_refl _) (Nat.le_refl _) ?_
    show XR false 1 174 sc y_X_knockSet (29, [(0, (vR 9 l0))], [(vI r_5)], R, M_6, 174) _
    obtain rfl := Option.some.inj h
    exact XR.retI .int rfl rfl (by decide +kernel)
set_option maxRecDepth 100000 in
set_option maxHeartbeats 4000000 in
theorem c_X_knockSet {sc : List Int} {R : xR} {M : xM} {l0 : Nat} {out : Int × xM} (h : f_X_knockSet R l0 M = some out) : XC false 1 sc y_X_knockSet [(vR 9 l0)] R M 174 174 ((some (vI out.1)), R, out.2) := XC.of (by decide) (Nat.le_of_ble_eq_true rfl) (Nat.le_refl _) (Nat.le_refl _) (o_X_knockSet h)
def f_X_knocks (R : xR) (l0 : Nat) (l1 : Int) (l2 : Int) (l3 : Int) (l4 : Int) (l5 : Int) (M : xM) : Option (Int × xM) :=
  xb1 (f_X_isCleaner R l0 l1 M) fun r_1 =>
  if r_1 = 0 then
    xb2 (f_X_refuse l0 1 M) fun r_4 M_5 =>
    some (r_4, M_5)
  else
    xb1 (f_X_isTray l2) fun r_7 =>
    if r_7 = 0 then
      xb2 (f_X_refuse l0 1 M) fun r_10 M_11 =>
      some (r_10, M_11)
    else
      if l3 < 1 then
        xb2 (f_X_refuse l0 1 M) fun r_14 M_15 =>
        some (r_14, M_15)
      else
        if 6 < l3 then
          xb2 (f_X_refuse l0 1 M) fun r_18 M_19 =>
          some (r_18, M_19)
        else
          if l4 < 0 then
            xb2 (f_X_refuse l0 1 M) fun r_22 M_23 =>
            some (r_22, M_23)
          else
            if l3 < l4 then
              xb2 (f_X_refuse l0 1 M) fun r_26 M_27 =>
              some (r_26, M_27)
            else
              xb1 (f_X_isHour l5) fun r_29 =>
              if r_29 = 0 then
                xb2 (f_X_refuse l0 1 M) fun r_32 M_33 =>
                some (r_32, M_33)
              else
                xb1 (f_X_rowStatus R l0 l2 l3 M) fun r_35 =>
                if r_35 = 0 then
                  xb1 (f_Y_areWithin R (R l0 2) l2 l3 47 M) fun r_38 =>
                  if r_38 = 0 then
                    xb2 (f_X_refuse l0 1 M) fun r_41 M_42 =>
                    some (r_41, M_42)
                  else
                    xb1 (f_Y_hasTwoAlike R (R l0 2) l2 l3 M) fun r_44 =>
                    if r_44 = 0 then
                      xb1 (f_N_keepsLayer R (R l0 3) l1 M) fun r_47 =>
                      if r_47 = 0 then
                        xb2 (f_X_refuse l0 7 M) fun r_50 M_51 =>
                        some (r_50, M_51)
                      else
                        xb1 (f_X_freshen R l0 M) fun M_53 =>
                        xb1 (f_H_takeHours R (R l0 10) (R l0 2) l2 l3 M_53) fun M_55 =>
                        xb2 (f_H_leastUp R (R l0 10) (R l0 3) (R l0 7) l1 l4 l5 M_55) fun r_57 M_58 =>
                        xb2 (f_X_answer l0 r_57 M_58) fun r_60 M_61 =>
                        some (r_60, M_61)
                    else
                      xb2 (f_X_refuse l0 1 M) fun r_63 M_64 =>
                      some (r_63, M_64)
                else
                  xb2 (f_X_refuse l0 r_35 M) fun r_66 M_67 =>
                  some (r_66, M_67)
set_option maxRecDepth 100000 in
set_option maxHeartbeats 4000000 in
theorem s_X_knocks {d : Nat} {sc : List Int} {z z' : xS} {out : xO} (qs : List xI) {cs : List Prop} (hq : qs.all (xqb 9 false y_X_knocks.2.2.1 y_X_knocks.2.1) = true) (h : xN false sc qs z = some (z', cs)) (hc : xAll cs) (hE : z'.2.2.2.2.2 ≤ 174) (k : XR false d 174 sc y_X_knocks z' out) : XR false d 174 sc y_X_knocks z out := XR.seg 9 false rfl (fun q => by cases q) qs hq h hc hE k
set_option maxRecDepth 100000 in
set_option maxHeartbeats 4000000 in
theorem o_X_knocks {sc : List Int} {R : xR} {M : xM} {l0 : Nat} {l1 : Int} {l2 : Int} {l3 : Int} {l4 : Int} {l5 : Int} {out : Int × xM} (h : f_X_knocks R l0 l1 l2 l3 l4 l5 M = some out) : XR false 6 174 sc y_X_knocks (0, [(0, (vR 9 l0)), (1, (vI l1)), (2, (vI l2)), (3, (vI l3)), (4, (vI l4)), (5, (vI l5))], [], R, M, 174) ((some (vI out.1)), R, out.2) := by
  unfold f_X_knocks at h
  refine s_X_knocks [(0, .aload_n 0, 0, 0), (1, .iload_n 1, 0, 0)] (by decide +kernel) (z' := (2, [(0, (vR 9 l0)), (1, (vI l1)), (2, (vI l2)), (3, (vI l3)), (4, (vI l4)), (5, (vI l5))], [(vI l1), (vR 9 l0)], R, M, 174)) (cs := []) (by rfl) trivial (Nat.le_refl _) ?_
  obtain ⟨r_1, e_2, h⟩ := xb1_ex h
  refine XR.callV 9 rfl (rest := []) m_X_isCleaner k_9_171 9 l0 (Or.inl ⟨by decide, rfl⟩) [(vI l1)] rfl rfl (c_X_isCleaner e_2) (by decide) (Nat.le_of_ble_eq_true rfl) (by decide +kernel) (Nat.le_refl _) (Nat.le_refl _) ?_
  show XR false 6 174 sc y_X_knocks (5, [(0, (vR 9 l0)), (1, (vI l1)), (2, (vI l2)), (3, (vI l3)), (4, (vI l4)), (5, (vI l5))], [(vI r_1)], R, M, 174) _
  rcases xif_ex h with ⟨c_3, h⟩ | ⟨c_3, h⟩
  · skip
    refine s_X_knocks [(5, .ifCond .eq 40, 0, 45), (45, .aload_n 0, 0, 0), (46, .iconst 1, 0, 1)] (by decide +kernel) (z' := (47, [(0, (vR 9 l0)), (1, (vI l1)), (2, (vI l2)), (3, (vI l3)), (4, (vI l4)), (5, (vI l5))], [(vI 1), (vR 9 l0)], R, M, 174)) (cs := [r_1 = 0]) (by rfl) ⟨c_3, trivial⟩ (Nat.le_refl _) ?_
    obtain ⟨r_4, M_5, e_6, h⟩ := xb2_ex h
    refine XR.callV 9 rfl (rest := []) m_X_refuse k_9_105 9 l0 (Or.inl ⟨by decide, rfl⟩) [(vI 1)] rfl rfl (c_X_refuse e_6) (by decide) (Nat.le_of_ble_eq_true rfl) (by decide +kernel) (Nat.le_refl _) (Nat.le_refl _) ?_
    show XR false 6 174 sc y_X_knocks (50, [(0, (vR 9 l0)), (1, (vI l1)), (2, (vI l2)), (3, (vI l3)), (4, (vI l4)), (5, (vI l5))], [(vI r_4)], R, M_5, 174) _
    obtain rfl := Option.some.inj h
    exact XR.retI .int rfl rfl (by decide +kernel)
  · skip
    refine s_X_knocks [(5, .ifCond .eq 40, 0, (-1)), (8, .iload_n 2, 0, 0)] (by decide +kernel) (z' := (9, [(0, (vR 9 l0)), (1, (vI l1)), (2, (vI l2)), (3, (vI l3)), (4, (vI l4)), (5, (vI l5))], [(vI l2)], R, M, 174)) (cs := [¬ (r_1 = 0)]) (by rfl) ⟨c_3, trivial⟩ (Nat.le_refl _) ?_
    obtain ⟨r_7, e_8, h⟩ := xb1_ex h
    refine XR.callS 9 rfl (rest := []) m_X_isTray k_9_82 [(vI l2)] rfl rfl (c_X_isTray e_8) (by decide) (Nat.le_of_ble_eq_true rfl) (by decide +kernel) (Nat.le_refl _) (Nat.le_refl _) ?_
    show XR false 6 174 sc y_X_knocks (12, [(0, (vR 9 l0)), (1, (vI l1)), (2, (vI l2)), (3, (vI l3)), (4, (vI l4)), (5, (vI l5))], [(vI r_7)], R, M, 174) _
    rcases xif_ex h with ⟨c_9, h⟩ | ⟨c_9, h⟩
    · skip
      refine s_X_knocks [(12, .ifCond .eq 33, 0, 45), (45, .aload_n 0, 0, 0), (46, .iconst 1, 0, 1)] (by decide +kernel) (z' := (47, [(0, (vR 9 l0)), (1, (vI l1)), (2, (vI l2)), (3, (vI l3)), (4, (vI l4)), (5, (vI l5))], [(vI 1), (vR 9 l0)], R, M, 174)) (cs := [r_7 = 0]) (by rfl) ⟨c_9, trivial⟩ (Nat.le_refl _) ?_
      obtain ⟨r_10, M_11, e_12, h⟩ := xb2_ex h
      refine XR.callV 9 rfl (rest := []) m_X_refuse k_9_105 9 l0 (Or.inl ⟨by decide, rfl⟩) [(vI 1)] rfl rfl (c_X_refuse e_12) (by decide) (Nat.le_of_ble_eq_true rfl) (by decide +kernel) (Nat.le_refl _) (Nat.le_refl _) ?_
      show XR false 6 174 sc y_X_knocks (50, [(0, (vR 9 l0)), (1, (vI l1)), (2, (vI l2)), (3, (vI l3)), (4, (vI l4)), (5, (vI l5))], [(vI r_10)], R, M_11, 174) _
      obtain rfl := Option.some.inj h
      exact XR.retI .int rfl rfl (by decide +kernel)
    · skip
      refine s_X_knocks [(12, .ifCond .eq 33, 0, (-1)), (15, .iload_n 3, 0, 0), (16, .iconst 1, 0, 1)] (by decide +kernel) (z' := (17, [(0, (vR 9 l0)), (1, (vI l1)), (2, (vI l2)), (3, (vI l3)), (4, (vI l4)), (5, (vI l5))], [(vI 1), (vI l3)], R, M, 174)) (cs := [¬ (r_7 = 0)]) (by rfl) ⟨c_9, trivial⟩ (Nat.le_refl _) ?_
      rcases xif_ex h with ⟨c_13, h⟩ | ⟨c_13, h⟩
      · skip
        refine s_X_knocks [(17, .if_icmp .lt 28, 0, 45), (45, .aload_n 0, 0, 0), (46, .iconst 1, 0, 1)] (by decide +kernel) (z' := (47, [(0, (vR 9 l0)), (1, (vI l1)), (2, (vI l2)), (3, (vI l3)), (4, (vI l4)), (5, (vI l5))], [(vI 1), (vR 9 l0)], R, M, 174)) (cs := [l3 < 1]) (by rfl) ⟨c_13, trivial⟩ (Nat.le_refl _) ?_
        obtain ⟨r_14, M_15, e_16, h⟩ := xb2_ex h
        refine XR.callV 9 rfl (rest := []) m_X_refuse k_9_105 9 l0 (Or.inl ⟨by decide, rfl⟩) [(vI 1)] rfl rfl (c_X_refuse e_16) (by decide) (Nat.le_of_ble_eq_true rfl) (by decide +kernel) (Nat.le_refl _) (Nat.le_refl _) ?_
        show XR false 6 174 sc y_X_knocks (50, [(0, (vR 9 l0)), (1, (vI l1)), (2, (vI l2)), (3, (vI l3)), (4, (vI l4)), (5, (vI l5))], [(vI r_14)], R, M_15, 174) _
        obtain rfl := Option.some.inj h
        exact XR.retI .int rfl rfl (by decide +kernel)
      · skip
        refine s_X_knocks [(17, .if_icmp .lt 28, 0, (-1)), (20, .iload_n 3, 0, 0), (21, .bipush 6, 0, 6)] (by decide +kernel) (z' := (23, [(0, (vR 9 l0)), (1, (vI l1)), (2, (vI l2)), (3, (vI l3)), (4, (vI l4)), (5, (vI l5))], [(vI 6), (vI l3)], R, M, 174)) (cs := [¬ (l3 < 1)]) (by rfl) ⟨c_13, trivial⟩ (Nat.le_refl _) ?_
        rcases xif_ex h with ⟨c_17, h⟩ | ⟨c_17, h⟩
        · skip
          refine s_X_knocks [(23, .if_icmp .gt 22, 0, 45), (45, .aload_n 0, 0, 0), (46, .iconst 1, 0, 1)] (by decide +kernel) (z' := (47, [(0, (vR 9 l0)), (1, (vI l1)), (2, (vI l2)), (3, (vI l3)), (4, (vI l4)), (5, (vI l5))], [(vI 1), (vR 9 l0)], R, M, 174)) (cs := [6 < l3]) (by rfl) ⟨c_17, trivial⟩ (Nat.le_refl _) ?_
          obtain ⟨r_18, M_19, e_20, h⟩ := xb2_ex h
          refine XR.callV 9 rfl (rest := []) m_X_refuse k_9_105 9 l0 (Or.inl ⟨by decide, rfl⟩) [(vI 1)] rfl rfl (c_X_refuse e_20) (by decide) (Nat.le_of_ble_eq_true rfl) (by decide +kernel) (Nat.le_refl _) (Nat.le_refl _) ?_
          show XR false 6 174 sc y_X_knocks (50, [(0, (vR 9 l0)), (1, (vI l1)), (2, (vI l2)), (3, (vI l3)), (4, (vI l4)), (5, (vI l5))], [(vI r_18)], R, M_19, 174) _
          obtain rfl := Option.some.inj h
          exact XR.retI .int rfl rfl (by decide +kernel)
        · skip
          refine s_X_knocks [(23, .if_icmp .gt 22, 0, (-1)), (26, .iload 4, 0, 0)] (by decide +kernel) (z' := (28, [(0, (vR 9 l0)), (1, (vI l1)), (2, (vI l2)), (3, (vI l3)), (4, (vI l4)), (5, (vI l5))], [(vI l4)], R, M, 174)) (cs := [¬ (6 < l3)]) (by rfl) ⟨c_17, trivial⟩ (Nat.le_refl _) ?_
          rcases xif_ex h with ⟨c_21, h⟩ | ⟨c_21, h⟩
          · skip
            refine s_X_knocks [(28, .ifCond .lt 17, 0, 45), (45, .aload_n 0, 0, 0), (46, .iconst 1, 0, 1)] (by decide +kernel) (z' := (47, [(0, (vR 9 l0)), (1, (vI l1)), (2, (vI l2)), (3, (vI l3)), (4, (vI l4)), (5, (vI l5))], [(vI 1), (vR 9 l0)], R, M, 174)) (cs := [l4 < 0]) (by rfl) ⟨c_21, trivial⟩ (Nat.le_refl _) ?_
            obtain ⟨r_22, M_23, e_24, h⟩ := xb2_ex h
            refine XR.callV 9 rfl (rest := []) m_X_refuse k_9_105 9 l0 (Or.inl ⟨by decide, rfl⟩) [(vI 1)] rfl rfl (c_X_refuse e_24) (by decide) (Nat.le_of_ble_eq_true rfl) (by decide +kernel) (Nat.le_refl _) (Nat.le_refl _) ?_
            show XR false 6 174 sc y_X_knocks (50, [(0, (vR 9 l0)), (1, (vI l1)), (2, (vI l2)), (3, (vI l3)), (4, (vI l4)), (5, (vI l5))], [(vI r_22)], R, M_23, 174) _
            obtain rfl := Option.some.inj h
            exact XR.retI .int rfl rfl (by decide +kernel)
          · skip
            refine s_X_knocks [(28, .ifCond .lt 17, 0, (-1)), (31, .iload 4, 0, 0), (33, .iload_n 3, 0, 0)] (by decide +kernel) (z' := (34, [(0, (vR 9 l0)), (1, (vI l1)), (2, (vI l2)), (3, (vI l3)), (4, (vI l4)), (5, (vI l5))], [(vI l3), (vI l4)], R, M, 174)) (cs := [¬ (l4 < 0)]) (by rfl) ⟨c_21, trivial⟩ (Nat.le_refl _) ?_
            rcases xif_ex h with ⟨c_25, h⟩ | ⟨c_25, h⟩
            · skip
              refine s_X_knocks [(34, .if_icmp .gt 11, 0, 45), (45, .aload_n 0, 0, 0), (46, .iconst 1, 0, 1)] (by decide +kernel) (z' := (47, [(0, (vR 9 l0)), (1, (vI l1)), (2, (vI l2)), (3, (vI l3)), (4, (vI l4)), (5, (vI l5))], [(vI 1), (vR 9 l0)], R, M, 174)) (cs := [l3 < l4]) (by rfl) ⟨c_25, trivial⟩ (Nat.le_refl _) ?_
              obtain ⟨r_26, M_27, e_28, h⟩ := xb2_ex h
              refine XR.callV 9 rfl (rest := []) m_X_refuse k_9_105 9 l0 (Or.inl ⟨by decide, rfl⟩) [(vI 1)] rfl rfl (c_X_refuse e_28) (by decide) (Nat.le_of_ble_eq_true rfl) (by decide +kernel) (Nat.le_refl _) (Nat.le_refl _) ?_
              show XR false 6 174 sc y_X_knocks (50, [(0, (vR 9 l0)), (1, (vI l1)), (2, (vI l2)), (3, (vI l3)), (4, (vI l4)), (5, (vI l5))], [(vI r_26)], R, M_27, 174) _
              obtain rfl := Option.some.inj h
              exact XR.retI .int rfl rfl (by decide +kernel)
            · skip
              refine s_X_knocks [(34, .if_icmp .gt 11, 0, (-1)), (37, .iload 5, 0, 0)] (by decide +kernel) (z' := (39, [(0, (vR 9 l0)), (1, (vI l1)), (2, (vI l2)), (3, (vI l3)), (4, (vI l4)), (5, (vI l5))], [(vI l5)], R, M, 174)) (cs := [¬ (l3 < l4)]) (by rfl) ⟨c_25, trivial⟩ (Nat.le_refl _) ?_
              obtain ⟨r_29, e_30, h⟩ := xb1_ex h
              refine XR.callS 9 rfl (rest := []) m_X_isHour k_9_190 [(vI l5)] rfl rfl (c_X_isHour e_30) (by decide) (Nat.le_of_ble_eq_true rfl) (by decide +kernel) (Nat.le_refl _) (Nat.le_refl _) ?_
              show XR false 6 174 sc y_X_knocks (42, [(0, (vR 9 l0)), (1, (vI l1)), (2, (vI l2)), (3, (vI l3)), (4, (vI l4)), (5, (vI l5))], [(vI r_29)], R, M, 174) _
              rcases xif_ex h with ⟨c_31, h⟩ | ⟨c_31, h⟩
              · skip
                refine s_X_knocks [(42, .ifCond .ne 9, 0, (-1)), (45, .aload_n 0, 0, 0), (46, .iconst 1, 0, 1)] (by decide +kernel) (z' := (47, [(0, (vR 9 l0)), (1, (vI l1)), (2, (vI l2)), (3, (vI l3)), (4, (vI l4)), (5, (vI l5))], [(vI 1), (vR 9 l0)], R, M, 174)) (cs := [¬ (r_29 ≠ 0)]) (by rfl) ⟨fun q => q c_31, trivial⟩ (Nat.le_refl _) ?_
                obtain ⟨r_32, M_33, e_34, h⟩ := xb2_ex h
                refine XR.callV 9 rfl (rest := []) m_X_refuse k_9_105 9 l0 (Or.inl ⟨by decide, rfl⟩) [(vI 1)] rfl rfl (c_X_refuse e_34) (by decide) (Nat.le_of_ble_eq_true rfl) (by decide +kernel) (Nat.le_refl _) (Nat.le_refl _) ?_
                show XR false 6 174 sc y_X_knocks (50, [(0, (vR 9 l0)), (1, (vI l1)), (2, (vI l2)), (3, (vI l3)), (4, (vI l4)), (5, (vI l5))], [(vI r_32)], R, M_33, 174) _
                obtain rfl := Option.some.inj h
                exact XR.retI .int rfl rfl (by decide +kernel)
              · skip
                refine s_X_knocks [(42, .ifCond .ne 9, 0, 51), (51, .aload_n 0, 0, 0), (52, .iload_n 2, 0, 0), (53, .iload_n 3, 0, 0)] (by decide +kernel) (z' := (54, [(0, (vR 9 l0)), (1, (vI l1)), (2, (vI l2)), (3, (vI l3)), (4, (vI l4)), (5, (vI l5))], [(vI l3), (vI l2), (vR 9 l0)], R, M, 174)) (cs := [r_29 ≠ 0]) (by rfl) ⟨c_31, trivial⟩ (Nat.le_refl _) ?_
                obtain ⟨r_35, e_36, h⟩ := xb1_ex h
                refine XR.callV 9 rfl (rest := []) m_X_rowStatus k_9_274 9 l0 (Or.inl ⟨by decide, rfl⟩) [(vI l2), (vI l3)] rfl rfl (c_X_rowStatus e_36) (by decide) (Nat.le_of_ble_eq_true rfl) (by decide +kernel) (Nat.le_refl _) (Nat.le_refl _) ?_
                show XR false 6 174 sc y_X_knocks (57, [(0, (vR 9 l0)), (1, (vI l1)), (2, (vI l2)), (3, (vI l3)), (4, (vI l4)), (5, (vI l5))], [(vI r_35)], R, M, 174) _
                refine s_X_knocks [(57, .istore 6, 0, 0), (59, .iload 6, 0, 0)] (by decide +kernel) (z' := (61, [(6, (vI r_35)), (0, (vR 9 l0)), (1, (vI l1)), (2, (vI l2)), (3, (vI l3)), (4, (vI l4)), (5, (vI l5))], [(vI r_35)], R, M, 174)) (cs := []) (by rfl) trivial (Nat.le_refl _) ?_
                rcases xif_ex h with ⟨c_37, h⟩ | ⟨c_37, h⟩
                · skip
                  refine s_X_knocks [(61, .ifCond .eq 10, 0, 71), (71, .aload_n 0, 0, 0), (72, .getfield 23, 9, 2), (75, .iload_n 2, 0, 0), (76, .iload_n 3, 0, 0), (77, .ldc2_w 296, 0, 47)] (by decide +kernel) (z' := (80, [(6, (vI r_35)), (0, (vR 9 l0)), (1, (vI l1)), (2, (vI l2)), (3, (vI l3)), (4, (vI l4)), (5, (vI l5))], [(vL 47), (vI l3), (vI l2), (vR 8 (R l0 2))], R, M, 174)) (cs := [r_35 = 0]) (by rfl) ⟨c_37, trivial⟩ (Nat.le_refl _) ?_
                  obtain ⟨r_38, e_39, h⟩ := xb1_ex h
                  refine XR.callV 9 rfl (rest := []) m_Y_areWithin k_9_298 8 (R l0 2) (Or.inl ⟨by decide, rfl⟩) [(vI l2), (vI l3), (vL 47)] rfl rfl (c_Y_areWithin e_39) (by decide) (Nat.le_of_ble_eq_true rfl) (by decide +kernel) (Nat.le_refl _) (Nat.le_refl _) ?_
                  show XR false 6 174 sc y_X_knocks (83, [(6, (vI r_35)), (0, (vR 9 l0)), (1, (vI l1)), (2, (vI l2)), (3, (vI l3)), (4, (vI l4)), (5, (vI l5))], [(vI r_38)], R, M, 174) _
                  rcases xif_ex h with ⟨c_40, h⟩ | ⟨c_40, h⟩
                  · skip
                    refine s_X_knocks [(83, .ifCond .eq 15, 0, 98), (98, .aload_n 0, 0, 0), (99, .iconst 1, 0, 1)] (by decide +kernel) (z' := (100, [(6, (vI r_35)), (0, (vR 9 l0)), (1, (vI l1)), (2, (vI l2)), (3, (vI l3)), (4, (vI l4)), (5, (vI l5))], [(vI 1), (vR 9 l0)], R, M, 174)) (cs := [r_38 = 0]) (by rfl) ⟨c_40, trivial⟩ (Nat.le_refl _) ?_
                    obtain ⟨r_41, M_42, e_43, h⟩ := xb2_ex h
                    refine XR.callV 9 rfl (rest := []) m_X_refuse k_9_105 9 l0 (Or.inl ⟨by decide, rfl⟩) [(vI 1)] rfl rfl (c_X_refuse e_43) (by decide) (Nat.le_of_ble_eq_true rfl) (by decide +kernel) (Nat.le_refl _) (Nat.le_refl _) ?_
                    show XR false 6 174 sc y_X_knocks (103, [(6, (vI r_35)), (0, (vR 9 l0)), (1, (vI l1)), (2, (vI l2)), (3, (vI l3)), (4, (vI l4)), (5, (vI l5))], [(vI r_41)], R, M_42, 174) _
                    obtain rfl := Option.some.inj h
                    exact XR.retI .int rfl rfl (by decide +kernel)
                  · skip
                    refine s_X_knocks [(83, .ifCond .eq 15, 0, (-1)), (86, .aload_n 0, 0, 0), (87, .getfield 23, 9, 2), (90, .iload_n 2, 0, 0), (91, .iload_n 3, 0, 0)] (by decide +kernel) (z' := (92, [(6, (vI r_35)), (0, (vR 9 l0)), (1, (vI l1)), (2, (vI l2)), (3, (vI l3)), (4, (vI l4)), (5, (vI l5))], [(vI l3), (vI l2), (vR 8 (R l0 2))], R, M, 174)) (cs := [¬ (r_38 = 0)]) (by rfl) ⟨c_40, trivial⟩ (Nat.le_refl _) ?_
                    obtain ⟨r_44, e_45, h⟩ := xb1_ex h
                    refine XR.callV 9 rfl (rest := []) m_Y_hasTwoAlike k_9_302 8 (R l0 2) (Or.inl ⟨by decide, rfl⟩) [(vI l2), (vI l3)] rfl rfl (c_Y_hasTwoAlike e_45) (by decide) (Nat.le_of_ble_eq_true rfl) (by decide +kernel) (Nat.le_refl _) (Nat.le_refl _) ?_
                    show XR false 6 174 sc y_X_knocks (95, [(6, (vI r_35)), (0, (vR 9 l0)), (1, (vI l1)), (2, (vI l2)), (3, (vI l3)), (4, (vI l4)), (5, (vI l5))], [(vI r_44)], R, M, 174) _
                    rcases xif_ex h with ⟨c_46, h⟩ | ⟨c_46, h⟩
                    · skip
                      refine s_X_knocks [(95, .ifCond .eq 9, 0, 104), (104, .aload_n 0, 0, 0), (105, .getfield 30, 9, 3), (108, .iload_n 1, 0, 0)] (by decide +kernel) (z' := (109, [(6, (vI r_35)), (0, (vR 9 l0)), (1, (vI l1)), (2, (vI l2)), (3, (vI l3)), (4, (vI l4)), (5, (vI l5))], [(vI l1), (vR 6 (R l0 3))], R, M, 174)) (cs := [r_44 = 0]) (by rfl) ⟨c_46, trivial⟩ (Nat.le_refl _) ?_
                      obtain ⟨r_47, e_48, h⟩ := xb1_ex h
                      refine XR.callV 9 rfl (rest := []) m_N_keepsLayer k_9_216 6 (R l0 3) (Or.inl ⟨by decide, rfl⟩) [(vI l1)] rfl rfl (c_N_keepsLayer e_48) (by decide) (Nat.le_of_ble_eq_true rfl) (by decide +kernel) (Nat.le_refl _) (Nat.le_refl _) ?_
                      show XR false 6 174 sc y_X_knocks (112, [(6, (vI r_35)), (0, (vR 9 l0)), (1, (vI l1)), (2, (vI l2)), (3, (vI l3)), (4, (vI l4)), (5, (vI l5))], [(vI r_47)], R, M, 174) _
                      rcases xif_ex h with ⟨c_49, h⟩ | ⟨c_49, h⟩
                      · skip
                        refine s_X_knocks [(112, .ifCond .ne 10, 0, (-1)), (115, .aload_n 0, 0, 0), (116, .bipush 7, 0, 7)] (by decide +kernel) (z' := (118, [(6, (vI r_35)), (0, (vR 9 l0)), (1, (vI l1)), (2, (vI l2)), (3, (vI l3)), (4, (vI l4)), (5, (vI l5))], [(vI 7), (vR 9 l0)], R, M, 174)) (cs := [¬ (r_47 ≠ 0)]) (by rfl) ⟨fun q => q c_49, trivial⟩ (Nat.le_refl _) ?_
                        obtain ⟨r_50, M_51, e_52, h⟩ := xb2_ex h
                        refine XR.callV 9 rfl (rest := []) m_X_refuse k_9_105 9 l0 (Or.inl ⟨by decide, rfl⟩) [(vI 7)] rfl rfl (c_X_refuse e_52) (by decide) (Nat.le_of_ble_eq_true rfl) (by decide +kernel) (Nat.le_refl _) (Nat.le_refl _) ?_
                        show XR false 6 174 sc y_X_knocks (121, [(6, (vI r_35)), (0, (vR 9 l0)), (1, (vI l1)), (2, (vI l2)), (3, (vI l3)), (4, (vI l4)), (5, (vI l5))], [(vI r_50)], R, M_51, 174) _
                        obtain rfl := Option.some.inj h
                        exact XR.retI .int rfl rfl (by decide +kernel)
                      · skip
                        refine s_X_knocks [(112, .ifCond .ne 10, 0, 122), (122, .aload_n 0, 0, 0)] (by decide +kernel) (z' := (123, [(6, (vI r_35)), (0, (vR 9 l0)), (1, (vI l1)), (2, (vI l2)), (3, (vI l3)), (4, (vI l4)), (5, (vI l5))], [(vR 9 l0)], R, M, 174)) (cs := [r_47 ≠ 0]) (by rfl) ⟨c_49, trivial⟩ (Nat.le_refl _) ?_
                        obtain ⟨M_53, e_54, h⟩ := xb1_ex h
                        refine XR.callV 9 rfl (rest := []) m_X_freshen k_9_276 9 l0 (Or.inl ⟨by decide, rfl⟩) [] rfl rfl (c_X_freshen e_54) (by decide) (Nat.le_of_ble_eq_true rfl) (by decide +kernel) (Nat.le_refl _) (Nat.le_refl _) ?_
                        show XR false 6 174 sc y_X_knocks (126, [(6, (vI r_35)), (0, (vR 9 l0)), (1, (vI l1)), (2, (vI l2)), (3, (vI l3)), (4, (vI l4)), (5, (vI l5))], [], R, M_53, 174) _
                        refine s_X_knocks [(126, .aload_n 0, 0, 0), (127, .getfield 71, 9, 10), (130, .aload_n 0, 0, 0), (131, .getfield 23, 9, 2), (134, .iload_n 2, 0, 0), (135, .iload_n 3, 0, 0)] (by decide +kernel) (z' := (136, [(6, (vI r_35)), (0, (vR 9 l0)), (1, (vI l1)), (2, (vI l2)), (3, (vI l3)), (4, (vI l4)), (5, (vI l5))], [(vI l3), (vI l2), (vR 8 (R l0 2)), (vR 2 (R l0 10))], R, M_53, 174)) (cs := []) (by rfl) trivial (Nat.le_refl _) ?_
                        obtain ⟨M_55, e_56, h⟩ := xb1_ex h
                        refine XR.callV 9 rfl (rest := []) m_H_takeHours k_9_305 2 (R l0 10) (Or.inl ⟨by decide, rfl⟩) [(vR 8 (R l0 2)), (vI l2), (vI l3)] rfl rfl (c_H_takeHours e_56) (by decide) (Nat.le_of_ble_eq_true rfl) (by decide +kernel) (Nat.le_refl _) (Nat.le_refl _) ?_
                        show XR false 6 174 sc y_X_knocks (139, [(6, (vI r_35)), (0, (vR 9 l0)), (1, (vI l1)), (2, (vI l2)), (3, (vI l3)), (4, (vI l4)), (5, (vI l5))], [], R, M_55, 174) _
                        refine s_X_knocks [(139, .aload_n 0, 0, 0), (140, .aload_n 0, 0, 0), (141, .getfield 71, 9, 10), (144, .aload_n 0, 0, 0), (145, .getfield 30, 9, 3), (148, .aload_n 0, 0, 0), (149, .getfield 50, 9, 7), (152, .iload_n 1, 0, 0), (153, .iload 4, 0, 0), (155, .iload 5, 0, 0)] (by decide +kernel) (z' := (157, [(6, (vI r_35)), (0, (vR 9 l0)), (1, (vI l1)), (2, (vI l2)), (3, (vI l3)), (4, (vI l4)), (5, (vI l5))], [(vI l5), (vI l4), (vI l1), (vR 0 (R l0 7)), (vR 6 (R l0 3)), (vR 2 (R l0 10)), (vR 9 l0)], R, M_55, 174)) (cs := []) (by rfl) trivial (Nat.le_refl _) ?_
                        obtain ⟨r_57, M_58, e_59, h⟩ := xb2_ex h
                        refine XR.callV 9 rfl (rest := [(vR 9 l0)]) m_H_leastUp k_9_309 2 (R l0 10) (Or.inl ⟨by decide, rfl⟩) [(vR 6 (R l0 3)), (vR 0 (R l0 7)), (vI l1), (vI l4), (vI l5)] rfl rfl (c_H_leastUp e_59) (by decide) (Nat.le_of_ble_eq_true rfl) (by decide +kernel) (Nat.le_refl _) (Nat.le_refl _) ?_
                        show XR false 6 174 sc y_X_knocks (160, [(6, (vI r_35)), (0, (vR 9 l0)), (1, (vI l1)), (2, (vI l2)), (3, (vI l3)), (4, (vI l4)), (5, (vI l5))], [(vI r_57), (vR 9 l0)], R, M_58, 174) _
                        obtain ⟨r_60, M_61, e_62, h⟩ := xb2_ex h
                        refine XR.callV 9 rfl (rest := []) m_X_answer k_9_156 9 l0 (Or.inl ⟨by decide, rfl⟩) [(vI r_57)] rfl rfl (c_X_answer e_62) (by decide) (Nat.le_of_ble_eq_true rfl) (by decide +kernel) (Nat.le_refl _) (Nat.le_refl _) ?_
                        show XR false 6 174 sc y_X_knocks (163, [(6, (vI r_35)), (0, (vR 9 l0)), (1, (vI l1)), (2, (vI l2)), (3, (vI l3)), (4, (vI l4)), (5, (vI l5))], [(vI r_60)], R, M_61, 174) _
                        obtain rfl := Option.some.inj h
                        exact XR.retI .int rfl rfl (by decide +kernel)
                    · skip
                      refine s_X_knocks [(95, .ifCond .eq 9, 0, (-1)), (98, .aload_n 0, 0, 0), (99, .iconst 1, 0, 1)] (by decide +kernel) (z' := (100, [(6, (vI r_35)), (0, (vR 9 l0)), (1, (vI l1)), (2, (vI l2)), (3, (vI l3)), (4, (vI l4)), (5, (vI l5))], [(vI 1), (vR 9 l0)], R, M, 174)) (cs := [¬ (r_44 = 0)]) (by rfl) ⟨c_46, trivial⟩ (Nat.le_refl _) ?_
                      obtain ⟨r_63, M_64, e_65, h⟩ := xb2_ex h
                      refine XR.callV 9 rfl (rest := []) m_X_refuse k_9_105 9 l0 (Or.inl ⟨by decide, rfl⟩) [(vI 1)] rfl rfl (c_X_refuse e_65) (by decide) (Nat.le_of_ble_eq_true rfl) (by decide +kernel) (Nat.le_refl _) (Nat.le_refl _) ?_
                      show XR false 6 174 sc y_X_knocks (103, [(6, (vI r_35)), (0, (vR 9 l0)), (1, (vI l1)), (2, (vI l2)), (3, (vI l3)), (4, (vI l4)), (5, (vI l5))], [(vI r_63)], R, M_64, 174) _
                      obtain rfl := Option.some.inj h
                      exact XR.retI .int rfl rfl (by decide +kernel)
                · skip
                  refine s_X_knocks [(61, .ifCond .eq 10, 0, (-1)), (64, .aload_n 0, 0, 0), (65, .iload 6, 0, 0)] (by decide +kernel) (z' := (67, [(6, (vI r_35)), (0, (vR 9 l0)), (1, (vI l1)), (2, (vI l2)), (3, (vI l3)), (4, (vI l4)), (5, (vI l5))], [(vI r_35), (vR 9 l0)], R, M, 174)) (cs := [¬ (r_35 = 0)]) (by rfl) ⟨c_37, trivial⟩ (Nat.le_refl _) ?_
                  obtain ⟨r_66, M_67, e_68, h⟩ := xb2_ex h
                  refine XR.callV 9 rfl (rest := []) m_X_refuse k_9_105 9 l0 (Or.inl ⟨by decide, rfl⟩) [(vI r_35)] rfl rfl (c_X_refuse e_68) (by decide) (Nat.le_of_ble_eq_true rfl) (by decide +kernel) (Nat.le_refl _) (Nat.le_refl _) ?_
                  show XR false 6 174 sc y_X_knocks (70, [(6, (vI r_35)), (0, (vR 9 l0)), (1, (vI l1)), (2, (vI l2)), (3, (vI l3)), (4, (vI l4)), (5, (vI l5))], [(vI r_66)], R, M_67, 174) _
                  obtain rfl := Option.some.inj h
                  exact XR.retI .int rfl rfl (by decide +kernel)
set_option maxRecDepth 100000 in
set_option maxHeartbeats 4000000 in
theorem c_X_knocks {sc : List Int} {R : xR} {M : xM} {l0 : Nat} {l1 : Int} {l2 : Int} {l3 : Int} {l4 : Int} {l5 : Int} {out : Int × xM} (h : f_X_knocks R l0 l1 l2 l3 l4 l5 M = some out) : XC false 6 sc y_X_knocks [(vR 9 l0), (vI l1), (vI l2), (vI l3), (vI l4), (vI l5)] R M 174 174 ((some (vI out.1)), R, out.2) := XC.of (by decide) (Nat.le_of_ble_eq_true rfl) (Nat.le_refl _) (Nat.le_refl _) (o_X_knocks h)
def f_X_laws (R : xR) (l0 : Nat) (l1 : Int) (M : xM) : Option (Int × xR × xM) :=
  if l1 < 0 then
    xb2 (f_X_refuse l0 1 M) fun r_2 M_3 =>
    some (r_2, R, M_3)
  else
    if M (R l0 1) 1 < l1 then
      xb2 (f_X_refuse l0 1 M) fun r_6 M_7 =>
      some (r_6, R, M_7)
    else
      xb2 (f_A_open R (R l0 1) l1 4 5 M) fun R_9 M_10 =>
      xb2 (f_L_readFrom R_9 (R_9 l0 6) (R_9 l0 1) M_10) fun r_12 M_13 =>
      if r_12 = 0 then
        xb2 (f_X_refuse l0 9 M_13) fun r_16 M_17 =>
        some (r_16, R_9, M_17)
      else
        xl (xu R_9 l0 5 (R_9 l0 6)) fun R_19 =>
        xl (xu R_19 l0 6 (R_9 l0 5)) fun R_20 =>
        xb2 (f_X_answer l0 (M_13 (R_20 l0 5) 0) M_13) fun r_21 M_22 =>
        some (r_21, R_20, M_22)
set_option maxRecDepth 100000 in
set_option maxHeartbeats 4000000 in
theorem s_X_laws {d : Nat} {sc : List Int} {z z' : xS} {out : xO} (qs : List xI) {cs : List Prop} (hq : qs.all (xqb 9 false y_X_laws.2.2.1 y_X_laws.2.1) = true) (h : xN false sc qs z = some (z', cs)) (hc : xAll cs) (hE : z'.2.2.2.2.2 ≤ 174) (k : XR false d 174 sc y_X_laws z' out) : XR false d 174 sc y_X_laws z out := XR.seg 9 false rfl (fun q => by cases q) qs hq h hc hE k
set_option maxRecDepth 100000 in
set_option maxHeartbeats 4000000 in
theorem o_X_laws {sc : List Int} {R : xR} {M : xM} {l0 : Nat} {l1 : Int} {out : Int × xR × xM} (h : f_X_laws R l0 l1 M = some out) : XR false 53 174 sc y_X_laws (0, [(0, (vR 9 l0)), (1, (vI l1))], [], R, M, 174) ((some (vI out.1)), out.2.1, out.2.2) := by
  unfold f_X_laws at h
  refine s_X_laws [(0, .iload_n 1, 0, 0)] (by decide +kernel) (z' := (1, [(0, (vR 9 l0)), (1, (vI l1))], [(vI l1)], R, M, 174)) (cs := []) (by rfl) trivial (Nat.le_refl _) ?_
  rcases xif_ex h with ⟨c_1, h⟩ | ⟨c_1, h⟩
  · skip
    refine s_X_laws [(1, .ifCond .lt 14, 0, 15), (15, .aload_n 0, 0, 0), (16, .iconst 1, 0, 1)] (by decide +kernel) (z' := (17, [(0, (vR 9 l0)), (1, (vI l1))], [(vI 1), (vR 9 l0)], R, M, 174)) (cs := [l1 < 0]) (by rfl) ⟨c_1, trivial⟩ (Nat.le_refl _) ?_
    obtain ⟨r_2, M_3, e_4, h⟩ := xb2_ex h
    refine XR.callV 9 rfl (rest := []) m_X_refuse k_9_105 9 l0 (Or.inl ⟨by decide, rfl⟩) [(vI 1)] rfl rfl (c_X_refuse e_4) (by decide) (Nat.le_of_ble_eq_true rfl) (by decide +kernel) (Nat.le_refl _) (Nat.le_refl _) ?_
    show XR false 53 174 sc y_X_laws (20, [(0, (vR 9 l0)), (1, (vI l1))], [(vI r_2)], R, M_3, 174) _
    obtain rfl := Option.some.inj h
    exact XR.retI .int rfl rfl (by decide +kernel)
  · skip
    refine s_X_laws [(1, .ifCond .lt 14, 0, (-1)), (4, .iload_n 1, 0, 0), (5, .aload_n 0, 0, 0), (6, .getfield 16, 9, 1), (9, .getfield 135, 7, 1)] (by decide +kernel) (z' := (12, [(0, (vR 9 l0)), (1, (vI l1))], [(vI (M (R l0 1) 1)), (vI l1)], R, M, 174)) (cs := [¬ (l1 < 0)]) (by rfl) ⟨c_1, trivial⟩ (Nat.le_refl _) ?_
    rcases xif_ex h with ⟨c_5, h⟩ | ⟨c_5, h⟩
    · skip
      refine s_X_laws [(12, .if_icmp .le 9, 0, (-1)), (15, .aload_n 0, 0, 0), (16, .iconst 1, 0, 1)] (by decide +kernel) (z' := (17, [(0, (vR 9 l0)), (1, (vI l1))], [(vI 1), (vR 9 l0)], R, M, 174)) (cs := [¬ (l1 ≤ M (R l0 1) 1)]) (by rfl) ⟨Int.not_le.mpr c_5, trivial⟩ (Nat.le_refl _) ?_
      obtain ⟨r_6, M_7, e_8, h⟩ := xb2_ex h
      refine XR.callV 9 rfl (rest := []) m_X_refuse k_9_105 9 l0 (Or.inl ⟨by decide, rfl⟩) [(vI 1)] rfl rfl (c_X_refuse e_8) (by decide) (Nat.le_of_ble_eq_true rfl) (by decide +kernel) (Nat.le_refl _) (Nat.le_refl _) ?_
      show XR false 53 174 sc y_X_laws (20, [(0, (vR 9 l0)), (1, (vI l1))], [(vI r_6)], R, M_7, 174) _
      obtain rfl := Option.some.inj h
      exact XR.retI .int rfl rfl (by decide +kernel)
    · skip
      refine s_X_laws [(12, .if_icmp .le 9, 0, 21), (21, .aload_n 0, 0, 0), (22, .getfield 16, 9, 1), (25, .iload_n 1, 0, 0), (26, .ldc 159, 4, 0), (28, .ldc 161, 5, 0)] (by decide +kernel) (z' := (30, [(0, (vR 9 l0)), (1, (vI l1))], [(vR 99 5), (vR 99 4), (vI l1), (vR 7 (R l0 1))], R, M, 174)) (cs := [l1 ≤ M (R l0 1) 1]) (by rfl) ⟨Int.not_lt.mp c_5, trivial⟩ (Nat.le_refl _) ?_
      obtain ⟨R_9, M_10, e_11, h⟩ := xb2_ex h
      refine XR.callV 9 rfl (rest := []) m_A_open k_9_142 7 (R l0 1) (Or.inl ⟨by decide, rfl⟩) [(vI l1), (vR 99 4), (vR 99 5)] rfl rfl (c_A_open e_11) (by decide) (Nat.le_of_ble_eq_true rfl) (by decide +kernel) (Nat.le_refl _) (Nat.le_refl _) ?_
      show XR false 53 174 sc y_X_laws (33, [(0, (vR 9 l0)), (1, (vI l1))], [], R_9, M_10, 174) _
      refine s_X_laws [(33, .aload_n 0, 0, 0), (34, .getfield 44, 9, 6), (37, .aload_n 0, 0, 0), (38, .getfield 16, 9, 1)] (by decide +kernel) (z' := (41, [(0, (vR 9 l0)), (1, (vI l1))], [(vR 7 (R_9 l0 1)), (vR 3 (R_9 l0 6))], R_9, M_10, 174)) (cs := []) (by rfl) trivial (Nat.le_refl _) ?_
      obtain ⟨r_12, M_13, e_14, h⟩ := xb2_ex h
      refine XR.callV 9 rfl (rest := []) m_L_readFrom k_9_163 3 (R_9 l0 6) (Or.inl ⟨by decide, rfl⟩) [(vR 7 (R_9 l0 1))] rfl rfl (c_L_readFrom e_14) (by decide) (Nat.le_of_ble_eq_true rfl) (by decide +kernel) (Nat.le_refl _) (Nat.le_refl _) ?_
      show XR false 53 174 sc y_X_laws (44, [(0, (vR 9 l0)), (1, (vI l1))], [(vI r_12)], R_9, M_13, 174) _
      rcases xif_ex h with ⟨c_15, h⟩ | ⟨c_15, h⟩
      · skip
        refine s_X_laws [(44, .ifCond .ne 10, 0, (-1)), (47, .aload_n 0, 0, 0), (48, .bipush 9, 0, 9)] (by decide +kernel) (z' := (50, [(0, (vR 9 l0)), (1, (vI l1))], [(vI 9), (vR 9 l0)], R_9, M_13, 174)) (cs := [¬ (r_12 ≠ 0)]) (by rfl) ⟨fun q => q c_15, trivial⟩ (Nat.le_refl _) ?_
        obtain ⟨r_16, M_17, e_18, h⟩ := xb2_ex h
        refine XR.callV 9 rfl (rest := []) m_X_refuse k_9_105 9 l0 (Or.inl ⟨by decide, rfl⟩) [(vI 9)] rfl rfl (c_X_refuse e_18) (by decide) (Nat.le_of_ble_eq_true rfl) (by decide +kernel) (Nat.le_refl _) (Nat.le_refl _) ?_
        show XR false 53 174 sc y_X_laws (53, [(0, (vR 9 l0)), (1, (vI l1))], [(vI r_16)], R_9, M_17, 174) _
        obtain rfl := Option.some.inj h
        exact XR.retI .int rfl rfl (by decide +kernel)
      · skip
        obtain ⟨R_19, hR_19, h⟩ := xl_ex h
        obtain ⟨R_20, hR_20, h⟩ := xl_ex h
        refine s_X_laws [(44, .ifCond .ne 10, 0, 54), (54, .aload_n 0, 0, 0), (55, .getfield 40, 9, 5), (58, .astore_n 2, 0, 0), (59, .aload_n 0, 0, 0), (60, .aload_n 0, 0, 0), (61, .getfield 44, 9, 6), (64, .putfield 40, 9, 5), (67, .aload_n 0, 0, 0), (68, .aload_n 2, 0, 0), (69, .putfield 44, 9, 6), (72, .aload_n 0, 0, 0), (73, .aload_n 0, 0, 0), (74, .getfield 40, 9, 5), (77, .getfield 164, 3, 0)] (by decide +kernel) (z' := (80, [(2, (vR 3 (R_9 l0 5))), (0, (vR 9 l0)), (1, (vI l1))], [(vI (M_13 (R_20 l0 5) 0)), (vR 9 l0)], R_20, M_13, 174)) (cs := [r_12 ≠ 0, 3 ≠ 96]) (by subst hR_19; subst hR_20; rfl) ⟨c_15, by decide, trivial⟩ (Nat.le_refl _) ?_
        obtain ⟨r_21, M_22, e_23, h⟩ := xb2_ex h
        refine XR.callV 9 rfl (rest := []) m_X_answer k_9_156 9 l0 (Or.inl ⟨by decide, rfl⟩) [(vI (M_13 (R_20 l0 5) 0))] rfl rfl (c_X_answer e_23) (by decide) (Nat.le_of_ble_eq_true rfl) (by decide +kernel) (Nat.le_refl _) (Nat.le_refl _) ?_
        show XR false 53 174 sc y_X_laws (83, [(2, (vR 3 (R_9 l0 5))), (0, (vR 9 l0)), (1, (vI l1))], [(vI r_21)], R_20, M_22, 174) _
        obtain rfl := Option.some.inj h
        exact XR.retI .int rfl rfl (by decide +kernel)
set_option maxRecDepth 100000 in
set_option maxHeartbeats 4000000 in
theorem c_X_laws {sc : List Int} {R : xR} {M : xM} {l0 : Nat} {l1 : Int} {out : Int × xR × xM} (h : f_X_laws R l0 l1 M = some out) : XC false 53 sc y_X_laws [(vR 9 l0), (vI l1)] R M 174 174 ((some (vI out.1)), out.2.1, out.2.2) := XC.of (by decide) (Nat.le_of_ble_eq_true rfl) (Nat.le_refl _) (Nat.le_refl _) (o_X_laws h)
