def M_whose_F39 (R : xR) (l0 : Nat) (l1 : Int) (l2 : Int) (l3 : Int) (q68 : Int → xM → Option (Int × xM)) : Nat → Int → Int → xM → Option (Int × xM)
  | 0, _, _, _ => none
  | n + 1, v4, v6, M =>
    if v6 < M l0 31 then
      xb1 (f_M_portionsOf R l0 v6 l2 l3 M) fun r_22 =>
      xl (w64 (v4 + r_22)) fun v4_24 =>
      xl (w32 (v6 + 1)) fun v6_25 =>
      M_whose_F39 R l0 l1 l2 l3 q68 n v4_24 v6_25 M
    else
      q68 v4 M
def M_whose_F101 (R : xR) (l0 : Nat) (l1 : Int) (l2 : Int) (l3 : Int) (q175 : Int → xM → Option (Int × xM)) : Nat → Int → Int → Int → Int → xM → Option (Int × xM)
  | 0, _, _, _, _, _ => none
  | n + 1, v4, v6, v8, v10, M =>
    if v10 < M l0 31 then
      xb1 (f_M_portionsOf R l0 v10 l2 l3 M) fun r_35 =>
      xch (v4 ≠ 0) <|
      xch (0 ≤ v10 ∧ v10 < 8) <|
      xl (xu M (R l0 87) (Int.toNat v10) (w32 (w64 (Int.tdiv (w64 (v6 * r_35)) v4)))) fun M_39 =>
      xb1 (f_M_portionsOf R l0 v10 l2 l3 M_39) fun r_40 =>
      xl (xu M_39 (R l0 88) (Int.toNat v10) (w32 (Int.tmod (w64 (v6 * r_40)) v4))) fun M_42 =>
      xl (w64 (v8 - (M_42 (R l0 87) (Int.toNat v10)))) fun v8_43 =>
      xl (w32 (v10 + 1)) fun v10_44 =>
      M_whose_F101 R l0 l1 l2 l3 q175 n v4 v6 v8_43 v10_44 M_42
    else
      q175 v8 M
def M_whose_J218 (R : xR) (l0 : Nat) (l1 : Int) (rc : Int → Int → Int → xM → Option (Int × xM)) (q224 : Int → Int → xM → Option (Int × xM)) (v8 : Int) (v10 : Int) (v11 : Int) (M : xM) : Option (Int × xM) :=
  xl (w32 (v11 + 1)) fun v11_52 =>
  rc v8 v10 v11_52 M
def M_whose_F188 (R : xR) (l0 : Nat) (l1 : Int) (q224 : Int → Int → xM → Option (Int × xM)) : Nat → Int → Int → Int → xM → Option (Int × xM)
  | 0, _, _, _, _ => none
  | n + 1, v8, v10, v11, M =>
    if v11 < M l0 31 then
      xch (0 ≤ v11 ∧ v11 < 8) <|
      xch (0 ≤ v10 ∧ v10 < 8) <|
      if M (R l0 88) (Int.toNat v10) < M (R l0 88) (Int.toNat v11) then
        M_whose_J218 R l0 l1 (M_whose_F188 R l0 l1 q224 n) q224 v8 v11 v11 M
      else
        M_whose_J218 R l0 l1 (M_whose_F188 R l0 l1 q224 n) q224 v8 v10 v11 M
    else
      q224 v8 v10 M
def M_whose_F175 (R : xR) (l0 : Nat) (l1 : Int) : Nat → Int → xM → Option (Int × xM)
  | 0, _, _ => none
  | n + 1, v8, M =>
    if 0 < v8 then
      M_whose_F188 R l0 l1
        (fun (v8_53 : Int) (v10_54 : Int) (M_55 : xM) =>
          xch (0 ≤ v10_54 ∧ v10_54 < 8) <|
          xl (xu M_55 (R l0 88) (Int.toNat v10_54) (-1)) fun M_57 =>
          xl (xu M_57 (R l0 87) (Int.toNat v10_54) (w32 ((M_57 (R l0 87) (Int.toNat v10_54)) + 1))) fun M_58 =>
          xl (w64 (v8_53 - 1)) fun v8_59 =>
          M_whose_F175 R l0 l1  n v8_59 M_58)
        xfu v8 0 1 M
    else
      xch (0 ≤ l1 ∧ l1 < 8) <|
      xb2 (f_M_gives l0 (M (R l0 87) (Int.toNat l1)) M) fun r_61 M_62 =>
      some (r_61, M_62)
def f_M_whose (R : xR) (l0 : Nat) (l1 : Int) (l2 : Int) (l3 : Int) (M : xM) : Option (Int × xM) :=
  xb1 (f_M_isWorks l0 l1 M) fun r_1 =>
  if r_1 = 0 then
    xb2 (f_M_refuse l0 1 M) fun r_4 M_5 =>
    some (r_4, M_5)
  else
    xb1 (f_M_isHour l2) fun r_7 =>
    if r_7 = 0 then
      xb2 (f_M_refuse l0 1 M) fun r_10 M_11 =>
      some (r_10, M_11)
    else
      xb1 (f_M_isSize l3) fun r_13 =>
      if r_13 = 0 then
        xb2 (f_M_refuse l0 1 M) fun r_16 M_17 =>
        some (r_16, M_17)
      else
        xb1 (f_M_steps R l0 l2 M) fun M_19 =>
        M_whose_F39 R l0 l1 l2 l3
          (fun (v4_26 : Int) (M_27 : xM) =>
            if v4_26 = 0 then
              xb2 (f_M_gives l0 0 M_27) fun r_29 M_30 =>
              some (r_29, M_30)
            else
              xch (0 ≤ w32 ((w32 (4 * l2)) + l3) ∧ w32 ((w32 (4 * l2)) + l3) < 192) <|
              xl (M_27 (R l0 80) (Int.toNat (w32 ((w32 (4 * l2)) + l3)))) fun v6_33 =>
              M_whose_F101 R l0 l1 l2 l3
                (fun (v8_45 : Int) (M_46 : xM) =>
                  M_whose_F175 R l0 l1
                    xfu v8_45 M_46)
                xfu v4_26 v6_33 v6_33 0 M_27)
          xfu 0 0 M_19
set_option maxRecDepth 100000 in
set_option maxHeartbeats 4000000 in
theorem s_M_whose {d : Nat} {sc : List Int} {z z' : xS} {out : xO} (qs : List xI) {cs : List Prop} (hq : qs.all (xqb 10 false y_M_whose.2.2.1 y_M_whose.2.1) = true) (h : xN false sc qs z = some (z', cs)) (hc : xAll cs) (hE : z'.2.2.2.2.2 ≤ 174) (k : XR false d 174 sc y_M_whose z' out) : XR false d 174 sc y_M_whose z out := XR.seg 10 false rfl (fun q => by cases q) qs hq h hc hE k
set_option maxRecDepth 100000 in
set_option maxHeartbeats 4000000 in
theorem o_M_whose_F39 {sc : List Int} {R : xR}   {l0 : Nat} {l1 : Int} {l2 : Int} {l3 : Int}  {q68 : Int → xM → Option (Int × xM)} (hq68 : ∀ (w4 : Int) (M : xM) (out : Int × xM), q68 w4 M = some out → XR false 4 174 sc y_M_whose (68, [(0, (vR 10 l0)), (1, (vI l1)), (2, (vI l2)), (3, (vI l3)), (4, (vL w4))], [], R, M, 174) ((some (vI out.1)), R, out.2)) : ∀ (n : Nat) (v4 : Int) (v6 : Int) (M : xM) (out : Int × xM), M_whose_F39 R l0 l1 l2 l3 q68 n v4 v6 M = some out → XR false 4 174 sc y_M_whose (39, [(0, (vR 10 l0)), (1, (vI l1)), (2, (vI l2)), (3, (vI l3)), (4, (vL v4)), (6, (vI v6))], [], R, M, 174) ((some (vI out.1)), R, out.2) := by
  intro n
  induction n with
  | zero => intro v4 v6 M out h; exact (xno h).elim
  | succ n ih =>
    intro v4 v6 M out h
    rw [M_whose_F39] at h
    refine s_M_whose [(39, .iload 6, 0, 0), (41, .aload_n 0, 0, 0), (42, .getfield 396, 10, 31)] (by decide +kernel) (z' := (45, [(0, (vR 10 l0)), (1, (vI l1)), (2, (vI l2)), (3, (vI l3)), (4, (vL v4)), (6, (vI v6))], [(vI (M l0 31)), (vI v6)], R, M, 174)) (cs := []) (by rfl) trivial (Nat.le_refl _) ?_
    rcases xif_ex h with ⟨c_21, h⟩ | ⟨c_21, h⟩
    · skip
      refine s_M_whose [(45, .if_icmp .ge 23, 0, (-1)), (48, .lload 4, 0, 0), (50, .aload_n 0, 0, 0), (51, .iload 6, 0, 0), (53, .iload_n 2, 0, 0), (54, .iload_n 3, 0, 0)] (by decide +kernel) (z' := (55, [(0, (vR 10 l0)), (1, (vI l1)), (2, (vI l2)), (3, (vI l3)), (4, (vL v4)), (6, (vI v6))], [(vI l3), (vI l2), (vI v6), (vR 10 l0), (vL v4)], R, M, 174)) (cs := [¬ (M l0 31 ≤ v6)]) (by rfl) ⟨Int.not_le.mpr c_21, trivial⟩ (Nat.le_refl _) ?_
      obtain ⟨r_22, e_23, h⟩ := xb1_ex h
      refine XR.callV 10 rfl (rest := [(vL v4)]) m_M_portionsOf k_10_474 10 l0 (Or.inl ⟨by decide, rfl⟩) [(vI v6), (vI l2), (vI l3)] rfl rfl (c_M_portionsOf e_23) (by decide) (Nat.le_of_ble_eq_true rfl) (by decide +kernel) (Nat.le_refl _) (Nat.le_refl _) ?_
      show XR false 4 174 sc y_M_whose (58, [(0, (vR 10 l0)), (1, (vI l1)), (2, (vI l2)), (3, (vI l3)), (4, (vL v4)), (6, (vI v6))], [(vI r_22), (vL v4)], R, M, 174) _
      obtain ⟨v4_24, hv4_24, h⟩ := xl_ex h
      obtain ⟨v6_25, hv6_25, h⟩ := xl_ex h
      refine s_M_whose [(58, .i2l, 0, 0), (59, .ladd, 0, 0), (60, .lstore 4, 0, 0), (62, .iinc 6 1, 0, 0), (65, .goto (-26), 0, 39)] (by decide +kernel) (z' := (39, [(6, (vI v6_25)), (4, (vL v4_24)), (0, (vR 10 l0)), (1, (vI l1)), (2, (vI l2)), (3, (vI l3))], [], R, M, 174)) (cs := []) (by subst hv4_24; subst hv6_25; rfl) trivial (Nat.le_refl _) ?_
      refine XR.pick [2, 3, 4, 5, 1, 0] (ls' := [(0, (vR 10 l0)), (1, (vI l1)), (2, (vI l2)), (3, (vI l3)), (4, (vL v4_24)), (6, (vI v6_25))]) rfl ?_
      exact ih v4_24 v6_25 M _ h
    · skip
      refine s_M_whose [(45, .if_icmp .ge 23, 0, 68)] (by decide +kernel) (z' := (68, [(0, (vR 10 l0)), (1, (vI l1)), (2, (vI l2)), (3, (vI l3)), (4, (vL v4)), (6, (vI v6))], [], R, M, 174)) (cs := [M l0 31 ≤ v6]) (by rfl) ⟨Int.not_lt.mp c_21, trivial⟩ (Nat.le_refl _) ?_
      refine XR.pick [0, 1, 2, 3, 4] (ls' := [(0, (vR 10 l0)), (1, (vI l1)), (2, (vI l2)), (3, (vI l3)), (4, (vL v4))]) rfl ?_
      exact hq68 v4 M _ h
set_option maxRecDepth 100000 in
set_option maxHeartbeats 4000000 in
theorem o_M_whose_F101 {sc : List Int} {R : xR}   {l0 : Nat} {l1 : Int} {l2 : Int} {l3 : Int}  {q175 : Int → xM → Option (Int × xM)} (hq175 : ∀ (w8 : Int) (M : xM) (out : Int × xM), q175 w8 M = some out → XR false 4 174 sc y_M_whose (175, [(0, (vR 10 l0)), (1, (vI l1)), (8, (vL w8))], [], R, M, 174) ((some (vI out.1)), R, out.2)) : ∀ (n : Nat) (v4 : Int) (v6 : Int) (v8 : Int) (v10 : Int) (M : xM) (out : Int × xM), M_whose_F101 R l0 l1 l2 l3 q175 n v4 v6 v8 v10 M = some out → XR false 4 174 sc y_M_whose (101, [(0, (vR 10 l0)), (1, (vI l1)), (2, (vI l2)), (3, (vI l3)), (4, (vL v4)), (6, (vL v6)), (8, (vL v8)), (10, (vI v10))], [], R, M, 174) ((some (vI out.1)), R, out.2) := by
  intro n
  induction n with
  | zero => intro v4 v6 v8 v10 M out h; exact (xno h).elim
  | succ n ih =>
    intro v4 v6 v8 v10 M out h
    rw [M_whose_F101] at h
    refine s_M_whose [(101, .iload 10, 0, 0), (103, .aload_n 0, 0, 0), (104, .getfield 396, 10, 31)] (by decide +kernel) (z' := (107, [(0, (vR 10 l0)), (1, (vI l1)), (2, (vI l2)), (3, (vI l3)), (4, (vL v4)), (6, (vL v6)), (8, (vL v8)), (10, (vI v10))], [(vI (M l0 31)), (vI v10)], R, M, 174)) (cs := []) (by rfl) trivial (Nat.le_refl _) ?_
    rcases xif_ex h with ⟨c_34, h⟩ | ⟨c_34, h⟩
    · skip
      refine s_M_whose [(107, .if_icmp .ge 68, 0, (-1)), (110, .aload_n 0, 0, 0), (111, .getfield 202, 10, 87), (114, .iload 10, 0, 0), (116, .lload 6, 0, 0), (118, .aload_n 0, 0, 0), (119, .iload 10, 0, 0), (121, .iload_n 2, 0, 0), (122, .iload_n 3, 0, 0)] (by decide +kernel) (z' := (123, [(0, (vR 10 l0)), (1, (vI l1)), (2, (vI l2)), (3, (vI l3)), (4, (vL v4)), (6, (vL v6)), (8, (vL v8)), (10, (vI v10))], [(vI l3), (vI l2), (vI v10), (vR 10 l0), (vL v6), (vI v10), (vR 30 (R l0 87))], R, M, 174)) (cs := [¬ (M l0 31 ≤ v10)]) (by rfl) ⟨Int.not_le.mpr c_34, trivial⟩ (Nat.le_refl _) ?_
      obtain ⟨r_35, e_36, h⟩ := xb1_ex h
      refine XR.callV 10 rfl (rest := [(vL v6), (vI v10), (vR 30 (R l0 87))]) m_M_portionsOf k_10_474 10 l0 (Or.inl ⟨by decide, rfl⟩) [(vI v10), (vI l2), (vI l3)] rfl rfl (c_M_portionsOf e_36) (by decide) (Nat.le_of_ble_eq_true rfl) (by decide +kernel) (Nat.le_refl _) (Nat.le_refl _) ?_
      show XR false 4 174 sc y_M_whose (126, [(0, (vR 10 l0)), (1, (vI l1)), (2, (vI l2)), (3, (vI l3)), (4, (vL v4)), (6, (vL v6)), (8, (vL v8)), (10, (vI v10))], [(vI r_35), (vL v6), (vI v10), (vR 30 (R l0 87))], R, M, 174) _
      obtain ⟨c_37, h⟩ := xch_ex h
      obtain ⟨c_38, h⟩ := xch_ex h
      obtain ⟨M_39, hM_39, h⟩ := xl_ex h
      refine s_M_whose [(126, .i2l, 0, 0), (127, .lmul, 0, 0), (128, .lload 4, 0, 0), (130, .ldiv, 0, 0), (131, .l2i, 0, 0), (132, .iastore, 0, 0), (133, .aload_n 0, 0, 0), (134, .getfield 205, 10, 88), (137, .iload 10, 0, 0), (139, .lload 6, 0, 0), (141, .aload_n 0, 0, 0), (142, .iload 10, 0, 0), (144, .iload_n 2, 0, 0), (145, .iload_n 3, 0, 0)] (by decide +kernel) (z' := (146, [(0, (vR 10 l0)), (1, (vI l1)), (2, (vI l2)), (3, (vI l3)), (4, (vL v4)), (6, (vL v6)), (8, (vL v8)), (10, (vI v10))], [(vI l3), (vI l2), (vI v10), (vR 10 l0), (vL v6), (vI v10), (vR 30 (R l0 88))], R, M_39, 174)) (cs := [v4 ≠ 0, xar 30 0, xidx v10 (xan 30)]) (by subst hM_39; rfl) ⟨c_37, xar_30, xix_30 c_38, trivial⟩ (Nat.le_refl _) ?_
      obtain ⟨r_40, e_41, h⟩ := xb1_ex h
      refine XR.callV 10 rfl (rest := [(vL v6), (vI v10), (vR 30 (R l0 88))]) m_M_portionsOf k_10_474 10 l0 (Or.inl ⟨by decide, rfl⟩) [(vI v10), (vI l2), (vI l3)] rfl rfl (c_M_portionsOf e_41) (by decide) (Nat.le_of_ble_eq_true rfl) (by decide +kernel) (Nat.le_refl _) (Nat.le_refl _) ?_
      show XR false 4 174 sc y_M_whose (149, [(0, (vR 10 l0)), (1, (vI l1)), (2, (vI l2)), (3, (vI l3)), (4, (vL v4)), (6, (vL v6)), (8, (vL v8)), (10, (vI v10))], [(vI r_40), (vL v6), (vI v10), (vR 30 (R l0 88))], R, M_39, 174) _
      obtain ⟨M_42, hM_42, h⟩ := xl_ex h
      obtain ⟨v8_43, hv8_43, h⟩ := xl_ex h
      obtain ⟨v10_44, hv10_44, h⟩ := xl_ex h
      refine s_M_whose [(149, .i2l, 0, 0), (150, .lmul, 0, 0), (151, .lload 4, 0, 0), (153, .lrem, 0, 0), (154, .l2i, 0, 0), (155, .iastore, 0, 0), (156, .lload 8, 0, 0), (158, .aload_n 0, 0, 0), (159, .getfield 202, 10, 87), (162, .iload 10, 0, 0), (164, .iaload, 0, 0), (165, .i2l, 0, 0), (166, .lsub, 0, 0), (167, .lstore 8, 0, 0), (169, .iinc 10 1, 0, 0), (172, .goto (-71), 0, 101)] (by decide +kernel) (z' := (101, [(10, (vI v10_44)), (8, (vL v8_43)), (0, (vR 10 l0)), (1, (vI l1)), (2, (vI l2)), (3, (vI l3)), (4, (vL v4)), (6, (vL v6))], [], R, M_42, 174)) (cs := [v4 ≠ 0, xar 30 0, xidx v10 (xan 30), xar 30 0, xidx v10 (xan 30)]) (by subst hM_42; subst hv8_43; subst hv10_44; rfl) ⟨c_37, xar_30, xix_30 c_38, xar_30, xix_30 c_38, trivial⟩ (Nat.le_refl _) ?_
      refine XR.pick [2, 3, 4, 5, 6, 7, 1, 0] (ls' := [(0, (vR 10 l0)), (1, (vI l1)), (2, (vI l2)), (3, (vI l3)), (4, (vL v4)), (6, (vL v6)), (8, (vL v8_43)), (10, (vI v10_44))]) rfl ?_
      exact ih v4 v6 v8_43 v10_44 M_42 _ h
    · skip
      refine s_M_whose [(107, .if_icmp .ge 68, 0, 175)] (by decide +kernel) (z' := (175, [(0, (vR 10 l0)), (1, (vI l1)), (2, (vI l2)), (3, (vI l3)), (4, (vL v4)), (6, (vL v6)), (8, (vL v8)), (10, (vI v10))], [], R, M, 174)) (cs := [M l0 31 ≤ v10]) (by rfl) ⟨Int.not_lt.mp c_34, trivial⟩ (Nat.le_refl _) ?_
      refine XR.pick [0, 1, 6] (ls' := [(0, (vR 10 l0)), (1, (vI l1)), (8, (vL v8))]) rfl ?_
      exact hq175 v8 M _ h
set_option maxRecDepth 100000 in
set_option maxHeartbeats 4000000 in
theorem o_M_whose_J218 {sc : List Int} {R : xR}   {l0 : Nat} {l1 : Int}  {rc : Int → Int → Int → xM → Option (Int × xM)} {q224 : Int → Int → xM → Option (Int × xM)} (hrc : ∀ (w8 : Int) (w10 : Int) (w11 : Int) (M : xM) (out : Int × xM), rc w8 w10 w11 M = some out → XR false 4 174 sc y_M_whose (188, [(0, (vR 10 l0)), (1, (vI l1)), (8, (vL w8)), (10, (vI w10)), (11, (vI w11))], [], R, M, 174) ((some (vI out.1)), R, out.2)) (hq224 : ∀ (w8 : Int) (w10 : Int) (M : xM) (out : Int × xM), q224 w8 w10 M = some out → XR false 4 174 sc y_M_whose (224, [(0, (vR 10 l0)), (1, (vI l1)), (8, (vL w8)), (10, (vI w10))], [], R, M, 174) ((some (vI out.1)), R, out.2)) {v8 : Int} {v10 : Int} {v11 : Int} {M : xM} {out : Int × xM} (h : M_whose_J218 R l0 l1 rc q224 v8 v10 v11 M = some out) : XR false 4 174 sc y_M_whose (218, [(0, (vR 10 l0)), (1, (vI l1)), (8, (vL v8)), (10, (vI v10)), (11, (vI v11))], [], R, M, 174) ((some (vI out.1)), R, out.2) := by
  unfold M_whose_J218 at h
  obtain ⟨v11_52, hv11_52, h⟩ := xl_ex h
  refine s_M_whose [(218, .iinc 11 1, 0, 0), (221, .goto (-33), 0, 188)] (by decide +kernel) (z' := (188, [(11, (vI v11_52)), (0, (vR 10 l0)), (1, (vI l1)), (8, (vL v8)), (10, (vI v10))], [], R, M, 174)) (cs := []) (by subst hv11_52; rfl) trivial (Nat.le_refl _) ?_
  refine XR.pick [1, 2, 3, 4, 0] (ls' := [(0, (vR 10 l0)), (1, (vI l1)), (8, (vL v8)), (10, (vI v10)), (11, (vI v11_52))]) rfl ?_
  exact hrc v8 v10 v11_52 M _ h
set_option maxRecDepth 100000 in
set_option maxHeartbeats 4000000 in
theorem o_M_whose_F188 {sc : List Int} {R : xR}   {l0 : Nat} {l1 : Int}  {q224 : Int → Int → xM → Option (Int × xM)} (hq224 : ∀ (w8 : Int) (w10 : Int) (M : xM) (out : Int × xM), q224 w8 w10 M = some out → XR false 4 174 sc y_M_whose (224, [(0, (vR 10 l0)), (1, (vI l1)), (8, (vL w8)), (10, (vI w10))], [], R, M, 174) ((some (vI out.1)), R, out.2)) : ∀ (n : Nat) (v8 : Int) (v10 : Int) (v11 : Int) (M : xM) (out : Int × xM), M_whose_F188 R l0 l1 q224 n v8 v10 v11 M = some out → XR false 4 174 sc y_M_whose (188, [(0, (vR 10 l0)), (1, (vI l1)), (8, (vL v8)), (10, (vI v10)), (11, (vI v11))], [], R, M, 174) ((some (vI out.1)), R, out.2) := by
  intro n
  induction n with
  | zero => intro v8 v10 v11 M out h; exact (xno h).elim
  | succ n ih =>
    intro v8 v10 v11 M out h
    rw [M_whose_F188] at h
    refine s_M_whose [(188, .iload 11, 0, 0), (190, .aload_n 0, 0, 0), (191, .getfield 396, 10, 31)] (by decide +kernel) (z' := (194, [(0, (vR 10 l0)), (1, (vI l1)), (8, (vL v8)), (10, (vI v10)), (11, (vI v11))], [(vI (M l0 31)), (vI v11)], R, M, 174)) (cs := []) (by rfl) trivial (Nat.le_refl _) ?_
    rcases xif_ex h with ⟨c_48, h⟩ | ⟨c_48, h⟩
    · skip
      obtain ⟨c_49, h⟩ := xch_ex h
      obtain ⟨c_50, h⟩ := xch_ex h
      refine s_M_whose [(194, .if_icmp .ge 30, 0, (-1)), (197, .aload_n 0, 0, 0), (198, .getfield 205, 10, 88), (201, .iload 11, 0, 0), (203, .iaload, 0, 0), (204, .aload_n 0, 0, 0), (205, .getfield 205, 10, 88), (208, .iload 10, 0, 0), (210, .iaload, 0, 0)] (by decide +kernel) (z' := (211, [(0, (vR 10 l0)), (1, (vI l1)), (8, (vL v8)), (10, (vI v10)), (11, (vI v11))], [(vI (M (R l0 88) (Int.toNat v10))), (vI (M (R l0 88) (Int.toNat v11)))], R, M, 174)) (cs := [¬ (M l0 31 ≤ v11), xar 30 0, xidx v11 (xan 30), xar 30 0, xidx v10 (xan 30)]) (by rfl) ⟨Int.not_le.mpr c_48, xar_30, xix_30 c_49, xar_30, xix_30 c_50, trivial⟩ (Nat.le_refl _) ?_
      rcases xif_ex h with ⟨c_51, h⟩ | ⟨c_51, h⟩
      · skip
        refine s_M_whose [(211, .if_icmp .le 7, 0, (-1)), (214, .iload 11, 0, 0), (216, .istore 10, 0, 0)] (by decide +kernel) (z' := (218, [(10, (vI v11)), (0, (vR 10 l0)), (1, (vI l1)), (8, (vL v8)), (11, (vI v11))], [], R, M, 174)) (cs := [¬ (M (R l0 88) (Int.toNat v11) ≤ M (R l0 88) (Int.toNat v10))]) (by rfl) ⟨Int.not_le.mpr c_51, trivial⟩ (Nat.le_refl _) ?_
        refine XR.pick [1, 2, 3, 0, 4] (ls' := [(0, (vR 10 l0)), (1, (vI l1)), (8, (vL v8)), (10, (vI v11)), (11, (vI v11))]) rfl ?_
        exact o_M_whose_J218 ih hq224 h
      · skip
        refine s_M_whose [(211, .if_icmp .le 7, 0, 218)] (by decide +kernel) (z' := (218, [(0, (vR 10 l0)), (1, (vI l1)), (8, (vL v8)), (10, (vI v10)), (11, (vI v11))], [], R, M, 174)) (cs := [M (R l0 88) (Int.toNat v11) ≤ M (R l0 88) (Int.toNat v10)]) (by rfl) ⟨Int.not_lt.mp c_51, trivial⟩ (Nat.le_refl _) ?_
        exact o_M_whose_J218 ih hq224 h
    · skip
      refine s_M_whose [(194, .if_icmp .ge 30, 0, 224)] (by decide +kernel) (z' := (224, [(0, (vR 10 l0)), (1, (vI l1)), (8, (vL v8)), (10, (vI v10)), (11, (vI v11))], [], R, M, 174)) (cs := [M l0 31 ≤ v11]) (by rfl) ⟨Int.not_lt.mp c_48, trivial⟩ (Nat.le_refl _) ?_
      refine XR.pick [0, 1, 2, 3] (ls' := [(0, (vR 10 l0)), (1, (vI l1)), (8, (vL v8)), (10, (vI v10))]) rfl ?_
      exact hq224 v8 v10 M _ h
set_option maxRecDepth 100000 in
set_option maxHeartbeats 4000000 in
theorem o_M_whose_F175 {sc : List Int} {R : xR}   {l0 : Nat} {l1 : Int}  : ∀ (n : Nat) (v8 : Int) (M : xM) (out : Int × xM), M_whose_F175 R l0 l1  n v8 M = some out → XR false 4 174 sc y_M_whose (175, [(0, (vR 10 l0)), (1, (vI l1)), (8, (vL v8))], [], R, M, 174) ((some (vI out.1)), R, out.2) := by
  intro n
  induction n with
  | zero => intro v8 M out h; exact (xno h).elim
  | succ n ih =>
    intro v8 M out h
    rw [M_whose_F175] at h
    refine s_M_whose [(175, .lload 8, 0, 0), (177, .lconst 0, 0, 0), (178, .lcmp, 0, 0)] (by decide +kernel) (z' := (179, [(0, (vR 10 l0)), (1, (vI l1)), (8, (vL v8))], [(vI (xcmp v8 0))], R, M, 174)) (cs := []) (by rfl) trivial (Nat.le_refl _) ?_
    rcases xif_ex h with ⟨c_47, h⟩ | ⟨c_47, h⟩
    · skip
      refine s_M_whose [(179, .ifCond .le 73, 0, (-1)), (182, .iconst 0, 0, 0), (183, .istore 10, 0, 0), (185, .iconst 1, 0, 1), (186, .istore 11, 0, 0)] (by decide +kernel) (z' := (188, [(11, (vI 1)), (10, (vI 0)), (0, (vR 10 l0)), (1, (vI l1)), (8, (vL v8))], [], R, M, 174)) (cs := [¬ (xcmp v8 0 ≤ 0)]) (by rfl) ⟨fun q => xcmp_le.mp q c_47, trivial⟩ (Nat.le_refl _) ?_
      refine XR.pick [2, 3, 4, 1, 0] (ls' := [(0, (vR 10 l0)), (1, (vI l1)), (8, (vL v8)), (10, (vI 0)), (11, (vI 1))]) rfl ?_
      refine o_M_whose_F188 ?_ xfu v8 0 1 M _ h
      · intro v8_53 v10_54 M_55 out h
        obtain ⟨c_56, h⟩ := xch_ex h
        obtain ⟨M_57, hM_57, h⟩ := xl_ex h
        obtain ⟨M_58, hM_58, h⟩ := xl_ex h
        obtain ⟨v8_59, hv8_59, h⟩ := xl_ex h
        refine s_M_whose [(224, .aload_n 0, 0, 0), (225, .getfield 205, 10, 88), (228, .iload 10, 0, 0), (230, .iconst (-1), 0, (-1)), (231, .iastore, 0, 0), (232, .aload_n 0, 0, 0), (233, .getfield 202, 10, 87), (236, .iload 10, 0, 0), (238, .dup2, 0, 0), (239, .iaload, 0, 0), (240, .iconst 1, 0, 1), (241, .iadd, 0, 0), (242, .iastore, 0, 0), (243, .lload 8, 0, 0), (245, .lconst 1, 0, 1), (246, .lsub, 0, 0), (247, .lstore 8, 0, 0), (249, .goto (-74), 0, 175)] (by decide +kernel) (z' := (175, [(8, (vL v8_59)), (0, (vR 10 l0)), (1, (vI l1)), (10, (vI v10_54))], [], R, M_58, 174)) (cs := [xar 30 0, xidx v10_54 (xan 30), xar 30 0, xidx v10_54 (xan 30), xar 30 0, xidx v10_54 (xan 30)]) (by subst hM_57; subst hM_58; subst hv8_59; rfl) ⟨xar_30, xix_30 c_56, xar_30, xix_30 c_56, xar_30, xix_30 c_56, trivial⟩ (Nat.le_refl _) ?_
        refine XR.pick [1, 2, 0] (ls' := [(0, (vR 10 l0)), (1, (vI l1)), (8, (vL v8_59))]) rfl ?_
        exact ih v8_59 M_58 _ h
    · skip
      obtain ⟨c_60, h⟩ := xch_ex h
      refine s_M_whose [(179, .ifCond .le 73, 0, 252), (252, .aload_n 0, 0, 0), (253, .aload_n 0, 0, 0), (254, .getfield 202, 10, 87), (257, .iload_n 1, 0, 0), (258, .iaload, 0, 0)] (by decide +kernel) (z' := (259, [(0, (vR 10 l0)), (1, (vI l1)), (8, (vL v8))], [(vI (M (R l0 87) (Int.toNat l1))), (vR 10 l0)], R, M, 174)) (cs := [xcmp v8 0 ≤ 0, xar 30 0, xidx l1 (xan 30)]) (by rfl) ⟨xcmp_le.mpr c_47, xar_30, xix_30 c_60, trivial⟩ (Nat.le_refl _) ?_
      obtain ⟨r_61, M_62, e_63, h⟩ := xb2_ex h
      refine XR.callV 10 rfl (rest := []) m_M_gives k_10_405 10 l0 (Or.inl ⟨by decide, rfl⟩) [(vI (M (R l0 87) (Int.toNat l1)))] rfl rfl (c_M_gives e_63) (by decide) (Nat.le_of_ble_eq_true rfl) (by decide +kernel) (Nat.le_refl _) (Nat.le_refl _) ?_
      show XR false 4 174 sc y_M_whose (262, [(0, (vR 10 l0)), (1, (vI l1)), (8, (vL v8))], [(vI r_61)], R, M_62, 174) _
      obtain rfl := Option.some.inj h
      exact XR.retI .int rfl rfl (by decide +kernel)
set_option maxRecDepth 100000 in
set_option maxHeartbeats 4000000 in
theorem o_M_whose {sc : List Int} {R : xR} {M : xM} {l0 : Nat} {l1 : Int} {l2 : Int} {l3 : Int} {out : Int × xM} (h : f_M_whose R l0 l1 l2 l3 M = some out) : XR false 4 174 sc y_M_whose (0, [(0, (vR 10 l0)), (1, (vI l1)), (2, (vI l2)), (3, (vI l3))], [], R, M, 174) ((some (vI out.1)), R, out.2) := by
  unfold f_M_whose at h
  refine s_M_whose [(0, .aload_n 0, 0, 0), (1, .iload_n 1, 0, 0)] (by decide +kernel) (z' := (2, [(0, (vR 10 l0)), (1, (vI l1)), (2, (vI l2)), (3, (vI l3))], [(vI l1), (vR 10 l0)], R, M, 174)) (cs := []) (by rfl) trivial (Nat.le_refl _) ?_
  obtain ⟨r_1, e_2, h⟩ := xb1_ex h
  refine XR.callV 10 rfl (rest := []) m_M_isWorks k_10_433 10 l0 (Or.inl ⟨by decide, rfl⟩) [(vI l1)] rfl rfl (c_M_isWorks e_2) (by decide) (Nat.le_of_ble_eq_true rfl) (by decide +kernel) (Nat.le_refl _) (Nat.le_refl _) ?_
  show XR false 4 174 sc y_M_whose (5, [(0, (vR 10 l0)), (1, (vI l1)), (2, (vI l2)), (3, (vI l3))], [(vI r_1)], R, M, 174) _
  rcases xif_ex h with ⟨c_3, h⟩ | ⟨c_3, h⟩
  · skip
    refine s_M_whose [(5, .ifCond .eq 17, 0, 22), (22, .aload_n 0, 0, 0), (23, .iconst 1, 0, 1)] (by decide +kernel) (z' := (24, [(0, (vR 10 l0)), (1, (vI l1)), (2, (vI l2)), (3, (vI l3))], [(vI 1), (vR 10 l0)], R, M, 174)) (cs := [r_1 = 0]) (by rfl) ⟨c_3, trivial⟩ (Nat.le_refl _) ?_
    obtain ⟨r_4, M_5, e_6, h⟩ := xb2_ex h
    refine XR.callV 10 rfl (rest := []) m_M_refuse k_10_377 10 l0 (Or.inl ⟨by decide, rfl⟩) [(vI 1)] rfl rfl (c_M_refuse e_6) (by decide) (Nat.le_of_ble_eq_true rfl) (by decide +kernel) (Nat.le_refl _) (Nat.le_refl _) ?_
    show XR false 4 174 sc y_M_whose (27, [(0, (vR 10 l0)), (1, (vI l1)), (2, (vI l2)), (3, (vI l3))], [(vI r_4)], R, M_5, 174) _
    obtain rfl := Option.some.inj h
    exact XR.retI .int rfl rfl (by decide +kernel)
  · skip
    refine s_M_whose [(5, .ifCond .eq 17, 0, (-1)), (8, .iload_n 2, 0, 0)] (by decide +kernel) (z' := (9, [(0, (vR 10 l0)), (1, (vI l1)), (2, (vI l2)), (3, (vI l3))], [(vI l2)], R, M, 174)) (cs := [¬ (r_1 = 0)]) (by rfl) ⟨c_3, trivial⟩ (Nat.le_refl _) ?_
    obtain ⟨r_7, e_8, h⟩ := xb1_ex h
    refine XR.callS 10 rfl (rest := []) m_M_isHour k_10_436 [(vI l2)] rfl rfl (c_M_isHour e_8) (by decide) (Nat.le_of_ble_eq_true rfl) (by decide +kernel) (Nat.le_refl _) (Nat.le_refl _) ?_
    show XR false 4 174 sc y_M_whose (12, [(0, (vR 10 l0)), (1, (vI l1)), (2, (vI l2)), (3, (vI l3))], [(vI r_7)], R, M, 174) _
    rcases xif_ex h with ⟨c_9, h⟩ | ⟨c_9, h⟩
    · skip
      refine s_M_whose [(12, .ifCond .eq 10, 0, 22), (22, .aload_n 0, 0, 0), (23, .iconst 1, 0, 1)] (by decide +kernel) (z' := (24, [(0, (vR 10 l0)), (1, (vI l1)), (2, (vI l2)), (3, (vI l3))], [(vI 1), (vR 10 l0)], R, M, 174)) (cs := [r_7 = 0]) (by rfl) ⟨c_9, trivial⟩ (Nat.le_refl _) ?_
      obtain ⟨r_10, M_11, e_12, h⟩ := xb2_ex h
      refine XR.callV 10 rfl (rest := []) m_M_refuse k_10_377 10 l0 (Or.inl ⟨by decide, rfl⟩) [(vI 1)] rfl rfl (c_M_refuse e_12) (by decide) (Nat.le_of_ble_eq_true rfl) (by decide +kernel) (Nat.le_refl _) (Nat.le_refl _) ?_
      show XR false 4 174 sc y_M_whose (27, [(0, (vR 10 l0)), (1, (vI l1)), (2, (vI l2)), (3, (vI l3))], [(vI r_10)], R, M_11, 174) _
      obtain rfl := Option.some.inj h
      exact XR.retI .int rfl rfl (by decide +kernel)
    · skip
      refine s_M_whose [(12, .ifCond .eq 10, 0, (-1)), (15, .iload_n 3, 0, 0)] (by decide +kernel) (z' := (16, [(0, (vR 10 l0)), (1, (vI l1)), (2, (vI l2)), (3, (vI l3))], [(vI l3)], R, M, 174)) (cs := [¬ (r_7 = 0)]) (by rfl) ⟨c_9, trivial⟩ (Nat.le_refl _) ?_
      obtain ⟨r_13, e_14, h⟩ := xb1_ex h
      refine XR.callS 10 rfl (rest := []) m_M_isSize k_10_439 [(vI l3)] rfl rfl (c_M_isSize e_14) (by decide) (Nat.le_of_ble_eq_true rfl) (by decide +kernel) (Nat.le_refl _) (Nat.le_refl _) ?_
      show XR false 4 174 sc y_M_whose (19, [(0, (vR 10 l0)), (1, (vI l1)), (2, (vI l2)), (3, (vI l3))], [(vI r_13)], R, M, 174) _
      rcases xif_ex h with ⟨c_15, h⟩ | ⟨c_15, h⟩
      · skip
        refine s_M_whose [(19, .ifCond .ne 9, 0, (-1)), (22, .aload_n 0, 0, 0), (23, .iconst 1, 0, 1)] (by decide +kernel) (z' := (24, [(0, (vR 10 l0)), (1, (vI l1)), (2, (vI l2)), (3, (vI l3))], [(vI 1), (vR 10 l0)], R, M, 174)) (cs := [¬ (r_13 ≠ 0)]) (by rfl) ⟨fun q => q c_15, trivial⟩ (Nat.le_refl _) ?_
        obtain ⟨r_16, M_17, e_18, h⟩ := xb2_ex h
        refine XR.callV 10 rfl (rest := []) m_M_refuse k_10_377 10 l0 (Or.inl ⟨by decide, rfl⟩) [(vI 1)] rfl rfl (c_M_refuse e_18) (by decide) (Nat.le_of_ble_eq_true rfl) (by decide +kernel) (Nat.le_refl _) (Nat.le_refl _) ?_
        show XR false 4 174 sc y_M_whose (27, [(0, (vR 10 l0)), (1, (vI l1)), (2, (vI l2)), (3, (vI l3))], [(vI r_16)], R, M_17, 174) _
        obtain rfl := Option.some.inj h
        exact XR.retI .int rfl rfl (by decide +kernel)
      · skip
        refine s_M_whose [(19, .ifCond .ne 9, 0, 28), (28, .aload_n 0, 0, 0), (29, .iload_n 2, 0, 0)] (by decide +kernel) (z' := (30, [(0, (vR 10 l0)), (1, (vI l1)), (2, (vI l2)), (3, (vI l3))], [(vI l2), (vR 10 l0)], R, M, 174)) (cs := [r_13 ≠ 0]) (by rfl) ⟨c_15, trivial⟩ (Nat.le_refl _) ?_
        obtain ⟨M_19, e_20, h⟩ := xb1_ex h
        refine XR.callV 10 rfl (rest := []) m_M_steps k_10_498 10 l0 (Or.inl ⟨by decide, rfl⟩) [(vI l2)] rfl rfl (c_M_steps e_20) (by decide) (Nat.le_of_ble_eq_true rfl) (by decide +kernel) (Nat.le_refl _) (Nat.le_refl _) ?_
        show XR false 4 174 sc y_M_whose (33, [(0, (vR 10 l0)), (1, (vI l1)), (2, (vI l2)), (3, (vI l3))], [], R, M_19, 174) _
        refine s_M_whose [(33, .lconst 0, 0, 0), (34, .lstore 4, 0, 0), (36, .iconst 0, 0, 0), (37, .istore 6, 0, 0)] (by decide +kernel) (z' := (39, [(6, (vI 0)), (4, (vL 0)), (0, (vR 10 l0)), (1, (vI l1)), (2, (vI l2)), (3, (vI l3))], [], R, M_19, 174)) (cs := []) (by rfl) trivial (Nat.le_refl _) ?_
        refine XR.pick [2, 3, 4, 5, 1, 0] (ls' := [(0, (vR 10 l0)), (1, (vI l1)), (2, (vI l2)), (3, (vI l3)), (4, (vL 0)), (6, (vI 0))]) rfl ?_
        refine o_M_whose_F39 ?_ xfu 0 0 M_19 _ h
        · intro v4_26 M_27 out h
          refine s_M_whose [(68, .lload 4, 0, 0), (70, .lconst 0, 0, 0), (71, .lcmp, 0, 0)] (by decide +kernel) (z' := (72, [(0, (vR 10 l0)), (1, (vI l1)), (2, (vI l2)), (3, (vI l3)), (4, (vL v4_26))], [(vI (xcmp v4_26 0))], R, M_27, 174)) (cs := []) (by rfl) trivial (Nat.le_refl _) ?_
          rcases xif_ex h with ⟨c_28, h⟩ | ⟨c_28, h⟩
          · skip
            refine s_M_whose [(72, .ifCond .ne 9, 0, (-1)), (75, .aload_n 0, 0, 0), (76, .iconst 0, 0, 0)] (by decide +kernel) (z' := (77, [(0, (vR 10 l0)), (1, (vI l1)), (2, (vI l2)), (3, (vI l3)), (4, (vL v4_26))], [(vI 0), (vR 10 l0)], R, M_27, 174)) (cs := [¬ (xcmp v4_26 0 ≠ 0)]) (by rfl) ⟨fun q => q (xcmp_eq.mpr c_28), trivial⟩ (Nat.le_refl _) ?_
            obtain ⟨r_29, M_30, e_31, h⟩ := xb2_ex h
            refine XR.callV 10 rfl (rest := []) m_M_gives k_10_405 10 l0 (Or.inl ⟨by decide, rfl⟩) [(vI 0)] rfl rfl (c_M_gives e_31) (by decide) (Nat.le_of_ble_eq_true rfl) (by decide +kernel) (Nat.le_refl _) (Nat.le_refl _) ?_
            show XR false 4 174 sc y_M_whose (80, [(0, (vR 10 l0)), (1, (vI l1)), (2, (vI l2)), (3, (vI l3)), (4, (vL v4_26))], [(vI r_29)], R, M_30, 174) _
            obtain rfl := Option.some.inj h
            exact XR.retI .int rfl rfl (by decide +kernel)
          · skip
            obtain ⟨c_32, h⟩ := xch_ex h
            obtain ⟨v6_33, hv6_33, h⟩ := xl_ex h
            refine s_M_whose [(72, .ifCond .ne 9, 0, 81), (81, .aload_n 0, 0, 0), (82, .getfield 181, 10, 80), (85, .iconst 4, 0, 4), (86, .iload_n 2, 0, 0), (87, .imul, 0, 0), (88, .iload_n 3, 0, 0), (89, .iadd, 0, 0), (90, .iaload, 0, 0), (91, .i2l, 0, 0), (92, .lstore 6, 0, 0), (94, .lload 6, 0, 0), (96, .lstore 8, 0, 0), (98, .iconst 0, 0, 0), (99, .istore 10, 0, 0)] (by decide +kernel) (z' := (101, [(10, (vI 0)), (8, (vL v6_33)), (6, (vL v6_33)), (0, (vR 10 l0)), (1, (vI l1)), (2, (vI l2)), (3, (vI l3)), (4, (vL v4_26))], [], R, M_27, 174)) (cs := [xcmp v4_26 0 ≠ 0, xar 26 0, xidx (w32 ((w32 (4 * l2)) + l3)) (xan 26)]) (by subst hv6_33; rfl) ⟨fun q => c_28 (xcmp_eq.mp q), xar_26, xix_26 c_32, trivial⟩ (Nat.le_refl _) ?_
            refine XR.pick [3, 4, 5, 6, 7, 2, 1, 0] (ls' := [(0, (vR 10 l0)), (1, (vI l1)), (2, (vI l2)), (3, (vI l3)), (4, (vL v4_26)), (6, (vL v6_33)), (8, (vL v6_33)), (10, (vI 0))]) rfl ?_
            refine o_M_whose_F101 ?_ xfu v4_26 v6_33 v6_33 0 M_27 _ h
            · intro v8_45 M_46 out h
              refine o_M_whose_F175  xfu v8_45 M_46 _ h
set_option maxRecDepth 100000 in
set_option maxHeartbeats 4000000 in
theorem c_M_whose {sc : List Int} {R : xR} {M : xM} {l0 : Nat} {l1 : Int} {l2 : Int} {l3 : Int} {out : Int × xM} (h : f_M_whose R l0 l1 l2 l3 M = some out) : XC false 4 sc y_M_whose [(vR 10 l0), (vI l1), (vI l2), (vI l3)] R M 174 174 ((some (vI out.1)), R, out.2) := XC.of (by decide) (Nat.le_of_ble_eq_true rfl) (Nat.le_refl _) (Nat.le_refl _) (o_M_whose h)
def f_M_works (R : xR) (l0 : Nat) (l1 : Int) (M : xM) : Option (Int × xM) :=
  xb1 (f_M_isWorks l0 l1 M) fun r_1 =>
  if r_1 = 0 then
    xb2 (f_M_refuse l0 1 M) fun r_4 M_5 =>
    some (r_4, M_5)
  else
    xch (0 ≤ l1 ∧ l1 < 4) <|
    xb2 (f_M_gives l0 (M (R l0 39) (Int.toNat l1)) M) fun r_8 M_9 =>
    some (r_8, M_9)
set_option maxRecDepth 100000 in
set_option maxHeartbeats 4000000 in
theorem s_M_works {d : Nat} {sc : List Int} {z z' : xS} {out : xO} (qs : List xI) {cs : List Prop} (hq : qs.all (xqb 10 false y_M_works.2.2.1 y_M_works.2.1) = true) (h : xN false sc qs z = some (z', cs)) (hc : xAll cs) (hE : z'.2.2.2.2.2 ≤ 174) (k : XR false d 174 sc y_M_works z' out) : XR false d 174 sc y_M_works z out := XR.seg 10 false rfl (fun q => by cases q) qs hq h hc hE k
set_option maxRecDepth 100000 in
set_option maxHeartbeats 4000000 in
theorem o_M_works {sc : List Int} {R : xR} {M : xM} {l0 : Nat} {l1 : Int} {out : Int × xM} (h : f_M_works R l0 l1 M = some out) : XR false 1 174 sc y_M_works (0, [(0, (vR 10 l0)), (1, (vI l1))], [], R, M, 174) ((some (vI out.1)), R, out.2) := by
  unfold f_M_works at h
  refine s_M_works [(0, .aload_n 0, 0, 0), (1, .iload_n 1, 0, 0)] (by decide +kernel) (z' := (2, [(0, (vR 10 l0)), (1, (vI l1))], [(vI l1), (vR 10 l0)], R, M, 174)) (cs := []) (by rfl) trivial (Nat.le_refl _) ?_
  obtain ⟨r_1, e_2, h⟩ := xb1_ex h
  refine XR.callV 10 rfl (rest := []) m_M_isWorks k_10_433 10 l0 (Or.inl ⟨by decide, rfl⟩) [(vI l1)] rfl rfl (c_M_isWorks e_2) (by decide) (Nat.le_of_ble_eq_true rfl) (by decide +kernel) (Nat.le_refl _) (Nat.le_refl _) ?_
  show XR false 1 174 sc y_M_works (5, [(0, (vR 10 l0)), (1, (vI l1))], [(vI r_1)], R, M, 174) _
  rcases xif_ex h with ⟨c_3, h⟩ | ⟨c_3, h⟩
  · skip
    refine s_M_works [(5, .ifCond .eq 16, 0, 21), (21, .aload_n 0, 0, 0), (22, .iconst 1, 0, 1)] (by decide +kernel) (z' := (23, [(0, (vR 10 l0)), (1, (vI l1))], [(vI 1), (vR 10 l0)], R, M, 174)) (cs := [r_1 = 0]) (by rfl) ⟨c_3, trivial⟩ (Nat.le_refl _) ?_
    obtain ⟨r_4, M_5, e_6, h⟩ := xb2_ex h
    refine XR.callV 10 rfl (rest := []) m_M_refuse k_10_377 10 l0 (Or.inl ⟨by decide, rfl⟩) [(vI 1)] rfl rfl (c_M_refuse e_6) (by decide) (Nat.le_of_ble_eq_true rfl) (by decide +kernel) (Nat.le_refl _) (Nat.le_refl _) ?_
    show XR false 1 174 sc y_M_works (26, [(0, (vR 10 l0)), (1, (vI l1))], [(vI r_4)], R, M_5, 174) _
    obtain rfl := Option.some.inj h
    exact XR.retI .int rfl rfl (by decide +kernel)
  · skip
    obtain ⟨c_7, h⟩ := xch_ex h
    refine s_M_works [(5, .ifCond .eq 16, 0, (-1)), (8, .aload_n 0, 0, 0), (9, .aload_n 0, 0, 0), (10, .getfield 88, 10, 39), (13, .iload_n 1, 0, 0), (14, .iaload, 0, 0)] (by decide +kernel) (z' := (15, [(0, (vR 10 l0)), (1, (vI l1))], [(vI (M (R l0 39) (Int.toNat l1))), (vR 10 l0)], R, M, 174)) (cs := [¬ (r_1 = 0), xar 34 0, xidx l1 (xan 34)]) (by rfl) ⟨c_3, xar_34, xix_34 c_7, trivial⟩ (Nat.le_refl _) ?_
    obtain ⟨r_8, M_9, e_10, h⟩ := xb2_ex h
    refine XR.callV 10 rfl (rest := []) m_M_gives k_10_405 10 l0 (Or.inl ⟨by decide, rfl⟩) [(vI (M (R l0 39) (Int.toNat l1)))] rfl rfl (c_M_gives e_10) (by decide) (Nat.le_of_ble_eq_true rfl) (by decide +kernel) (Nat.le_refl _) (Nat.le_refl _) ?_
    show XR false 1 174 sc y_M_works (18, [(0, (vR 10 l0)), (1, (vI l1))], [(vI r_8)], R, M_9, 174) _
    refine s_M_works [(18, .goto 8, 0, 26)] (by decide +kernel) (z' := (26, [(0, (vR 10 l0)), (1, (vI l1))], [(vI r_8)], R, M_9, 174)) (cs := []) (by rfl) trivial (Nat.le_refl _) ?_
    obtain rfl := Option.some.inj h
    exact XR.retI .int rfl rfl (by decide +kernel)
set_option maxRecDepth 100000 in
set_option maxHeartbeats 4000000 in
theorem c_M_works {sc : List Int} {R : xR} {M : xM} {l0 : Nat} {l1 : Int} {out : Int × xM} (h : f_M_works R l0 l1 M = some out) : XC false 1 sc y_M_works [(vR 10 l0), (vI l1)] R M 174 174 ((some (vI out.1)), R, out.2) := XC.of (by decide) (Nat.le_of_ble_eq_true rfl) (Nat.le_refl _) (Nat.le_refl _) (o_M_works h)
def f_M_write (R : xR) (l0 : Nat) (l1 : Int) (l2 : Int) (l3 : Int) (M : xM) : Option (Int × xM) :=
  xb1 (f_M_wrongPlace R l0 l1 l2 M) fun r_1 =>
  if r_1 = 0 then
    xch (0 ≤ l1 ∧ l1 < 4) <|
    xb1 (f_M_cut l3 (M (R l0 1) (Int.toNat l1))) fun r_5 =>
    xch (0 ≤ w32 ((w32 (60 * l1)) + l2) ∧ w32 ((w32 (60 * l1)) + l2) < 240) <|
    xl (xu M (R l0 3) (Int.toNat (w32 ((w32 (60 * l1)) + l2))) r_5) fun M_8 =>
    xb2 (f_M_is l0 r_1 M_8) fun r_9 M_10 =>
    xch (r_9 = 0 ∨ r_9 = 1) <|
    some (r_9, M_10)
  else
    xb2 (f_M_is l0 r_1 M) fun r_13 M_14 =>
    xch (r_13 = 0 ∨ r_13 = 1) <|
    some (r_13, M_14)
set_option maxRecDepth 100000 in
set_option maxHeartbeats 4000000 in
theorem s_M_write {d : Nat} {sc : List Int} {z z' : xS} {out : xO} (qs : List xI) {cs : List Prop} (hq : qs.all (xqb 10 false y_M_write.2.2.1 y_M_write.2.1) = true) (h : xN false sc qs z = some (z', cs)) (hc : xAll cs) (hE : z'.2.2.2.2.2 ≤ 174) (k : XR false d 174 sc y_M_write z' out) : XR false d 174 sc y_M_write z out := XR.seg 10 false rfl (fun q => by cases q) qs hq h hc hE k
set_option maxRecDepth 100000 in
set_option maxHeartbeats 4000000 in
theorem o_M_write {sc : List Int} {R : xR} {M : xM} {l0 : Nat} {l1 : Int} {l2 : Int} {l3 : Int} {out : Int × xM} (h : f_M_write R l0 l1 l2 l3 M = some out) : XR false 2 174 sc y_M_write (0, [(0, (vR 10 l0)), (1, (vI l1)), (2, (vI l2)), (3, (vL l3))], [], R, M, 174) ((some (vI out.1)), R, out.2) := by
  unfold f_M_write at h
  refine s_M_write [(0, .aload_n 0, 0, 0), (1, .iload_n 1, 0, 0), (2, .iload_n 2, 0, 0)] (by decide +kernel) (z' := (3, [(0, (vR 10 l0)), (1, (vI l1)), (2, (vI l2)), (3, (vL l3))], [(vI l2), (vI l1), (vR 10 l0)], R, M, 174)) (cs := []) (by rfl) trivial (Nat.le_refl _) ?_
  obtain ⟨r_1, e_2, h⟩ := xb1_ex h
  refine XR.callV 10 rfl (rest := []) m_M_wrongPlace k_10_257 10 l0 (Or.inl ⟨by decide, rfl⟩) [(vI l1), (vI l2)] rfl rfl (c_M_wrongPlace e_2) (by decide) (Nat.le_of_ble_eq_true rfl) (by decide +kernel) (Nat.le_refl _) (Nat.le_refl _) ?_
  show XR false 2 174 sc y_M_write (6, [(0, (vR 10 l0)), (1, (vI l1)), (2, (vI l2)), (3, (vL l3))], [(vI r_1)], R, M, 174) _
  refine s_M_write [(6, .istore 5, 0, 0), (8, .iload 5, 0, 0)] (by decide +kernel) (z' := (10, [(5, (vI r_1)), (0, (vR 10 l0)), (1, (vI l1)), (2, (vI l2)), (3, (vL l3))], [(vI r_1)], R, M, 174)) (cs := []) (by rfl) trivial (Nat.le_refl _) ?_
  rcases xif_ex h with ⟨c_3, h⟩ | ⟨c_3, h⟩
  · skip
    obtain ⟨c_4, h⟩ := xch_ex h
    refine s_M_write [(10, .ifCond .ne 24, 0, (-1)), (13, .aload_n 0, 0, 0), (14, .getfield 16, 10, 3), (17, .bipush 60, 0, 60), (19, .iload_n 1, 0, 0), (20, .imul, 0, 0), (21, .iload_n 2, 0, 0), (22, .iadd, 0, 0), (23, .lload_n 3, 0, 0), (24, .aload_n 0, 0, 0), (25, .getfield 7, 10, 1), (28, .iload_n 1, 0, 0), (29, .iaload, 0, 0)] (by decide +kernel) (z' := (30, [(5, (vI r_1)), (0, (vR 10 l0)), (1, (vI l1)), (2, (vI l2)), (3, (vL l3))], [(vI (M (R l0 1) (Int.toNat l1))), (vL l3), (vI (w32 ((w32 (60 * l1)) + l2))), (vR 40 (R l0 3))], R, M, 174)) (cs := [¬ (r_1 ≠ 0), xar 34 0, xidx l1 (xan 34)]) (by rfl) ⟨fun q => q c_3, xar_34, xix_34 c_4, trivial⟩ (Nat.le_refl _) ?_
    obtain ⟨r_5, e_6, h⟩ := xb1_ex h
    refine XR.callS 10 rfl (rest := [(vI (w32 ((w32 (60 * l1)) + l2))), (vR 40 (R l0 3))]) m_M_cut k_10_261 [(vL l3), (vI (M (R l0 1) (Int.toNat l1)))] rfl rfl (c_M_cut e_6) (by decide) (Nat.le_of_ble_eq_true rfl) (by decide +kernel) (Nat.le_refl _) (Nat.le_refl _) ?_
    show XR false 2 174 sc y_M_write (33, [(5, (vI r_1)), (0, (vR 10 l0)), (1, (vI l1)), (2, (vI l2)), (3, (vL l3))], [(vL r_5), (vI (w32 ((w32 (60 * l1)) + l2))), (vR 40 (R l0 3))], R, M, 174) _
    obtain ⟨c_7, h⟩ := xch_ex h
    obtain ⟨M_8, hM_8, h⟩ := xl_ex h
    refine s_M_write [(33, .lastore, 0, 0), (34, .aload_n 0, 0, 0), (35, .iload 5, 0, 0)] (by decide +kernel) (z' := (37, [(5, (vI r_1)), (0, (vR 10 l0)), (1, (vI l1)), (2, (vI l2)), (3, (vL l3))], [(vI r_1), (vR 10 l0)], R, M_8, 174)) (cs := [xar 40 1, xidx (w32 ((w32 (60 * l1)) + l2)) (xan 40)]) (by subst hM_8; rfl) ⟨xar_40, xix_40 c_7, trivial⟩ (Nat.le_refl _) ?_
    obtain ⟨r_9, M_10, e_11, h⟩ := xb2_ex h
    refine XR.callV 10 rfl (rest := []) m_M_is k_10_254 10 l0 (Or.inl ⟨by decide, rfl⟩) [(vI r_1)] rfl rfl (c_M_is e_11) (by decide) (Nat.le_of_ble_eq_true rfl) (by decide +kernel) (Nat.le_refl _) (Nat.le_refl _) ?_
    show XR false 2 174 sc y_M_write (40, [(5, (vI r_1)), (0, (vR 10 l0)), (1, (vI l1)), (2, (vI l2)), (3, (vL l3))], [(vI r_9)], R, M_10, 174) _
    obtain ⟨c_12, h⟩ := xch_ex h
    obtain rfl := Option.some.inj h
    exact XR.retI .boolean rfl (xnar_z c_12) (by decide +kernel)
  · skip
    refine s_M_write [(10, .ifCond .ne 24, 0, 34), (34, .aload_n 0, 0, 0), (35, .iload 5, 0, 0)] (by decide +kernel) (z' := (37, [(5, (vI r_1)), (0, (vR 10 l0)), (1, (vI l1)), (2, (vI l2)), (3, (vL l3))], [(vI r_1), (vR 10 l0)], R, M, 174)) (cs := [r_1 ≠ 0]) (by rfl) ⟨c_3, trivial⟩ (Nat.le_refl _) ?_
    obtain ⟨r_13, M_14, e_15, h⟩ := xb2_ex h
    refine XR.callV 10 rfl (rest := []) m_M_is k_10_254 10 l0 (Or.inl ⟨by decide, rfl⟩) [(vI r_1)] rfl rfl (c_M_is e_15) (by decide) (Nat.le_of_ble_eq_true rfl) (by decide +kernel) (Nat.le_refl _) (Nat.le_refl _) ?_
    show XR false 2 174 sc y_M_write (40, [(5, (vI r_1)), (0, (vR 10 l0)), (1, (vI l1)), (2, (vI l2)), (3, (vL l3))], [(vI r_13)], R, M_14, 174) _
    obtain ⟨c_16, h⟩ := xch_ex h
    obtain rfl := Option.some.inj h
    exact XR.retI .boolean rfl (xnar_z c_16) (by decide +kernel)
set_option maxRecDepth 100000 in
set_option maxHeartbeats 4000000 in
theorem c_M_write {sc : List Int} {R : xR} {M : xM} {l0 : Nat} {l1 : Int} {l2 : Int} {l3 : Int} {out : Int × xM} (h : f_M_write R l0 l1 l2 l3 M = some out) : XC false 2 sc y_M_write [(vR 10 l0), (vI l1), (vI l2), (vL l3)] R M 174 174 ((some (vI out.1)), R, out.2) := XC.of (by decide) (Nat.le_of_ble_eq_true rfl) (Nat.le_refl _) (Nat.le_refl _) (o_M_write h)
