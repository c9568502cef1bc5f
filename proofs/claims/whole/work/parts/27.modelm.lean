def M_rowOf_J139 (R : xR) (l0 : Nat) (l1 : Int) (l2 : Int) (l3 : Int) (l4 : Int) (rc : Int → xM → Option (Int × xM)) (q157 : xM → Option (Int × xM)) (v5 : Int) (s0 : Int) (s1 : Int) (s2 : Int) (M : xM) : Option (Int × xM) :=
  xb1 (f_M_isFrom s2 s1 s0) fun r_50 =>
  if r_50 = 0 then
    xb2 (f_M_refuse l0 1 M) fun r_53 M_54 =>
    some (r_53, M_54)
  else
    xl (w32 (v5 + 1)) fun v5_56 =>
    rc v5_56 M
def M_rowOf_F101 (R : xR) (l0 : Nat) (l1 : Int) (l2 : Int) (l3 : Int) (l4 : Int) (q157 : xM → Option (Int × xM)) : Nat → Int → xM → Option (Int × xM)
  | 0, _, _ => none
  | n + 1, v5, M =>
    if v5 < w32 (5 * l2) then
      xch (0 ≤ w32 ((w32 (60 * l1)) + v5) ∧ w32 ((w32 (60 * l1)) + v5) < 240) <|
      if Int.tmod v5 5 = 4 then
        M_rowOf_J139 R l0 l1 l2 l3 l4 (M_rowOf_F101 R l0 l1 l2 l3 l4 q157 n) q157 v5 1000 0 (M (R l0 3) (Int.toNat (w32 ((w32 (60 * l1)) + v5)))) M
      else
        M_rowOf_J139 R l0 l1 l2 l3 l4 (M_rowOf_F101 R l0 l1 l2 l3 l4 q157 n) q157 v5 100 0 (M (R l0 3) (Int.toNat (w32 ((w32 (60 * l1)) + v5)))) M
    else
      q157 M
def M_rowOf_F160 (R : xR) (l0 : Nat) (l1 : Int) (l2 : Int) (l3 : Int) (l4 : Int) (q200 : xM → Option (Int × xM)) : Nat → Int → xM → Option (Int × xM)
  | 0, _, _ => none
  | n + 1, v5, M =>
    if v5 < 4 then
      xch (0 ≤ w32 ((w32 (60 * l3)) + v5) ∧ w32 ((w32 (60 * l3)) + v5) < 240) <|
      xb1 (f_M_isFrom (M (R l0 3) (Int.toNat (w32 ((w32 (60 * l3)) + v5)))) 0 9999) fun r_60 =>
      if r_60 = 0 then
        xb2 (f_M_refuse l0 1 M) fun r_63 M_64 =>
        some (r_63, M_64)
      else
        xl (w32 (v5 + 1)) fun v5_66 =>
        M_rowOf_F160 R l0 l1 l2 l3 l4 q200 n v5_66 M
    else
      q200 M
def M_rowOf_F203 (R : xR) (l0 : Nat) (l1 : Int) (l2 : Int) (l3 : Int) (l4 : Int) (q237 : xM → Option (Int × xM)) : Nat → Int → xM → Option (Int × xM)
  | 0, _, _ => none
  | n + 1, v5, M =>
    if v5 < w32 (5 * l2) then
      xch (0 ≤ w32 ((w32 (60 * l1)) + v5) ∧ w32 ((w32 (60 * l1)) + v5) < 240) <|
      xch (0 ≤ v5 ∧ v5 < 35) <|
      xl (xu M (R l0 95) (Int.toNat v5) (w32 (M (R l0 3) (Int.toNat (w32 ((w32 (60 * l1)) + v5)))))) fun M_71 =>
      xl (w32 (v5 + 1)) fun v5_72 =>
      M_rowOf_F203 R l0 l1 l2 l3 l4 q237 n v5_72 M_71
    else
      q237 M
def M_rowOf_F240 (R : xR) (l0 : Nat) (l2 : Int) (l3 : Int) (l4 : Int) (q272 : xM → Option (Int × xM)) : Nat → Int → xM → Option (Int × xM)
  | 0, _, _ => none
  | n + 1, v5, M =>
    if v5 < 4 then
      xch (0 ≤ w32 ((w32 (60 * l3)) + v5) ∧ w32 ((w32 (60 * l3)) + v5) < 240) <|
      xch (0 ≤ v5 ∧ v5 < 4) <|
      xl (xu M (R l0 96) (Int.toNat v5) (w32 (M (R l0 3) (Int.toNat (w32 ((w32 (60 * l3)) + v5)))))) fun M_77 =>
      xl (w32 (v5 + 1)) fun v5_78 =>
      M_rowOf_F240 R l0 l2 l3 l4 q272 n v5_78 M_77
    else
      q272 M
def M_rowOf_J399 (R : xR) (l0 : Nat) (l2 : Int) (l4 : Int) (rc : Int → Int → Int → Int → Int → Int → Int → Int → Int → Int → xM → Option (Int × xM)) (q407 : Int → Int → Int → Int → Int → Int → Int → Int → Int → xM → Option (Int × xM)) (v5 : Int) (v6 : Int) (v7 : Int) (v8 : Int) (v9 : Int) (v10 : Int) (v11 : Int) (v13 : Int) (v14 : Int) (s0 : Int) (M : xM) : Option (Int × xM) :=
  xl (w32 (v14 + 1)) fun v14_93 =>
  rc v5 v6 v7 v8 v9 v10 v11 s0 v13 v14_93 M
def M_rowOf_F365 (R : xR) (l0 : Nat) (l2 : Int) (l4 : Int) (q407 : Int → Int → Int → Int → Int → Int → Int → Int → Int → xM → Option (Int × xM)) : Nat → Int → Int → Int → Int → Int → Int → Int → Int → Int → Int → xM → Option (Int × xM)
  | 0, _, _, _, _, _, _, _, _, _, _, _ => none
  | n + 1, v5, v6, v7, v8, v9, v10, v11, v12, v13, v14, M =>
    if v14 < v8 then
      if v12 = 0 then
        M_rowOf_J399 R l0 l2 l4 (M_rowOf_F365 R l0 l2 l4 q407 n) q407 v5 v6 v7 v8 v9 v10 v11 v13 v14 0 M
      else
        xch (0 ≤ v14 ∧ v14 < 4) <|
        xch (0 ≤ v13 ∧ v13 < 4) <|
        if M (R l0 97) (Int.toNat v14) = M (R l0 97) (Int.toNat v13) then
          M_rowOf_J399 R l0 l2 l4 (M_rowOf_F365 R l0 l2 l4 q407 n) q407 v5 v6 v7 v8 v9 v10 v11 v13 v14 0 M
        else
          M_rowOf_J399 R l0 l2 l4 (M_rowOf_F365 R l0 l2 l4 q407 n) q407 v5 v6 v7 v8 v9 v10 v11 v13 v14 1 M
    else
      q407 v5 v6 v7 v8 v9 v10 v11 v12 v13 M
def M_rowOf_F316 (R : xR) (l0 : Nat) (l2 : Int) (l4 : Int) (q413 : Int → Int → Int → Int → Int → Int → Int → xM → Option (Int × xM)) : Nat → Int → Int → Int → Int → Int → Int → Int → Int → Int → xM → Option (Int × xM)
  | 0, _, _, _, _, _, _, _, _, _, _ => none
  | n + 1, v5, v6, v7, v8, v9, v10, v11, v12, v13, M =>
    if v13 < 0 then
      q413 v5 v6 v7 v8 v9 v11 v12 M
    else
      xch (l2 ≠ 0) <|
      xch (0 ≤ v13 ∧ v13 < 4) <|
      xl (xu M (R l0 97) (Int.toNat v13) (Int.tmod v10 l2)) fun M_86 =>
      xl (w32 (Int.tdiv v10 l2)) fun v10_87 =>
      xch (0 ≤ w32 ((w32 (5 * (M_86 (R l0 97) (Int.toNat v13)))) + 4) ∧ w32 ((w32 (5 * (M_86 (R l0 97) (Int.toNat v13)))) + 4) < 35) <|
      xl (w32 (v11 + (M_86 (R l0 95) (Int.toNat (w32 ((w32 (5 * (M_86 (R l0 97) (Int.toNat v13)))) + 4)))))) fun v11_89 =>
      xl (w32 (v13 + 1)) fun v14_90 =>
      M_rowOf_F365 R l0 l2 l4
        (fun (v5_97 : Int) (v6_98 : Int) (v7_99 : Int) (v8_100 : Int) (v9_101 : Int) (v10_102 : Int) (v11_103 : Int) (v12_104 : Int) (v13_105 : Int) (M_106 : xM) =>
          xl (w32 (v13_105 + (-1))) fun v13_107 =>
          M_rowOf_F316 R l0 l2 l4 q413 n v5_97 v6_98 v7_99 v8_100 v9_101 v10_102 v11_103 v12_104 v13_107 M_106)
        xfu v5 v6 v7 v8 v9 v10_87 v11_89 v12 v13 v14_90 M_86
def M_rowOf_J483 (R : xR) (l0 : Nat) (l2 : Int) (l4 : Int) (rc : Int → Int → Int → Int → Int → xM → Option (Int × xM)) (q489 : Int → Int → Int → Int → xM → Option (Int × xM)) (v5 : Int) (v6 : Int) (v7 : Int) (v8 : Int) (v9 : Int) (M : xM) : Option (Int × xM) :=
  xl (w32 (v9 + 1)) fun v9_117 =>
  rc v5 v6 v7 v8 v9_117 M
def M_rowOf_F456 (R : xR) (l0 : Nat) (l2 : Int) (l4 : Int) (q483 : Int → Int → Int → Int → Int → xM → Option (Int × xM)) : Nat → Int → Int → Int → Int → Int → Int → xM → Option (Int × xM)
  | 0, _, _, _, _, _, _, _ => none
  | n + 1, v5, v6, v7, v8, v9, v13, M =>
    if v13 < v8 then
      xch (0 ≤ v13 ∧ v13 < 4) <|
      xl (xu M (R l0 100) (Int.toNat v13) (M (R l0 97) (Int.toNat v13))) fun M_124 =>
      xl (w32 (v13 + 1)) fun v13_125 =>
      M_rowOf_F456 R l0 l2 l4 q483 n v5 v6 v7 v8 v9 v13_125 M_124
    else
      q483 v5 v6 v7 v8 v9 M
def M_rowOf_J431 (R : xR) (l0 : Nat) (l2 : Int) (l4 : Int) (rc : Int → Int → Int → Int → Int → xM → Option (Int × xM)) (q489 : Int → Int → Int → Int → xM → Option (Int × xM)) (v5 : Int) (v6 : Int) (v7 : Int) (v8 : Int) (v9 : Int) (v11 : Int) (M : xM) : Option (Int × xM) :=
  xb1 (f_M_passes R l0 v8 M) fun r_119 =>
  if l4 < r_119 then
    M_rowOf_J483 R l0 l2 l4 rc q489 v5 v6 v7 v8 v9 M
  else
    M_rowOf_F456 R l0 l2 l4
      (fun (v5_126 : Int) (v6_127 : Int) (v7_128 : Int) (v8_129 : Int) (v9_130 : Int) (M_131 : xM) =>
        M_rowOf_J483 R l0 l2 l4 rc q489 v5_126 v6_127 v7_128 v8_129 v9_130 M_131)
      xfu v11 v8 v7 v8 v9 0 M
def M_rowOf_F293 (R : xR) (l0 : Nat) (l2 : Int) (l4 : Int) (q489 : Int → Int → Int → Int → xM → Option (Int × xM)) : Nat → Int → Int → Int → Int → Int → xM → Option (Int × xM)
  | 0, _, _, _, _, _, _ => none
  | n + 1, v5, v6, v7, v8, v9, M =>
    if v9 < v7 then
      xl (w32 (v8 - 1)) fun v13_82 =>
      M_rowOf_F316 R l0 l2 l4
        (fun (v5_108 : Int) (v6_109 : Int) (v7_110 : Int) (v8_111 : Int) (v9_112 : Int) (v11_113 : Int) (v12_114 : Int) (M_115 : xM) =>
          if v12_114 = 0 then
            M_rowOf_J483 R l0 l2 l4 (M_rowOf_F293 R l0 l2 l4 q489 n) q489 v5_108 v6_109 v7_110 v8_111 v9_112 M_115
          else
            if v5_108 = -1 then
              M_rowOf_J431 R l0 l2 l4 (M_rowOf_F293 R l0 l2 l4 q489 n) q489 v5_108 v6_109 v7_110 v8_111 v9_112 v11_113 M_115
            else
              if v11_113 < v5_108 then
                M_rowOf_J431 R l0 l2 l4 (M_rowOf_F293 R l0 l2 l4 q489 n) q489 v5_108 v6_109 v7_110 v8_111 v9_112 v11_113 M_115
              else
                M_rowOf_J483 R l0 l2 l4 (M_rowOf_F293 R l0 l2 l4 q489 n) q489 v5_108 v6_109 v7_110 v8_111 v9_112 M_115)
        xfu v5 v6 v7 v8 v9 v9 0 1 v13_82 M
    else
      q489 v5 v6 v7 v8 M
def M_rowOf_F284 (R : xR) (l0 : Nat) (l2 : Int) (l4 : Int) (q501 : Int → Int → xM → Option (Int × xM)) : Nat → Int → Int → Int → Int → xM → Option (Int × xM)
  | 0, _, _, _, _, _ => none
  | n + 1, v5, v6, v7, v8, M =>
    if 4 < v8 then
      q501 v5 v6 M
    else
      M_rowOf_F293 R l0 l2 l4
        (fun (v5_133 : Int) (v6_134 : Int) (v7_135 : Int) (v8_136 : Int) (M_137 : xM) =>
          xl (w32 (v7_135 * l2)) fun v7_138 =>
          xl (w32 (v8_136 + 1)) fun v8_139 =>
          M_rowOf_F284 R l0 l2 l4 q501 n v5_133 v6_134 v7_138 v8_139 M_137)
        xfu v5 v6 v7 v8 0 M
def M_rowOf_F517 (R : xR) (l0 : Nat) (q544 : Int → Int → xM → Option (Int × xM)) : Nat → Int → Int → Int → xM → Option (Int × xM)
  | 0, _, _, _, _ => none
  | n + 1, v5, v6, v8, M =>
    if v8 < v6 then
      xch (0 ≤ v8 ∧ v8 < 4) <|
      xl (xu M (R l0 98) (Int.toNat v8) (M (R l0 100) (Int.toNat v8))) fun M_149 =>
      xl (w32 (v8 + 1)) fun v8_150 =>
      M_rowOf_F517 R l0 q544 n v5 v6 v8_150 M_149
    else
      q544 v5 v6 M
def f_M_rowOf (R : xR) (l0 : Nat) (l1 : Int) (l2 : Int) (l3 : Int) (l4 : Int) (M : xM) : Option (Int × xM) :=
  xb1 (f_M_isTray l1) fun r_1 =>
  if r_1 = 0 then
    xb2 (f_M_refuse l0 1 M) fun r_4 M_5 =>
    some (r_4, M_5)
  else
    xb1 (f_M_isTray l3) fun r_7 =>
    if r_7 = 0 then
      xb2 (f_M_refuse l0 1 M) fun r_10 M_11 =>
      some (r_10, M_11)
    else
      if l2 < 1 then
        xb2 (f_M_refuse l0 1 M) fun r_14 M_15 =>
        some (r_14, M_15)
      else
        if 7 < l2 then
          xb2 (f_M_refuse l0 1 M) fun r_18 M_19 =>
          some (r_18, M_19)
        else
          if l4 < 0 then
            xb2 (f_M_refuse l0 1 M) fun r_22 M_23 =>
            some (r_22, M_23)
          else
            if 40000 < l4 then
              xb2 (f_M_refuse l0 1 M) fun r_26 M_27 =>
              some (r_26, M_27)
            else
              xch (0 ≤ l1 ∧ l1 < 4) <|
              if M (R l0 2) (Int.toNat l1) = -1 then
                xb2 (f_M_refuse l0 2 M) fun r_31 M_32 =>
                some (r_31, M_32)
              else
                xch (0 ≤ l3 ∧ l3 < 4) <|
                if M (R l0 2) (Int.toNat l3) = -1 then
                  xb2 (f_M_refuse l0 2 M) fun r_36 M_37 =>
                  some (r_36, M_37)
                else
                  if M (R l0 2) (Int.toNat l1) < w32 (5 * l2) then
                    xb2 (f_M_refuse l0 3 M) fun r_40 M_41 =>
                    some (r_40, M_41)
                  else
                    if M (R l0 2) (Int.toNat l3) < 4 then
                      xb2 (f_M_refuse l0 3 M) fun r_44 M_45 =>
                      some (r_44, M_45)
                    else
                      M_rowOf_F101 R l0 l1 l2 l3 l4
                        (fun (M_57 : xM) =>
                          M_rowOf_F160 R l0 l1 l2 l3 l4
                            (fun (M_67 : xM) =>
                              M_rowOf_F203 R l0 l1 l2 l3 l4
                                (fun (M_73 : xM) =>
                                  M_rowOf_F240 R l0 l2 l3 l4
                                    (fun (M_79 : xM) =>
                                      M_rowOf_F284 R l0 l2 l4
                                        (fun (v5_140 : Int) (v6_141 : Int) (M_142 : xM) =>
                                          if v5_140 = -1 then
                                            xb2 (f_M_refuse l0 6 M_142) fun r_144 M_145 =>
                                            some (r_144, M_145)
                                          else
                                            M_rowOf_F517 R l0
                                              (fun (v5_151 : Int) (v6_152 : Int) (M_153 : xM) =>
                                                xl (xu M_153 l0 99 v6_152) fun M_154 =>
                                                xb2 (f_M_gives l0 v5_151 M_154) fun r_155 M_156 =>
                                                some (r_155, M_156))
                                              xfu v5_140 v6_141 0 M_142)
                                        xfu (-1) 0 1 0 M_79)
                                    xfu 0 M_73)
                                xfu 0 M_67)
                            xfu 0 M_57)
                        xfu 0 M
set_option maxRecDepth 100000 in
set_option maxHeartbeats 4000000 in
theorem s_M_rowOf {d : Nat} {sc : List Int} {z z' : xS} {out : xO} (qs : List xI) {cs : List Prop} (hq : qs.all (xqb 10 false y_M_rowOf.2.2.1 y_M_rowOf.2.1) = true) (h : xN false sc qs z = some (z', cs)) (hc : xAll cs) (hE : z'.2.2.2.2.2 ≤ 174) (k : XR false d 174 sc y_M_rowOf z' out) : XR false d 174 sc y_M_rowOf z out := XR.seg 10 false rfl (fun q => by cases q) qs hq h hc hE k
set_option maxRecDepth 100000 in
set_option maxHeartbeats 4000000 in
theorem o_M_rowOf_J139 {sc : List Int} {R : xR}   {l0 : Nat} {l1 : Int} {l2 : Int} {l3 : Int} {l4 : Int}  {rc : Int → xM → Option (Int × xM)} {q157 : xM → Option (Int × xM)} (hrc : ∀ (w5 : Int) (M : xM) (out : Int × xM), rc w5 M = some out → XR false 1 174 sc y_M_rowOf (101, [(0, (vR 10 l0)), (1, (vI l1)), (2, (vI l2)), (3, (vI l3)), (4, (vI l4)), (5, (vI w5))], [], R, M, 174) ((some (vI out.1)), R, out.2)) (hq157 : ∀ (M : xM) (out : Int × xM), q157 M = some out → XR false 1 174 sc y_M_rowOf (157, [(0, (vR 10 l0)), (1, (vI l1)), (2, (vI l2)), (3, (vI l3)), (4, (vI l4))], [], R, M, 174) ((some (vI out.1)), R, out.2)) {v5 : Int} {s0 : Int} {s1 : Int} {s2 : Int} {M : xM} {out : Int × xM} (h : M_rowOf_J139 R l0 l1 l2 l3 l4 rc q157 v5 s0 s1 s2 M = some out) : XR false 1 174 sc y_M_rowOf (139, [(0, (vR 10 l0)), (1, (vI l1)), (2, (vI l2)), (3, (vI l3)), (4, (vI l4)), (5, (vI v5))], [(vL s0), (vL s1), (vL s2)], R, M, 174) ((some (vI out.1)), R, out.2) := by
  unfold M_rowOf_J139 at h
  obtain ⟨r_50, e_51, h⟩ := xb1_ex h
  refine XR.callS 10 rfl (rest := []) m_M_isFrom k_10_534 [(vL s2), (vL s1), (vL s0)] rfl rfl (c_M_isFrom e_51) (by decide) (Nat.le_of_ble_eq_true rfl) (by decide +kernel) (Nat.le_refl _) (Nat.le_refl _) ?_
  show XR false 1 174 sc y_M_rowOf (142, [(0, (vR 10 l0)), (1, (vI l1)), (2, (vI l2)), (3, (vI l3)), (4, (vI l4)), (5, (vI v5))], [(vI r_50)], R, M, 174) _
  rcases xif_ex h with ⟨c_52, h⟩ | ⟨c_52, h⟩
  · skip
    refine s_M_rowOf [(142, .ifCond .ne 9, 0, (-1)), (145, .aload_n 0, 0, 0), (146, .iconst 1, 0, 1)] (by decide +kernel) (z' := (147, [(0, (vR 10 l0)), (1, (vI l1)), (2, (vI l2)), (3, (vI l3)), (4, (vI l4)), (5, (vI v5))], [(vI 1), (vR 10 l0)], R, M, 174)) (cs := [¬ (r_50 ≠ 0)]) (by rfl) ⟨fun q => q c_52, trivial⟩ (Nat.le_refl _) ?_
    obtain ⟨r_53, M_54, e_55, h⟩ := xb2_ex h
    refine XR.callV 10 rfl (rest := []) m_M_refuse k_10_377 10 l0 (Or.inl ⟨by decide, rfl⟩) [(vI 1)] rfl rfl (c_M_refuse e_55) (by decide) (Nat.le_of_ble_eq_true rfl) (by decide +kernel) (Nat.le_refl _) (Nat.le_refl _) ?_
    show XR false 1 174 sc y_M_rowOf (150, [(0, (vR 10 l0)), (1, (vI l1)), (2, (vI l2)), (3, (vI l3)), (4, (vI l4)), (5, (vI v5))], [(vI r_53)], R, M_54, 174) _
    obtain rfl := Option.some.inj h
    exact XR.retI .int rfl rfl (by decide +kernel)
  · skip
    obtain ⟨v5_56, hv5_56, h⟩ := xl_ex h
    refine s_M_rowOf [(142, .ifCond .ne 9, 0, 151), (151, .iinc 5 1, 0, 0), (154, .goto (-53), 0, 101)] (by decide +kernel) (z' := (101, [(5, (vI v5_56)), (0, (vR 10 l0)), (1, (vI l1)), (2, (vI l2)), (3, (vI l3)), (4, (vI l4))], [], R, M, 174)) (cs := [r_50 ≠ 0]) (by subst hv5_56; rfl) ⟨c_52, trivial⟩ (Nat.le_refl _) ?_
    refine XR.pick [1, 2, 3, 4, 5, 0] (ls' := [(0, (vR 10 l0)), (1, (vI l1)), (2, (vI l2)), (3, (vI l3)), (4, (vI l4)), (5, (vI v5_56))]) rfl ?_
    exact hrc v5_56 M _ h
set_option maxRecDepth 100000 in
set_option maxHeartbeats 4000000 in
theorem o_M_rowOf_F101 {sc : List Int} {R : xR}   {l0 : Nat} {l1 : Int} {l2 : Int} {l3 : Int} {l4 : Int}  {q157 : xM → Option (Int × xM)} (hq157 : ∀ (M : xM) (out : Int × xM), q157 M = some out → XR false 1 174 sc y_M_rowOf (157, [(0, (vR 10 l0)), (1, (vI l1)), (2, (vI l2)), (3, (vI l3)), (4, (vI l4))], [], R, M, 174) ((some (vI out.1)), R, out.2)) : ∀ (n : Nat) (v5 : Int) (M : xM) (out : Int × xM), M_rowOf_F101 R l0 l1 l2 l3 l4 q157 n v5 M = some out → XR false 1 174 sc y_M_rowOf (101, [(0, (vR 10 l0)), (1, (vI l1)), (2, (vI l2)), (3, (vI l3)), (4, (vI l4)), (5, (vI v5))], [], R, M, 174) ((some (vI out.1)), R, out.2) := by
  intro n
  induction n with
  | zero => intro v5 M out h; exact (xno h).elim
  | succ n ih =>
    intro v5 M out h
    rw [M_rowOf_F101] at h
    refine s_M_rowOf [(101, .iload 5, 0, 0), (103, .iconst 5, 0, 5), (104, .iload_n 2, 0, 0), (105, .imul, 0, 0)] (by decide +kernel) (z' := (106, [(0, (vR 10 l0)), (1, (vI l1)), (2, (vI l2)), (3, (vI l3)), (4, (vI l4)), (5, (vI v5))], [(vI (w32 (5 * l2))), (vI v5)], R, M, 174)) (cs := []) (by rfl) trivial (Nat.le_refl _) ?_
    rcases xif_ex h with ⟨c_47, h⟩ | ⟨c_47, h⟩
    · skip
      obtain ⟨c_48, h⟩ := xch_ex h
      refine s_M_rowOf [(106, .if_icmp .ge 51, 0, (-1)), (109, .aload_n 0, 0, 0), (110, .getfield 16, 10, 3), (113, .bipush 60, 0, 60), (115, .iload_n 1, 0, 0), (116, .imul, 0, 0), (117, .iload 5, 0, 0), (119, .iadd, 0, 0), (120, .laload, 0, 0), (121, .lconst 0, 0, 0), (122, .iload 5, 0, 0), (124, .iconst 5, 0, 5), (125, .irem, 0, 0), (126, .iconst 4, 0, 4)] (by decide +kernel) (z' := (127, [(0, (vR 10 l0)), (1, (vI l1)), (2, (vI l2)), (3, (vI l3)), (4, (vI l4)), (5, (vI v5))], [(vI 4), (vI (Int.tmod v5 5)), (vL 0), (vL (M (R l0 3) (Int.toNat (w32 ((w32 (60 * l1)) + v5)))))], R, M, 174)) (cs := [¬ (w32 (5 * l2) ≤ v5), xar 40 1, xidx (w32 ((w32 (60 * l1)) + v5)) (xan 40), (5 : Int) ≠ 0]) (by rfl) ⟨Int.not_le.mpr c_47, xar_40, xix_40 c_48, by decide, trivial⟩ (Nat.le_refl _) ?_
      rcases xif_ex h with ⟨c_49, h⟩ | ⟨c_49, h⟩
      · skip
        refine s_M_rowOf [(127, .if_icmp .ne 9, 0, (-1)), (130, .ldc2_w 530, 0, 1000), (133, .goto 6, 0, 139)] (by decide +kernel) (z' := (139, [(0, (vR 10 l0)), (1, (vI l1)), (2, (vI l2)), (3, (vI l3)), (4, (vI l4)), (5, (vI v5))], [(vL 1000), (vL 0), (vL (M (R l0 3) (Int.toNat (w32 ((w32 (60 * l1)) + v5)))))], R, M, 174)) (cs := [¬ (Int.tmod v5 5 ≠ 4)]) (by rfl) ⟨fun q => q c_49, trivial⟩ (Nat.le_refl _) ?_
        exact o_M_rowOf_J139 ih hq157 h
      · skip
        refine s_M_rowOf [(127, .if_icmp .ne 9, 0, 136), (136, .ldc2_w 532, 0, 100)] (by decide +kernel) (z' := (139, [(0, (vR 10 l0)), (1, (vI l1)), (2, (vI l2)), (3, (vI l3)), (4, (vI l4)), (5, (vI v5))], [(vL 100), (vL 0), (vL (M (R l0 3) (Int.toNat (w32 ((w32 (60 * l1)) + v5)))))], R, M, 174)) (cs := [Int.tmod v5 5 ≠ 4]) (by rfl) ⟨c_49, trivial⟩ (Nat.le_refl _) ?_
        exact o_M_rowOf_J139 ih hq157 h
    · skip
      refine s_M_rowOf [(106, .if_icmp .ge 51, 0, 157)] (by decide +kernel) (z' := (157, [(0, (vR 10 l0)), (1, (vI l1)), (2, (vI l2)), (3, (vI l3)), (4, (vI l4)), (5, (vI v5))], [], R, M, 174)) (cs := [w32 (5 * l2) ≤ v5]) (by rfl) ⟨Int.not_lt.mp c_47, trivial⟩ (Nat.le_refl _) ?_
      refine XR.pick [0, 1, 2, 3, 4] (ls' := [(0, (vR 10 l0)), (1, (vI l1)), (2, (vI l2)), (3, (vI l3)), (4, (vI l4))]) rfl ?_
      exact hq157 M _ h
set_option maxRecDepth 100000 in
set_option maxHeartbeats 4000000 in
theorem o_M_rowOf_F160 {sc : List Int} {R : xR}   {l0 : Nat} {l1 : Int} {l2 : Int} {l3 : Int} {l4 : Int}  {q200 : xM → Option (Int × xM)} (hq200 : ∀ (M : xM) (out : Int × xM), q200 M = some out → XR false 1 174 sc y_M_rowOf (200, [(0, (vR 10 l0)), (1, (vI l1)), (2, (vI l2)), (3, (vI l3)), (4, (vI l4))], [], R, M, 174) ((some (vI out.1)), R, out.2)) : ∀ (n : Nat) (v5 : Int) (M : xM) (out : Int × xM), M_rowOf_F160 R l0 l1 l2 l3 l4 q200 n v5 M = some out → XR false 1 174 sc y_M_rowOf (160, [(0, (vR 10 l0)), (1, (vI l1)), (2, (vI l2)), (3, (vI l3)), (4, (vI l4)), (5, (vI v5))], [], R, M, 174) ((some (vI out.1)), R, out.2) := by
  intro n
  induction n with
  | zero => intro v5 M out h; exact (xno h).elim
  | succ n ih =>
    intro v5 M out h
    rw [M_rowOf_F160] at h
    refine s_M_rowOf [(160, .iload 5, 0, 0), (162, .iconst 4, 0, 4)] (by decide +kernel) (z' := (163, [(0, (vR 10 l0)), (1, (vI l1)), (2, (vI l2)), (3, (vI l3)), (4, (vI l4)), (5, (vI v5))], [(vI 4), (vI v5)], R, M, 174)) (cs := []) (by rfl) trivial (Nat.le_refl _) ?_
    rcases xif_ex h with ⟨c_58, h⟩ | ⟨c_58, h⟩
    · skip
      obtain ⟨c_59, h⟩ := xch_ex h
      refine s_M_rowOf [(163, .if_icmp .ge 37, 0, (-1)), (166, .aload_n 0, 0, 0), (167, .getfield 16, 10, 3), (170, .bipush 60, 0, 60), (172, .iload_n 3, 0, 0), (173, .imul, 0, 0), (174, .iload 5, 0, 0), (176, .iadd, 0, 0), (177, .laload, 0, 0), (178, .lconst 0, 0, 0), (179, .ldc2_w 538, 0, 9999)] (by decide +kernel) (z' := (182, [(0, (vR 10 l0)), (1, (vI l1)), (2, (vI l2)), (3, (vI l3)), (4, (vI l4)), (5, (vI v5))], [(vL 9999), (vL 0), (vL (M (R l0 3) (Int.toNat (w32 ((w32 (60 * l3)) + v5)))))], R, M, 174)) (cs := [¬ (4 ≤ v5), xar 40 1, xidx (w32 ((w32 (60 * l3)) + v5)) (xan 40)]) (by rfl) ⟨Int.not_le.mpr c_58, xar_40, xix_40 c_59, trivial⟩ (Nat.le_refl _) ?_
      obtain ⟨r_60, e_61, h⟩ := xb1_ex h
      refine XR.callS 10 rfl (rest := []) m_M_isFrom k_10_534 [(vL (M (R l0 3) (Int.toNat (w32 ((w32 (60 * l3)) + v5))))), (vL 0), (vL 9999)] rfl rfl (c_M_isFrom e_61) (by decide) (Nat.le_of_ble_eq_true rfl) (by decide +kernel) (Nat.le_refl _) (Nat.le_refl _) ?_
      show XR false 1 174 sc y_M_rowOf (185, [(0, (vR 10 l0)), (1, (vI l1)), (2, (vI l2)), (3, (vI l3)), (4, (vI l4)), (5, (vI v5))], [(vI r_60)], R, M, 174) _
      rcases xif_ex h with ⟨c_62, h⟩ | ⟨c_62, h⟩
      · skip
        refine s_M_rowOf [(185, .ifCond .ne 9, 0, (-1)), (188, .aload_n 0, 0, 0), (189, .iconst 1, 0, 1)] (by decide +kernel) (z' := (190, [(0, (vR 10 l0)), (1, (vI l1)), (2, (vI l2)), (3, (vI l3)), (4, (vI l4)), (5, (vI v5))], [(vI 1), (vR 10 l0)], R, M, 174)) (cs := [¬ (r_60 ≠ 0)]) (by rfl) ⟨fun q => q c_62, trivial⟩ (Nat.le_refl _) ?_
        obtain ⟨r_63, M_64, e_65, h⟩ := xb2_ex h
        refine XR.callV 10 rfl (rest := []) m_M_refuse k_10_377 10 l0 (Or.inl ⟨by decide, rfl⟩) [(vI 1)] rfl rfl (c_M_refuse e_65) (by decide) (Nat.le_of_ble_eq_true rfl) (by decide +kernel) (Nat.le_refl _) (Nat.le_refl _) ?_
        show XR false 1 174 sc y_M_rowOf (193, [(0, (vR 10 l0)), (1, (vI l1)), (2, (vI l2)), (3, (vI l3)), (4, (vI l4)), (5, (vI v5))], [(vI r_63)], R, M_64, 174) _
        obtain rfl := Option.some.inj h
        exact XR.retI .int rfl rfl (by decide +kernel)
      · skip
        obtain ⟨v5_66, hv5_66, h⟩ := xl_ex h
        refine s_M_rowOf [(185, .ifCond .ne 9, 0, 194), (194, .iinc 5 1, 0, 0), (197, .goto (-37), 0, 160)] (by decide +kernel) (z' := (160, [(5, (vI v5_66)), (0, (vR 10 l0)), (1, (vI l1)), (2, (vI l2)), (3, (vI l3)), (4, (vI l4))], [], R, M, 174)) (cs := [r_60 ≠ 0]) (by subst hv5_66; rfl) ⟨c_62, trivial⟩ (Nat.le_refl _) ?_
        refine XR.pick [1, 2, 3, 4, 5, 0] (ls' := [(0, (vR 10 l0)), (1, (vI l1)), (2, (vI l2)), (3, (vI l3)), (4, (vI l4)), (5, (vI v5_66))]) rfl ?_
        exact ih v5_66 M _ h
    · skip
      refine s_M_rowOf [(163, .if_icmp .ge 37, 0, 200)] (by decide +kernel) (z' := (200, [(0, (vR 10 l0)), (1, (vI l1)), (2, (vI l2)), (3, (vI l3)), (4, (vI l4)), (5, (vI v5))], [], R, M, 174)) (cs := [4 ≤ v5]) (by rfl) ⟨Int.not_lt.mp c_58, trivial⟩ (Nat.le_refl _) ?_
      refine XR.pick [0, 1, 2, 3, 4] (ls' := [(0, (vR 10 l0)), (1, (vI l1)), (2, (vI l2)), (3, (vI l3)), (4, (vI l4))]) rfl ?_
      exact hq200 M _ h
set_option maxRecDepth 100000 in
set_option maxHeartbeats 4000000 in
theorem o_M_rowOf_F203 {sc : List Int} {R : xR}   {l0 : Nat} {l1 : Int} {l2 : Int} {l3 : Int} {l4 : Int}  {q237 : xM → Option (Int × xM)} (hq237 : ∀ (M : xM) (out : Int × xM), q237 M = some out → XR false 1 174 sc y_M_rowOf (237, [(0, (vR 10 l0)), (2, (vI l2)), (3, (vI l3)), (4, (vI l4))], [], R, M, 174) ((some (vI out.1)), R, out.2)) : ∀ (n : Nat) (v5 : Int) (M : xM) (out : Int × xM), M_rowOf_F203 R l0 l1 l2 l3 l4 q237 n v5 M = some out → XR false 1 174 sc y_M_rowOf (203, [(0, (vR 10 l0)), (1, (vI l1)), (2, (vI l2)), (3, (vI l3)), (4, (vI l4)), (5, (vI v5))], [], R, M, 174) ((some (vI out.1)), R, out.2) := by
  intro n
  induction n with
  | zero => intro v5 M out h; exact (xno h).elim
  | succ n ih =>
    intro v5 M out h
    rw [M_rowOf_F203] at h
    refine s_M_rowOf [(203, .iload 5, 0, 0), (205, .iconst 5, 0, 5), (206, .iload_n 2, 0, 0), (207, .imul, 0, 0)] (by decide +kernel) (z' := (208, [(0, (vR 10 l0)), (1, (vI l1)), (2, (vI l2)), (3, (vI l3)), (4, (vI l4)), (5, (vI v5))], [(vI (w32 (5 * l2))), (vI v5)], R, M, 174)) (cs := []) (by rfl) trivial (Nat.le_refl _) ?_
    rcases xif_ex h with ⟨c_68, h⟩ | ⟨c_68, h⟩
    · skip
      obtain ⟨c_69, h⟩ := xch_ex h
      obtain ⟨c_70, h⟩ := xch_ex h
      obtain ⟨M_71, hM_71, h⟩ := xl_ex h
      obtain ⟨v5_72, hv5_72, h⟩ := xl_ex h
      refine s_M_rowOf [(208, .if_icmp .ge 29, 0, (-1)), (211, .aload_n 0, 0, 0), (212, .getfield 217, 10, 95), (215, .iload 5, 0, 0), (217, .aload_n 0, 0, 0), (218, .getfield 16, 10, 3), (221, .bipush 60, 0, 60), (223, .iload_n 1, 0, 0), (224, .imul, 0, 0), (225, .iload 5, 0, 0), (227, .iadd, 0, 0), (228, .laload, 0, 0), (229, .l2i, 0, 0), (230, .iastore, 0, 0), (231, .iinc 5 1, 0, 0), (234, .goto (-31), 0, 203)] (by decide +kernel) (z' := (203, [(5, (vI v5_72)), (0, (vR 10 l0)), (1, (vI l1)), (2, (vI l2)), (3, (vI l3)), (4, (vI l4))], [], R, M_71, 174)) (cs := [¬ (w32 (5 * l2) ≤ v5), xar 40 1, xidx (w32 ((w32 (60 * l1)) + v5)) (xan 40), xar 33 0, xidx v5 (xan 33)]) (by subst hM_71; subst hv5_72; rfl) ⟨Int.not_le.mpr c_68, xar_40, xix_40 c_69, xar_33, xix_33 c_70, trivial⟩ (Nat.le_refl _) ?_
      refine XR.pick [1, 2, 3, 4, 5, 0] (ls' := [(0, (vR 10 l0)), (1, (vI l1)), (2, (vI l2)), (3, (vI l3)), (4, (vI l4)), (5, (vI v5_72))]) rfl ?_
      exact ih v5_72 M_71 _ h
    · skip
      refine s_M_rowOf [(208, .if_icmp .ge 29, 0, 237)] (by decide +kernel) (z' := (237, [(0, (vR 10 l0)), (1, (vI l1)), (2, (vI l2)), (3, (vI l3)), (4, (vI l4)), (5, (vI v5))], [], R, M, 174)) (cs := [w32 (5 * l2) ≤ v5]) (by rfl) ⟨Int.not_lt.mp c_68, trivial⟩ (Nat.le_refl _) ?_
      refine XR.pick [0, 2, 3, 4] (ls' := [(0, (vR 10 l0)), (2, (vI l2)), (3, (vI l3)), (4, (vI l4))]) rfl ?_
      exact hq237 M _ h
set_option maxRecDepth 100000 in
set_option maxHeartbeats 4000000 in
theorem o_M_rowOf_F240 {sc : List Int} {R : xR}   {l0 : Nat} {l2 : Int} {l3 : Int} {l4 : Int}  {q272 : xM → Option (Int × xM)} (hq272 : ∀ (M : xM) (out : Int × xM), q272 M = some out → XR false 1 174 sc y_M_rowOf (272, [(0, (vR 10 l0)), (2, (vI l2)), (4, (vI l4))], [], R, M, 174) ((some (vI out.1)), R, out.2)) : ∀ (n : Nat) (v5 : Int) (M : xM) (out : Int × xM), M_rowOf_F240 R l0 l2 l3 l4 q272 n v5 M = some out → XR false 1 174 sc y_M_rowOf (240, [(0, (vR 10 l0)), (2, (vI l2)), (3, (vI l3)), (4, (vI l4)), (5, (vI v5))], [], R, M, 174) ((some (vI out.1)), R, out.2) := by
  intro n
  induction n with
  | zero => intro v5 M out h; exact (xno h).elim
  | succ n ih =>
    intro v5 M out h
    rw [M_rowOf_F240] at h
    refine s_M_rowOf [(240, .iload 5, 0, 0), (242, .iconst 4, 0, 4)] (by decide +kernel) (z' := (243, [(0, (vR 10 l0)), (2, (vI l2)), (3, (vI l3)), (4, (vI l4)), (5, (vI v5))], [(vI 4), (vI v5)], R, M, 174)) (cs := []) (by rfl) trivial (Nat.le_refl _) ?_
    rcases xif_ex h with ⟨c_74, h⟩ | ⟨c_74, h⟩
    · skip
      obtain ⟨c_75, h⟩ := xch_ex h
      obtain ⟨c_76, h⟩ := xch_ex h
      obtain ⟨M_77, hM_77, h⟩ := xl_ex h
      obtain ⟨v5_78, hv5_78, h⟩ := xl_ex h
      refine s_M_rowOf [(243, .if_icmp .ge 29, 0, (-1)), (246, .aload_n 0, 0, 0), (247, .getfield 220, 10, 96), (250, .iload 5, 0, 0), (252, .aload_n 0, 0, 0), (253, .getfield 16, 10, 3), (256, .bipush 60, 0, 60), (258, .iload_n 3, 0, 0), (259, .imul, 0, 0), (260, .iload 5, 0, 0), (262, .iadd, 0, 0), (263, .laload, 0, 0), (264, .l2i, 0, 0), (265, .iastore, 0, 0), (266, .iinc 5 1, 0, 0), (269, .goto (-29), 0, 240)] (by decide +kernel) (z' := (240, [(5, (vI v5_78)), (0, (vR 10 l0)), (2, (vI l2)), (3, (vI l3)), (4, (vI l4))], [], R, M_77, 174)) (cs := [¬ (4 ≤ v5), xar 40 1, xidx (w32 ((w32 (60 * l3)) + v5)) (xan 40), xar 34 0, xidx v5 (xan 34)]) (by subst hM_77; subst hv5_78; rfl) ⟨Int.not_le.mpr c_74, xar_40, xix_40 c_75, xar_34, xix_34 c_76, trivial⟩ (Nat.le_refl _) ?_
      refine XR.pick [1, 2, 3, 4, 0] (ls' := [(0, (vR 10 l0)), (2, (vI l2)), (3, (vI l3)), (4, (vI l4)), (5, (vI v5_78))]) rfl ?_
      exact ih v5_78 M_77 _ h
    · skip
      refine s_M_rowOf [(243, .if_icmp .ge 29, 0, 272)] (by decide +kernel) (z' := (272, [(0, (vR 10 l0)), (2, (vI l2)), (3, (vI l3)), (4, (vI l4)), (5, (vI v5))], [], R, M, 174)) (cs := [4 ≤ v5]) (by rfl) ⟨Int.not_lt.mp c_74, trivial⟩ (Nat.le_refl _) ?_
      refine XR.pick [0, 1, 3] (ls' := [(0, (vR 10 l0)), (2, (vI l2)), (4, (vI l4))]) rfl ?_
      exact hq272 M _ h
set_option maxRecDepth 100000 in
set_option maxHeartbeats 4000000 in
theorem o_M_rowOf_J399 {sc : List Int} {R : xR}   {l0 : Nat} {l2 : Int} {l4 : Int}  {rc : Int → Int → Int → Int → Int → Int → Int → Int → Int → Int → xM → Option (Int × xM)} {q407 : Int → Int → Int → Int → Int → Int → Int → Int → Int → xM → Option (Int × xM)} (hrc : ∀ (w5 : Int) (w6 : Int) (w7 : Int) (w8 : Int) (w9 : Int) (w10 : Int) (w11 : Int) (w12 : Int) (w13 : Int) (w14 : Int) (M : xM) (out : Int × xM), rc w5 w6 w7 w8 w9 w10 w11 w12 w13 w14 M = some out → XR false 1 174 sc y_M_rowOf (365, [(0, (vR 10 l0)), (2, (vI l2)), (4, (vI l4)), (5, (vI w5)), (6, (vI w6)), (7, (vI w7)), (8, (vI w8)), (9, (vI w9)), (10, (vI w10)), (11, (vI w11)), (12, (vI w12)), (13, (vI w13)), (14, (vI w14))], [], R, M, 174) ((some (vI out.1)), R, out.2)) (hq407 : ∀ (w5 : Int) (w6 : Int) (w7 : Int) (w8 : Int) (w9 : Int) (w10 : Int) (w11 : Int) (w12 : Int) (w13 : Int) (M : xM) (out : Int × xM), q407 w5 w6 w7 w8 w9 w10 w11 w12 w13 M = some out → XR false 1 174 sc y_M_rowOf (407, [(0, (vR 10 l0)), (2, (vI l2)), (4, (vI l4)), (5, (vI w5)), (6, (vI w6)), (7, (vI w7)), (8, (vI w8)), (9, (vI w9)), (10, (vI w10)), (11, (vI w11)), (12, (vI w12)), (13, (vI w13))], [], R, M, 174) ((some (vI out.1)), R, out.2)) {v5 : Int} {v6 : Int} {v7 : Int} {v8 : Int} {v9 : Int} {v10 : Int} {v11 : Int} {v13 : Int} {v14 : Int} {s0 : Int} {M : xM} {out : Int × xM} (h : M_rowOf_J399 R l0 l2 l4 rc q407 v5 v6 v7 v8 v9 v10 v11 v13 v14 s0 M = some out) : XR false 1 174 sc y_M_rowOf (399, [(0, (vR 10 l0)), (2, (vI l2)), (4, (vI l4)), (5, (vI v5)), (6, (vI v6)), (7, (vI v7)), (8, (vI v8)), (9, (vI v9)), (10, (vI v10)), (11, (vI v11)), (13, (vI v13)), (14, (vI v14))], [(vI s0)], R, M, 174) ((some (vI out.1)), R, out.2) := by
  unfold M_rowOf_J399 at h
  obtain ⟨v14_93, hv14_93, h⟩ := xl_ex h
  refine s_M_rowOf [(399, .istore 12, 0, 0), (401, .iinc 14 1, 0, 0), (404, .goto (-39), 0, 365)] (by decide +kernel) (z' := (365, [(14, (vI v14_93)), (12, (vI s0)), (0, (vR 10 l0)), (2, (vI l2)), (4, (vI l4)), (5, (vI v5)), (6, (vI v6)), (7, (vI v7)), (8, (vI v8)), (9, (vI v9)), (10, (vI v10)), (11, (vI v11)), (13, (vI v13))], [], R, M, 174)) (cs := []) (by subst hv14_93; rfl) trivial (Nat.le_refl _) ?_
  refine XR.pick [2, 3, 4, 5, 6, 7, 8, 9, 10, 11, 1, 12, 0] (ls' := [(0, (vR 10 l0)), (2, (vI l2)), (4, (vI l4)), (5, (vI v5)), (6, (vI v6)), (7, (vI v7)), (8, (vI v8)), (9, (vI v9)), (10, (vI v10)), (11, (vI v11)), (12, (vI s0)), (13, (vI v13)), (14, (vI v14_93))]) rfl ?_
  exact hrc v5 v6 v7 v8 v9 v10 v11 s0 v13 v14_93 M _ h
set_option maxRecDepth 100000 in
set_option maxHeartbeats 4000000 in
theorem o_M_rowOf_F365 {sc : List Int} {R : xR}   {l0 : Nat} {l2 : Int} {l4 : Int}  {q407 : Int → Int → Int → Int → Int → Int → Int → Int → Int → xM → Option (Int × xM)} (hq407 : ∀ (w5 : Int) (w6 : Int) (w7 : Int) (w8 : Int) (w9 : Int) (w10 : Int) (w11 : Int) (w12 : Int) (w13 : Int) (M : xM) (out : Int × xM), q407 w5 w6 w7 w8 w9 w10 w11 w12 w13 M = some out → XR false 1 174 sc y_M_rowOf (407, [(0, (vR 10 l0)), (2, (vI l2)), (4, (vI l4)), (5, (vI w5)), (6, (vI w6)), (7, (vI w7)), (8, (vI w8)), (9, (vI w9)), (10, (vI w10)), (11, (vI w11)), (12, (vI w12)), (13, (vI w13))], [], R, M, 174) ((some (vI out.1)), R, out.2)) : ∀ (n : Nat) (v5 : Int) (v6 : Int) (v7 : Int) (v8 : Int) (v9 : Int) (v10 : Int) (v11 : Int) (v12 : Int) (v13 : Int) (v14 : Int) (M : xM) (out : Int × xM), M_rowOf_F365 R l0 l2 l4 q407 n v5 v6 v7 v8 v9 v10 v11 v12 v13 v14 M = some out → XR false 1 174 sc y_M_rowOf (365, [(0, (vR 10 l0)), (2, (vI l2)), (4, (vI l4)), (5, (vI v5)), (6, (vI v6)), (7, (vI v7)), (8, (vI v8)), (9, (vI v9)), (10, (vI v10)), (11, (vI v11)), (12, (vI v12)), (13, (vI v13)), (14, (vI v14))], [], R, M, 174) ((some (vI out.1)), R, out.2) := by
  intro n
  induction n with
  | zero => intro v5 v6 v7 v8 v9 v10 v11 v12 v13 v14 M out h; exact (xno h).elim
  | succ n ih =>
    intro v5 v6 v7 v8 v9 v10 v11 v12 v13 v14 M out h
    rw [M_rowOf_F365] at h
    refine s_M_rowOf [(365, .iload 14, 0, 0), (367, .iload 8, 0, 0)] (by decide +kernel) (z' := (369, [(0, (vR 10 l0)), (2, (vI l2)), (4, (vI l4)), (5, (vI v5)), (6, (vI v6)), (7, (vI v7)), (8, (vI v8)), (9, (vI v9)), (10, (vI v10)), (11, (vI v11)), (12, (vI v12)), (13, (vI v13)), (14, (vI v14))], [(vI v8), (vI v14)], R, M, 174)) (cs := []) (by rfl) trivial (Nat.le_refl _) ?_
    rcases xif_ex h with ⟨c_91, h⟩ | ⟨c_91, h⟩
    · skip
      refine s_M_rowOf [(369, .if_icmp .ge 38, 0, (-1)), (372, .iload 12, 0, 0)] (by decide +kernel) (z' := (374, [(0, (vR 10 l0)), (2, (vI l2)), (4, (vI l4)), (5, (vI v5)), (6, (vI v6)), (7, (vI v7)), (8, (vI v8)), (9, (vI v9)), (10, (vI v10)), (11, (vI v11)), (12, (vI v12)), (13, (vI v13)), (14, (vI v14))], [(vI v12)], R, M, 174)) (cs := [¬ (v8 ≤ v14)]) (by rfl) ⟨Int.not_le.mpr c_91, trivial⟩ (Nat.le_refl _) ?_
      rcases xif_ex h with ⟨c_92, h⟩ | ⟨c_92, h⟩
      · skip
        refine s_M_rowOf [(374, .ifCond .eq 24, 0, 398), (398, .iconst 0, 0, 0)] (by decide +kernel) (z' := (399, [(0, (vR 10 l0)), (2, (vI l2)), (4, (vI l4)), (5, (vI v5)), (6, (vI v6)), (7, (vI v7)), (8, (vI v8)), (9, (vI v9)), (10, (vI v10)), (11, (vI v11)), (12, (vI v12)), (13, (vI v13)), (14, (vI v14))], [(vI 0)], R, M, 174)) (cs := [v12 = 0]) (by rfl) ⟨c_92, trivial⟩ (Nat.le_refl _) ?_
        refine XR.pick [0, 1, 2, 3, 4, 5, 6, 7, 8, 9, 11, 12] (ls' := [(0, (vR 10 l0)), (2, (vI l2)), (4, (vI l4)), (5, (vI v5)), (6, (vI v6)), (7, (vI v7)), (8, (vI v8)), (9, (vI v9)), (10, (vI v10)), (11, (vI v11)), (13, (vI v13)), (14, (vI v14))]) rfl ?_
        exact o_M_rowOf_J399 ih hq407 h
      · skip
        obtain ⟨c_94, h⟩ := xch_ex h
        obtain ⟨c_95, h⟩ := xch_ex h
        refine s_M_rowOf [(374, .ifCond .eq 24, 0, (-1)), (377, .aload_n 0, 0, 0), (378, .getfield 223, 10, 97), (381, .iload 14, 0, 0), (383, .iaload, 0, 0), (384, .aload_n 0, 0, 0), (385, .getfield 223, 10, 97), (388, .iload 13, 0, 0), (390, .iaload, 0, 0)] (by decide +kernel) (z' := (391, [(0, (vR 10 l0)), (2, (vI l2)), (4, (vI l4)), (5, (vI v5)), (6, (vI v6)), (7, (vI v7)), (8, (vI v8)), (9, (vI v9)), (10, (vI v10)), (11, (vI v11)), (12, (vI v12)), (13, (vI v13)), (14, (vI v14))], [(vI (M (R l0 97) (Int.toNat v13))), (vI (M (R l0 97) (Int.toNat v14)))], R, M, 174)) (cs := [¬ (v12 = 0), xar 34 0, xidx v14 (xan 34), xar 34 0, xidx v13 (xan 34)]) (by rfl) ⟨c_92, xar_34, xix_34 c_94, xar_34, xix_34 c_95, trivial⟩ (Nat.le_refl _) ?_
        rcases xif_ex h with ⟨c_96, h⟩ | ⟨c_96, h⟩
        · skip
          refine s_M_rowOf [(391, .if_icmp .eq 7, 0, 398), (398, .iconst 0, 0, 0)] (by decide +kernel) (z' := (399, [(0, (vR 10 l0)), (2, (vI l2)), (4, (vI l4)), (5, (vI v5)), (6, (vI v6)), (7, (vI v7)), (8, (vI v8)), (9, (vI v9)), (10, (vI v10)), (11, (vI v11)), (12, (vI v12)), (13, (vI v13)), (14, (vI v14))], [(vI 0)], R, M, 174)) (cs := [M (R l0 97) (Int.toNat v14) = M (R l0 97) (Int.toNat v13)]) (by rfl) ⟨c_96, trivial⟩ (Nat.le_refl _) ?_
          refine XR.pick [0, 1, 2, 3, 4, 5, 6, 7, 8, 9, 11, 12] (ls' := [(0, (vR 10 l0)), (2, (vI l2)), (4, (vI l4)), (5, (vI v5)), (6, (vI v6)), (7, (vI v7)), (8, (vI v8)), (9, (vI v9)), (10, (vI v10)), (11, (vI v11)), (13, (vI v13)), (14, (vI v14))]) rfl ?_
          exact o_M_rowOf_J399 ih hq407 h
        · skip
          refine s_M_rowOf [(391, .if_icmp .eq 7, 0, (-1)), (394, .iconst 1, 0, 1), (395, .goto 4, 0, 399)] (by decide +kernel) (z' := (399, [(0, (vR 10 l0)), (2, (vI l2)), (4, (vI l4)), (5, (vI v5)), (6, (vI v6)), (7, (vI v7)), (8, (vI v8)), (9, (vI v9)), (10, (vI v10)), (11, (vI v11)), (12, (vI v12)), (13, (vI v13)), (14, (vI v14))], [(vI 1)], R, M, 174)) (cs := [¬ (M (R l0 97) (Int.toNat v14) = M (R l0 97) (Int.toNat v13))]) (by rfl) ⟨c_96, trivial⟩ (Nat.le_refl _) ?_
          refine XR.pick [0, 1, 2, 3, 4, 5, 6, 7, 8, 9, 11, 12] (ls' := [(0, (vR 10 l0)), (2, (vI l2)), (4, (vI l4)), (5, (vI v5)), (6, (vI v6)), (7, (vI v7)), (8, (vI v8)), (9, (vI v9)), (10, (vI v10)), (11, (vI v11)), (13, (vI v13)), (14, (vI v14))]) rfl ?_
          exact o_M_rowOf_J399 ih hq407 h
    · skip
      refine s_M_rowOf [(369, .if_icmp .ge 38, 0, 407)] (by decide +kernel) (z' := (407, [(0, (vR 10 l0)), (2, (vI l2)), (4, (vI l4)), (5, (vI v5)), (6, (vI v6)), (7, (vI v7)), (8, (vI v8)), (9, (vI v9)), (10, (vI v10)), (11, (vI v11)), (12, (vI v12)), (13, (vI v13)), (14, (vI v14))], [], R, M, 174)) (cs := [v8 ≤ v14]) (by rfl) ⟨Int.not_lt.mp c_91, trivial⟩ (Nat.le_refl _) ?_
      refine XR.pick [0, 1, 2, 3, 4, 5, 6, 7, 8, 9, 10, 11] (ls' := [(0, (vR 10 l0)), (2, (vI l2)), (4, (vI l4)), (5, (vI v5)), (6, (vI v6)), (7, (vI v7)), (8, (vI v8)), (9, (vI v9)), (10, (vI v10)), (11, (vI v11)), (12, (vI v12)), (13, (vI v13))]) rfl ?_
      exact hq407 v5 v6 v7 v8 v9 v10 v11 v12 v13 M _ h
set_option maxRecDepth 100000 in
set_option maxHeartbeats 4000000 in
theorem o_M_rowOf_F316 {sc : List Int} {R : xR}   {l0 : Nat} {l2 : Int} {l4 : Int}  {q413 : Int → Int → Int → Int → Int → Int → Int → xM → Option (Int × xM)} (hq413 : ∀ (w5 : Int) (w6 : Int) (w7 : Int) (w8 : Int) (w9 : Int) (w11 : Int) (w12 : Int) (M : xM) (out : Int × xM), q413 w5 w6 w7 w8 w9 w11 w12 M = some out → XR false 1 174 sc y_M_rowOf (413, [(0, (vR 10 l0)), (2, (vI l2)), (4, (vI l4)), (5, (vI w5)), (6, (vI w6)), (7, (vI w7)), (8, (vI w8)), (9, (vI w9)), (11, (vI w11)), (12, (vI w12))], [], R, M, 174) ((some (vI out.1)), R, out.2)) : ∀ (n : Nat) (v5 : Int) (v6 : Int) (v7 : Int) (v8 : Int) (v9 : Int) (v10 : Int) (v11 : Int) (v12 : Int) (v13 : Int) (M : xM) (out : Int × xM), M_rowOf_F316 R l0 l2 l4 q413 n v5 v6 v7 v8 v9 v10 v11 v12 v13 M = some out → XR false 1 174 sc y_M_rowOf (316, [(0, (vR 10 l0)), (2, (vI l2)), (4, (vI l4)), (5, (vI v5)), (6, (vI v6)), (7, (vI v7)), (8, (vI v8)), (9, (vI v9)), (10, (vI v10)), (11, (vI v11)), (12, (vI v12)), (13, (vI v13))], [], R, M, 174) ((some (vI out.1)), R, out.2) := by
  intro n
  induction n with
  | zero => intro v5 v6 v7 v8 v9 v10 v11 v12 v13 M out h; exact (xno h).elim
  | succ n ih =>
    intro v5 v6 v7 v8 v9 v10 v11 v12 v13 M out h
    rw [M_rowOf_F316] at h
    refine s_M_rowOf [(316, .iload 13, 0, 0)] (by decide +kernel) (z' := (318, [(0, (vR 10 l0)), (2, (vI l2)), (4, (vI l4)), (5, (vI v5)), (6, (vI v6)), (7, (vI v7)), (8, (vI v8)), (9, (vI v9)), (10, (vI v10)), (11, (vI v11)), (12, (vI v12)), (13, (vI v13))], [(vI v13)], R, M, 174)) (cs := []) (by rfl) trivial (Nat.le_refl _) ?_
    rcases xif_ex h with ⟨c_83, h⟩ | ⟨c_83, h⟩
    · skip
      refine s_M_rowOf [(318, .ifCond .lt 95, 0, 413)] (by decide +kernel) (z' := (413, [(0, (vR 10 l0)), (2, (vI l2)), (4, (vI l4)), (5, (vI v5)), (6, (vI v6)), (7, (vI v7)), (8, (vI v8)), (9, (vI v9)), (10, (vI v10)), (11, (vI v11)), (12, (vI v12)), (13, (vI v13))], [], R, M, 174)) (cs := [v13 < 0]) (by rfl) ⟨c_83, trivial⟩ (Nat.le_refl _) ?_
      refine XR.pick [0, 1, 2, 3, 4, 5, 6, 7, 9, 10] (ls' := [(0, (vR 10 l0)), (2, (vI l2)), (4, (vI l4)), (5, (vI v5)), (6, (vI v6)), (7, (vI v7)), (8, (vI v8)), (9, (vI v9)), (11, (vI v11)), (12, (vI v12))]) rfl ?_
      exact hq413 v5 v6 v7 v8 v9 v11 v12 M _ h
    · skip
      obtain ⟨c_84, h⟩ := xch_ex h
      obtain ⟨c_85, h⟩ := xch_ex h
      obtain ⟨M_86, hM_86, h⟩ := xl_ex h
      obtain ⟨v10_87, hv10_87, h⟩ := xl_ex h
      obtain ⟨c_88, h⟩ := xch_ex h
      obtain ⟨v11_89, hv11_89, h⟩ := xl_ex h
      obtain ⟨v14_90, hv14_90, h⟩ := xl_ex h
      refine s_M_rowOf [(318, .ifCond .lt 95, 0, (-1)), (321, .aload_n 0, 0, 0), (322, .getfield 223, 10, 97), (325, .iload 13, 0, 0), (327, .iload 10, 0, 0), (329, .iload_n 2, 0, 0), (330, .irem, 0, 0), (331, .iastore, 0, 0), (332, .iload 10, 0, 0), (334, .iload_n 2, 0, 0), (335, .idiv, 0, 0), (336, .istore 10, 0, 0), (338, .iload 11, 0, 0), (340, .aload_n 0, 0, 0), (341, .getfield 217, 10, 95), (344, .iconst 5, 0, 5), (345, .aload_n 0, 0, 0), (346, .getfield 223, 10, 97), (349, .iload 13, 0, 0), (351, .iaload, 0, 0), (352, .imul, 0, 0), (353, .iconst 4, 0, 4), (354, .iadd, 0, 0), (355, .iaload, 0, 0), (356, .iadd, 0, 0), (357, .istore 11, 0, 0), (359, .iload 13, 0, 0), (361, .iconst 1, 0, 1), (362, .iadd, 0, 0), (363, .istore 14, 0, 0)] (by decide +kernel) (z' := (365, [(14, (vI v14_90)), (11, (vI v11_89)), (10, (vI v10_87)), (0, (vR 10 l0)), (2, (vI l2)), (4, (vI l4)), (5, (vI v5)), (6, (vI v6)), (7, (vI v7)), (8, (vI v8)), (9, (vI v9)), (12, (vI v12)), (13, (vI v13))], [], R, M_86, 174)) (cs := [¬ (v13 < 0), l2 ≠ 0, xar 34 0, xidx v13 (xan 34), l2 ≠ 0, xar 34 0, xidx v13 (xan 34), xar 33 0, xidx (w32 ((w32 (5 * (M_86 (R l0 97) (Int.toNat v13)))) + 4)) (xan 33)]) (by subst hM_86; subst hv10_87; subst hv11_89; subst hv14_90; rfl) ⟨c_83, c_84, xar_34, xix_34 c_85, c_84, xar_34, xix_34 c_85, xar_33, xix_33 c_88, trivial⟩ (Nat.le_refl _) ?_
      refine XR.pick [3, 4, 5, 6, 7, 8, 9, 10, 2, 1, 11, 12, 0] (ls' := [(0, (vR 10 l0)), (2, (vI l2)), (4, (vI l4)), (5, (vI v5)), (6, (vI v6)), (7, (vI v7)), (8, (vI v8)), (9, (vI v9)), (10, (vI v10_87)), (11, (vI v11_89)), (12, (vI v12)), (13, (vI v13)), (14, (vI v14_90))]) rfl ?_
      refine o_M_rowOf_F365 ?_ xfu v5 v6 v7 v8 v9 v10_87 v11_89 v12 v13 v14_90 M_86 _ h
      · intro v5_97 v6_98 v7_99 v8_100 v9_101 v10_102 v11_103 v12_104 v13_105 M_106 out h
        obtain ⟨v13_107, hv13_107, h⟩ := xl_ex h
        refine s_M_rowOf [(407, .iinc 13 (-1), 0, 0), (410, .goto (-94), 0, 316)] (by decide +kernel) (z' := (316, [(13, (vI v13_107)), (0, (vR 10 l0)), (2, (vI l2)), (4, (vI l4)), (5, (vI v5_97)), (6, (vI v6_98)), (7, (vI v7_99)), (8, (vI v8_100)), (9, (vI v9_101)), (10, (vI v10_102)), (11, (vI v11_103)), (12, (vI v12_104))], [], R, M_106, 174)) (cs := []) (by subst hv13_107; rfl) trivial (Nat.le_refl _) ?_
        refine XR.pick [1, 2, 3, 4, 5, 6, 7, 8, 9, 10, 11, 0] (ls' := [(0, (vR 10 l0)), (2, (vI l2)), (4, (vI l4)), (5, (vI v5_97)), (6, (vI v6_98)), (7, (vI v7_99)), (8, (vI v8_100)), (9, (vI v9_101)), (10, (vI v10_102)), (11, (vI v11_103)), (12, (vI v12_104)), (13, (vI v13_107))]) rfl ?_
        exact ih v5_97 v6_98 v7_99 v8_100 v9_101 v10_102 v11_103 v12_104 v13_107 M_106 _ h
set_option maxRecDepth 100000 in
set_option maxHeartbeats 4000000 in
theorem o_M_rowOf_J483 {sc : List Int} {R : xR}   {l0 : Nat} {l2 : Int} {l4 : Int}  {rc : Int → Int → Int → Int → Int → xM → Option (Int × xM)} {q489 : Int → Int → Int → Int → xM → Option (Int × xM)} (hrc : ∀ (w5 : Int) (w6 : Int) (w7 : Int) (w8 : Int) (w9 : Int) (M : xM) (out : Int × xM), rc w5 w6 w7 w8 w9 M = some out → XR false 1 174 sc y_M_rowOf (293, [(0, (vR 10 l0)), (2, (vI l2)), (4, (vI l4)), (5, (vI w5)), (6, (vI w6)), (7, (vI w7)), (8, (vI w8)), (9, (vI w9))], [], R, M, 174) ((some (vI out.1)), R, out.2)) (hq489 : ∀ (w5 : Int) (w6 : Int) (w7 : Int) (w8 : Int) (M : xM) (out : Int × xM), q489 w5 w6 w7 w8 M = some out → XR false 1 174 sc y_M_rowOf (489, [(0, (vR 10 l0)), (2, (vI l2)), (4, (vI l4)), (5, (vI w5)), (6, (vI w6)), (7, (vI w7)), (8, (vI w8))], [], R, M, 174) ((some (vI out.1)), R, out.2)) {v5 : Int} {v6 : Int} {v7 : Int} {v8 : Int} {v9 : Int} {M : xM} {out : Int × xM} (h : M_rowOf_J483 R l0 l2 l4 rc q489 v5 v6 v7 v8 v9 M = some out) : XR false 1 174 sc y_M_rowOf (483, [(0, (vR 10 l0)), (2, (vI l2)), (4, (vI l4)), (5, (vI v5)), (6, (vI v6)), (7, (vI v7)), (8, (vI v8)), (9, (vI v9))], [], R, M, 174) ((some (vI out.1)), R, out.2) := by
  unfold M_rowOf_J483 at h
  obtain ⟨v9_117, hv9_117, h⟩ := xl_ex h
  refine s_M_rowOf [(483, .iinc 9 1, 0, 0), (486, .goto (-193), 0, 293)] (by decide +kernel) (z' := (293, [(9, (vI v9_117)), (0, (vR 10 l0)), (2, (vI l2)), (4, (vI l4)), (5, (vI v5)), (6, (vI v6)), (7, (vI v7)), (8, (vI v8))], [], R, M, 174)) (cs := []) (by subst hv9_117; rfl) trivial (Nat.le_refl _) ?_
  refine XR.pick [1, 2, 3, 4, 5, 6, 7, 0] (ls' := [(0, (vR 10 l0)), (2, (vI l2)), (4, (vI l4)), (5, (vI v5)), (6, (vI v6)), (7, (vI v7)), (8, (vI v8)), (9, (vI v9_117))]) rfl ?_
  exact hrc v5 v6 v7 v8 v9_117 M _ h
set_option maxRecDepth 100000 in
set_option maxHeartbeats 4000000 in
theorem o_M_rowOf_F456 {sc : List Int} {R : xR}   {l0 : Nat} {l2 : Int} {l4 : Int}  {q483 : Int → Int → Int → Int → Int → xM → Option (Int × xM)} (hq483 : ∀ (w5 : Int) (w6 : Int) (w7 : Int) (w8 : Int) (w9 : Int) (M : xM) (out : Int × xM), q483 w5 w6 w7 w8 w9 M = some out → XR false 1 174 sc y_M_rowOf (483, [(0, (vR 10 l0)), (2, (vI l2)), (4, (vI l4)), (5, (vI w5)), (6, (vI w6)), (7, (vI w7)), (8, (vI w8)), (9, (vI w9))], [], R, M, 174) ((some (vI out.1)), R, out.2)) : ∀ (n : Nat) (v5 : Int) (v6 : Int) (v7 : Int) (v8 : Int) (v9 : Int) (v13 : Int) (M : xM) (out : Int × xM), M_rowOf_F456 R l0 l2 l4 q483 n v5 v6 v7 v8 v9 v13 M = some out → XR false 1 174 sc y_M_rowOf (456, [(0, (vR 10 l0)), (2, (vI l2)), (4, (vI l4)), (5, (vI v5)), (6, (vI v6)), (7, (vI v7)), (8, (vI v8)), (9, (vI v9)), (13, (vI v13))], [], R, M, 174) ((some (vI out.1)), R, out.2) := by
  intro n
  induction n with
  | zero => intro v5 v6 v7 v8 v9 v13 M out h; exact (xno h).elim
  | succ n ih =>
    intro v5 v6 v7 v8 v9 v13 M out h
    rw [M_rowOf_F456] at h
    refine s_M_rowOf [(456, .iload 13, 0, 0), (458, .iload 8, 0, 0)] (by decide +kernel) (z' := (460, [(0, (vR 10 l0)), (2, (vI l2)), (4, (vI l4)), (5, (vI v5)), (6, (vI v6)), (7, (vI v7)), (8, (vI v8)), (9, (vI v9)), (13, (vI v13))], [(vI v8), (vI v13)], R, M, 174)) (cs := []) (by rfl) trivial (Nat.le_refl _) ?_
    rcases xif_ex h with ⟨c_122, h⟩ | ⟨c_122, h⟩
    · skip
      obtain ⟨c_123, h⟩ := xch_ex h
      obtain ⟨M_124, hM_124, h⟩ := xl_ex h
      obtain ⟨v13_125, hv13_125, h⟩ := xl_ex h
      refine s_M_rowOf [(460, .if_icmp .ge 23, 0, (-1)), (463, .aload_n 0, 0, 0), (464, .getfield 232, 10, 100), (467, .iload 13, 0, 0), (469, .aload_n 0, 0, 0), (470, .getfield 223, 10, 97), (473, .iload 13, 0, 0), (475, .iaload, 0, 0), (476, .iastore, 0, 0), (477, .iinc 13 1, 0, 0), (480, .goto (-24), 0, 456)] (by decide +kernel) (z' := (456, [(13, (vI v13_125)), (0, (vR 10 l0)), (2, (vI l2)), (4, (vI l4)), (5, (vI v5)), (6, (vI v6)), (7, (vI v7)), (8, (vI v8)), (9, (vI v9))], [], R, M_124, 174)) (cs := [¬ (v8 ≤ v13), xar 34 0, xidx v13 (xan 34), xar 34 0, xidx v13 (xan 34)]) (by subst hM_124; subst hv13_125; rfl) ⟨Int.not_le.mpr c_122, xar_34, xix_34 c_123, xar_34, xix_34 c_123, trivial⟩ (Nat.le_refl _) ?_
      refine XR.pick [1, 2, 3, 4, 5, 6, 7, 8, 0] (ls' := [(0, (vR 10 l0)), (2, (vI l2)), (4, (vI l4)), (5, (vI v5)), (6, (vI v6)), (7, (vI v7)), (8, (vI v8)), (9, (vI v9)), (13, (vI v13_125))]) rfl ?_
      exact ih v5 v6 v7 v8 v9 v13_125 M_124 _ h
    · skip
      refine s_M_rowOf [(460, .if_icmp .ge 23, 0, 483)] (by decide +kernel) (z' := (483, [(0, (vR 10 l0)), (2, (vI l2)), (4, (vI l4)), (5, (vI v5)), (6, (vI v6)), (7, (vI v7)), (8, (vI v8)), (9, (vI v9)), (13, (vI v13))], [], R, M, 174)) (cs := [v8 ≤ v13]) (by rfl) ⟨Int.not_lt.mp c_122, trivial⟩ (Nat.le_refl _) ?_
      refine XR.pick [0, 1, 2, 3, 4, 5, 6, 7] (ls' := [(0, (vR 10 l0)), (2, (vI l2)), (4, (vI l4)), (5, (vI v5)), (6, (vI v6)), (7, (vI v7)), (8, (vI v8)), (9, (vI v9))]) rfl ?_
      exact hq483 v5 v6 v7 v8 v9 M _ h
set_option maxRecDepth 100000 in
set_option maxHeartbeats 4000000 in
theorem o_M_rowOf_J431 {sc : List Int} {R : xR}   {l0 : Nat} {l2 : Int} {l4 : Int}  {rc : Int → Int → Int → Int → Int → xM → Option (Int × xM)} {q489 : Int → Int → Int → Int → xM → Option (Int × xM)} (hrc : ∀ (w5 : Int) (w6 : Int) (w7 : Int) (w8 : Int) (w9 : Int) (M : xM) (out : Int × xM), rc w5 w6 w7 w8 w9 M = some out → XR false 1 174 sc y_M_rowOf (293, [(0, (vR 10 l0)), (2, (vI l2)), (4, (vI l4)), (5, (vI w5)), (6, (vI w6)), (7, (vI w7)), (8, (vI w8)), (9, (vI w9))], [], R, M, 174) ((some (vI out.1)), R, out.2)) (hq489 : ∀ (w5 : Int) (w6 : Int) (w7 : Int) (w8 : Int) (M : xM) (out : Int × xM), q489 w5 w6 w7 w8 M = some out → XR false 1 174 sc y_M_rowOf (489, [(0, (vR 10 l0)), (2, (vI l2)), (4, (vI l4)), (5, (vI w5)), (6, (vI w6)), (7, (vI w7)), (8, (vI w8))], [], R, M, 174) ((some (vI out.1)), R, out.2)) {v5 : Int} {v6 : Int} {v7 : Int} {v8 : Int} {v9 : Int} {v11 : Int} {M : xM} {out : Int × xM} (h : M_rowOf_J431 R l0 l2 l4 rc q489 v5 v6 v7 v8 v9 v11 M = some out) : XR false 1 174 sc y_M_rowOf (431, [(0, (vR 10 l0)), (2, (vI l2)), (4, (vI l4)), (5, (vI v5)), (6, (vI v6)), (7, (vI v7)), (8, (vI v8)), (9, (vI v9)), (11, (vI v11))], [], R, M, 174) ((some (vI out.1)), R, out.2) := by
  unfold M_rowOf_J431 at h
  refine s_M_rowOf [(431, .aload_n 0, 0, 0), (432, .iload 8, 0, 0)] (by decide +kernel) (z' := (434, [(0, (vR 10 l0)), (2, (vI l2)), (4, (vI l4)), (5, (vI v5)), (6, (vI v6)), (7, (vI v7)), (8, (vI v8)), (9, (vI v9)), (11, (vI v11))], [(vI v8), (vR 10 l0)], R, M, 174)) (cs := []) (by rfl) trivial (Nat.le_refl _) ?_
  obtain ⟨r_119, e_120, h⟩ := xb1_ex h
  refine XR.callV 10 rfl (rest := []) m_M_passes k_10_540 10 l0 (Or.inl ⟨by decide, rfl⟩) [(vI v8)] rfl rfl (c_M_passes e_120) (by decide) (Nat.le_of_ble_eq_true rfl) (by decide +kernel) (Nat.le_refl _) (Nat.le_refl _) ?_
  show XR false 1 174 sc y_M_rowOf (437, [(0, (vR 10 l0)), (2, (vI l2)), (4, (vI l4)), (5, (vI v5)), (6, (vI v6)), (7, (vI v7)), (8, (vI v8)), (9, (vI v9)), (11, (vI v11))], [(vI r_119)], R, M, 174) _
  refine s_M_rowOf [(437, .iload 4, 0, 0)] (by decide +kernel) (z' := (439, [(0, (vR 10 l0)), (2, (vI l2)), (4, (vI l4)), (5, (vI v5)), (6, (vI v6)), (7, (vI v7)), (8, (vI v8)), (9, (vI v9)), (11, (vI v11))], [(vI l4), (vI r_119)], R, M, 174)) (cs := []) (by rfl) trivial (Nat.le_refl _) ?_
  rcases xif_ex h with ⟨c_121, h⟩ | ⟨c_121, h⟩
  · skip
    refine s_M_rowOf [(439, .if_icmp .le 6, 0, (-1)), (442, .goto 41, 0, 483)] (by decide +kernel) (z' := (483, [(0, (vR 10 l0)), (2, (vI l2)), (4, (vI l4)), (5, (vI v5)), (6, (vI v6)), (7, (vI v7)), (8, (vI v8)), (9, (vI v9)), (11, (vI v11))], [], R, M, 174)) (cs := [¬ (r_119 ≤ l4)]) (by rfl) ⟨Int.not_le.mpr c_121, trivial⟩ (Nat.le_refl _) ?_
    refine XR.pick [0, 1, 2, 3, 4, 5, 6, 7] (ls' := [(0, (vR 10 l0)), (2, (vI l2)), (4, (vI l4)), (5, (vI v5)), (6, (vI v6)), (7, (vI v7)), (8, (vI v8)), (9, (vI v9))]) rfl ?_
    exact o_M_rowOf_J483 hrc hq489 h
  · skip
    refine s_M_rowOf [(439, .if_icmp .le 6, 0, 445), (445, .iload 11, 0, 0), (447, .istore 5, 0, 0), (449, .iload 8, 0, 0), (451, .istore 6, 0, 0), (453, .iconst 0, 0, 0), (454, .istore 13, 0, 0)] (by decide +kernel) (z' := (456, [(13, (vI 0)), (6, (vI v8)), (5, (vI v11)), (0, (vR 10 l0)), (2, (vI l2)), (4, (vI l4)), (7, (vI v7)), (8, (vI v8)), (9, (vI v9)), (11, (vI v11))], [], R, M, 174)) (cs := [r_119 ≤ l4]) (by rfl) ⟨Int.not_lt.mp c_121, trivial⟩ (Nat.le_refl _) ?_
    refine XR.pick [3, 4, 5, 2, 1, 6, 7, 8, 0] (ls' := [(0, (vR 10 l0)), (2, (vI l2)), (4, (vI l4)), (5, (vI v11)), (6, (vI v8)), (7, (vI v7)), (8, (vI v8)), (9, (vI v9)), (13, (vI 0))]) rfl ?_
    refine o_M_rowOf_F456 ?_ xfu v11 v8 v7 v8 v9 0 M _ h
    · intro v5_126 v6_127 v7_128 v8_129 v9_130 M_131 out h
      exact o_M_rowOf_J483 hrc hq489 h
set_option maxRecDepth 100000 in
set_option maxHeartbeats 4000000 in
theorem o_M_rowOf_F293 {sc : List Int} {R : xR}   {l0 : Nat} {l2 : Int} {l4 : Int}  {q489 : Int → Int → Int → Int → xM → Option (Int × xM)} (hq489 : ∀ (w5 : Int) (w6 : Int) (w7 : Int) (w8 : Int) (M : xM) (out : Int × xM), q489 w5 w6 w7 w8 M = some out → XR false 1 174 sc y_M_rowOf (489, [(0, (vR 10 l0)), (2, (vI l2)), (4, (vI l4)), (5, (vI w5)), (6, (vI w6)), (7, (vI w7)), (8, (vI w8))], [], R, M, 174) ((some (vI out.1)), R, out.2)) : ∀ (n : Nat) (v5 : Int) (v6 : Int) (v7 : Int) (v8 : Int) (v9 : Int) (M : xM) (out : Int × xM), M_rowOf_F293 R l0 l2 l4 q489 n v5 v6 v7 v8 v9 M = some out → XR false 1 174 sc y_M_rowOf (293, [(0, (vR 10 l0)), (2, (vI l2)), (4, (vI l4)), (5, (vI v5)), (6, (vI v6)), (7, (vI v7)), (8, (vI v8)), (9, (vI v9))], [], R, M, 174) ((some (vI out.1)), R, out.2) := by
  intro n
  induction n with
  | zero => intro v5 v6 v7 v8 v9 M out h; exact (xno h).elim
  | succ n ih =>
    intro v5 v6 v7 v8 v9 M out h
    rw [M_rowOf_F293] at h
    refine s_M_rowOf [(293, .iload 9, 0, 0), (295, .iload 7, 0, 0)] (by decide +kernel) (z' := (297, [(0, (vR 10 l0)), (2, (vI l2)), (4, (vI l4)), (5, (vI v5)), (6, (vI v6)), (7, (vI v7)), (8, (vI v8)), (9, (vI v9))], [(vI v7), (vI v9)], R, M, 174)) (cs := []) (by rfl) trivial (Nat.le_refl _) ?_
    rcases xif_ex h with ⟨c_81, h⟩ | ⟨c_81, h⟩
    · skip
      obtain ⟨v13_82, hv13_82, h⟩ := xl_ex h
      refine s_M_rowOf [(297, .if_icmp .ge 192, 0, (-1)), (300, .iload 9, 0, 0), (302, .istore 10, 0, 0), (304, .iconst 0, 0, 0), (305, .istore 11, 0, 0), (307, .iconst 1, 0, 1), (308, .istore 12, 0, 0), (310, .iload 8, 0, 0), (312, .iconst 1, 0, 1), (313, .isub, 0, 0), (314, .istore 13, 0, 0)] (by decide +kernel) (z' := (316, [(13, (vI v13_82)), (12, (vI 1)), (11, (vI 0)), (10, (vI v9)), (0, (vR 10 l0)), (2, (vI l2)), (4, (vI l4)), (5, (vI v5)), (6, (vI v6)), (7, (vI v7)), (8, (vI v8)), (9, (vI v9))], [], R, M, 174)) (cs := [¬ (v7 ≤ v9)]) (by subst hv13_82; rfl) ⟨Int.not_le.mpr c_81, trivial⟩ (Nat.le_refl _) ?_
      refine XR.pick [4, 5, 6, 7, 8, 9, 10, 11, 3, 2, 1, 0] (ls' := [(0, (vR 10 l0)), (2, (vI l2)), (4, (vI l4)), (5, (vI v5)), (6, (vI v6)), (7, (vI v7)), (8, (vI v8)), (9, (vI v9)), (10, (vI v9)), (11, (vI 0)), (12, (vI 1)), (13, (vI v13_82))]) rfl ?_
      refine o_M_rowOf_F316 ?_ xfu v5 v6 v7 v8 v9 v9 0 1 v13_82 M _ h
      · intro v5_108 v6_109 v7_110 v8_111 v9_112 v11_113 v12_114 M_115 out h
        refine s_M_rowOf [(413, .iload 12, 0, 0)] (by decide +kernel) (z' := (415, [(0, (vR 10 l0)), (2, (vI l2)), (4, (vI l4)), (5, (vI v5_108)), (6, (vI v6_109)), (7, (vI v7_110)), (8, (vI v8_111)), (9, (vI v9_112)), (11, (vI v11_113)), (12, (vI v12_114))], [(vI v12_114)], R, M_115, 174)) (cs := []) (by rfl) trivial (Nat.le_refl _) ?_
        rcases xif_ex h with ⟨c_116, h⟩ | ⟨c_116, h⟩
        · skip
          refine s_M_rowOf [(415, .ifCond .eq 68, 0, 483)] (by decide +kernel) (z' := (483, [(0, (vR 10 l0)), (2, (vI l2)), (4, (vI l4)), (5, (vI v5_108)), (6, (vI v6_109)), (7, (vI v7_110)), (8, (vI v8_111)), (9, (vI v9_112)), (11, (vI v11_113)), (12, (vI v12_114))], [], R, M_115, 174)) (cs := [v12_114 = 0]) (by rfl) ⟨c_116, trivial⟩ (Nat.le_refl _) ?_
          refine XR.pick [0, 1, 2, 3, 4, 5, 6, 7] (ls' := [(0, (vR 10 l0)), (2, (vI l2)), (4, (vI l4)), (5, (vI v5_108)), (6, (vI v6_109)), (7, (vI v7_110)), (8, (vI v8_111)), (9, (vI v9_112))]) rfl ?_
          exact o_M_rowOf_J483 ih hq489 h
        · skip
          refine s_M_rowOf [(415, .ifCond .eq 68, 0, (-1)), (418, .iload 5, 0, 0), (420, .iconst (-1), 0, (-1))] (by decide +kernel) (z' := (421, [(0, (vR 10 l0)), (2, (vI l2)), (4, (vI l4)), (5, (vI v5_108)), (6, (vI v6_109)), (7, (vI v7_110)), (8, (vI v8_111)), (9, (vI v9_112)), (11, (vI v11_113)), (12, (vI v12_114))], [(vI (-1)), (vI v5_108)], R, M_115, 174)) (cs := [¬ (v12_114 = 0)]) (by rfl) ⟨c_116, trivial⟩ (Nat.le_refl _) ?_
          rcases xif_ex h with ⟨c_118, h⟩ | ⟨c_118, h⟩
          · skip
            refine s_M_rowOf [(421, .if_icmp .eq 10, 0, 431)] (by decide +kernel) (z' := (431, [(0, (vR 10 l0)), (2, (vI l2)), (4, (vI l4)), (5, (vI v5_108)), (6, (vI v6_109)), (7, (vI v7_110)), (8, (vI v8_111)), (9, (vI v9_112)), (11, (vI v11_113)), (12, (vI v12_114))], [], R, M_115, 174)) (cs := [v5_108 = -1]) (by rfl) ⟨c_118, trivial⟩ (Nat.le_refl _) ?_
            refine XR.pick [0, 1, 2, 3, 4, 5, 6, 7, 8] (ls' := [(0, (vR 10 l0)), (2, (vI l2)), (4, (vI l4)), (5, (vI v5_108)), (6, (vI v6_109)), (7, (vI v7_110)), (8, (vI v8_111)), (9, (vI v9_112)), (11, (vI v11_113))]) rfl ?_
            exact o_M_rowOf_J431 ih hq489 h
          · skip
            refine s_M_rowOf [(421, .if_icmp .eq 10, 0, (-1)), (424, .iload 11, 0, 0), (426, .iload 5, 0, 0)] (by decide +kernel) (z' := (428, [(0, (vR 10 l0)), (2, (vI l2)), (4, (vI l4)), (5, (vI v5_108)), (6, (vI v6_109)), (7, (vI v7_110)), (8, (vI v8_111)), (9, (vI v9_112)), (11, (vI v11_113)), (12, (vI v12_114))], [(vI v5_108), (vI v11_113)], R, M_115, 174)) (cs := [¬ (v5_108 = -1)]) (by rfl) ⟨c_118, trivial⟩ (Nat.le_refl _) ?_
            rcases xif_ex h with ⟨c_132, h⟩ | ⟨c_132, h⟩
            · skip
              refine s_M_rowOf [(428, .if_icmp .ge 55, 0, (-1))] (by decide +kernel) (z' := (431, [(0, (vR 10 l0)), (2, (vI l2)), (4, (vI l4)), (5, (vI v5_108)), (6, (vI v6_109)), (7, (vI v7_110)), (8, (vI v8_111)), (9, (vI v9_112)), (11, (vI v11_113)), (12, (vI v12_114))], [], R, M_115, 174)) (cs := [¬ (v5_108 ≤ v11_113)]) (by rfl) ⟨Int.not_le.mpr c_132, trivial⟩ (Nat.le_refl _) ?_
              refine XR.pick [0, 1, 2, 3, 4, 5, 6, 7, 8] (ls' := [(0, (vR 10 l0)), (2, (vI l2)), (4, (vI l4)), (5, (vI v5_108)), (6, (vI v6_109)), (7, (vI v7_110)), (8, (vI v8_111)), (9, (vI v9_112)), (11, (vI v11_113))]) rfl ?_
              exact o_M_rowOf_J431 ih hq489 h
            · skip
              refine s_M_rowOf [(428, .if_icmp .ge 55, 0, 483)] (by decide +kernel) (z' := (483, [(0, (vR 10 l0)), (2, (vI l2)), (4, (vI l4)), (5, (vI v5_108)), (6, (vI v6_109)), (7, (vI v7_110)), (8, (vI v8_111)), (9, (vI v9_112)), (11, (vI v11_113)), (12, (vI v12_114))], [], R, M_115, 174)) (cs := [v5_108 ≤ v11_113]) (by rfl) ⟨Int.not_lt.mp c_132, trivial⟩ (Nat.le_refl _) ?_
              refine XR.pick [0, 1, 2, 3, 4, 5, 6, 7] (ls' := [(0, (vR 10 l0)), (2, (vI l2)), (4, (vI l4)), (5, (vI v5_108)), (6, (vI v6_109)), (7, (vI v7_110)), (8, (vI v8_111)), (9, (vI v9_112))]) rfl ?_
              exact o_M_rowOf_J483 ih hq489 h
    · skip
      refine s_M_rowOf [(297, .if_icmp .ge 192, 0, 489)] (by decide +kernel) (z' := (489, [(0, (vR 10 l0)), (2, (vI l2)), (4, (vI l4)), (5, (vI v5)), (6, (vI v6)), (7, (vI v7)), (8, (vI v8)), (9, (vI v9))], [], R, M, 174)) (cs := [v7 ≤ v9]) (by rfl) ⟨Int.not_lt.mp c_81, trivial⟩ (Nat.le_refl _) ?_
      refine XR.pick [0, 1, 2, 3, 4, 5, 6] (ls' := [(0, (vR 10 l0)), (2, (vI l2)), (4, (vI l4)), (5, (vI v5)), (6, (vI v6)), (7, (vI v7)), (8, (vI v8))]) rfl ?_
      exact hq489 v5 v6 v7 v8 M _ h
set_option maxRecDepth 100000 in
set_option maxHeartbeats 4000000 in
theorem o_M_rowOf_F284 {sc : List Int} {R : xR}   {l0 : Nat} {l2 : Int} {l4 : Int}  {q501 : Int → Int → xM → Option (Int × xM)} (hq501 : ∀ (w5 : Int) (w6 : Int) (M : xM) (out : Int × xM), q501 w5 w6 M = some out → XR false 1 174 sc y_M_rowOf (501, [(0, (vR 10 l0)), (5, (vI w5)), (6, (vI w6))], [], R, M, 174) ((some (vI out.1)), R, out.2)) : ∀ (n : Nat) (v5 : Int) (v6 : Int) (v7 : Int) (v8 : Int) (M : xM) (out : Int × xM), M_rowOf_F284 R l0 l2 l4 q501 n v5 v6 v7 v8 M = some out → XR false 1 174 sc y_M_rowOf (284, [(0, (vR 10 l0)), (2, (vI l2)), (4, (vI l4)), (5, (vI v5)), (6, (vI v6)), (7, (vI v7)), (8, (vI v8))], [], R, M, 174) ((some (vI out.1)), R, out.2) := by
  intro n
  induction n with
  | zero => intro v5 v6 v7 v8 M out h; exact (xno h).elim
  | succ n ih =>
    intro v5 v6 v7 v8 M out h
    rw [M_rowOf_F284] at h
    refine s_M_rowOf [(284, .iload 8, 0, 0), (286, .iconst 4, 0, 4)] (by decide +kernel) (z' := (287, [(0, (vR 10 l0)), (2, (vI l2)), (4, (vI l4)), (5, (vI v5)), (6, (vI v6)), (7, (vI v7)), (8, (vI v8))], [(vI 4), (vI v8)], R, M, 174)) (cs := []) (by rfl) trivial (Nat.le_refl _) ?_
    rcases xif_ex h with ⟨c_80, h⟩ | ⟨c_80, h⟩
    · skip
      refine s_M_rowOf [(287, .if_icmp .gt 214, 0, 501)] (by decide +kernel) (z' := (501, [(0, (vR 10 l0)), (2, (vI l2)), (4, (vI l4)), (5, (vI v5)), (6, (vI v6)), (7, (vI v7)), (8, (vI v8))], [], R, M, 174)) (cs := [4 < v8]) (by rfl) ⟨c_80, trivial⟩ (Nat.le_refl _) ?_
      refine XR.pick [0, 3, 4] (ls' := [(0, (vR 10 l0)), (5, (vI v5)), (6, (vI v6))]) rfl ?_
      exact hq501 v5 v6 M _ h
    · skip
      refine s_M_rowOf [(287, .if_icmp .gt 214, 0, (-1)), (290, .iconst 0, 0, 0), (291, .istore 9, 0, 0)] (by decide +kernel) (z' := (293, [(9, (vI 0)), (0, (vR 10 l0)), (2, (vI l2)), (4, (vI l4)), (5, (vI v5)), (6, (vI v6)), (7, (vI v7)), (8, (vI v8))], [], R, M, 174)) (cs := [¬ (4 < v8)]) (by rfl) ⟨c_80, trivial⟩ (Nat.le_refl _) ?_
      refine XR.pick [1, 2, 3, 4, 5, 6, 7, 0] (ls' := [(0, (vR 10 l0)), (2, (vI l2)), (4, (vI l4)), (5, (vI v5)), (6, (vI v6)), (7, (vI v7)), (8, (vI v8)), (9, (vI 0))]) rfl ?_
      refine o_M_rowOf_F293 ?_ xfu v5 v6 v7 v8 0 M _ h
      · intro v5_133 v6_134 v7_135 v8_136 M_137 out h
        obtain ⟨v7_138, hv7_138, h⟩ := xl_ex h
        obtain ⟨v8_139, hv8_139, h⟩ := xl_ex h
        refine s_M_rowOf [(489, .iload 7, 0, 0), (491, .iload_n 2, 0, 0), (492, .imul, 0, 0), (493, .istore 7, 0, 0), (495, .iinc 8 1, 0, 0), (498, .goto (-214), 0, 284)] (by decide +kernel) (z' := (284, [(8, (vI v8_139)), (7, (vI v7_138)), (0, (vR 10 l0)), (2, (vI l2)), (4, (vI l4)), (5, (vI v5_133)), (6, (vI v6_134))], [], R, M_137, 174)) (cs := []) (by subst hv7_138; subst hv8_139; rfl) trivial (Nat.le_refl _) ?_
        refine XR.pick [2, 3, 4, 5, 6, 1, 0] (ls' := [(0, (vR 10 l0)), (2, (vI l2)), (4, (vI l4)), (5, (vI v5_133)), (6, (vI v6_134)), (7, (vI v7_138)), (8, (vI v8_139))]) rfl ?_
        exact ih v5_133 v6_134 v7_138 v8_139 M_137 _ h
set_option maxRecDepth 100000 in
set_option maxHeartbeats 4000000 in
theorem o_M_rowOf_F517 {sc : List Int} {R : xR}   {l0 : Nat}  {q544 : Int → Int → xM → Option (Int × xM)} (hq544 : ∀ (w5 : Int) (w6 : Int) (M : xM) (out : Int × xM), q544 w5 w6 M = some out → XR false 1 174 sc y_M_rowOf (544, [(0, (vR 10 l0)), (5, (vI w5)), (6, (vI w6))], [], R, M, 174) ((some (vI out.1)), R, out.2)) : ∀ (n : Nat) (v5 : Int) (v6 : Int) (v8 : Int) (M : xM) (out : Int × xM), M_rowOf_F517 R l0 q544 n v5 v6 v8 M = some out → XR false 1 174 sc y_M_rowOf (517, [(0, (vR 10 l0)), (5, (vI v5)), (6, (vI v6)), (8, (vI v8))], [], R, M, 174) ((some (vI out.1)), R, out.2) := by
  intro n
  induction n with
  | zero => intro v5 v6 v8 M out h; exact (xno h).elim
  | succ n ih =>
    intro v5 v6 v8 M out h
    rw [M_rowOf_F517] at h
    refine s_M_rowOf [(517, .iload 8, 0, 0), (519, .iload 6, 0, 0)] (by decide +kernel) (z' := (521, [(0, (vR 10 l0)), (5, (vI v5)), (6, (vI v6)), (8, (vI v8))], [(vI v6), (vI v8)], R, M, 174)) (cs := []) (by rfl) trivial (Nat.le_refl _) ?_
    rcases xif_ex h with ⟨c_147, h⟩ | ⟨c_147, h⟩
    · skip
      obtain ⟨c_148, h⟩ := xch_ex h
      obtain ⟨M_149, hM_149, h⟩ := xl_ex h
      obtain ⟨v8_150, hv8_150, h⟩ := xl_ex h
      refine s_M_rowOf [(521, .if_icmp .ge 23, 0, (-1)), (524, .aload_n 0, 0, 0), (525, .getfield 226, 10, 98), (528, .iload 8, 0, 0), (530, .aload_n 0, 0, 0), (531, .getfield 232, 10, 100), (534, .iload 8, 0, 0), (536, .iaload, 0, 0), (537, .iastore, 0, 0), (538, .iinc 8 1, 0, 0), (541, .goto (-24), 0, 517)] (by decide +kernel) (z' := (517, [(8, (vI v8_150)), (0, (vR 10 l0)), (5, (vI v5)), (6, (vI v6))], [], R, M_149, 174)) (cs := [¬ (v6 ≤ v8), xar 34 0, xidx v8 (xan 34), xar 34 0, xidx v8 (xan 34)]) (by subst hM_149; subst hv8_150; rfl) ⟨Int.not_le.mpr c_147, xar_34, xix_34 c_148, xar_34, xix_34 c_148, trivial⟩ (Nat.le_refl _) ?_
      refine XR.pick [1, 2, 3, 0] (ls' := [(0, (vR 10 l0)), (5, (vI v5)), (6, (vI v6)), (8, (vI v8_150))]) rfl ?_
      exact ih v5 v6 v8_150 M_149 _ h
    · skip
      refine s_M_rowOf [(521, .if_icmp .ge 23, 0, 544)] (by decide +kernel) (z' := (544, [(0, (vR 10 l0)), (5, (vI v5)), (6, (vI v6)), (8, (vI v8))], [], R, M, 174)) (cs := [v6 ≤ v8]) (by rfl) ⟨Int.not_lt.mp c_147, trivial⟩ (Nat.le_refl _) ?_
      refine XR.pick [0, 1, 2] (ls' := [(0, (vR 10 l0)), (5, (vI v5)), (6, (vI v6))]) rfl ?_
      exact hq544 v5 v6 M _ h
set_option maxRecDepth 100000 in
set_option maxHeartbeats 4000000 in
theorem o_M_rowOf {sc : List Int} {R : xR} {M : xM} {l0 : Nat} {l1 : Int} {l2 : Int} {l3 : Int} {l4 : Int} {out : Int × xM} (h : f_M_rowOf R l0 l1 l2 l3 l4 M = some out) : XR false 1 174 sc y_M_rowOf (0, [(0, (vR 10 l0)), (1, (vI l1)), (2, (vI l2)), (3, (vI l3)), (4, (vI l4))], [], R, M, 174) ((some (vI out.1)), R, out.2) := by
  unfold f_M_rowOf at h
  refine s_M_rowOf [(0, .iload_n 1, 0, 0)] (by decide +kernel) (z' := (1, [(0, (vR 10 l0)), (1, (vI l1)), (2, (vI l2)), (3, (vI l3)), (4, (vI l4))], [(vI l1)], R, M, 174)) (cs := []) (by rfl) trivial (Nat.le_refl _) ?_
  obtain ⟨r_1, e_2, h⟩ := xb1_ex h
  refine XR.callS 10 rfl (rest := []) m_M_isTray k_10_250 [(vI l1)] rfl rfl (c_M_isTray e_2) (by decide) (Nat.le_of_ble_eq_true rfl) (by decide +kernel) (Nat.le_refl _) (Nat.le_refl _) ?_
  show XR false 1 174 sc y_M_rowOf (4, [(0, (vR 10 l0)), (1, (vI l1)), (2, (vI l2)), (3, (vI l3)), (4, (vI l4))], [(vI r_1)], R, M, 174) _
  rcases xif_ex h with ⟨c_3, h⟩ | ⟨c_3, h⟩
  · skip
    refine s_M_rowOf [(4, .ifCond .eq 34, 0, 38), (38, .aload_n 0, 0, 0), (39, .iconst 1, 0, 1)] (by decide +kernel) (z' := (40, [(0, (vR 10 l0)), (1, (vI l1)), (2, (vI l2)), (3, (vI l3)), (4, (vI l4))], [(vI 1), (vR 10 l0)], R, M, 174)) (cs := [r_1 = 0]) (by rfl) ⟨c_3, trivial⟩ (Nat.le_refl _) ?_
    obtain ⟨r_4, M_5, e_6, h⟩ := xb2_ex h
    refine XR.callV 10 rfl (rest := []) m_M_refuse k_10_377 10 l0 (Or.inl ⟨by decide, rfl⟩) [(vI 1)] rfl rfl (c_M_refuse e_6) (by decide) (Nat.le_of_ble_eq_true rfl) (by decide +kernel) (Nat.le_refl _) (Nat.le_refl _) ?_
    show XR false 1 174 sc y_M_rowOf (43, [(0, (vR 10 l0)), (1, (vI l1)), (2, (vI l2)), (3, (vI l3)), (4, (vI l4))], [(vI r_4)], R, M_5, 174) _
    obtain rfl := Option.some.inj h
    exact XR.retI .int rfl rfl (by decide +kernel)
  · skip
    refine s_M_rowOf [(4, .ifCond .eq 34, 0, (-1)), (7, .iload_n 3, 0, 0)] (by decide +kernel) (z' := (8, [(0, (vR 10 l0)), (1, (vI l1)), (2, (vI l2)), (3, (vI l3)), (4, (vI l4))], [(vI l3)], R, M, 174)) (cs := [¬ (r_1 = 0)]) (by rfl) ⟨c_3, trivial⟩ (Nat.le_refl _) ?_
    obtain ⟨r_7, e_8, h⟩ := xb1_ex h
    refine XR.callS 10 rfl (rest := []) m_M_isTray k_10_250 [(vI l3)] rfl rfl (c_M_isTray e_8) (by decide) (Nat.le_of_ble_eq_true rfl) (by decide +kernel) (Nat.le_refl _) (Nat.le_refl _) ?_
    show XR false 1 174 sc y_M_rowOf (11, [(0, (vR 10 l0)), (1, (vI l1)), (2, (vI l2)), (3, (vI l3)), (4, (vI l4))], [(vI r_7)], R, M, 174) _
    rcases xif_ex h with ⟨c_9, h⟩ | ⟨c_9, h⟩
    · skip
      refine s_M_rowOf [(11, .ifCond .eq 27, 0, 38), (38, .aload_n 0, 0, 0), (39, .iconst 1, 0, 1)] (by decide +kernel) (z' := (40, [(0, (vR 10 l0)), (1, (vI l1)), (2, (vI l2)), (3, (vI l3)), (4, (vI l4))], [(vI 1), (vR 10 l0)], R, M, 174)) (cs := [r_7 = 0]) (by rfl) ⟨c_9, trivial⟩ (Nat.le_refl _) ?_
      obtain ⟨r_10, M_11, e_12, h⟩ := xb2_ex h
      refine XR.callV 10 rfl (rest := []) m_M_refuse k_10_377 10 l0 (Or.inl ⟨by decide, rfl⟩) [(vI 1)] rfl rfl (c_M_refuse e_12) (by decide) (Nat.le_of_ble_eq_true rfl) (by decide +kernel) (Nat.le_refl _) (Nat.le_refl _) ?_
      show XR false 1 174 sc y_M_rowOf (43, [(0, (vR 10 l0)), (1, (vI l1)), (2, (vI l2)), (3, (vI l3)), (4, (vI l4))], [(vI r_10)], R, M_11, 174) _
      obtain rfl := Option.some.inj h
      exact XR.retI .int rfl rfl (by decide +kernel)
    · skip
      refine s_M_rowOf [(11, .ifCond .eq 27, 0, (-1)), (14, .iload_n 2, 0, 0), (15, .iconst 1, 0, 1)] (by decide +kernel) (z' := (16, [(0, (vR 10 l0)), (1, (vI l1)), (2, (vI l2)), (3, (vI l3)), (4, (vI l4))], [(vI 1), (vI l2)], R, M, 174)) (cs := [¬ (r_7 = 0)]) (by rfl) ⟨c_9, trivial⟩ (Nat.le_refl _) ?_
      rcases xif_ex h with ⟨c_13, h⟩ | ⟨c_13, h⟩
      · skip
        refine s_M_rowOf [(16, .if_icmp .lt 22, 0, 38), (38, .aload_n 0, 0, 0), (39, .iconst 1, 0, 1)] (by decide +kernel) (z' := (40, [(0, (vR 10 l0)), (1, (vI l1)), (2, (vI l2)), (3, (vI l3)), (4, (vI l4))], [(vI 1), (vR 10 l0)], R, M, 174)) (cs := [l2 < 1]) (by rfl) ⟨c_13, trivial⟩ (Nat.le_refl _) ?_
        obtain ⟨r_14, M_15, e_16, h⟩ := xb2_ex h
        refine XR.callV 10 rfl (rest := []) m_M_refuse k_10_377 10 l0 (Or.inl ⟨by decide, rfl⟩) [(vI 1)] rfl rfl (c_M_refuse e_16) (by decide) (Nat.le_of_ble_eq_true rfl) (by decide +kernel) (Nat.le_refl _) (Nat.le_refl _) ?_
        show XR false 1 174 sc y_M_rowOf (43, [(0, (vR 10 l0)), (1, (vI l1)), (2, (vI l2)), (3, (vI l3)), (4, (vI l4))], [(vI r_14)], R, M_15, 174) _
        obtain rfl := Option.some.inj h
        exact XR.retI .int rfl rfl (by decide +kernel)
      · skip
        refine s_M_rowOf [(16, .if_icmp .lt 22, 0, (-1)), (19, .iload_n 2, 0, 0), (20, .bipush 7, 0, 7)] (by decide +kernel) (z' := (22, [(0, (vR 10 l0)), (1, (vI l1)), (2, (vI l2)), (3, (vI l3)), (4, (vI l4))], [(vI 7), (vI l2)], R, M, 174)) (cs := [¬ (l2 < 1)]) (by rfl) ⟨c_13, trivial⟩ (Nat.le_refl _) ?_
        rcases xif_ex h with ⟨c_17, h⟩ | ⟨c_17, h⟩
        · skip
          refine s_M_rowOf [(22, .if_icmp .gt 16, 0, 38), (38, .aload_n 0, 0, 0), (39, .iconst 1, 0, 1)] (by decide +kernel) (z' := (40, [(0, (vR 10 l0)), (1, (vI l1)), (2, (vI l2)), (3, (vI l3)), (4, (vI l4))], [(vI 1), (vR 10 l0)], R, M, 174)) (cs := [7 < l2]) (by rfl) ⟨c_17, trivial⟩ (Nat.le_refl _) ?_
          obtain ⟨r_18, M_19, e_20, h⟩ := xb2_ex h
          refine XR.callV 10 rfl (rest := []) m_M_refuse k_10_377 10 l0 (Or.inl ⟨by decide, rfl⟩) [(vI 1)] rfl rfl (c_M_refuse e_20) (by decide) (Nat.le_of_ble_eq_true rfl) (by decide +kernel) (Nat.le_refl _) (Nat.le_refl _) ?_
          show XR false 1 174 sc y_M_rowOf (43, [(0, (vR 10 l0)), (1, (vI l1)), (2, (vI l2)), (3, (vI l3)), (4, (vI l4))], [(vI r_18)], R, M_19, 174) _
          obtain rfl := Option.some.inj h
          exact XR.retI .int rfl rfl (by decide +kernel)
        · skip
          refine s_M_rowOf [(22, .if_icmp .gt 16, 0, (-1)), (25, .iload 4, 0, 0)] (by decide +kernel) (z' := (27, [(0, (vR 10 l0)), (1, (vI l1)), (2, (vI l2)), (3, (vI l3)), (4, (vI l4))], [(vI l4)], R, M, 174)) (cs := [¬ (7 < l2)]) (by rfl) ⟨c_17, trivial⟩ (Nat.le_refl _) ?_
          rcases xif_ex h with ⟨c_21, h⟩ | ⟨c_21, h⟩
          · skip
            refine s_M_rowOf [(27, .ifCond .lt 11, 0, 38), (38, .aload_n 0, 0, 0), (39, .iconst 1, 0, 1)] (by decide +kernel) (z' := (40, [(0, (vR 10 l0)), (1, (vI l1)), (2, (vI l2)), (3, (vI l3)), (4, (vI l4))], [(vI 1), (vR 10 l0)], R, M, 174)) (cs := [l4 < 0]) (by rfl) ⟨c_21, trivial⟩ (Nat.le_refl _) ?_
            obtain ⟨r_22, M_23, e_24, h⟩ := xb2_ex h
            refine XR.callV 10 rfl (rest := []) m_M_refuse k_10_377 10 l0 (Or.inl ⟨by decide, rfl⟩) [(vI 1)] rfl rfl (c_M_refuse e_24) (by decide) (Nat.le_of_ble_eq_true rfl) (by decide +kernel) (Nat.le_refl _) (Nat.le_refl _) ?_
            show XR false 1 174 sc y_M_rowOf (43, [(0, (vR 10 l0)), (1, (vI l1)), (2, (vI l2)), (3, (vI l3)), (4, (vI l4))], [(vI r_22)], R, M_23, 174) _
            obtain rfl := Option.some.inj h
            exact XR.retI .int rfl rfl (by decide +kernel)
          · skip
            refine s_M_rowOf [(27, .ifCond .lt 11, 0, (-1)), (30, .iload 4, 0, 0), (32, .ldc_w 529, 0, 40000)] (by decide +kernel) (z' := (35, [(0, (vR 10 l0)), (1, (vI l1)), (2, (vI l2)), (3, (vI l3)), (4, (vI l4))], [(vI 40000), (vI l4)], R, M, 174)) (cs := [¬ (l4 < 0)]) (by rfl) ⟨c_21, trivial⟩ (Nat.le_refl _) ?_
            rcases xif_ex h with ⟨c_25, h⟩ | ⟨c_25, h⟩
            · skip
              refine s_M_rowOf [(35, .if_icmp .le 9, 0, (-1)), (38, .aload_n 0, 0, 0), (39, .iconst 1, 0, 1)] (by decide +kernel) (z' := (40, [(0, (vR 10 l0)), (1, (vI l1)), (2, (vI l2)), (3, (vI l3)), (4, (vI l4))], [(vI 1), (vR 10 l0)], R, M, 174)) (cs := [¬ (l4 ≤ 40000)]) (by rfl) ⟨Int.not_le.mpr c_25, trivial⟩ (Nat.le_refl _) ?_
              obtain ⟨r_26, M_27, e_28, h⟩ := xb2_ex h
              refine XR.callV 10 rfl (rest := []) m_M_refuse k_10_377 10 l0 (Or.inl ⟨by decide, rfl⟩) [(vI 1)] rfl rfl (c_M_refuse e_28) (by decide) (Nat.le_of_ble_eq_true rfl) (by decide +kernel) (Nat.le_refl _) (Nat.le_refl _) ?_
              show XR false 1 174 sc y_M_rowOf (43, [(0, (vR 10 l0)), (1, (vI l1)), (2, (vI l2)), (3, (vI l3)), (4, (vI l4))], [(vI r_26)], R, M_27, 174) _
              obtain rfl := Option.some.inj h
              exact XR.retI .int rfl rfl (by decide +kernel)
            · skip
              obtain ⟨c_29, h⟩ := xch_ex h
              refine s_M_rowOf [(35, .if_icmp .le 9, 0, 44), (44, .aload_n 0, 0, 0), (45, .getfield 13, 10, 2), (48, .iload_n 1, 0, 0), (49, .iaload, 0, 0), (50, .iconst (-1), 0, (-1))] (by decide +kernel) (z' := (51, [(0, (vR 10 l0)), (1, (vI l1)), (2, (vI l2)), (3, (vI l3)), (4, (vI l4))], [(vI (-1)), (vI (M (R l0 2) (Int.toNat l1)))], R, M, 174)) (cs := [l4 ≤ 40000, xar 34 0, xidx l1 (xan 34)]) (by rfl) ⟨Int.not_lt.mp c_25, xar_34, xix_34 c_29, trivial⟩ (Nat.le_refl _) ?_
              rcases xif_ex h with ⟨c_30, h⟩ | ⟨c_30, h⟩
              · skip
                refine s_M_rowOf [(51, .if_icmp .eq 13, 0, 64), (64, .aload_n 0, 0, 0), (65, .iconst 2, 0, 2)] (by decide +kernel) (z' := (66, [(0, (vR 10 l0)), (1, (vI l1)), (2, (vI l2)), (3, (vI l3)), (4, (vI l4))], [(vI 2), (vR 10 l0)], R, M, 174)) (cs := [M (R l0 2) (Int.toNat l1) = -1]) (by rfl) ⟨c_30, trivial⟩ (Nat.le_refl _) ?_
                obtain ⟨r_31, M_32, e_33, h⟩ := xb2_ex h
                refine XR.callV 10 rfl (rest := []) m_M_refuse k_10_377 10 l0 (Or.inl ⟨by decide, rfl⟩) [(vI 2)] rfl rfl (c_M_refuse e_33) (by decide) (Nat.le_of_ble_eq_true rfl) (by decide +kernel) (Nat.le_refl _) (Nat.le_refl _) ?_
                show XR false 1 174 sc y_M_rowOf (69, [(0, (vR 10 l0)), (1, (vI l1)), (2, (vI l2)), (3, (vI l3)), (4, (vI l4))], [(vI r_31)], R, M_32, 174) _
                obtain rfl := Option.some.inj h
                exact XR.retI .int rfl rfl (by decide +kernel)
              · skip
                obtain ⟨c_34, h⟩ := xch_ex h
                refine s_M_rowOf [(51, .if_icmp .eq 13, 0, (-1)), (54, .aload_n 0, 0, 0), (55, .getfield 13, 10, 2), (58, .iload_n 3, 0, 0), (59, .iaload, 0, 0), (60, .iconst (-1), 0, (-1))] (by decide +kernel) (z' := (61, [(0, (vR 10 l0)), (1, (vI l1)), (2, (vI l2)), (3, (vI l3)), (4, (vI l4))], [(vI (-1)), (vI (M (R l0 2) (Int.toNat l3)))], R, M, 174)) (cs := [¬ (M (R l0 2) (Int.toNat l1) = -1), xar 34 0, xidx l3 (xan 34)]) (by rfl) ⟨c_30, xar_34, xix_34 c_34, trivial⟩ (Nat.le_refl _) ?_
                rcases xif_ex h with ⟨c_35, h⟩ | ⟨c_35, h⟩
                · skip
                  refine s_M_rowOf [(61, .if_icmp .ne 9, 0, (-1)), (64, .aload_n 0, 0, 0), (65, .iconst 2, 0, 2)] (by decide +kernel) (z' := (66, [(0, (vR 10 l0)), (1, (vI l1)), (2, (vI l2)), (3, (vI l3)), (4, (vI l4))], [(vI 2), (vR 10 l0)], R, M, 174)) (cs := [¬ (M (R l0 2) (Int.toNat l3) ≠ -1)]) (by rfl) ⟨fun q => q c_35, trivial⟩ (Nat.le_refl _) ?_
                  obtain ⟨r_36, M_37, e_38, h⟩ := xb2_ex h
                  refine XR.callV 10 rfl (rest := []) m_M_refuse k_10_377 10 l0 (Or.inl ⟨by decide, rfl⟩) [(vI 2)] rfl rfl (c_M_refuse e_38) (by decide) (Nat.le_of_ble_eq_true rfl) (by decide +kernel) (Nat.le_refl _) (Nat.le_refl _) ?_
                  show XR false 1 174 sc y_M_rowOf (69, [(0, (vR 10 l0)), (1, (vI l1)), (2, (vI l2)), (3, (vI l3)), (4, (vI l4))], [(vI r_36)], R, M_37, 174) _
                  obtain rfl := Option.some.inj h
                  exact XR.retI .int rfl rfl (by decide +kernel)
                · skip
                  refine s_M_rowOf [(61, .if_icmp .ne 9, 0, 70), (70, .aload_n 0, 0, 0), (71, .getfield 13, 10, 2), (74, .iload_n 1, 0, 0), (75, .iaload, 0, 0), (76, .iconst 5, 0, 5), (77, .iload_n 2, 0, 0), (78, .imul, 0, 0)] (by decide +kernel) (z' := (79, [(0, (vR 10 l0)), (1, (vI l1)), (2, (vI l2)), (3, (vI l3)), (4, (vI l4))], [(vI (w32 (5 * l2))), (vI (M (R l0 2) (Int.toNat l1)))], R, M, 174)) (cs := [M (R l0 2) (Int.toNat l3) ≠ -1, xar 34 0, xidx l1 (xan 34)]) (by rfl) ⟨c_35, xar_34, xix_34 c_29, trivial⟩ (Nat.le_refl _) ?_
                  rcases xif_ex h with ⟨c_39, h⟩ | ⟨c_39, h⟩
                  · skip
                    refine s_M_rowOf [(79, .if_icmp .lt 13, 0, 92), (92, .aload_n 0, 0, 0), (93, .iconst 3, 0, 3)] (by decide +kernel) (z' := (94, [(0, (vR 10 l0)), (1, (vI l1)), (2, (vI l2)), (3, (vI l3)), (4, (vI l4))], [(vI 3), (vR 10 l0)], R, M, 174)) (cs := [M (R l0 2) (Int.toNat l1) < w32 (5 * l2)]) (by rfl) ⟨c_39, trivial⟩ (Nat.le_refl _) ?_
                    obtain ⟨r_40, M_41, e_42, h⟩ := xb2_ex h
                    refine XR.callV 10 rfl (rest := []) m_M_refuse k_10_377 10 l0 (Or.inl ⟨by decide, rfl⟩) [(vI 3)] rfl rfl (c_M_refuse e_42) (by decide) (Nat.le_of_ble_eq_true rfl) (by decide +kernel) (Nat.le_refl _) (Nat.le_refl _) ?_
                    show XR false 1 174 sc y_M_rowOf (97, [(0, (vR 10 l0)), (1, (vI l1)), (2, (vI l2)), (3, (vI l3)), (4, (vI l4))], [(vI r_40)], R, M_41, 174) _
                    obtain rfl := Option.some.inj h
                    exact XR.retI .int rfl rfl (by decide +kernel)
                  · skip
                    refine s_M_rowOf [(79, .if_icmp .lt 13, 0, (-1)), (82, .aload_n 0, 0, 0), (83, .getfield 13, 10, 2), (86, .iload_n 3, 0, 0), (87, .iaload, 0, 0), (88, .iconst 4, 0, 4)] (by decide +kernel) (z' := (89, [(0, (vR 10 l0)), (1, (vI l1)), (2, (vI l2)), (3, (vI l3)), (4, (vI l4))], [(vI 4), (vI (M (R l0 2) (Int.toNat l3)))], R, M, 174)) (cs := [¬ (M (R l0 2) (Int.toNat l1) < w32 (5 * l2)), xar 34 0, xidx l3 (xan 34)]) (by rfl) ⟨c_39, xar_34, xix_34 c_34, trivial⟩ (Nat.le_refl _) ?_
                    rcases xif_ex h with ⟨c_43, h⟩ | ⟨c_43, h⟩
                    · skip
                      refine s_M_rowOf [(89, .if_icmp .ge 9, 0, (-1)), (92, .aload_n 0, 0, 0), (93, .iconst 3, 0, 3)] (by decide +kernel) (z' := (94, [(0, (vR 10 l0)), (1, (vI l1)), (2, (vI l2)), (3, (vI l3)), (4, (vI l4))], [(vI 3), (vR 10 l0)], R, M, 174)) (cs := [¬ (4 ≤ M (R l0 2) (Int.toNat l3))]) (by rfl) ⟨Int.not_le.mpr c_43, trivial⟩ (Nat.le_refl _) ?_
                      obtain ⟨r_44, M_45, e_46, h⟩ := xb2_ex h
                      refine XR.callV 10 rfl (rest := []) m_M_refuse k_10_377 10 l0 (Or.inl ⟨by decide, rfl⟩) [(vI 3)] rfl rfl (c_M_refuse e_46) (by decide) (Nat.le_of_ble_eq_true rfl) (by decide +kernel) (Nat.le_refl _) (Nat.le_refl _) ?_
                      show XR false 1 174 sc y_M_rowOf (97, [(0, (vR 10 l0)), (1, (vI l1)), (2, (vI l2)), (3, (vI l3)), (4, (vI l4))], [(vI r_44)], R, M_45, 174) _
                      obtain rfl := Option.some.inj h
                      exact XR.retI .int rfl rfl (by decide +kernel)
                    · skip
                      refine s_M_rowOf [(89, .if_icmp .ge 9, 0, 98), (98, .iconst 0, 0, 0), (99, .istore 5, 0, 0)] (by decide +kernel) (z' := (101, [(5, (vI 0)), (0, (vR 10 l0)), (1, (vI l1)), (2, (vI l2)), (3, (vI l3)), (4, (vI l4))], [], R, M, 174)) (cs := [4 ≤ M (R l0 2) (Int.toNat l3)]) (by rfl) ⟨Int.not_lt.mp c_43, trivial⟩ (Nat.le_refl _) ?_
                      refine XR.pick [1, 2, 3, 4, 5, 0] (ls' := [(0, (vR 10 l0)), (1, (vI l1)), (2, (vI l2)), (3, (vI l3)), (4, (vI l4)), (5, (vI 0))]) rfl ?_
                      refine o_M_rowOf_F101 ?_ xfu 0 M _ h
                      · intro M_57 out h
                        refine s_M_rowOf [(157, .iconst 0, 0, 0), (158, .istore 5, 0, 0)] (by decide +kernel) (z' := (160, [(5, (vI 0)), (0, (vR 10 l0)), (1, (vI l1)), (2, (vI l2)), (3, (vI l3)), (4, (vI l4))], [], R, M_57, 174)) (cs := []) (by rfl) trivial (Nat.le_refl _) ?_
                        refine XR.pick [1, 2, 3, 4, 5, 0] (ls' := [(0, (vR 10 l0)), (1, (vI l1)), (2, (vI l2)), (3, (vI l3)), (4, (vI l4)), (5, (vI 0))]) rfl ?_
                        refine o_M_rowOf_F160 ?_ xfu 0 M_57 _ h
                        · intro M_67 out h
                          refine s_M_rowOf [(200, .iconst 0, 0, 0), (201, .istore 5, 0, 0)] (by decide +kernel) (z' := (203, [(5, (vI 0)), (0, (vR 10 l0)), (1, (vI l1)), (2, (vI l2)), (3, (vI l3)), (4, (vI l4))], [], R, M_67, 174)) (cs := []) (by rfl) trivial (Nat.le_refl _) ?_
                          refine XR.pick [1, 2, 3, 4, 5, 0] (ls' := [(0, (vR 10 l0)), (1, (vI l1)), (2, (vI l2)), (3, (vI l3)), (4, (vI l4)), (5, (vI 0))]) rfl ?_
                          refine o_M_rowOf_F203 ?_ xfu 0 M_67 _ h
                          · intro M_73 out h
                            refine s_M_rowOf [(237, .iconst 0, 0, 0), (238, .istore 5, 0, 0)] (by decide +kernel) (z' := (240, [(5, (vI 0)), (0, (vR 10 l0)), (2, (vI l2)), (3, (vI l3)), (4, (vI l4))], [], R, M_73, 174)) (cs := []) (by rfl) trivial (Nat.le_refl _) ?_
                            refine XR.pick [1, 2, 3, 4, 0] (ls' := [(0, (vR 10 l0)), (2, (vI l2)), (3, (vI l3)), (4, (vI l4)), (5, (vI 0))]) rfl ?_
                            refine o_M_rowOf_F240 ?_ xfu 0 M_73 _ h
                            · intro M_79 out h
                              refine s_M_rowOf [(272, .iconst (-1), 0, (-1)), (273, .istore 5, 0, 0), (275, .iconst 0, 0, 0), (276, .istore 6, 0, 0), (278, .iconst 1, 0, 1), (279, .istore 7, 0, 0), (281, .iconst 0, 0, 0), (282, .istore 8, 0, 0)] (by decide +kernel) (z' := (284, [(8, (vI 0)), (7, (vI 1)), (6, (vI 0)), (5, (vI (-1))), (0, (vR 10 l0)), (2, (vI l2)), (4, (vI l4))], [], R, M_79, 174)) (cs := []) (by rfl) trivial (Nat.le_refl _) ?_
                              refine XR.pick [4, 5, 6, 3, 2, 1, 0] (ls' := [(0, (vR 10 l0)), (2, (vI l2)), (4, (vI l4)), (5, (vI (-1))), (6, (vI 0)), (7, (vI 1)), (8, (vI 0))]) rfl ?_
                              refine o_M_rowOf_F284 ?_ xfu (-1) 0 1 0 M_79 _ h
                              · intro v5_140 v6_141 M_142 out h
                                refine s_M_rowOf [(501, .iload 5, 0, 0), (503, .iconst (-1), 0, (-1))] (by decide +kernel) (z' := (504, [(0, (vR 10 l0)), (5, (vI v5_140)), (6, (vI v6_141))], [(vI (-1)), (vI v5_140)], R, M_142, 174)) (cs := []) (by rfl) trivial (Nat.le_refl _) ?_
                                rcases xif_ex h with ⟨c_143, h⟩ | ⟨c_143, h⟩
                                · skip
                                  refine s_M_rowOf [(504, .if_icmp .ne 10, 0, (-1)), (507, .aload_n 0, 0, 0), (508, .bipush 6, 0, 6)] (by decide +kernel) (z' := (510, [(0, (vR 10 l0)), (5, (vI v5_140)), (6, (vI v6_141))], [(vI 6), (vR 10 l0)], R, M_142, 174)) (cs := [¬ (v5_140 ≠ -1)]) (by rfl) ⟨fun q => q c_143, trivial⟩ (Nat.le_refl _) ?_
                                  obtain ⟨r_144, M_145, e_146, h⟩ := xb2_ex h
                                  refine XR.callV 10 rfl (rest := []) m_M_refuse k_10_377 10 l0 (Or.inl ⟨by decide, rfl⟩) [(vI 6)] rfl rfl (c_M_refuse e_146) (by decide) (Nat.le_of_ble_eq_true rfl) (by decide +kernel) (Nat.le_refl _) (Nat.le_refl _) ?_
                                  show XR false 1 174 sc y_M_rowOf (513, [(0, (vR 10 l0)), (5, (vI v5_140)), (6, (vI v6_141))], [(vI r_144)], R, M_145, 174) _
                                  obtain rfl := Option.some.inj h
                                  exact XR.retI .int rfl rfl (by decide +kernel)
                                · skip
                                  refine s_M_rowOf [(504, .if_icmp .ne 10, 0, 514), (514, .iconst 0, 0, 0), (515, .istore 8, 0, 0)] (by decide +kernel) (z' := (517, [(8, (vI 0)), (0, (vR 10 l0)), (5, (vI v5_140)), (6, (vI v6_141))], [], R, M_142, 174)) (cs := [v5_140 ≠ -1]) (by rfl) ⟨c_143, trivial⟩ (Nat.le_refl _) ?_
                                  refine XR.pick [1, 2, 3, 0] (ls' := [(0, (vR 10 l0)), (5, (vI v5_140)), (6, (vI v6_141)), (8, (vI 0))]) rfl ?_
                                  refine o_M_rowOf_F517 ?_ xfu v5_140 v6_141 0 M_142 _ h
                                  · intro v5_151 v6_152 M_153 out h
                                    obtain ⟨M_154, hM_154, h⟩ := xl_ex h
                                    refine s_M_rowOf [(544, .aload_n 0, 0, 0), (545, .iload 6, 0, 0), (547, .putfield 229, 10, 99), (550, .aload_n 0, 0, 0), (551, .iload 5, 0, 0)] (by decide +kernel) (z' := (553, [(0, (vR 10 l0)), (5, (vI v5_151)), (6, (vI v6_152))], [(vI v5_151), (vR 10 l0)], R, M_154, 174)) (cs := []) (by subst hM_154; rfl) trivial (Nat.le_refl _) ?_
                                    obtain ⟨r_155, M_156, e_157, h⟩ := xb2_ex h
                                    refine XR.callV 10 rfl (rest := []) m_M_gives k_10_405 10 l0 (Or.inl ⟨by decide, rfl⟩) [(vI v5_151)] rfl rfl (c_M_gives e_157) (by decide) (Nat.le_of_ble_eq_true rfl) (by decide +kernel) (Nat.le_refl _) (Nat.le_refl _) ?_
                                    show XR false 1 174 sc y_M_rowOf (556, [(0, (vR 10 l0)), (5, (vI v5_151)), (6, (vI v6_152))], [(vI r_155)], R, M_156, 174) _
                                    obtain rfl := Option.some.inj h
                                    exact XR.retI .int rfl rfl (by decide +kernel)
set_option maxRecDepth 100000 in
set_option maxHeartbeats 4000000 in
theorem c_M_rowOf {sc : List Int} {R : xR} {M : xM} {l0 : Nat} {l1 : Int} {l2 : Int} {l3 : Int} {l4 : Int} {out : Int × xM} (h : f_M_rowOf R l0 l1 l2 l3 l4 M = some out) : XC false 1 sc y_M_rowOf [(vR 10 l0), (vI l1), (vI l2), (vI l3), (vI l4)] R M 174 174 ((some (vI out.1)), R, out.2) := XC.of (by decide) (Nat.le_of_ble_eq_true rfl) (Nat.le_refl _) (Nat.le_refl _) (o_M_rowOf h)
def f_M_status (l0 : Nat) (M : xM) : Option Int :=
  some (M l0 0)
set_option maxRecDepth 100000 in
set_option maxHeartbeats 4000000 in
theorem s_M_status {d : Nat} {sc : List Int} {z z' : xS} {out : xO} (qs : List xI) {cs : List Prop} (hq : qs.all (xqb 10 false y_M_status.2.2.1 y_M_status.2.1) = true) (h : xN false sc qs z = some (z', cs)) (hc : xAll cs) (hE : z'.2.2.2.2.2 ≤ 174) (k : XR false d 174 sc y_M_status z' out) : XR false d 174 sc y_M_status z out := XR.seg 10 false rfl (fun q => by cases q) qs hq h hc hE k
set_option maxRecDepth 100000 in
set_option maxHeartbeats 4000000 in
theorem o_M_status {sc : List Int} {R : xR} {M : xM} {l0 : Nat} {out : Int} (h : f_M_status l0 M = some out) : XR false 0 174 sc y_M_status (0, [(0, (vR 10 l0))], [], R, M, 174) ((some (vI out)), R, M) := by
  unfold f_M_status at h
  refine s_M_status [(0, .aload_n 0, 0, 0), (1, .getfield 247, 10, 0)] (by decide +kernel) (z' := (4, [(0, (vR 10 l0))], [(vI (M l0 0))], R, M, 174)) (cs := []) (by rfl) trivial (Nat.le_refl _) ?_
  obtain rfl := Option.some.inj h
  exact XR.retI .int rfl rfl (by decide +kernel)
set_option maxRecDepth 100000 in
set_option maxHeartbeats 4000000 in
theorem c_M_status {sc : List Int} {R : xR} {M : xM} {l0 : Nat} {out : Int} (h : f_M_status l0 M = some out) : XC false 0 sc y_M_status [(vR 10 l0)] R M 174 174 ((some (vI out)), R, M) := XC.of (by decide) (Nat.le_of_ble_eq_true rfl) (Nat.le_refl _) (Nat.le_refl _) (o_M_status h)
