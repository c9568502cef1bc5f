def f_M_isTray (l0 : Int) : Option Int :=
  if l0 < 0 then
    some (0)
  else
    if l0 < 4 then
      some (1)
    else
      some (0)
set_option maxRecDepth 100000 in
set_option maxHeartbeats 4000000 in
theorem s_M_isTray {d : Nat} {sc : List Int} {z z' : xS} {out : xO} (qs : List xI) {cs : List Prop} (hq : qs.all (xqb 10 false y_M_isTray.2.2.1 y_M_isTray.2.1) = true) (h : xN false sc qs z = some (z', cs)) (hc : xAll cs) (hE : z'.2.2.2.2.2 ≤ 174) (k : XR false d 174 sc y_M_isTray z' out) : XR false d 174 sc y_M_isTray z out := XR.seg 10 false rfl (fun q => by cases q) qs hq h hc hE k
set_option maxRecDepth 100000 in
set_option maxHeartbeats 4000000 in
theorem o_M_isTray {sc : List Int} {R : xR} {M : xM} {l0 : Int} {out : Int} (h : f_M_isTray l0 = some out) : XR false 0 174 sc y_M_isTray (0, [(0, (vI l0))], [], R, M, 174) ((some (vI out)), R, M) := by
  unfold f_M_isTray at h
  refine s_M_isTray [(0, .iload_n 0, 0, 0)] (by decide +kernel) (z' := (1, [(0, (vI l0))], [(vI l0)], R, M, 174)) (cs := []) (by rfl) trivial (Nat.le_refl _) ?_
  rcases xif_ex h with ⟨c_1, h⟩ | ⟨c_1, h⟩
  · skip
    refine s_M_isTray [(1, .ifCond .lt 12, 0, 13), (13, .iconst 0, 0, 0)] (by decide +kernel) (z' := (14, [(0, (vI l0))], [(vI 0)], R, M, 174)) (cs := [l0 < 0]) (by rfl) ⟨c_1, trivial⟩ (Nat.le_refl _) ?_
    obtain rfl := Option.some.inj h
    exact XR.retI .boolean rfl (xnar_z (by decide)) (by decide +kernel)
  · skip
    refine s_M_isTray [(1, .ifCond .lt 12, 0, (-1)), (4, .iload_n 0, 0, 0), (5, .iconst 4, 0, 4)] (by decide +kernel) (z' := (6, [(0, (vI l0))], [(vI 4), (vI l0)], R, M, 174)) (cs := [¬ (l0 < 0)]) (by rfl) ⟨c_1, trivial⟩ (Nat.le_refl _) ?_
    rcases xif_ex h with ⟨c_2, h⟩ | ⟨c_2, h⟩
    · skip
      refine s_M_isTray [(6, .if_icmp .ge 7, 0, (-1)), (9, .iconst 1, 0, 1), (10, .goto 4, 0, 14)] (by decide +kernel) (z' := (14, [(0, (vI l0))], [(vI 1)], R, M, 174)) (cs := [¬ (4 ≤ l0)]) (by rfl) ⟨Int.not_le.mpr c_2, trivial⟩ (Nat.le_refl _) ?_
      obtain rfl := Option.some.inj h
      exact XR.retI .boolean rfl (xnar_z (by decide)) (by decide +kernel)
    · skip
      refine s_M_isTray [(6, .if_icmp .ge 7, 0, 13), (13, .iconst 0, 0, 0)] (by decide +kernel) (z' := (14, [(0, (vI l0))], [(vI 0)], R, M, 174)) (cs := [4 ≤ l0]) (by rfl) ⟨Int.not_lt.mp c_2, trivial⟩ (Nat.le_refl _) ?_
      obtain rfl := Option.some.inj h
      exact XR.retI .boolean rfl (xnar_z (by decide)) (by decide +kernel)
set_option maxRecDepth 100000 in
set_option maxHeartbeats 4000000 in
theorem c_M_isTray {sc : List Int} {R : xR} {M : xM} {l0 : Int} {out : Int} (h : f_M_isTray l0 = some out) : XC false 0 sc y_M_isTray [(vI l0)] R M 174 174 ((some (vI out)), R, M) := XC.of (by decide) (Nat.le_of_ble_eq_true rfl) (Nat.le_refl _) (Nat.le_refl _) (o_M_isTray h)
def f_M_refuse (l0 : Nat) (l1 : Int) (M : xM) : Option (Int × xM) :=
  xl (xu M l0 0 l1) fun M_1 =>
  some (-1, M_1)
set_option maxRecDepth 100000 in
set_option maxHeartbeats 4000000 in
theorem s_M_refuse {d : Nat} {sc : List Int} {z z' : xS} {out : xO} (qs : List xI) {cs : List Prop} (hq : qs.all (xqb 10 false y_M_refuse.2.2.1 y_M_refuse.2.1) = true) (h : xN false sc qs z = some (z', cs)) (hc : xAll cs) (hE : z'.2.2.2.2.2 ≤ 174) (k : XR false d 174 sc y_M_refuse z' out) : XR false d 174 sc y_M_refuse z out := XR.seg 10 false rfl (fun q => by cases q) qs hq h hc hE k
set_option maxRecDepth 100000 in
set_option maxHeartbeats 4000000 in
theorem o_M_refuse {sc : List Int} {R : xR} {M : xM} {l0 : Nat} {l1 : Int} {out : Int × xM} (h : f_M_refuse l0 l1 M = some out) : XR false 0 174 sc y_M_refuse (0, [(0, (vR 10 l0)), (1, (vI l1))], [], R, M, 174) ((some (vI out.1)), R, out.2) := by
  unfold f_M_refuse at h
  obtain ⟨M_1, hM_1, h⟩ := xl_ex h
  refine s_M_refuse [(0, .aload_n 0, 0, 0), (1, .iload_n 1, 0, 0), (2, .putfield 247, 10, 0), (5, .iconst (-1), 0, (-1))] (by decide +kernel) (z' := (6, [(0, (vR 10 l0)), (1, (vI l1))], [(vI (-1))], R, M_1, 174)) (cs := []) (by subst hM_1; rfl) trivial (Nat.le_refl _) ?_
  obtain rfl := Option.some.inj h
  exact XR.retI .int rfl rfl (by decide +kernel)
set_option maxRecDepth 100000 in
set_option maxHeartbeats 4000000 in
theorem c_M_refuse {sc : List Int} {R : xR} {M : xM} {l0 : Nat} {l1 : Int} {out : Int × xM} (h : f_M_refuse l0 l1 M = some out) : XC false 0 sc y_M_refuse [(vR 10 l0), (vI l1)] R M 174 174 ((some (vI out.1)), R, out.2) := XC.of (by decide) (Nat.le_of_ble_eq_true rfl) (Nat.le_refl _) (Nat.le_refl _) (o_M_refuse h)
def f_M_isFrom (l0 : Int) (l2 : Int) (l4 : Int) : Option Int :=
  if l0 < l2 then
    some (0)
  else
    if l4 < l0 then
      some (0)
    else
      some (1)
set_option maxRecDepth 100000 in
set_option maxHeartbeats 4000000 in
theorem s_M_isFrom {d : Nat} {sc : List Int} {z z' : xS} {out : xO} (qs : List xI) {cs : List Prop} (hq : qs.all (xqb 10 false y_M_isFrom.2.2.1 y_M_isFrom.2.1) = true) (h : xN false sc qs z = some (z', cs)) (hc : xAll cs) (hE : z'.2.2.2.2.2 ≤ 174) (k : XR false d 174 sc y_M_isFrom z' out) : XR false d 174 sc y_M_isFrom z out := XR.seg 10 false rfl (fun q => by cases q) qs hq h hc hE k
set_option maxRecDepth 100000 in
set_option maxHeartbeats 4000000 in
theorem o_M_isFrom {sc : List Int} {R : xR} {M : xM} {l0 : Int} {l2 : Int} {l4 : Int} {out : Int} (h : f_M_isFrom l0 l2 l4 = some out) : XR false 0 174 sc y_M_isFrom (0, [(0, (vL l0)), (2, (vL l2)), (4, (vL l4))], [], R, M, 174) ((some (vI out)), R, M) := by
  unfold f_M_isFrom at h
  refine s_M_isFrom [(0, .lload_n 0, 0, 0), (1, .lload_n 2, 0, 0), (2, .lcmp, 0, 0)] (by decide +kernel) (z' := (3, [(0, (vL l0)), (2, (vL l2)), (4, (vL l4))], [(vI (xcmp l0 l2))], R, M, 174)) (cs := []) (by rfl) trivial (Nat.le_refl _) ?_
  rcases xif_ex h with ⟨c_1, h⟩ | ⟨c_1, h⟩
  · skip
    refine s_M_isFrom [(3, .ifCond .lt 14, 0, 17), (17, .iconst 0, 0, 0)] (by decide +kernel) (z' := (18, [(0, (vL l0)), (2, (vL l2)), (4, (vL l4))], [(vI 0)], R, M, 174)) (cs := [xcmp l0 l2 < 0]) (by rfl) ⟨xcmp_lt.mpr c_1, trivial⟩ (Nat.le_refl _) ?_
    obtain rfl := Option.some.inj h
    exact XR.retI .boolean rfl (xnar_z (by decide)) (by decide +kernel)
  · skip
    refine s_M_isFrom [(3, .ifCond .lt 14, 0, (-1)), (6, .lload_n 0, 0, 0), (7, .lload 4, 0, 0), (9, .lcmp, 0, 0)] (by decide +kernel) (z' := (10, [(0, (vL l0)), (2, (vL l2)), (4, (vL l4))], [(vI (xcmp l0 l4))], R, M, 174)) (cs := [¬ (xcmp l0 l2 < 0)]) (by rfl) ⟨fun q => c_1 (xcmp_lt.mp q), trivial⟩ (Nat.le_refl _) ?_
    rcases xif_ex h with ⟨c_2, h⟩ | ⟨c_2, h⟩
    · skip
      refine s_M_isFrom [(10, .ifCond .gt 7, 0, 17), (17, .iconst 0, 0, 0)] (by decide +kernel) (z' := (18, [(0, (vL l0)), (2, (vL l2)), (4, (vL l4))], [(vI 0)], R, M, 174)) (cs := [0 < xcmp l0 l4]) (by rfl) ⟨xcmp_gt.mpr c_2, trivial⟩ (Nat.le_refl _) ?_
      obtain rfl := Option.some.inj h
      exact XR.retI .boolean rfl (xnar_z (by decide)) (by decide +kernel)
    · skip
      refine s_M_isFrom [(10, .ifCond .gt 7, 0, (-1)), (13, .iconst 1, 0, 1), (14, .goto 4, 0, 18)] (by decide +kernel) (z' := (18, [(0, (vL l0)), (2, (vL l2)), (4, (vL l4))], [(vI 1)], R, M, 174)) (cs := [¬ (0 < xcmp l0 l4)]) (by rfl) ⟨fun q => c_2 (xcmp_gt.mp q), trivial⟩ (Nat.le_refl _) ?_
      obtain rfl := Option.some.inj h
      exact XR.retI .boolean rfl (xnar_z (by decide)) (by decide +kernel)
set_option maxRecDepth 100000 in
set_option maxHeartbeats 4000000 in
theorem c_M_isFrom {sc : List Int} {R : xR} {M : xM} {l0 : Int} {l2 : Int} {l4 : Int} {out : Int} (h : f_M_isFrom l0 l2 l4 = some out) : XC false 0 sc y_M_isFrom [(vL l0), (vL l2), (vL l4)] R M 174 174 ((some (vI out)), R, M) := XC.of (by decide) (Nat.le_of_ble_eq_true rfl) (Nat.le_refl _) (Nat.le_refl _) (o_M_isFrom h)
def f_M_hinders (R : xR) (l0 : Nat) (l1 : Int) (l2 : Int) (M : xM) : Option Int :=
  xch (0 ≤ w32 ((w32 (60 * l1)) + l2) ∧ w32 ((w32 (60 * l1)) + l2) < 240) <|
  xch (0 ≤ l2 ∧ l2 < 8) <|
  some (w64 ((w64 ((M (R l0 3) (Int.toNat (w32 ((w32 (60 * l1)) + l2)))) * (w64 ((M (R l0 101) (Int.toNat l2)) + 1)))) * (w64 ((M (R l0 101) (Int.toNat l2)) + 1))))
set_option maxRecDepth 100000 in
set_option maxHeartbeats 4000000 in
theorem s_M_hinders {d : Nat} {sc : List Int} {z z' : xS} {out : xO} (qs : List xI) {cs : List Prop} (hq : qs.all (xqb 10 false y_M_hinders.2.2.1 y_M_hinders.2.1) = true) (h : xN false sc qs z = some (z', cs)) (hc : xAll cs) (hE : z'.2.2.2.2.2 ≤ 174) (k : XR false d 174 sc y_M_hinders z' out) : XR false d 174 sc y_M_hinders z out := XR.seg 10 false rfl (fun q => by cases q) qs hq h hc hE k
set_option maxRecDepth 100000 in
set_option maxHeartbeats 4000000 in
theorem o_M_hinders {sc : List Int} {R : xR} {M : xM} {l0 : Nat} {l1 : Int} {l2 : Int} {out : Int} (h : f_M_hinders R l0 l1 l2 M = some out) : XR false 0 174 sc y_M_hinders (0, [(0, (vR 10 l0)), (1, (vI l1)), (2, (vI l2))], [], R, M, 174) ((some (vL out)), R, M) := by
  unfold f_M_hinders at h
  obtain ⟨c_1, h⟩ := xch_ex h
  obtain ⟨c_2, h⟩ := xch_ex h
  refine s_M_hinders [(0, .aload_n 0, 0, 0), (1, .getfield 16, 10, 3), (4, .bipush 60, 0, 60), (6, .iload_n 1, 0, 0), (7, .imul, 0, 0), (8, .iload_n 2, 0, 0), (9, .iadd, 0, 0), (10, .laload, 0, 0), (11, .aload_n 0, 0, 0), (12, .getfield 235, 10, 101), (15, .iload_n 2, 0, 0), (16, .iaload, 0, 0), (17, .i2l, 0, 0), (18, .lconst 1, 0, 1), (19, .ladd, 0, 0), (20, .lmul, 0, 0), (21, .aload_n 0, 0, 0), (22, .getfield 235, 10, 101), (25, .iload_n 2, 0, 0), (26, .iaload, 0, 0), (27, .i2l, 0, 0), (28, .lconst 1, 0, 1), (29, .ladd, 0, 0), (30, .lmul, 0, 0)] (by decide +kernel) (z' := (31, [(0, (vR 10 l0)), (1, (vI l1)), (2, (vI l2))], [(vL (w64 ((w64 ((M (R l0 3) (Int.toNat (w32 ((w32 (60 * l1)) + l2)))) * (w64 ((M (R l0 101) (Int.toNat l2)) + 1)))) * (w64 ((M (R l0 101) (Int.toNat l2)) + 1)))))], R, M, 174)) (cs := [xar 40 1, xidx (w32 ((w32 (60 * l1)) + l2)) (xan 40), xar 30 0, xidx l2 (xan 30), xar 30 0, xidx l2 (xan 30)]) (by rfl) ⟨xar_40, xix_40 c_1, xar_30, xix_30 c_2, xar_30, xix_30 c_2, trivial⟩ (Nat.le_refl _) ?_
  obtain rfl := Option.some.inj h
  exact XR.retL rfl (by decide +kernel)
set_option maxRecDepth 100000 in
set_option maxHeartbeats 4000000 in
theorem c_M_hinders {sc : List Int} {R : xR} {M : xM} {l0 : Nat} {l1 : Int} {l2 : Int} {out : Int} (h : f_M_hinders R l0 l1 l2 M = some out) : XC false 0 sc y_M_hinders [(vR 10 l0), (vI l1), (vI l2)] R M 174 174 ((some (vL out)), R, M) := XC.of (by decide) (Nat.le_of_ble_eq_true rfl) (Nat.le_refl _) (Nat.le_refl _) (o_M_hinders h)
def f_M_gives (l0 : Nat) (l1 : Int) (M : xM) : Option (Int × xM) :=
  xl (xu M l0 0 0) fun M_1 =>
  some (l1, M_1)
set_option maxRecDepth 100000 in
set_option maxHeartbeats 4000000 in
theorem s_M_gives {d : Nat} {sc : List Int} {z z' : xS} {out : xO} (qs : List xI) {cs : List Prop} (hq : qs.all (xqb 10 false y_M_gives.2.2.1 y_M_gives.2.1) = true) (h : xN false sc qs z = some (z', cs)) (hc : xAll cs) (hE : z'.2.2.2.2.2 ≤ 174) (k : XR false d 174 sc y_M_gives z' out) : XR false d 174 sc y_M_gives z out := XR.seg 10 false rfl (fun q => by cases q) qs hq h hc hE k
set_option maxRecDepth 100000 in
set_option maxHeartbeats 4000000 in
theorem o_M_gives {sc : List Int} {R : xR} {M : xM} {l0 : Nat} {l1 : Int} {out : Int × xM} (h : f_M_gives l0 l1 M = some out) : XR false 0 174 sc y_M_gives (0, [(0, (vR 10 l0)), (1, (vI l1))], [], R, M, 174) ((some (vI out.1)), R, out.2) := by
  unfold f_M_gives at h
  obtain ⟨M_1, hM_1, h⟩ := xl_ex h
  refine s_M_gives [(0, .aload_n 0, 0, 0), (1, .iconst 0, 0, 0), (2, .putfield 247, 10, 0), (5, .iload_n 1, 0, 0)] (by decide +kernel) (z' := (6, [(0, (vR 10 l0)), (1, (vI l1))], [(vI l1)], R, M_1, 174)) (cs := []) (by subst hM_1; rfl) trivial (Nat.le_refl _) ?_
  obtain rfl := Option.some.inj h
  exact XR.retI .int rfl rfl (by decide +kernel)
set_option maxRecDepth 100000 in
set_option maxHeartbeats 4000000 in
theorem c_M_gives {sc : List Int} {R : xR} {M : xM} {l0 : Nat} {l1 : Int} {out : Int × xM} (h : f_M_gives l0 l1 M = some out) : XC false 0 sc y_M_gives [(vR 10 l0), (vI l1)] R M 174 174 ((some (vI out.1)), R, out.2) := XC.of (by decide) (Nat.le_of_ble_eq_true rfl) (Nat.le_refl _) (Nat.le_refl _) (o_M_gives h)
def M_air_F81 (R : xR) (l0 : Nat) (l1 : Int) (l2 : Int) (l3 : Int) (l4 : Int) (q121 : xM → Option (Int × xM)) : Nat → Int → xM → Option (Int × xM)
  | 0, _, _ => none
  | n + 1, v5, M =>
    if v5 < l2 then
      xch (0 ≤ w32 ((w32 (60 * l1)) + v5) ∧ w32 ((w32 (60 * l1)) + v5) < 240) <|
      xb1 (f_M_isFrom (M (R l0 3) (Int.toNat (w32 ((w32 (60 * l1)) + v5)))) 1 100) fun r_39 =>
      if r_39 = 0 then
        xb2 (f_M_refuse l0 1 M) fun r_42 M_43 =>
        some (r_42, M_43)
      else
        xl (w32 (v5 + 1)) fun v5_45 =>
        M_air_F81 R l0 l1 l2 l3 l4 q121 n v5_45 M
    else
      q121 M
def M_air_F124 (R : xR) (l0 : Nat) (l1 : Int) (l2 : Int) (l3 : Int) (l4 : Int) (q144 : xM → Option (Int × xM)) : Nat → Int → xM → Option (Int × xM)
  | 0, _, _ => none
  | n + 1, v5, M =>
    if v5 < l2 then
      xch (0 ≤ v5 ∧ v5 < 8) <|
      xl (xu M (R l0 101) (Int.toNat v5) 0) fun M_49 =>
      xl (w32 (v5 + 1)) fun v5_50 =>
      M_air_F124 R l0 l1 l2 l3 l4 q144 n v5_50 M_49
    else
      q144 M
def M_air_J187 (R : xR) (l0 : Nat) (l1 : Int) (l2 : Int) (l3 : Int) (l4 : Int) (rc : Int → Int → Int → xM → Option (Int × xM)) (q193 : Int → Int → xM → Option (Int × xM)) (v5 : Int) (v6 : Int) (v7 : Int) (M : xM) : Option (Int × xM) :=
  xl (w32 (v7 + 1)) fun v7_59 =>
  rc v5 v6 v7_59 M
def M_air_F159 (R : xR) (l0 : Nat) (l1 : Int) (l2 : Int) (l3 : Int) (l4 : Int) (q193 : Int → Int → xM → Option (Int × xM)) : Nat → Int → Int → Int → xM → Option (Int × xM)
  | 0, _, _, _, _ => none
  | n + 1, v5, v6, v7, M =>
    if v7 < l2 then
      xb1 (f_M_hinders R l0 l1 v7 M) fun r_54 =>
      xb1 (f_M_hinders R l0 l1 v6 M) fun r_56 =>
      if r_54 < r_56 then
        M_air_J187 R l0 l1 l2 l3 l4 (M_air_F159 R l0 l1 l2 l3 l4 q193 n) q193 v5 v7 v7 M
      else
        M_air_J187 R l0 l1 l2 l3 l4 (M_air_F159 R l0 l1 l2 l3 l4 q193 n) q193 v5 v6 v7 M
    else
      q193 v5 v6 M
def M_air_F147 (R : xR) (l0 : Nat) (l1 : Int) (l2 : Int) (l3 : Int) (l4 : Int) : Nat → Int → xM → Option (Int × xM)
  | 0, _, _ => none
  | n + 1, v5, M =>
    if v5 < l3 then
      M_air_F159 R l0 l1 l2 l3 l4
        (fun (v5_60 : Int) (v6_61 : Int) (M_62 : xM) =>
          xch (0 ≤ v6_61 ∧ v6_61 < 8) <|
          xl (xu M_62 (R l0 101) (Int.toNat v6_61) (w32 ((M_62 (R l0 101) (Int.toNat v6_61)) + 1))) fun M_64 =>
          xl (w32 (v5_60 + 1)) fun v5_65 =>
          M_air_F147 R l0 l1 l2 l3 l4  n v5_65 M_64)
        xfu v5 0 1 M
    else
      xch (0 ≤ l4 ∧ l4 < 8) <|
      xb2 (f_M_gives l0 (M (R l0 101) (Int.toNat l4)) M) fun r_67 M_68 =>
      some (r_67, M_68)
def f_M_air (R : xR) (l0 : Nat) (l1 : Int) (l2 : Int) (l3 : Int) (l4 : Int) (M : xM) : Option (Int × xM) :=
  xb1 (f_M_isTray l1) fun r_1 =>
  if r_1 = 0 then
    xb2 (f_M_refuse l0 1 M) fun r_4 M_5 =>
    some (r_4, M_5)
  else
    if l2 < 1 then
      xb2 (f_M_refuse l0 1 M) fun r_8 M_9 =>
      some (r_8, M_9)
    else
      if 8 < l2 then
        xb2 (f_M_refuse l0 1 M) fun r_12 M_13 =>
        some (r_12, M_13)
      else
        if l3 < 0 then
          xb2 (f_M_refuse l0 1 M) fun r_16 M_17 =>
          some (r_16, M_17)
        else
          if 200 < l3 then
            xb2 (f_M_refuse l0 1 M) fun r_20 M_21 =>
            some (r_20, M_21)
          else
            if l4 < 0 then
              xb2 (f_M_refuse l0 1 M) fun r_24 M_25 =>
              some (r_24, M_25)
            else
              if l4 < l2 then
                xch (0 ≤ l1 ∧ l1 < 4) <|
                if M (R l0 2) (Int.toNat l1) = -1 then
                  xb2 (f_M_refuse l0 2 M) fun r_30 M_31 =>
                  some (r_30, M_31)
                else
                  if M (R l0 2) (Int.toNat l1) < l2 then
                    xb2 (f_M_refuse l0 3 M) fun r_34 M_35 =>
                    some (r_34, M_35)
                  else
                    M_air_F81 R l0 l1 l2 l3 l4
                      (fun (M_46 : xM) =>
                        M_air_F124 R l0 l1 l2 l3 l4
                          (fun (M_51 : xM) =>
                            M_air_F147 R l0 l1 l2 l3 l4
                              xfu 0 M_51)
                          xfu 0 M_46)
                      xfu 0 M
              else
                xb2 (f_M_refuse l0 1 M) fun r_70 M_71 =>
                some (r_70, M_71)
set_option maxRecDepth 100000 in
set_option maxHeartbeats 4000000 in
theorem s_M_air {d : Nat} {sc : List Int} {z z' : xS} {out : xO} (qs : List xI) {cs : List Prop} (hq : qs.all (xqb 10 false y_M_air.2.2.1 y_M_air.2.1) = true) (h : xN false sc qs z = some (z', cs)) (hc : xAll cs) (hE : z'.2.2.2.2.2 ≤ 174) (k : XR false d 174 sc y_M_air z' out) : XR false d 174 sc y_M_air z out := XR.seg 10 false rfl (fun q => by cases q) qs hq h hc hE k
set_option maxRecDepth 100000 in
set_option maxHeartbeats 4000000 in
theorem o_M_air_F81 {sc : List Int} {R : xR}   {l0 : Nat} {l1 : Int} {l2 : Int} {l3 : Int} {l4 : Int}  {q121 : xM → Option (Int × xM)} (hq121 : ∀ (M : xM) (out : Int × xM), q121 M = some out → XR false 1 174 sc y_M_air (121, [(0, (vR 10 l0)), (1, (vI l1)), (2, (vI l2)), (3, (vI l3)), (4, (vI l4))], [], R, M, 174) ((some (vI out.1)), R, out.2)) : ∀ (n : Nat) (v5 : Int) (M : xM) (out : Int × xM), M_air_F81 R l0 l1 l2 l3 l4 q121 n v5 M = some out → XR false 1 174 sc y_M_air (81, [(0, (vR 10 l0)), (1, (vI l1)), (2, (vI l2)), (3, (vI l3)), (4, (vI l4)), (5, (vI v5))], [], R, M, 174) ((some (vI out.1)), R, out.2) := by
  intro n
  induction n with
  | zero => intro v5 M out h; exact (xno h).elim
  | succ n ih =>
    intro v5 M out h
    rw [M_air_F81] at h
    refine s_M_air [(81, .iload 5, 0, 0), (83, .iload_n 2, 0, 0)] (by decide +kernel) (z' := (84, [(0, (vR 10 l0)), (1, (vI l1)), (2, (vI l2)), (3, (vI l3)), (4, (vI l4)), (5, (vI v5))], [(vI l2), (vI v5)], R, M, 174)) (cs := []) (by rfl) trivial (Nat.le_refl _) ?_
    rcases xif_ex h with ⟨c_37, h⟩ | ⟨c_37, h⟩
    · skip
      obtain ⟨c_38, h⟩ := xch_ex h
      refine s_M_air [(84, .if_icmp .ge 37, 0, (-1)), (87, .aload_n 0, 0, 0), (88, .getfield 16, 10, 3), (91, .bipush 60, 0, 60), (93, .iload_n 1, 0, 0), (94, .imul, 0, 0), (95, .iload 5, 0, 0), (97, .iadd, 0, 0), (98, .laload, 0, 0), (99, .lconst 1, 0, 1), (100, .ldc2_w 532, 0, 100)] (by decide +kernel) (z' := (103, [(0, (vR 10 l0)), (1, (vI l1)), (2, (vI l2)), (3, (vI l3)), (4, (vI l4)), (5, (vI v5))], [(vL 100), (vL 1), (vL (M (R l0 3) (Int.toNat (w32 ((w32 (60 * l1)) + v5)))))], R, M, 174)) (cs := [¬ (l2 ≤ v5), xar 40 1, xidx (w32 ((w32 (60 * l1)) + v5)) (xan 40)]) (by rfl) ⟨Int.not_le.mpr c_37, xar_40, xix_40 c_38, trivial⟩ (Nat.le_refl _) ?_
      obtain ⟨r_39, e_40, h⟩ := xb1_ex h
      refine XR.callS 10 rfl (rest := []) m_M_isFrom k_10_534 [(vL (M (R l0 3) (Int.toNat (w32 ((w32 (60 * l1)) + v5))))), (vL 1), (vL 100)] rfl rfl (c_M_isFrom e_40) (by decide) (Nat.le_of_ble_eq_true rfl) (by decide +kernel) (Nat.le_refl _) (Nat.le_refl _) ?_
      show XR false 1 174 sc y_M_air (106, [(0, (vR 10 l0)), (1, (vI l1)), (2, (vI l2)), (3, (vI l3)), (4, (vI l4)), (5, (vI v5))], [(vI r_39)], R, M, 174) _
      rcases xif_ex h with ⟨c_41, h⟩ | ⟨c_41, h⟩
      · skip
        refine s_M_air [(106, .ifCond .ne 9, 0, (-1)), (109, .aload_n 0, 0, 0), (110, .iconst 1, 0, 1)] (by decide +kernel) (z' := (111, [(0, (vR 10 l0)), (1, (vI l1)), (2, (vI l2)), (3, (vI l3)), (4, (vI l4)), (5, (vI v5))], [(vI 1), (vR 10 l0)], R, M, 174)) (cs := [¬ (r_39 ≠ 0)]) (by rfl) ⟨fun q => q c_41, trivial⟩ (Nat.le_refl _) ?_
        obtain ⟨r_42, M_43, e_44, h⟩ := xb2_ex h
        refine XR.callV 10 rfl (rest := []) m_M_refuse k_10_377 10 l0 (Or.inl ⟨by decide, rfl⟩) [(vI 1)] rfl rfl (c_M_refuse e_44) (by decide) (Nat.le_of_ble_eq_true rfl) (by decide +kernel) (Nat.le_refl _) (Nat.le_refl _) ?_
        show XR false 1 174 sc y_M_air (114, [(0, (vR 10 l0)), (1, (vI l1)), (2, (vI l2)), (3, (vI l3)), (4, (vI l4)), (5, (vI v5))], [(vI r_42)], R, M_43, 174) _
        obtain rfl := Option.some.inj h
        exact XR.retI .int rfl rfl (by decide +kernel)
      · skip
        obtain ⟨v5_45, hv5_45, h⟩ := xl_ex h
        refine s_M_air [(106, .ifCond .ne 9, 0, 115), (115, .iinc 5 1, 0, 0), (118, .goto (-37), 0, 81)] (by decide +kernel) (z' := (81, [(5, (vI v5_45)), (0, (vR 10 l0)), (1, (vI l1)), (2, (vI l2)), (3, (vI l3)), (4, (vI l4))], [], R, M, 174)) (cs := [r_39 ≠ 0]) (by subst hv5_45; rfl) ⟨c_41, trivial⟩ (Nat.le_refl _) ?_
        refine XR.pick [1, 2, 3, 4, 5, 0] (ls' := [(0, (vR 10 l0)), (1, (vI l1)), (2, (vI l2)), (3, (vI l3)), (4, (vI l4)), (5, (vI v5_45))]) rfl ?_
        exact ih v5_45 M _ h
    · skip
      refine s_M_air [(84, .if_icmp .ge 37, 0, 121)] (by decide +kernel) (z' := (121, [(0, (vR 10 l0)), (1, (vI l1)), (2, (vI l2)), (3, (vI l3)), (4, (vI l4)), (5, (vI v5))], [], R, M, 174)) (cs := [l2 ≤ v5]) (by rfl) ⟨Int.not_lt.mp c_37, trivial⟩ (Nat.le_refl _) ?_
      refine XR.pick [0, 1, 2, 3, 4] (ls' := [(0, (vR 10 l0)), (1, (vI l1)), (2, (vI l2)), (3, (vI l3)), (4, (vI l4))]) rfl ?_
      exact hq121 M _ h
set_option maxRecDepth 100000 in
set_option maxHeartbeats 4000000 in
theorem o_M_air_F124 {sc : List Int} {R : xR}   {l0 : Nat} {l1 : Int} {l2 : Int} {l3 : Int} {l4 : Int}  {q144 : xM → Option (Int × xM)} (hq144 : ∀ (M : xM) (out : Int × xM), q144 M = some out → XR false 1 174 sc y_M_air (144, [(0, (vR 10 l0)), (1, (vI l1)), (2, (vI l2)), (3, (vI l3)), (4, (vI l4))], [], R, M, 174) ((some (vI out.1)), R, out.2)) : ∀ (n : Nat) (v5 : Int) (M : xM) (out : Int × xM), M_air_F124 R l0 l1 l2 l3 l4 q144 n v5 M = some out → XR false 1 174 sc y_M_air (124, [(0, (vR 10 l0)), (1, (vI l1)), (2, (vI l2)), (3, (vI l3)), (4, (vI l4)), (5, (vI v5))], [], R, M, 174) ((some (vI out.1)), R, out.2) := by
  intro n
  induction n with
  | zero => intro v5 M out h; exact (xno h).elim
  | succ n ih =>
    intro v5 M out h
    rw [M_air_F124] at h
    refine s_M_air [(124, .iload 5, 0, 0), (126, .iload_n 2, 0, 0)] (by decide +kernel) (z' := (127, [(0, (vR 10 l0)), (1, (vI l1)), (2, (vI l2)), (3, (vI l3)), (4, (vI l4)), (5, (vI v5))], [(vI l2), (vI v5)], R, M, 174)) (cs := []) (by rfl) trivial (Nat.le_refl _) ?_
    rcases xif_ex h with ⟨c_47, h⟩ | ⟨c_47, h⟩
    · skip
      obtain ⟨c_48, h⟩ := xch_ex h
      obtain ⟨M_49, hM_49, h⟩ := xl_ex h
      obtain ⟨v5_50, hv5_50, h⟩ := xl_ex h
      refine s_M_air [(127, .if_icmp .ge 17, 0, (-1)), (130, .aload_n 0, 0, 0), (131, .getfield 235, 10, 101), (134, .iload 5, 0, 0), (136, .iconst 0, 0, 0), (137, .iastore, 0, 0), (138, .iinc 5 1, 0, 0), (141, .goto (-17), 0, 124)] (by decide +kernel) (z' := (124, [(5, (vI v5_50)), (0, (vR 10 l0)), (1, (vI l1)), (2, (vI l2)), (3, (vI l3)), (4, (vI l4))], [], R, M_49, 174)) (cs := [¬ (l2 ≤ v5), xar 30 0, xidx v5 (xan 30)]) (by subst hM_49; subst hv5_50; rfl) ⟨Int.not_le.mpr c_47, xar_30, xix_30 c_48, trivial⟩ (Nat.le_refl _) ?_
      refine XR.pick [1, 2, 3, 4, 5, 0] (ls' := [(0, (vR 10 l0)), (1, (vI l1)), (2, (vI l2)), (3, (vI l3)), (4, (vI l4)), (5, (vI v5_50))]) rfl ?_
      exact ih v5_50 M_49 _ h
    · skip
      refine s_M_air [(127, .if_icmp .ge 17, 0, 144)] (by decide +kernel) (z' := (144, [(0, (vR 10 l0)), (1, (vI l1)), (2, (vI l2)), (3, (vI l3)), (4, (vI l4)), (5, (vI v5))], [], R, M, 174)) (cs := [l2 ≤ v5]) (by rfl) ⟨Int.not_lt.mp c_47, trivial⟩ (Nat.le_refl _) ?_
      refine XR.pick [0, 1, 2, 3, 4] (ls' := [(0, (vR 10 l0)), (1, (vI l1)), (2, (vI l2)), (3, (vI l3)), (4, (vI l4))]) rfl ?_
      exact hq144 M _ h
set_option maxRecDepth 100000 in
set_option maxHeartbeats 4000000 in
theorem o_M_air_J187 {sc : List Int} {R : xR}   {l0 : Nat} {l1 : Int} {l2 : Int} {l3 : Int} {l4 : Int}  {rc : Int → Int → Int → xM → Option (Int × xM)} {q193 : Int → Int → xM → Option (Int × xM)} (hrc : ∀ (w5 : Int) (w6 : Int) (w7 : Int) (M : xM) (out : Int × xM), rc w5 w6 w7 M = some out → XR false 1 174 sc y_M_air (159, [(0, (vR 10 l0)), (1, (vI l1)), (2, (vI l2)), (3, (vI l3)), (4, (vI l4)), (5, (vI w5)), (6, (vI w6)), (7, (vI w7))], [], R, M, 174) ((some (vI out.1)), R, out.2)) (hq193 : ∀ (w5 : Int) (w6 : Int) (M : xM) (out : Int × xM), q193 w5 w6 M = some out → XR false 1 174 sc y_M_air (193, [(0, (vR 10 l0)), (1, (vI l1)), (2, (vI l2)), (3, (vI l3)), (4, (vI l4)), (5, (vI w5)), (6, (vI w6))], [], R, M, 174) ((some (vI out.1)), R, out.2)) {v5 : Int} {v6 : Int} {v7 : Int} {M : xM} {out : Int × xM} (h : M_air_J187 R l0 l1 l2 l3 l4 rc q193 v5 v6 v7 M = some out) : XR false 1 174 sc y_M_air (187, [(0, (vR 10 l0)), (1, (vI l1)), (2, (vI l2)), (3, (vI l3)), (4, (vI l4)), (5, (vI v5)), (6, (vI v6)), (7, (vI v7))], [], R, M, 174) ((some (vI out.1)), R, out.2) := by
  unfold M_air_J187 at h
  obtain ⟨v7_59, hv7_59, h⟩ := xl_ex h
  refine s_M_air [(187, .iinc 7 1, 0, 0), (190, .goto (-31), 0, 159)] (by decide +kernel) (z' := (159, [(7, (vI v7_59)), (0, (vR 10 l0)), (1, (vI l1)), (2, (vI l2)), (3, (vI l3)), (4, (vI l4)), (5, (vI v5)), (6, (vI v6))], [], R, M, 174)) (cs := []) (by subst hv7_59; rfl) trivial (Nat.le_refl _) ?_
  refine XR.pick [1, 2, 3, 4, 5, 6, 7, 0] (ls' := [(0, (vR 10 l0)), (1, (vI l1)), (2, (vI l2)), (3, (vI l3)), (4, (vI l4)), (5, (vI v5)), (6, (vI v6)), (7, (vI v7_59))]) rfl ?_
  exact hrc v5 v6 v7_59 M _ h
set_option maxRecDepth 100000 in
set_option maxHeartbeats 4000000 in
theorem o_M_air_F159 {sc : List Int} {R : xR}   {l0 : Nat} {l1 : Int} {l2 : Int} {l3 : Int} {l4 : Int}  {q193 : Int → Int → xM → Option (Int × xM)} (hq193 : ∀ (w5 : Int) (w6 : Int) (M : xM) (out : Int × xM), q193 w5 w6 M = some out → XR false 1 174 sc y_M_air (193, [(0, (vR 10 l0)), (1, (vI l1)), (2, (vI l2)), (3, (vI l3)), (4, (vI l4)), (5, (vI w5)), (6, (vI w6))], [], R, M, 174) ((some (vI out.1)), R, out.2)) : ∀ (n : Nat) (v5 : Int) (v6 : Int) (v7 : Int) (M : xM) (out : Int × xM), M_air_F159 R l0 l1 l2 l3 l4 q193 n v5 v6 v7 M = some out → XR false 1 174 sc y_M_air (159, [(0, (vR 10 l0)), (1, (vI l1)), (2, (vI l2)), (3, (vI l3)), (4, (vI l4)), (5, (vI v5)), (6, (vI v6)), (7, (vI v7))], [], R, M, 174) ((some (vI out.1)), R, out.2) := by
  intro n
  induction n with
  | zero => intro v5 v6 v7 M out h; exact (xno h).elim
  | succ n ih =>
    intro v5 v6 v7 M out h
    rw [M_air_F159] at h
    refine s_M_air [(159, .iload 7, 0, 0), (161, .iload_n 2, 0, 0)] (by decide +kernel) (z' := (162, [(0, (vR 10 l0)), (1, (vI l1)), (2, (vI l2)), (3, (vI l3)), (4, (vI l4)), (5, (vI v5)), (6, (vI v6)), (7, (vI v7))], [(vI l2), (vI v7)], R, M, 174)) (cs := []) (by rfl) trivial (Nat.le_refl _) ?_
    rcases xif_ex h with ⟨c_53, h⟩ | ⟨c_53, h⟩
    · skip
      refine s_M_air [(162, .if_icmp .ge 31, 0, (-1)), (165, .aload_n 0, 0, 0), (166, .iload_n 1, 0, 0), (167, .iload 7, 0, 0)] (by decide +kernel) (z' := (169, [(0, (vR 10 l0)), (1, (vI l1)), (2, (vI l2)), (3, (vI l3)), (4, (vI l4)), (5, (vI v5)), (6, (vI v6)), (7, (vI v7))], [(vI v7), (vI l1), (vR 10 l0)], R, M, 174)) (cs := [¬ (l2 ≤ v7)]) (by rfl) ⟨Int.not_le.mpr c_53, trivial⟩ (Nat.le_refl _) ?_
      obtain ⟨r_54, e_55, h⟩ := xb1_ex h
      refine XR.callV 10 rfl (rest := []) m_M_hinders k_10_543 10 l0 (Or.inl ⟨by decide, rfl⟩) [(vI l1), (vI v7)] rfl rfl (c_M_hinders e_55) (by decide) (Nat.le_of_ble_eq_true rfl) (by decide +kernel) (Nat.le_refl _) (Nat.le_refl _) ?_
      show XR false 1 174 sc y_M_air (172, [(0, (vR 10 l0)), (1, (vI l1)), (2, (vI l2)), (3, (vI l3)), (4, (vI l4)), (5, (vI v5)), (6, (vI v6)), (7, (vI v7))], [(vL r_54)], R, M, 174) _
      refine s_M_air [(172, .aload_n 0, 0, 0), (173, .iload_n 1, 0, 0), (174, .iload 6, 0, 0)] (by decide +kernel) (z' := (176, [(0, (vR 10 l0)), (1, (vI l1)), (2, (vI l2)), (3, (vI l3)), (4, (vI l4)), (5, (vI v5)), (6, (vI v6)), (7, (vI v7))], [(vI v6), (vI l1), (vR 10 l0), (vL r_54)], R, M, 174)) (cs := []) (by rfl) trivial (Nat.le_refl _) ?_
      obtain ⟨r_56, e_57, h⟩ := xb1_ex h
      refine XR.callV 10 rfl (rest := [(vL r_54)]) m_M_hinders k_10_543 10 l0 (Or.inl ⟨by decide, rfl⟩) [(vI l1), (vI v6)] rfl rfl (c_M_hinders e_57) (by decide) (Nat.le_of_ble_eq_true rfl) (by decide +kernel) (Nat.le_refl _) (Nat.le_refl _) ?_
      show XR false 1 174 sc y_M_air (179, [(0, (vR 10 l0)), (1, (vI l1)), (2, (vI l2)), (3, (vI l3)), (4, (vI l4)), (5, (vI v5)), (6, (vI v6)), (7, (vI v7))], [(vL r_56), (vL r_54)], R, M, 174) _
      refine s_M_air [(179, .lcmp, 0, 0)] (by decide +kernel) (z' := (180, [(0, (vR 10 l0)), (1, (vI l1)), (2, (vI l2)), (3, (vI l3)), (4, (vI l4)), (5, (vI v5)), (6, (vI v6)), (7, (vI v7))], [(vI (xcmp r_54 r_56))], R, M, 174)) (cs := []) (by rfl) trivial (Nat.le_refl _) ?_
      rcases xif_ex h with ⟨c_58, h⟩ | ⟨c_58, h⟩
      · skip
        refine s_M_air [(180, .ifCond .ge 7, 0, (-1)), (183, .iload 7, 0, 0), (185, .istore 6, 0, 0)] (by decide +kernel) (z' := (187, [(6, (vI v7)), (0, (vR 10 l0)), (1, (vI l1)), (2, (vI l2)), (3, (vI l3)), (4, (vI l4)), (5, (vI v5)), (7, (vI v7))], [], R, M, 174)) (cs := [¬ (0 ≤ xcmp r_54 r_56)]) (by rfl) ⟨fun q => xcmp_ge.mp q c_58, trivial⟩ (Nat.le_refl _) ?_
        refine XR.pick [1, 2, 3, 4, 5, 6, 0, 7] (ls' := [(0, (vR 10 l0)), (1, (vI l1)), (2, (vI l2)), (3, (vI l3)), (4, (vI l4)), (5, (vI v5)), (6, (vI v7)), (7, (vI v7))]) rfl ?_
        exact o_M_air_J187 ih hq193 h
      · skip
        refine s_M_air [(180, .ifCond .ge 7, 0, 187)] (by decide +kernel) (z' := (187, [(0, (vR 10 l0)), (1, (vI l1)), (2, (vI l2)), (3, (vI l3)), (4, (vI l4)), (5, (vI v5)), (6, (vI v6)), (7, (vI v7))], [], R, M, 174)) (cs := [0 ≤ xcmp r_54 r_56]) (by rfl) ⟨xcmp_ge.mpr c_58, trivial⟩ (Nat.le_refl _) ?_
        exact o_M_air_J187 ih hq193 h
    · skip
      refine s_M_air [(162, .if_icmp .ge 31, 0, 193)] (by decide +kernel) (z' := (193, [(0, (vR 10 l0)), (1, (vI l1)), (2, (vI l2)), (3, (vI l3)), (4, (vI l4)), (5, (vI v5)), (6, (vI v6)), (7, (vI v7))], [], R, M, 174)) (cs := [l2 ≤ v7]) (by rfl) ⟨Int.not_lt.mp c_53, trivial⟩ (Nat.le_refl _) ?_
      refine XR.pick [0, 1, 2, 3, 4, 5, 6] (ls' := [(0, (vR 10 l0)), (1, (vI l1)), (2, (vI l2)), (3, (vI l3)), (4, (vI l4)), (5, (vI v5)), (6, (vI v6))]) rfl ?_
      exact hq193 v5 v6 M _ h
set_option maxRecDepth 100000 in
set_option maxHeartbeats 4000000 in
theorem o_M_air_F147 {sc : List Int} {R : xR}   {l0 : Nat} {l1 : Int} {l2 : Int} {l3 : Int} {l4 : Int}  : ∀ (n : Nat) (v5 : Int) (M : xM) (out : Int × xM), M_air_F147 R l0 l1 l2 l3 l4  n v5 M = some out → XR false 1 174 sc y_M_air (147, [(0, (vR 10 l0)), (1, (vI l1)), (2, (vI l2)), (3, (vI l3)), (4, (vI l4)), (5, (vI v5))], [], R, M, 174) ((some (vI out.1)), R, out.2) := by
  intro n
  induction n with
  | zero => intro v5 M out h; exact (xno h).elim
  | succ n ih =>
    intro v5 M out h
    rw [M_air_F147] at h
    refine s_M_air [(147, .iload 5, 0, 0), (149, .iload_n 3, 0, 0)] (by decide +kernel) (z' := (150, [(0, (vR 10 l0)), (1, (vI l1)), (2, (vI l2)), (3, (vI l3)), (4, (vI l4)), (5, (vI v5))], [(vI l3), (vI v5)], R, M, 174)) (cs := []) (by rfl) trivial (Nat.le_refl _) ?_
    rcases xif_ex h with ⟨c_52, h⟩ | ⟨c_52, h⟩
    · skip
      refine s_M_air [(150, .if_icmp .ge 60, 0, (-1)), (153, .iconst 0, 0, 0), (154, .istore 6, 0, 0), (156, .iconst 1, 0, 1), (157, .istore 7, 0, 0)] (by decide +kernel) (z' := (159, [(7, (vI 1)), (6, (vI 0)), (0, (vR 10 l0)), (1, (vI l1)), (2, (vI l2)), (3, (vI l3)), (4, (vI l4)), (5, (vI v5))], [], R, M, 174)) (cs := [¬ (l3 ≤ v5)]) (by rfl) ⟨Int.not_le.mpr c_52, trivial⟩ (Nat.le_refl _) ?_
      refine XR.pick [2, 3, 4, 5, 6, 7, 1, 0] (ls' := [(0, (vR 10 l0)), (1, (vI l1)), (2, (vI l2)), (3, (vI l3)), (4, (vI l4)), (5, (vI v5)), (6, (vI 0)), (7, (vI 1))]) rfl ?_
      refine o_M_air_F159 ?_ xfu v5 0 1 M _ h
      · intro v5_60 v6_61 M_62 out h
        obtain ⟨c_63, h⟩ := xch_ex h
        obtain ⟨M_64, hM_64, h⟩ := xl_ex h
        obtain ⟨v5_65, hv5_65, h⟩ := xl_ex h
        refine s_M_air [(193, .aload_n 0, 0, 0), (194, .getfield 235, 10, 101), (197, .iload 6, 0, 0), (199, .dup2, 0, 0), (200, .iaload, 0, 0), (201, .iconst 1, 0, 1), (202, .iadd, 0, 0), (203, .iastore, 0, 0), (204, .iinc 5 1, 0, 0), (207, .goto (-60), 0, 147)] (by decide +kernel) (z' := (147, [(5, (vI v5_65)), (0, (vR 10 l0)), (1, (vI l1)), (2, (vI l2)), (3, (vI l3)), (4, (vI l4)), (6, (vI v6_61))], [], R, M_64, 174)) (cs := [xar 30 0, xidx v6_61 (xan 30), xar 30 0, xidx v6_61 (xan 30)]) (by subst hM_64; subst hv5_65; rfl) ⟨xar_30, xix_30 c_63, xar_30, xix_30 c_63, trivial⟩ (Nat.le_refl _) ?_
        refine XR.pick [1, 2, 3, 4, 5, 0] (ls' := [(0, (vR 10 l0)), (1, (vI l1)), (2, (vI l2)), (3, (vI l3)), (4, (vI l4)), (5, (vI v5_65))]) rfl ?_
        exact ih v5_65 M_64 _ h
    · skip
      obtain ⟨c_66, h⟩ := xch_ex h
      refine s_M_air [(150, .if_icmp .ge 60, 0, 210), (210, .aload_n 0, 0, 0), (211, .aload_n 0, 0, 0), (212, .getfield 235, 10, 101), (215, .iload 4, 0, 0), (217, .iaload, 0, 0)] (by decide +kernel) (z' := (218, [(0, (vR 10 l0)), (1, (vI l1)), (2, (vI l2)), (3, (vI l3)), (4, (vI l4)), (5, (vI v5))], [(vI (M (R l0 101) (Int.toNat l4))), (vR 10 l0)], R, M, 174)) (cs := [l3 ≤ v5, xar 30 0, xidx l4 (xan 30)]) (by rfl) ⟨Int.not_lt.mp c_52, xar_30, xix_30 c_66, trivial⟩ (Nat.le_refl _) ?_
      obtain ⟨r_67, M_68, e_69, h⟩ := xb2_ex h
      refine XR.callV 10 rfl (rest := []) m_M_gives k_10_405 10 l0 (Or.inl ⟨by decide, rfl⟩) [(vI (M (R l0 101) (Int.toNat l4)))] rfl rfl (c_M_gives e_69) (by decide) (Nat.le_of_ble_eq_true rfl) (by decide +kernel) (Nat.le_refl _) (Nat.le_refl _) ?_
      show XR false 1 174 sc y_M_air (221, [(0, (vR 10 l0)), (1, (vI l1)), (2, (vI l2)), (3, (vI l3)), (4, (vI l4)), (5, (vI v5))], [(vI r_67)], R, M_68, 174) _
      obtain rfl := Option.some.inj h
      exact XR.retI .int rfl rfl (by decide +kernel)
set_option maxRecDepth 100000 in
set_option maxHeartbeats 4000000 in
theorem o_M_air {sc : List Int} {R : xR} {M : xM} {l0 : Nat} {l1 : Int} {l2 : Int} {l3 : Int} {l4 : Int} {out : Int × xM} (h : f_M_air R l0 l1 l2 l3 l4 M = some out) : XR false 1 174 sc y_M_air (0, [(0, (vR 10 l0)), (1, (vI l1)), (2, (vI l2)), (3, (vI l3)), (4, (vI l4))], [], R, M, 174) ((some (vI out.1)), R, out.2) := by
  unfold f_M_air at h
  refine s_M_air [(0, .iload_n 1, 0, 0)] (by decide +kernel) (z' := (1, [(0, (vR 10 l0)), (1, (vI l1)), (2, (vI l2)), (3, (vI l3)), (4, (vI l4))], [(vI l1)], R, M, 174)) (cs := []) (by rfl) trivial (Nat.le_refl _) ?_
  obtain ⟨r_1, e_2, h⟩ := xb1_ex h
  refine XR.callS 10 rfl (rest := []) m_M_isTray k_10_250 [(vI l1)] rfl rfl (c_M_isTray e_2) (by decide) (Nat.le_of_ble_eq_true rfl) (by decide +kernel) (Nat.le_refl _) (Nat.le_refl _) ?_
  show XR false 1 174 sc y_M_air (4, [(0, (vR 10 l0)), (1, (vI l1)), (2, (vI l2)), (3, (vI l3)), (4, (vI l4))], [(vI r_1)], R, M, 174) _
  rcases xif_ex h with ⟨c_3, h⟩ | ⟨c_3, h⟩
  · skip
    refine s_M_air [(4, .ifCond .eq 36, 0, 40), (40, .aload_n 0, 0, 0), (41, .iconst 1, 0, 1)] (by decide +kernel) (z' := (42, [(0, (vR 10 l0)), (1, (vI l1)), (2, (vI l2)), (3, (vI l3)), (4, (vI l4))], [(vI 1), (vR 10 l0)], R, M, 174)) (cs := [r_1 = 0]) (by rfl) ⟨c_3, trivial⟩ (Nat.le_refl _) ?_
    obtain ⟨r_4, M_5, e_6, h⟩ := xb2_ex h
    refine XR.callV 10 rfl (rest := []) m_M_refuse k_10_377 10 l0 (Or.inl ⟨by decide, rfl⟩) [(vI 1)] rfl rfl (c_M_refuse e_6) (by decide) (Nat.le_of_ble_eq_true rfl) (by decide +kernel) (Nat.le_refl _) (Nat.le_refl _) ?_
    show XR false 1 174 sc y_M_air (45, [(0, (vR 10 l0)), (1, (vI l1)), (2, (vI l2)), (3, (vI l3)), (4, (vI l4))], [(vI r_4)], R, M_5, 174) _
    obtain rfl := Option.some.inj h
    exact XR.retI .int rfl rfl (by decide +kernel)
  · skip
    refine s_M_air [(4, .ifCond .eq 36, 0, (-1)), (7, .iload_n 2, 0, 0), (8, .iconst 1, 0, 1)] (by decide +kernel) (z' := (9, [(0, (vR 10 l0)), (1, (vI l1)), (2, (vI l2)), (3, (vI l3)), (4, (vI l4))], [(vI 1), (vI l2)], R, M, 174)) (cs := [¬ (r_1 = 0)]) (by rfl) ⟨c_3, trivial⟩ (Nat.le_refl _) ?_
    rcases xif_ex h with ⟨c_7, h⟩ | ⟨c_7, h⟩
    · skip
      refine s_M_air [(9, .if_icmp .lt 31, 0, 40), (40, .aload_n 0, 0, 0), (41, .iconst 1, 0, 1)] (by decide +kernel) (z' := (42, [(0, (vR 10 l0)), (1, (vI l1)), (2, (vI l2)), (3, (vI l3)), (4, (vI l4))], [(vI 1), (vR 10 l0)], R, M, 174)) (cs := [l2 < 1]) (by rfl) ⟨c_7, trivial⟩ (Nat.le_refl _) ?_
      obtain ⟨r_8, M_9, e_10, h⟩ := xb2_ex h
      refine XR.callV 10 rfl (rest := []) m_M_refuse k_10_377 10 l0 (Or.inl ⟨by decide, rfl⟩) [(vI 1)] rfl rfl (c_M_refuse e_10) (by decide) (Nat.le_of_ble_eq_true rfl) (by decide +kernel) (Nat.le_refl _) (Nat.le_refl _) ?_
      show XR false 1 174 sc y_M_air (45, [(0, (vR 10 l0)), (1, (vI l1)), (2, (vI l2)), (3, (vI l3)), (4, (vI l4))], [(vI r_8)], R, M_9, 174) _
      obtain rfl := Option.some.inj h
      exact XR.retI .int rfl rfl (by decide +kernel)
    · skip
      refine s_M_air [(9, .if_icmp .lt 31, 0, (-1)), (12, .iload_n 2, 0, 0), (13, .bipush 8, 0, 8)] (by decide +kernel) (z' := (15, [(0, (vR 10 l0)), (1, (vI l1)), (2, (vI l2)), (3, (vI l3)), (4, (vI l4))], [(vI 8), (vI l2)], R, M, 174)) (cs := [¬ (l2 < 1)]) (by rfl) ⟨c_7, trivial⟩ (Nat.le_refl _) ?_
      rcases xif_ex h with ⟨c_11, h⟩ | ⟨c_11, h⟩
      · skip
        refine s_M_air [(15, .if_icmp .gt 25, 0, 40), (40, .aload_n 0, 0, 0), (41, .iconst 1, 0, 1)] (by decide +kernel) (z' := (42, [(0, (vR 10 l0)), (1, (vI l1)), (2, (vI l2)), (3, (vI l3)), (4, (vI l4))], [(vI 1), (vR 10 l0)], R, M, 174)) (cs := [8 < l2]) (by rfl) ⟨c_11, trivial⟩ (Nat.le_refl _) ?_
        obtain ⟨r_12, M_13, e_14, h⟩ := xb2_ex h
        refine XR.callV 10 rfl (rest := []) m_M_refuse k_10_377 10 l0 (Or.inl ⟨by decide, rfl⟩) [(vI 1)] rfl rfl (c_M_refuse e_14) (by decide) (Nat.le_of_ble_eq_true rfl) (by decide +kernel) (Nat.le_refl _) (Nat.le_refl _) ?_
        show XR false 1 174 sc y_M_air (45, [(0, (vR 10 l0)), (1, (vI l1)), (2, (vI l2)), (3, (vI l3)), (4, (vI l4))], [(vI r_12)], R, M_13, 174) _
        obtain rfl := Option.some.inj h
        exact XR.retI .int rfl rfl (by decide +kernel)
      · skip
        refine s_M_air [(15, .if_icmp .gt 25, 0, (-1)), (18, .iload_n 3, 0, 0)] (by decide +kernel) (z' := (19, [(0, (vR 10 l0)), (1, (vI l1)), (2, (vI l2)), (3, (vI l3)), (4, (vI l4))], [(vI l3)], R, M, 174)) (cs := [¬ (8 < l2)]) (by rfl) ⟨c_11, trivial⟩ (Nat.le_refl _) ?_
        rcases xif_ex h with ⟨c_15, h⟩ | ⟨c_15, h⟩
        · skip
          refine s_M_air [(19, .ifCond .lt 21, 0, 40), (40, .aload_n 0, 0, 0), (41, .iconst 1, 0, 1)] (by decide +kernel) (z' := (42, [(0, (vR 10 l0)), (1, (vI l1)), (2, (vI l2)), (3, (vI l3)), (4, (vI l4))], [(vI 1), (vR 10 l0)], R, M, 174)) (cs := [l3 < 0]) (by rfl) ⟨c_15, trivial⟩ (Nat.le_refl _) ?_
          obtain ⟨r_16, M_17, e_18, h⟩ := xb2_ex h
          refine XR.callV 10 rfl (rest := []) m_M_refuse k_10_377 10 l0 (Or.inl ⟨by decide, rfl⟩) [(vI 1)] rfl rfl (c_M_refuse e_18) (by decide) (Nat.le_of_ble_eq_true rfl) (by decide +kernel) (Nat.le_refl _) (Nat.le_refl _) ?_
          show XR false 1 174 sc y_M_air (45, [(0, (vR 10 l0)), (1, (vI l1)), (2, (vI l2)), (3, (vI l3)), (4, (vI l4))], [(vI r_16)], R, M_17, 174) _
          obtain rfl := Option.some.inj h
          exact XR.retI .int rfl rfl (by decide +kernel)
        · skip
          refine s_M_air [(19, .ifCond .lt 21, 0, (-1)), (22, .iload_n 3, 0, 0), (23, .sipush 200, 0, 200)] (by decide +kernel) (z' := (26, [(0, (vR 10 l0)), (1, (vI l1)), (2, (vI l2)), (3, (vI l3)), (4, (vI l4))], [(vI 200), (vI l3)], R, M, 174)) (cs := [¬ (l3 < 0)]) (by rfl) ⟨c_15, trivial⟩ (Nat.le_refl _) ?_
          rcases xif_ex h with ⟨c_19, h⟩ | ⟨c_19, h⟩
          · skip
            refine s_M_air [(26, .if_icmp .gt 14, 0, 40), (40, .aload_n 0, 0, 0), (41, .iconst 1, 0, 1)] (by decide +kernel) (z' := (42, [(0, (vR 10 l0)), (1, (vI l1)), (2, (vI l2)), (3, (vI l3)), (4, (vI l4))], [(vI 1), (vR 10 l0)], R, M, 174)) (cs := [200 < l3]) (by rfl) ⟨c_19, trivial⟩ (Nat.le_refl _) ?_
            obtain ⟨r_20, M_21, e_22, h⟩ := xb2_ex h
            refine XR.callV 10 rfl (rest := []) m_M_refuse k_10_377 10 l0 (Or.inl ⟨by decide, rfl⟩) [(vI 1)] rfl rfl (c_M_refuse e_22) (by decide) (Nat.le_of_ble_eq_true rfl) (by decide +kernel) (Nat.le_refl _) (Nat.le_refl _) ?_
            show XR false 1 174 sc y_M_air (45, [(0, (vR 10 l0)), (1, (vI l1)), (2, (vI l2)), (3, (vI l3)), (4, (vI l4))], [(vI r_20)], R, M_21, 174) _
            obtain rfl := Option.some.inj h
            exact XR.retI .int rfl rfl (by decide +kernel)
          · skip
            refine s_M_air [(26, .if_icmp .gt 14, 0, (-1)), (29, .iload 4, 0, 0)] (by decide +kernel) (z' := (31, [(0, (vR 10 l0)), (1, (vI l1)), (2, (vI l2)), (3, (vI l3)), (4, (vI l4))], [(vI l4)], R, M, 174)) (cs := [¬ (200 < l3)]) (by rfl) ⟨c_19, trivial⟩ (Nat.le_refl _) ?_
            rcases xif_ex h with ⟨c_23, h⟩ | ⟨c_23, h⟩
            · skip
              refine s_M_air [(31, .ifCond .lt 9, 0, 40), (40, .aload_n 0, 0, 0), (41, .iconst 1, 0, 1)] (by decide +kernel) (z' := (42, [(0, (vR 10 l0)), (1, (vI l1)), (2, (vI l2)), (3, (vI l3)), (4, (vI l4))], [(vI 1), (vR 10 l0)], R, M, 174)) (cs := [l4 < 0]) (by rfl) ⟨c_23, trivial⟩ (Nat.le_refl _) ?_
              obtain ⟨r_24, M_25, e_26, h⟩ := xb2_ex h
              refine XR.callV 10 rfl (rest := []) m_M_refuse k_10_377 10 l0 (Or.inl ⟨by decide, rfl⟩) [(vI 1)] rfl rfl (c_M_refuse e_26) (by decide) (Nat.le_of_ble_eq_true rfl) (by decide +kernel) (Nat.le_refl _) (Nat.le_refl _) ?_
              show XR false 1 174 sc y_M_air (45, [(0, (vR 10 l0)), (1, (vI l1)), (2, (vI l2)), (3, (vI l3)), (4, (vI l4))], [(vI r_24)], R, M_25, 174) _
              obtain rfl := Option.some.inj h
              exact XR.retI .int rfl rfl (by decide +kernel)
            · skip
              refine s_M_air [(31, .ifCond .lt 9, 0, (-1)), (34, .iload 4, 0, 0), (36, .iload_n 2, 0, 0)] (by decide +kernel) (z' := (37, [(0, (vR 10 l0)), (1, (vI l1)), (2, (vI l2)), (3, (vI l3)), (4, (vI l4))], [(vI l2), (vI l4)], R, M, 174)) (cs := [¬ (l4 < 0)]) (by rfl) ⟨c_23, trivial⟩ (Nat.le_refl _) ?_
              rcases xif_ex h with ⟨c_27, h⟩ | ⟨c_27, h⟩
              · skip
                obtain ⟨c_28, h⟩ := xch_ex h
                refine s_M_air [(37, .if_icmp .lt 9, 0, 46), (46, .aload_n 0, 0, 0), (47, .getfield 13, 10, 2), (50, .iload_n 1, 0, 0), (51, .iaload, 0, 0), (52, .iconst (-1), 0, (-1))] (by decide +kernel) (z' := (53, [(0, (vR 10 l0)), (1, (vI l1)), (2, (vI l2)), (3, (vI l3)), (4, (vI l4))], [(vI (-1)), (vI (M (R l0 2) (Int.toNat l1)))], R, M, 174)) (cs := [l4 < l2, xar 34 0, xidx l1 (xan 34)]) (by rfl) ⟨c_27, xar_34, xix_34 c_28, trivial⟩ (Nat.le_refl _) ?_
                rcases xif_ex h with ⟨c_29, h⟩ | ⟨c_29, h⟩
                · skip
                  refine s_M_air [(53, .if_icmp .ne 9, 0, (-1)), (56, .aload_n 0, 0, 0), (57, .iconst 2, 0, 2)] (by decide +kernel) (z' := (58, [(0, (vR 10 l0)), (1, (vI l1)), (2, (vI l2)), (3, (vI l3)), (4, (vI l4))], [(vI 2), (vR 10 l0)], R, M, 174)) (cs := [¬ (M (R l0 2) (Int.toNat l1) ≠ -1)]) (by rfl) ⟨fun q => q c_29, trivial⟩ (Nat.le_refl _) ?_
                  obtain ⟨r_30, M_31, e_32, h⟩ := xb2_ex h
                  refine XR.callV 10 rfl (rest := []) m_M_refuse k_10_377 10 l0 (Or.inl ⟨by decide, rfl⟩) [(vI 2)] rfl rfl (c_M_refuse e_32) (by decide) (Nat.le_of_ble_eq_true rfl) (by decide +kernel) (Nat.le_refl _) (Nat.le_refl _) ?_
                  show XR false 1 174 sc y_M_air (61, [(0, (vR 10 l0)), (1, (vI l1)), (2, (vI l2)), (3, (vI l3)), (4, (vI l4))], [(vI r_30)], R, M_31, 174) _
                  obtain rfl := Option.some.inj h
                  exact XR.retI .int rfl rfl (by decide +kernel)
                · skip
                  refine s_M_air [(53, .if_icmp .ne 9, 0, 62), (62, .aload_n 0, 0, 0), (63, .getfield 13, 10, 2), (66, .iload_n 1, 0, 0), (67, .iaload, 0, 0), (68, .iload_n 2, 0, 0)] (by decide +kernel) (z' := (69, [(0, (vR 10 l0)), (1, (vI l1)), (2, (vI l2)), (3, (vI l3)), (4, (vI l4))], [(vI l2), (vI (M (R l0 2) (Int.toNat l1)))], R, M, 174)) (cs := [M (R l0 2) (Int.toNat l1) ≠ -1, xar 34 0, xidx l1 (xan 34)]) (by rfl) ⟨c_29, xar_34, xix_34 c_28, trivial⟩ (Nat.le_refl _) ?_
                  rcases xif_ex h with ⟨c_33, h⟩ | ⟨c_33, h⟩
                  · skip
                    refine s_M_air [(69, .if_icmp .ge 9, 0, (-1)), (72, .aload_n 0, 0, 0), (73, .iconst 3, 0, 3)] (by decide +kernel) (z' := (74, [(0, (vR 10 l0)), (1, (vI l1)), (2, (vI l2)), (3, (vI l3)), (4, (vI l4))], [(vI 3), (vR 10 l0)], R, M, 174)) (cs := [¬ (l2 ≤ M (R l0 2) (Int.toNat l1))]) (by rfl) ⟨Int.not_le.mpr c_33, trivial⟩ (Nat.le_refl _) ?_
                    obtain ⟨r_34, M_35, e_36, h⟩ := xb2_ex h
                    refine XR.callV 10 rfl (rest := []) m_M_refuse k_10_377 10 l0 (Or.inl ⟨by decide, rfl⟩) [(vI 3)] rfl rfl (c_M_refuse e_36) (by decide) (Nat.le_of_ble_eq_true rfl) (by decide +kernel) (Nat.le_refl _) (Nat.le_refl _) ?_
                    show XR false 1 174 sc y_M_air (77, [(0, (vR 10 l0)), (1, (vI l1)), (2, (vI l2)), (3, (vI l3)), (4, (vI l4))], [(vI r_34)], R, M_35, 174) _
                    obtain rfl := Option.some.inj h
                    exact XR.retI .int rfl rfl (by decide +kernel)
                  · skip
                    refine s_M_air [(69, .if_icmp .ge 9, 0, 78), (78, .iconst 0, 0, 0), (79, .istore 5, 0, 0)] (by decide +kernel) (z' := (81, [(5, (vI 0)), (0, (vR 10 l0)), (1, (vI l1)), (2, (vI l2)), (3, (vI l3)), (4, (vI l4))], [], R, M, 174)) (cs := [l2 ≤ M (R l0 2) (Int.toNat l1)]) (by rfl) ⟨Int.not_lt.mp c_33, trivial⟩ (Nat.le_refl _) ?_
                    refine XR.pick [1, 2, 3, 4, 5, 0] (ls' := [(0, (vR 10 l0)), (1, (vI l1)), (2, (vI l2)), (3, (vI l3)), (4, (vI l4)), (5, (vI 0))]) rfl ?_
                    refine o_M_air_F81 ?_ xfu 0 M _ h
                    · intro M_46 out h
                      refine s_M_air [(121, .iconst 0, 0, 0), (122, .istore 5, 0, 0)] (by decide +kernel) (z' := (124, [(5, (vI 0)), (0, (vR 10 l0)), (1, (vI l1)), (2, (vI l2)), (3, (vI l3)), (4, (vI l4))], [], R, M_46, 174)) (cs := []) (by rfl) trivial (Nat.le_refl _) ?_
                      refine XR.pick [1, 2, 3, 4, 5, 0] (ls' := [(0, (vR 10 l0)), (1, (vI l1)), (2, (vI l2)), (3, (vI l3)), (4, (vI l4)), (5, (vI 0))]) rfl ?_
                      refine o_M_air_F124 ?_ xfu 0 M_46 _ h
                      · intro M_51 out h
                        refine s_M_air [(144, .iconst 0, 0, 0), (145, .istore 5, 0, 0)] (by decide +kernel) (z' := (147, [(5, (vI 0)), (0, (vR 10 l0)), (1, (vI l1)), (2, (vI l2)), (3, (vI l3)), (4, (vI l4))], [], R, M_51, 174)) (cs := []) (by rfl) trivial (Nat.le_refl _) ?_
                        refine XR.pick [1, 2, 3, 4, 5, 0] (ls' := [(0, (vR 10 l0)), (1, (vI l1)), (2, (vI l2)), (3, (vI l3)), (4, (vI l4)), (5, (vI 0))]) rfl ?_
                        refine o_M_air_F147  xfu 0 M_51 _ h
              · skip
                refine s_M_air [(37, .if_icmp .lt 9, 0, (-1)), (40, .aload_n 0, 0, 0), (41, .iconst 1, 0, 1)] (by decide +kernel) (z' := (42, [(0, (vR 10 l0)), (1, (vI l1)), (2, (vI l2)), (3, (vI l3)), (4, (vI l4))], [(vI 1), (vR 10 l0)], R, M, 174)) (cs := [¬ (l4 < l2)]) (by rfl) ⟨c_27, trivial⟩ (Nat.le_refl _) ?_
                obtain ⟨r_70, M_71, e_72, h⟩ := xb2_ex h
                refine XR.callV 10 rfl (rest := []) m_M_refuse k_10_377 10 l0 (Or.inl ⟨by decide, rfl⟩) [(vI 1)] rfl rfl (c_M_refuse e_72) (by decide) (Nat.le_of_ble_eq_true rfl) (by decide +kernel) (Nat.le_refl _) (Nat.le_refl _) ?_
                show XR false 1 174 sc y_M_air (45, [(0, (vR 10 l0)), (1, (vI l1)), (2, (vI l2)), (3, (vI l3)), (4, (vI l4))], [(vI r_70)], R, M_71, 174) _
                obtain rfl := Option.some.inj h
                exact XR.retI .int rfl rfl (by decide +kernel)
set_option maxRecDepth 100000 in
set_option maxHeartbeats 4000000 in
theorem c_M_air {sc : List Int} {R : xR} {M : xM} {l0 : Nat} {l1 : Int} {l2 : Int} {l3 : Int} {l4 : Int} {out : Int × xM} (h : f_M_air R l0 l1 l2 l3 l4 M = some out) : XC false 1 sc y_M_air [(vR 10 l0), (vI l1), (vI l2), (vI l3), (vI l4)] R M 174 174 ((some (vI out.1)), R, out.2) := XC.of (by decide) (Nat.le_of_ble_eq_true rfl) (Nat.le_refl _) (Nat.le_refl _) (o_M_air h)
def f_M_isKnown (l0 : Int) : Option Int :=
  if l0 < 0 then
    some (0)
  else
    if 99 < l0 then
      some (0)
    else
      some (1)
set_option maxRecDepth 100000 in
set_option maxHeartbeats 4000000 in
theorem s_M_isKnown {d : Nat} {sc : List Int} {z z' : xS} {out : xO} (qs : List xI) {cs : List Prop} (hq : qs.all (xqb 10 false y_M_isKnown.2.2.1 y_M_isKnown.2.1) = true) (h : xN false sc qs z = some (z', cs)) (hc : xAll cs) (hE : z'.2.2.2.2.2 ≤ 174) (k : XR false d 174 sc y_M_isKnown z' out) : XR false d 174 sc y_M_isKnown z out := XR.seg 10 false rfl (fun q => by cases q) qs hq h hc hE k
set_option maxRecDepth 100000 in
set_option maxHeartbeats 4000000 in
theorem o_M_isKnown {sc : List Int} {R : xR} {M : xM} {l0 : Int} {out : Int} (h : f_M_isKnown l0 = some out) : XR false 0 174 sc y_M_isKnown (0, [(0, (vI l0))], [], R, M, 174) ((some (vI out)), R, M) := by
  unfold f_M_isKnown at h
  refine s_M_isKnown [(0, .iload_n 0, 0, 0)] (by decide +kernel) (z' := (1, [(0, (vI l0))], [(vI l0)], R, M, 174)) (cs := []) (by rfl) trivial (Nat.le_refl _) ?_
  rcases xif_ex h with ⟨c_1, h⟩ | ⟨c_1, h⟩
  · skip
    refine s_M_isKnown [(1, .ifCond .lt 13, 0, 14), (14, .iconst 0, 0, 0)] (by decide +kernel) (z' := (15, [(0, (vI l0))], [(vI 0)], R, M, 174)) (cs := [l0 < 0]) (by rfl) ⟨c_1, trivial⟩ (Nat.le_refl _) ?_
    obtain rfl := Option.some.inj h
    exact XR.retI .boolean rfl (xnar_z (by decide)) (by decide +kernel)
  · skip
    refine s_M_isKnown [(1, .ifCond .lt 13, 0, (-1)), (4, .iload_n 0, 0, 0), (5, .bipush 99, 0, 99)] (by decide +kernel) (z' := (7, [(0, (vI l0))], [(vI 99), (vI l0)], R, M, 174)) (cs := [¬ (l0 < 0)]) (by rfl) ⟨c_1, trivial⟩ (Nat.le_refl _) ?_
    rcases xif_ex h with ⟨c_2, h⟩ | ⟨c_2, h⟩
    · skip
      refine s_M_isKnown [(7, .if_icmp .gt 7, 0, 14), (14, .iconst 0, 0, 0)] (by decide +kernel) (z' := (15, [(0, (vI l0))], [(vI 0)], R, M, 174)) (cs := [99 < l0]) (by rfl) ⟨c_2, trivial⟩ (Nat.le_refl _) ?_
      obtain rfl := Option.some.inj h
      exact XR.retI .boolean rfl (xnar_z (by decide)) (by decide +kernel)
    · skip
      refine s_M_isKnown [(7, .if_icmp .gt 7, 0, (-1)), (10, .iconst 1, 0, 1), (11, .goto 4, 0, 15)] (by decide +kernel) (z' := (15, [(0, (vI l0))], [(vI 1)], R, M, 174)) (cs := [¬ (99 < l0)]) (by rfl) ⟨c_2, trivial⟩ (Nat.le_refl _) ?_
      obtain rfl := Option.some.inj h
      exact XR.retI .boolean rfl (xnar_z (by decide)) (by decide +kernel)
set_option maxRecDepth 100000 in
set_option maxHeartbeats 4000000 in
theorem c_M_isKnown {sc : List Int} {R : xR} {M : xM} {l0 : Int} {out : Int} (h : f_M_isKnown l0 = some out) : XC false 0 sc y_M_isKnown [(vI l0)] R M 174 174 ((some (vI out)), R, M) := XC.of (by decide) (Nat.le_of_ble_eq_true rfl) (Nat.le_refl _) (Nat.le_refl _) (o_M_isKnown h)
def f_M_is (l0 : Nat) (l1 : Int) (M : xM) : Option (Int × xM) :=
  xl (xu M l0 0 l1) fun M_1 =>
  if l1 = 0 then
    some (1, M_1)
  else
    some (0, M_1)
set_option maxRecDepth 100000 in
set_option maxHeartbeats 4000000 in
theorem s_M_is {d : Nat} {sc : List Int} {z z' : xS} {out : xO} (qs : List xI) {cs : List Prop} (hq : qs.all (xqb 10 false y_M_is.2.2.1 y_M_is.2.1) = true) (h : xN false sc qs z = some (z', cs)) (hc : xAll cs) (hE : z'.2.2.2.2.2 ≤ 174) (k : XR false d 174 sc y_M_is z' out) : XR false d 174 sc y_M_is z out := XR.seg 10 false rfl (fun q => by cases q) qs hq h hc hE k
set_option maxRecDepth 100000 in
set_option maxHeartbeats 4000000 in
theorem o_M_is {sc : List Int} {R : xR} {M : xM} {l0 : Nat} {l1 : Int} {out : Int × xM} (h : f_M_is l0 l1 M = some out) : XR false 0 174 sc y_M_is (0, [(0, (vR 10 l0)), (1, (vI l1))], [], R, M, 174) ((some (vI out.1)), R, out.2) := by
  unfold f_M_is at h
  obtain ⟨M_1, hM_1, h⟩ := xl_ex h
  refine s_M_is [(0, .aload_n 0, 0, 0), (1, .iload_n 1, 0, 0), (2, .putfield 247, 10, 0), (5, .iload_n 1, 0, 0)] (by decide +kernel) (z' := (6, [(0, (vR 10 l0)), (1, (vI l1))], [(vI l1)], R, M_1, 174)) (cs := []) (by subst hM_1; rfl) trivial (Nat.le_refl _) ?_
  rcases xif_ex h with ⟨c_2, h⟩ | ⟨c_2, h⟩
  · skip
    refine s_M_is [(6, .ifCond .ne 7, 0, (-1)), (9, .iconst 1, 0, 1), (10, .goto 4, 0, 14)] (by decide +kernel) (z' := (14, [(0, (vR 10 l0)), (1, (vI l1))], [(vI 1)], R, M_1, 174)) (cs := [¬ (l1 ≠ 0)]) (by rfl) ⟨fun q => q c_2, trivial⟩ (Nat.le_refl _) ?_
    obtain rfl := Option.some.inj h
    exact XR.retI .boolean rfl (xnar_z (by decide)) (by decide +kernel)
  · skip
    refine s_M_is [(6, .ifCond .ne 7, 0, 13), (13, .iconst 0, 0, 0)] (by decide +kernel) (z' := (14, [(0, (vR 10 l0)), (1, (vI l1))], [(vI 0)], R, M_1, 174)) (cs := [l1 ≠ 0]) (by rfl) ⟨c_2, trivial⟩ (Nat.le_refl _) ?_
    obtain rfl := Option.some.inj h
    exact XR.retI .boolean rfl (xnar_z (by decide)) (by decide +kernel)
set_option maxRecDepth 100000 in
set_option maxHeartbeats 4000000 in
theorem c_M_is {sc : List Int} {R : xR} {M : xM} {l0 : Nat} {l1 : Int} {out : Int × xM} (h : f_M_is l0 l1 M = some out) : XC false 0 sc y_M_is [(vR 10 l0), (vI l1)] R M 174 174 ((some (vI out.1)), R, out.2) := XC.of (by decide) (Nat.le_of_ble_eq_true rfl) (Nat.le_refl _) (Nat.le_refl _) (o_M_is h)
def f_M_asof (l0 : Nat) (l1 : Int) (M : xM) : Option (Int × xM) :=
  xb1 (f_M_isKnown l1) fun r_1 =>
  if r_1 = 0 then
    xb2 (f_M_is l0 1 M) fun r_4 M_5 =>
    xch (r_4 = 0 ∨ r_4 = 1) <|
    some (r_4, M_5)
  else
    xl (xu M l0 62 l1) fun M_8 =>
    xb2 (f_M_is l0 0 M_8) fun r_9 M_10 =>
    xch (r_9 = 0 ∨ r_9 = 1) <|
    some (r_9, M_10)
set_option maxRecDepth 100000 in
set_option maxHeartbeats 4000000 in
theorem s_M_asof {d : Nat} {sc : List Int} {z z' : xS} {out : xO} (qs : List xI) {cs : List Prop} (hq : qs.all (xqb 10 false y_M_asof.2.2.1 y_M_asof.2.1) = true) (h : xN false sc qs z = some (z', cs)) (hc : xAll cs) (hE : z'.2.2.2.2.2 ≤ 174) (k : XR false d 174 sc y_M_asof z' out) : XR false d 174 sc y_M_asof z out := XR.seg 10 false rfl (fun q => by cases q) qs hq h hc hE k
set_option maxRecDepth 100000 in
set_option maxHeartbeats 4000000 in
theorem o_M_asof {sc : List Int} {R : xR} {M : xM} {l0 : Nat} {l1 : Int} {out : Int × xM} (h : f_M_asof l0 l1 M = some out) : XR false 1 174 sc y_M_asof (0, [(0, (vR 10 l0)), (1, (vI l1))], [], R, M, 174) ((some (vI out.1)), R, out.2) := by
  unfold f_M_asof at h
  refine s_M_asof [(0, .iload_n 1, 0, 0)] (by decide +kernel) (z' := (1, [(0, (vR 10 l0)), (1, (vI l1))], [(vI l1)], R, M, 174)) (cs := []) (by rfl) trivial (Nat.le_refl _) ?_
  obtain ⟨r_1, e_2, h⟩ := xb1_ex h
  refine XR.callS 10 rfl (rest := []) m_M_isKnown k_10_442 [(vI l1)] rfl rfl (c_M_isKnown e_2) (by decide) (Nat.le_of_ble_eq_true rfl) (by decide +kernel) (Nat.le_refl _) (Nat.le_refl _) ?_
  show XR false 1 174 sc y_M_asof (4, [(0, (vR 10 l0)), (1, (vI l1))], [(vI r_1)], R, M, 174) _
  rcases xif_ex h with ⟨c_3, h⟩ | ⟨c_3, h⟩
  · skip
    refine s_M_asof [(4, .ifCond .ne 9, 0, (-1)), (7, .aload_n 0, 0, 0), (8, .iconst 1, 0, 1)] (by decide +kernel) (z' := (9, [(0, (vR 10 l0)), (1, (vI l1))], [(vI 1), (vR 10 l0)], R, M, 174)) (cs := [¬ (r_1 ≠ 0)]) (by rfl) ⟨fun q => q c_3, trivial⟩ (Nat.le_refl _) ?_
    obtain ⟨r_4, M_5, e_6, h⟩ := xb2_ex h
    refine XR.callV 10 rfl (rest := []) m_M_is k_10_254 10 l0 (Or.inl ⟨by decide, rfl⟩) [(vI 1)] rfl rfl (c_M_is e_6) (by decide) (Nat.le_of_ble_eq_true rfl) (by decide +kernel) (Nat.le_refl _) (Nat.le_refl _) ?_
    show XR false 1 174 sc y_M_asof (12, [(0, (vR 10 l0)), (1, (vI l1))], [(vI r_4)], R, M_5, 174) _
    obtain ⟨c_7, h⟩ := xch_ex h
    obtain rfl := Option.some.inj h
    exact XR.retI .boolean rfl (xnar_z c_7) (by decide +kernel)
  · skip
    obtain ⟨M_8, hM_8, h⟩ := xl_ex h
    refine s_M_asof [(4, .ifCond .ne 9, 0, 13), (13, .aload_n 0, 0, 0), (14, .iload_n 1, 0, 0), (15, .putfield 136, 10, 62), (18, .aload_n 0, 0, 0), (19, .iconst 0, 0, 0)] (by decide +kernel) (z' := (20, [(0, (vR 10 l0)), (1, (vI l1))], [(vI 0), (vR 10 l0)], R, M_8, 174)) (cs := [r_1 ≠ 0]) (by subst hM_8; rfl) ⟨c_3, trivial⟩ (Nat.le_refl _) ?_
    obtain ⟨r_9, M_10, e_11, h⟩ := xb2_ex h
    refine XR.callV 10 rfl (rest := []) m_M_is k_10_254 10 l0 (Or.inl ⟨by decide, rfl⟩) [(vI 0)] rfl rfl (c_M_is e_11) (by decide) (Nat.le_of_ble_eq_true rfl) (by decide +kernel) (Nat.le_refl _) (Nat.le_refl _) ?_
    show XR false 1 174 sc y_M_asof (23, [(0, (vR 10 l0)), (1, (vI l1))], [(vI r_9)], R, M_10, 174) _
    obtain ⟨c_12, h⟩ := xch_ex h
    obtain rfl := Option.some.inj h
    exact XR.retI .boolean rfl (xnar_z c_12) (by decide +kernel)
set_option maxRecDepth 100000 in
set_option maxHeartbeats 4000000 in
theorem c_M_asof {sc : List Int} {R : xR} {M : xM} {l0 : Nat} {l1 : Int} {out : Int × xM} (h : f_M_asof l0 l1 M = some out) : XC false 1 sc y_M_asof [(vR 10 l0), (vI l1)] R M 174 174 ((some (vI out.1)), R, out.2) := XC.of (by decide) (Nat.le_of_ble_eq_true rfl) (Nat.le_refl _) (Nat.le_refl _) (o_M_asof h)
def f_M_isCleaner (l0 : Nat) (l1 : Int) (M : xM) : Option Int :=
  if l1 < 0 then
    some (0)
  else
    if l1 < M l0 30 then
      some (1)
    else
      some (0)
set_option maxRecDepth 100000 in
set_option maxHeartbeats 4000000 in
theorem s_M_isCleaner {d : Nat} {sc : List Int} {z z' : xS} {out : xO} (qs : List xI) {cs : List Prop} (hq : qs.all (xqb 10 false y_M_isCleaner.2.2.1 y_M_isCleaner.2.1) = true) (h : xN false sc qs z = some (z', cs)) (hc : xAll cs) (hE : z'.2.2.2.2.2 ≤ 174) (k : XR false d 174 sc y_M_isCleaner z' out) : XR false d 174 sc y_M_isCleaner z out := XR.seg 10 false rfl (fun q => by cases q) qs hq h hc hE k
set_option maxRecDepth 100000 in
set_option maxHeartbeats 4000000 in
theorem o_M_isCleaner {sc : List Int} {R : xR} {M : xM} {l0 : Nat} {l1 : Int} {out : Int} (h : f_M_isCleaner l0 l1 M = some out) : XR false 0 174 sc y_M_isCleaner (0, [(0, (vR 10 l0)), (1, (vI l1))], [], R, M, 174) ((some (vI out)), R, M) := by
  unfold f_M_isCleaner at h
  refine s_M_isCleaner [(0, .iload_n 1, 0, 0)] (by decide +kernel) (z' := (1, [(0, (vR 10 l0)), (1, (vI l1))], [(vI l1)], R, M, 174)) (cs := []) (by rfl) trivial (Nat.le_refl _) ?_
  rcases xif_ex h with ⟨c_1, h⟩ | ⟨c_1, h⟩
  · skip
    refine s_M_isCleaner [(1, .ifCond .lt 15, 0, 16), (16, .iconst 0, 0, 0)] (by decide +kernel) (z' := (17, [(0, (vR 10 l0)), (1, (vI l1))], [(vI 0)], R, M, 174)) (cs := [l1 < 0]) (by rfl) ⟨c_1, trivial⟩ (Nat.le_refl _) ?_
    obtain rfl := Option.some.inj h
    exact XR.retI .boolean rfl (xnar_z (by decide)) (by decide +kernel)
  · skip
    refine s_M_isCleaner [(1, .ifCond .lt 15, 0, (-1)), (4, .iload_n 1, 0, 0), (5, .aload_n 0, 0, 0), (6, .getfield 393, 10, 30)] (by decide +kernel) (z' := (9, [(0, (vR 10 l0)), (1, (vI l1))], [(vI (M l0 30)), (vI l1)], R, M, 174)) (cs := [¬ (l1 < 0)]) (by rfl) ⟨c_1, trivial⟩ (Nat.le_refl _) ?_
    rcases xif_ex h with ⟨c_2, h⟩ | ⟨c_2, h⟩
    · skip
      refine s_M_isCleaner [(9, .if_icmp .ge 7, 0, (-1)), (12, .iconst 1, 0, 1), (13, .goto 4, 0, 17)] (by decide +kernel) (z' := (17, [(0, (vR 10 l0)), (1, (vI l1))], [(vI 1)], R, M, 174)) (cs := [¬ (M l0 30 ≤ l1)]) (by rfl) ⟨Int.not_le.mpr c_2, trivial⟩ (Nat.le_refl _) ?_
      obtain rfl := Option.some.inj h
      exact XR.retI .boolean rfl (xnar_z (by decide)) (by decide +kernel)
    · skip
      refine s_M_isCleaner [(9, .if_icmp .ge 7, 0, 16), (16, .iconst 0, 0, 0)] (by decide +kernel) (z' := (17, [(0, (vR 10 l0)), (1, (vI l1))], [(vI 0)], R, M, 174)) (cs := [M l0 30 ≤ l1]) (by rfl) ⟨Int.not_lt.mp c_2, trivial⟩ (Nat.le_refl _) ?_
      obtain rfl := Option.some.inj h
      exact XR.retI .boolean rfl (xnar_z (by decide)) (by decide +kernel)
set_option maxRecDepth 100000 in
set_option maxHeartbeats 4000000 in
theorem c_M_isCleaner {sc : List Int} {R : xR} {M : xM} {l0 : Nat} {l1 : Int} {out : Int} (h : f_M_isCleaner l0 l1 M = some out) : XC false 0 sc y_M_isCleaner [(vR 10 l0), (vI l1)] R M 174 174 ((some (vI out)), R, M) := XC.of (by decide) (Nat.le_of_ble_eq_true rfl) (Nat.le_refl _) (Nat.le_refl _) (o_M_isCleaner h)
def f_M_isHour (l0 : Int) : Option Int :=
  if l0 < 0 then
    some (0)
  else
    if l0 < 48 then
      some (1)
    else
      some (0)
set_option maxRecDepth 100000 in
set_option maxHeartbeats 4000000 in
theorem s_M_isHour {d : Nat} {sc : List Int} {z z' : xS} {out : xO} (qs : List xI) {cs : List Prop} (hq : qs.all (xqb 10 false y_M_isHour.2.2.1 y_M_isHour.2.1) = true) (h : xN false sc qs z = some (z', cs)) (hc : xAll cs) (hE : z'.2.2.2.2.2 ≤ 174) (k : XR false d 174 sc y_M_isHour z' out) : XR false d 174 sc y_M_isHour z out := XR.seg 10 false rfl (fun q => by cases q) qs hq h hc hE k
set_option maxRecDepth 100000 in
set_option maxHeartbeats 4000000 in
theorem o_M_isHour {sc : List Int} {R : xR} {M : xM} {l0 : Int} {out : Int} (h : f_M_isHour l0 = some out) : XR false 0 174 sc y_M_isHour (0, [(0, (vI l0))], [], R, M, 174) ((some (vI out)), R, M) := by
  unfold f_M_isHour at h
  refine s_M_isHour [(0, .iload_n 0, 0, 0)] (by decide +kernel) (z' := (1, [(0, (vI l0))], [(vI l0)], R, M, 174)) (cs := []) (by rfl) trivial (Nat.le_refl _) ?_
  rcases xif_ex h with ⟨c_1, h⟩ | ⟨c_1, h⟩
  · skip
    refine s_M_isHour [(1, .ifCond .lt 13, 0, 14), (14, .iconst 0, 0, 0)] (by decide +kernel) (z' := (15, [(0, (vI l0))], [(vI 0)], R, M, 174)) (cs := [l0 < 0]) (by rfl) ⟨c_1, trivial⟩ (Nat.le_refl _) ?_
    obtain rfl := Option.some.inj h
    exact XR.retI .boolean rfl (xnar_z (by decide)) (by decide +kernel)
  · skip
    refine s_M_isHour [(1, .ifCond .lt 13, 0, (-1)), (4, .iload_n 0, 0, 0), (5, .bipush 48, 0, 48)] (by decide +kernel) (z' := (7, [(0, (vI l0))], [(vI 48), (vI l0)], R, M, 174)) (cs := [¬ (l0 < 0)]) (by rfl) ⟨c_1, trivial⟩ (Nat.le_refl _) ?_
    rcases xif_ex h with ⟨c_2, h⟩ | ⟨c_2, h⟩
    · skip
      refine s_M_isHour [(7, .if_icmp .ge 7, 0, (-1)), (10, .iconst 1, 0, 1), (11, .goto 4, 0, 15)] (by decide +kernel) (z' := (15, [(0, (vI l0))], [(vI 1)], R, M, 174)) (cs := [¬ (48 ≤ l0)]) (by rfl) ⟨Int.not_le.mpr c_2, trivial⟩ (Nat.le_refl _) ?_
      obtain rfl := Option.some.inj h
      exact XR.retI .boolean rfl (xnar_z (by decide)) (by decide +kernel)
    · skip
      refine s_M_isHour [(7, .if_icmp .ge 7, 0, 14), (14, .iconst 0, 0, 0)] (by decide +kernel) (z' := (15, [(0, (vI l0))], [(vI 0)], R, M, 174)) (cs := [48 ≤ l0]) (by rfl) ⟨Int.not_lt.mp c_2, trivial⟩ (Nat.le_refl _) ?_
      obtain rfl := Option.some.inj h
      exact XR.retI .boolean rfl (xnar_z (by decide)) (by decide +kernel)
set_option maxRecDepth 100000 in
set_option maxHeartbeats 4000000 in
theorem c_M_isHour {sc : List Int} {R : xR} {M : xM} {l0 : Int} {out : Int} (h : f_M_isHour l0 = some out) : XC false 0 sc y_M_isHour [(vI l0)] R M 174 174 ((some (vI out)), R, M) := XC.of (by decide) (Nat.le_of_ble_eq_true rfl) (Nat.le_refl _) (Nat.le_refl _) (o_M_isHour h)
def f_M_isSize (l0 : Int) : Option Int :=
  if l0 < 0 then
    some (0)
  else
    if l0 < 4 then
      some (1)
    else
      some (0)
set_option maxRecDepth 100000 in
set_option maxHeartbeats 4000000 in
theorem s_M_isSize {d : Nat} {sc : List Int} {z z' : xS} {out : xO} (qs : List xI) {cs : List Prop} (hq : qs.all (xqb 10 false y_M_isSize.2.2.1 y_M_isSize.2.1) = true) (h : xN false sc qs z = some (z', cs)) (hc : xAll cs) (hE : z'.2.2.2.2.2 ≤ 174) (k : XR false d 174 sc y_M_isSize z' out) : XR false d 174 sc y_M_isSize z out := XR.seg 10 false rfl (fun q => by cases q) qs hq h hc hE k
set_option maxRecDepth 100000 in
set_option maxHeartbeats 4000000 in
theorem o_M_isSize {sc : List Int} {R : xR} {M : xM} {l0 : Int} {out : Int} (h : f_M_isSize l0 = some out) : XR false 0 174 sc y_M_isSize (0, [(0, (vI l0))], [], R, M, 174) ((some (vI out)), R, M) := by
  unfold f_M_isSize at h
  refine s_M_isSize [(0, .iload_n 0, 0, 0)] (by decide +kernel) (z' := (1, [(0, (vI l0))], [(vI l0)], R, M, 174)) (cs := []) (by rfl) trivial (Nat.le_refl _) ?_
  rcases xif_ex h with ⟨c_1, h⟩ | ⟨c_1, h⟩
  · skip
    refine s_M_isSize [(1, .ifCond .lt 12, 0, 13), (13, .iconst 0, 0, 0)] (by decide +kernel) (z' := (14, [(0, (vI l0))], [(vI 0)], R, M, 174)) (cs := [l0 < 0]) (by rfl) ⟨c_1, trivial⟩ (Nat.le_refl _) ?_
    obtain rfl := Option.some.inj h
    exact XR.retI .boolean rfl (xnar_z (by decide)) (by decide +kernel)
  · skip
    refine s_M_isSize [(1, .ifCond .lt 12, 0, (-1)), (4, .iload_n 0, 0, 0), (5, .iconst 4, 0, 4)] (by decide +kernel) (z' := (6, [(0, (vI l0))], [(vI 4), (vI l0)], R, M, 174)) (cs := [¬ (l0 < 0)]) (by rfl) ⟨c_1, trivial⟩ (Nat.le_refl _) ?_
    rcases xif_ex h with ⟨c_2, h⟩ | ⟨c_2, h⟩
    · skip
      refine s_M_isSize [(6, .if_icmp .ge 7, 0, (-1)), (9, .iconst 1, 0, 1), (10, .goto 4, 0, 14)] (by decide +kernel) (z' := (14, [(0, (vI l0))], [(vI 1)], R, M, 174)) (cs := [¬ (4 ≤ l0)]) (by rfl) ⟨Int.not_le.mpr c_2, trivial⟩ (Nat.le_refl _) ?_
      obtain rfl := Option.some.inj h
      exact XR.retI .boolean rfl (xnar_z (by decide)) (by decide +kernel)
    · skip
      refine s_M_isSize [(6, .if_icmp .ge 7, 0, 13), (13, .iconst 0, 0, 0)] (by decide +kernel) (z' := (14, [(0, (vI l0))], [(vI 0)], R, M, 174)) (cs := [4 ≤ l0]) (by rfl) ⟨Int.not_lt.mp c_2, trivial⟩ (Nat.le_refl _) ?_
      obtain rfl := Option.some.inj h
      exact XR.retI .boolean rfl (xnar_z (by decide)) (by decide +kernel)
set_option maxRecDepth 100000 in
set_option maxHeartbeats 4000000 in
theorem c_M_isSize {sc : List Int} {R : xR} {M : xM} {l0 : Int} {out : Int} (h : f_M_isSize l0 = some out) : XC false 0 sc y_M_isSize [(vI l0)] R M 174 174 ((some (vI out)), R, M) := XC.of (by decide) (Nat.le_of_ble_eq_true rfl) (Nat.le_refl _) (Nat.le_refl _) (o_M_isSize h)
def M_portionsOf_J68 (R : xR) (M : xM) (l0 : Nat) (l1 : Int) (l2 : Int) (l3 : Int) (rc : Int → Option Int) (v4 : Int) : Option Int :=
  xl (w32 (v4 + (-1))) fun v4_8 =>
  rc v4_8
def M_portionsOf_F8 (R : xR) (M : xM) (l0 : Nat) (l1 : Int) (l2 : Int) (l3 : Int) : Nat → Int → Option Int
  | 0, _ => none
  | n + 1, v4 =>
    if v4 < 0 then
      some (0)
    else
      xch (0 ≤ v4 ∧ v4 < 200) <|
      if M (R l0 63) (Int.toNat v4) = l1 then
        if M (R l0 64) (Int.toNat v4) = l2 then
          if M (R l0 65) (Int.toNat v4) = l3 then
            if M l0 62 < M (R l0 67) (Int.toNat v4) then
              M_portionsOf_J68 R M l0 l1 l2 l3 (M_portionsOf_F8 R M l0 l1 l2 l3  n) v4
            else
              some (M (R l0 66) (Int.toNat v4))
          else
            M_portionsOf_J68 R M l0 l1 l2 l3 (M_portionsOf_F8 R M l0 l1 l2 l3  n) v4
        else
          M_portionsOf_J68 R M l0 l1 l2 l3 (M_portionsOf_F8 R M l0 l1 l2 l3  n) v4
      else
        M_portionsOf_J68 R M l0 l1 l2 l3 (M_portionsOf_F8 R M l0 l1 l2 l3  n) v4
def f_M_portionsOf (R : xR) (l0 : Nat) (l1 : Int) (l2 : Int) (l3 : Int) (M : xM) : Option Int :=
  xl (w32 ((M l0 59) - 1)) fun v4_1 =>
  M_portionsOf_F8 R M l0 l1 l2 l3
    xfu v4_1
set_option maxRecDepth 100000 in
set_option maxHeartbeats 4000000 in
theorem s_M_portionsOf {d : Nat} {sc : List Int} {z z' : xS} {out : xO} (qs : List xI) {cs : List Prop} (hq : qs.all (xqb 10 false y_M_portionsOf.2.2.1 y_M_portionsOf.2.1) = true) (h : xN false sc qs z = some (z', cs)) (hc : xAll cs) (hE : z'.2.2.2.2.2 ≤ 174) (k : XR false d 174 sc y_M_portionsOf z' out) : XR false d 174 sc y_M_portionsOf z out := XR.seg 10 false rfl (fun q => by cases q) qs hq h hc hE k
set_option maxRecDepth 100000 in
set_option maxHeartbeats 4000000 in
theorem o_M_portionsOf_J68 {sc : List Int} {R : xR} {M : xM}  {l0 : Nat} {l1 : Int} {l2 : Int} {l3 : Int}  {rc : Int → Option Int} (hrc : ∀ (w4 : Int) (out : Int), rc w4 = some out → XR false 0 174 sc y_M_portionsOf (8, [(0, (vR 10 l0)), (1, (vI l1)), (2, (vI l2)), (3, (vI l3)), (4, (vI w4))], [], R, M, 174) ((some (vI out)), R, M)) {v4 : Int} {out : Int} (h : M_portionsOf_J68 R M l0 l1 l2 l3 rc v4 = some out) : XR false 0 174 sc y_M_portionsOf (68, [(0, (vR 10 l0)), (1, (vI l1)), (2, (vI l2)), (3, (vI l3)), (4, (vI v4))], [], R, M, 174) ((some (vI out)), R, M) := by
  unfold M_portionsOf_J68 at h
  obtain ⟨v4_8, hv4_8, h⟩ := xl_ex h
  refine s_M_portionsOf [(68, .iinc 4 (-1), 0, 0), (71, .goto (-63), 0, 8)] (by decide +kernel) (z' := (8, [(4, (vI v4_8)), (0, (vR 10 l0)), (1, (vI l1)), (2, (vI l2)), (3, (vI l3))], [], R, M, 174)) (cs := []) (by subst hv4_8; rfl) trivial (Nat.le_refl _) ?_
  refine XR.pick [1, 2, 3, 4, 0] (ls' := [(0, (vR 10 l0)), (1, (vI l1)), (2, (vI l2)), (3, (vI l3)), (4, (vI v4_8))]) rfl ?_
  exact hrc v4_8 _ h
set_option maxRecDepth 100000 in
set_option maxHeartbeats 4000000 in
theorem o_M_portionsOf_F8 {sc : List Int} {R : xR} {M : xM}  {l0 : Nat} {l1 : Int} {l2 : Int} {l3 : Int}  : ∀ (n : Nat) (v4 : Int) (out : Int), M_portionsOf_F8 R M l0 l1 l2 l3  n v4 = some out → XR false 0 174 sc y_M_portionsOf (8, [(0, (vR 10 l0)), (1, (vI l1)), (2, (vI l2)), (3, (vI l3)), (4, (vI v4))], [], R, M, 174) ((some (vI out)), R, M) := by
  intro n
  induction n with
  | zero => intro v4 out h; exact (xno h).elim
  | succ n ih =>
    intro v4 out h
    rw [M_portionsOf_F8] at h
    refine s_M_portionsOf [(8, .iload 4, 0, 0)] (by decide +kernel) (z' := (10, [(0, (vR 10 l0)), (1, (vI l1)), (2, (vI l2)), (3, (vI l3)), (4, (vI v4))], [(vI v4)], R, M, 174)) (cs := []) (by rfl) trivial (Nat.le_refl _) ?_
    rcases xif_ex h with ⟨c_2, h⟩ | ⟨c_2, h⟩
    · skip
      refine s_M_portionsOf [(10, .ifCond .lt 64, 0, 74), (74, .iconst 0, 0, 0)] (by decide +kernel) (z' := (75, [(0, (vR 10 l0)), (1, (vI l1)), (2, (vI l2)), (3, (vI l3)), (4, (vI v4))], [(vI 0)], R, M, 174)) (cs := [v4 < 0]) (by rfl) ⟨c_2, trivial⟩ (Nat.le_refl _) ?_
      obtain rfl := Option.some.inj h
      exact XR.retI .int rfl rfl (by decide +kernel)
    · skip
      obtain ⟨c_3, h⟩ := xch_ex h
      refine s_M_portionsOf [(10, .ifCond .lt 64, 0, (-1)), (13, .aload_n 0, 0, 0), (14, .getfield 139, 10, 63), (17, .iload 4, 0, 0), (19, .iaload, 0, 0), (20, .iload_n 1, 0, 0)] (by decide +kernel) (z' := (21, [(0, (vR 10 l0)), (1, (vI l1)), (2, (vI l2)), (3, (vI l3)), (4, (vI v4))], [(vI l1), (vI (M (R l0 63) (Int.toNat v4)))], R, M, 174)) (cs := [¬ (v4 < 0), xar 20 0, xidx v4 (xan 20)]) (by rfl) ⟨c_2, xar_20, xix_20 c_3, trivial⟩ (Nat.le_refl _) ?_
      rcases xif_ex h with ⟨c_4, h⟩ | ⟨c_4, h⟩
      · skip
        refine s_M_portionsOf [(21, .if_icmp .ne 47, 0, (-1)), (24, .aload_n 0, 0, 0), (25, .getfield 142, 10, 64), (28, .iload 4, 0, 0), (30, .iaload, 0, 0), (31, .iload_n 2, 0, 0)] (by decide +kernel) (z' := (32, [(0, (vR 10 l0)), (1, (vI l1)), (2, (vI l2)), (3, (vI l3)), (4, (vI v4))], [(vI l2), (vI (M (R l0 64) (Int.toNat v4)))], R, M, 174)) (cs := [¬ (M (R l0 63) (Int.toNat v4) ≠ l1), xar 20 0, xidx v4 (xan 20)]) (by rfl) ⟨fun q => q c_4, xar_20, xix_20 c_3, trivial⟩ (Nat.le_refl _) ?_
        rcases xif_ex h with ⟨c_5, h⟩ | ⟨c_5, h⟩
        · skip
          refine s_M_portionsOf [(32, .if_icmp .ne 36, 0, (-1)), (35, .aload_n 0, 0, 0), (36, .getfield 145, 10, 65), (39, .iload 4, 0, 0), (41, .iaload, 0, 0), (42, .iload_n 3, 0, 0)] (by decide +kernel) (z' := (43, [(0, (vR 10 l0)), (1, (vI l1)), (2, (vI l2)), (3, (vI l3)), (4, (vI v4))], [(vI l3), (vI (M (R l0 65) (Int.toNat v4)))], R, M, 174)) (cs := [¬ (M (R l0 64) (Int.toNat v4) ≠ l2), xar 20 0, xidx v4 (xan 20)]) (by rfl) ⟨fun q => q c_5, xar_20, xix_20 c_3, trivial⟩ (Nat.le_refl _) ?_
          rcases xif_ex h with ⟨c_6, h⟩ | ⟨c_6, h⟩
          · skip
            refine s_M_portionsOf [(43, .if_icmp .ne 25, 0, (-1)), (46, .aload_n 0, 0, 0), (47, .getfield 151, 10, 67), (50, .iload 4, 0, 0), (52, .iaload, 0, 0), (53, .aload_n 0, 0, 0), (54, .getfield 136, 10, 62)] (by decide +kernel) (z' := (57, [(0, (vR 10 l0)), (1, (vI l1)), (2, (vI l2)), (3, (vI l3)), (4, (vI v4))], [(vI (M l0 62)), (vI (M (R l0 67) (Int.toNat v4)))], R, M, 174)) (cs := [¬ (M (R l0 65) (Int.toNat v4) ≠ l3), xar 20 0, xidx v4 (xan 20)]) (by rfl) ⟨fun q => q c_6, xar_20, xix_20 c_3, trivial⟩ (Nat.le_refl _) ?_
            rcases xif_ex h with ⟨c_7, h⟩ | ⟨c_7, h⟩
            · skip
              refine s_M_portionsOf [(57, .if_icmp .gt 11, 0, 68)] (by decide +kernel) (z' := (68, [(0, (vR 10 l0)), (1, (vI l1)), (2, (vI l2)), (3, (vI l3)), (4, (vI v4))], [], R, M, 174)) (cs := [M l0 62 < M (R l0 67) (Int.toNat v4)]) (by rfl) ⟨c_7, trivial⟩ (Nat.le_refl _) ?_
              exact o_M_portionsOf_J68 ih h
            · skip
              refine s_M_portionsOf [(57, .if_icmp .gt 11, 0, (-1)), (60, .aload_n 0, 0, 0), (61, .getfield 148, 10, 66), (64, .iload 4, 0, 0), (66, .iaload, 0, 0)] (by decide +kernel) (z' := (67, [(0, (vR 10 l0)), (1, (vI l1)), (2, (vI l2)), (3, (vI l3)), (4, (vI v4))], [(vI (M (R l0 66) (Int.toNat v4)))], R, M, 174)) (cs := [¬ (M l0 62 < M (R l0 67) (Int.toNat v4)), xar 20 0, xidx v4 (xan 20)]) (by rfl) ⟨c_7, xar_20, xix_20 c_3, trivial⟩ (Nat.le_refl _) ?_
              obtain rfl := Option.some.inj h
              exact XR.retI .int rfl rfl (by decide +kernel)
          · skip
            refine s_M_portionsOf [(43, .if_icmp .ne 25, 0, 68)] (by decide +kernel) (z' := (68, [(0, (vR 10 l0)), (1, (vI l1)), (2, (vI l2)), (3, (vI l3)), (4, (vI v4))], [], R, M, 174)) (cs := [M (R l0 65) (Int.toNat v4) ≠ l3]) (by rfl) ⟨c_6, trivial⟩ (Nat.le_refl _) ?_
            exact o_M_portionsOf_J68 ih h
        · skip
          refine s_M_portionsOf [(32, .if_icmp .ne 36, 0, 68)] (by decide +kernel) (z' := (68, [(0, (vR 10 l0)), (1, (vI l1)), (2, (vI l2)), (3, (vI l3)), (4, (vI v4))], [], R, M, 174)) (cs := [M (R l0 64) (Int.toNat v4) ≠ l2]) (by rfl) ⟨c_5, trivial⟩ (Nat.le_refl _) ?_
          exact o_M_portionsOf_J68 ih h
      · skip
        refine s_M_portionsOf [(21, .if_icmp .ne 47, 0, 68)] (by decide +kernel) (z' := (68, [(0, (vR 10 l0)), (1, (vI l1)), (2, (vI l2)), (3, (vI l3)), (4, (vI v4))], [], R, M, 174)) (cs := [M (R l0 63) (Int.toNat v4) ≠ l1]) (by rfl) ⟨c_4, trivial⟩ (Nat.le_refl _) ?_
        exact o_M_portionsOf_J68 ih h
set_option maxRecDepth 100000 in
set_option maxHeartbeats 4000000 in
theorem o_M_portionsOf {sc : List Int} {R : xR} {M : xM} {l0 : Nat} {l1 : Int} {l2 : Int} {l3 : Int} {out : Int} (h : f_M_portionsOf R l0 l1 l2 l3 M = some out) : XR false 0 174 sc y_M_portionsOf (0, [(0, (vR 10 l0)), (1, (vI l1)), (2, (vI l2)), (3, (vI l3))], [], R, M, 174) ((some (vI out)), R, M) := by
  unfold f_M_portionsOf at h
  obtain ⟨v4_1, hv4_1, h⟩ := xl_ex h
  refine s_M_portionsOf [(0, .aload_n 0, 0, 0), (1, .getfield 399, 10, 59), (4, .iconst 1, 0, 1), (5, .isub, 0, 0), (6, .istore 4, 0, 0)] (by decide +kernel) (z' := (8, [(4, (vI v4_1)), (0, (vR 10 l0)), (1, (vI l1)), (2, (vI l2)), (3, (vI l3))], [], R, M, 174)) (cs := []) (by subst hv4_1; rfl) trivial (Nat.le_refl _) ?_
  refine XR.pick [1, 2, 3, 4, 0] (ls' := [(0, (vR 10 l0)), (1, (vI l1)), (2, (vI l2)), (3, (vI l3)), (4, (vI v4_1))]) rfl ?_
  refine o_M_portionsOf_F8  xfu v4_1 _ h
set_option maxRecDepth 100000 in
set_option maxHeartbeats 4000000 in
theorem c_M_portionsOf {sc : List Int} {R : xR} {M : xM} {l0 : Nat} {l1 : Int} {l2 : Int} {l3 : Int} {out : Int} (h : f_M_portionsOf R l0 l1 l2 l3 M = some out) : XC false 0 sc y_M_portionsOf [(vR 10 l0), (vI l1), (vI l2), (vI l3)] R M 174 174 ((some (vI out)), R, M) := XC.of (by decide) (Nat.le_of_ble_eq_true rfl) (Nat.le_refl _) (Nat.le_refl _) (o_M_portionsOf h)
def M_isKnocked_J54 (R : xR) (M : xM) (l0 : Nat) (l1 : Int) (l2 : Int) (rc : Int → Option Int) (q60 : Option Int) (v3 : Int) : Option Int :=
  xl (w32 (v3 + 1)) fun v3_7 =>
  rc v3_7
def M_isKnocked_F2 (R : xR) (M : xM) (l0 : Nat) (l1 : Int) (l2 : Int) (q60 : Option Int) : Nat → Int → Option Int
  | 0, _ => none
  | n + 1, v3 =>
    if v3 < M l0 60 then
      xch (0 ≤ v3 ∧ v3 < 40) <|
      if M (R l0 68) (Int.toNat v3) = 0 then
        if M (R l0 69) (Int.toNat v3) = l1 then
          if M (R l0 70) (Int.toNat v3) = l2 then
            if M l0 62 < M (R l0 72) (Int.toNat v3) then
              M_isKnocked_J54 R M l0 l1 l2 (M_isKnocked_F2 R M l0 l1 l2 q60 n) q60 v3
            else
              some (1)
          else
            M_isKnocked_J54 R M l0 l1 l2 (M_isKnocked_F2 R M l0 l1 l2 q60 n) q60 v3
        else
          M_isKnocked_J54 R M l0 l1 l2 (M_isKnocked_F2 R M l0 l1 l2 q60 n) q60 v3
      else
        M_isKnocked_J54 R M l0 l1 l2 (M_isKnocked_F2 R M l0 l1 l2 q60 n) q60 v3
    else
      q60 
def M_isKnocked_F62 (R : xR) (M : xM) (l0 : Nat) (l1 : Int) (l2 : Int) : Nat → Int → Option Int
  | 0, _ => none
  | n + 1, v3 =>
    if v3 < M l0 78 then
      if M l0 77 = l1 then
        xch (0 ≤ v3 ∧ v3 < 6) <|
        if M (R l0 79) (Int.toNat v3) = l2 then
          some (1)
        else
          xl (w32 (v3 + 1)) fun v3_12 =>
          M_isKnocked_F62 R M l0 l1 l2  n v3_12
      else
        some (0)
    else
      some (0)
def f_M_isKnocked (R : xR) (l0 : Nat) (l1 : Int) (l2 : Int) (M : xM) : Option Int :=
  M_isKnocked_F2 R M l0 l1 l2
    (
      M_isKnocked_F62 R M l0 l1 l2
        xfu 0)
    xfu 0
set_option maxRecDepth 100000 in
set_option maxHeartbeats 4000000 in
theorem s_M_isKnocked {d : Nat} {sc : List Int} {z z' : xS} {out : xO} (qs : List xI) {cs : List Prop} (hq : qs.all (xqb 10 false y_M_isKnocked.2.2.1 y_M_isKnocked.2.1) = true) (h : xN false sc qs z = some (z', cs)) (hc : xAll cs) (hE : z'.2.2.2.2.2 ≤ 174) (k : XR false d 174 sc y_M_isKnocked z' out) : XR false d 174 sc y_M_isKnocked z out := XR.seg 10 false rfl (fun q => by cases q) qs hq h hc hE k
set_option maxRecDepth 100000 in
set_option maxHeartbeats 4000000 in
theorem o_M_isKnocked_J54 {sc : List Int} {R : xR} {M : xM}  {l0 : Nat} {l1 : Int} {l2 : Int}  {rc : Int → Option Int} {q60 : Option Int} (hrc : ∀ (w3 : Int) (out : Int), rc w3 = some out → XR false 0 174 sc y_M_isKnocked (2, [(0, (vR 10 l0)), (1, (vI l1)), (2, (vI l2)), (3, (vI w3))], [], R, M, 174) ((some (vI out)), R, M)) (hq60 : ∀  (out : Int), q60  = some out → XR false 0 174 sc y_M_isKnocked (60, [(0, (vR 10 l0)), (1, (vI l1)), (2, (vI l2))], [], R, M, 174) ((some (vI out)), R, M)) {v3 : Int} {out : Int} (h : M_isKnocked_J54 R M l0 l1 l2 rc q60 v3 = some out) : XR false 0 174 sc y_M_isKnocked (54, [(0, (vR 10 l0)), (1, (vI l1)), (2, (vI l2)), (3, (vI v3))], [], R, M, 174) ((some (vI out)), R, M) := by
  unfold M_isKnocked_J54 at h
  obtain ⟨v3_7, hv3_7, h⟩ := xl_ex h
  refine s_M_isKnocked [(54, .iinc 3 1, 0, 0), (57, .goto (-55), 0, 2)] (by decide +kernel) (z' := (2, [(3, (vI v3_7)), (0, (vR 10 l0)), (1, (vI l1)), (2, (vI l2))], [], R, M, 174)) (cs := []) (by subst hv3_7; rfl) trivial (Nat.le_refl _) ?_
  refine XR.pick [1, 2, 3, 0] (ls' := [(0, (vR 10 l0)), (1, (vI l1)), (2, (vI l2)), (3, (vI v3_7))]) rfl ?_
  exact hrc v3_7 _ h
set_option maxRecDepth 100000 in
set_option maxHeartbeats 4000000 in
theorem o_M_isKnocked_F2 {sc : List Int} {R : xR} {M : xM}  {l0 : Nat} {l1 : Int} {l2 : Int}  {q60 : Option Int} (hq60 : ∀  (out : Int), q60  = some out → XR false 0 174 sc y_M_isKnocked (60, [(0, (vR 10 l0)), (1, (vI l1)), (2, (vI l2))], [], R, M, 174) ((some (vI out)), R, M)) : ∀ (n : Nat) (v3 : Int) (out : Int), M_isKnocked_F2 R M l0 l1 l2 q60 n v3 = some out → XR false 0 174 sc y_M_isKnocked (2, [(0, (vR 10 l0)), (1, (vI l1)), (2, (vI l2)), (3, (vI v3))], [], R, M, 174) ((some (vI out)), R, M) := by
  intro n
  induction n with
  | zero => intro v3 out h; exact (xno h).elim
  | succ n ih =>
    intro v3 out h
    rw [M_isKnocked_F2] at h
    refine s_M_isKnocked [(2, .iload_n 3, 0, 0), (3, .aload_n 0, 0, 0), (4, .getfield 402, 10, 60)] (by decide +kernel) (z' := (7, [(0, (vR 10 l0)), (1, (vI l1)), (2, (vI l2)), (3, (vI v3))], [(vI (M l0 60)), (vI v3)], R, M, 174)) (cs := []) (by rfl) trivial (Nat.le_refl _) ?_
    rcases xif_ex h with ⟨c_1, h⟩ | ⟨c_1, h⟩
    · skip
      obtain ⟨c_2, h⟩ := xch_ex h
      refine s_M_isKnocked [(7, .if_icmp .ge 53, 0, (-1)), (10, .aload_n 0, 0, 0), (11, .getfield 154, 10, 68), (14, .iload_n 3, 0, 0), (15, .iaload, 0, 0)] (by decide +kernel) (z' := (16, [(0, (vR 10 l0)), (1, (vI l1)), (2, (vI l2)), (3, (vI v3))], [(vI (M (R l0 68) (Int.toNat v3)))], R, M, 174)) (cs := [¬ (M l0 60 ≤ v3), xar 21 0, xidx v3 (xan 21)]) (by rfl) ⟨Int.not_le.mpr c_1, xar_21, xix_21 c_2, trivial⟩ (Nat.le_refl _) ?_
      rcases xif_ex h with ⟨c_3, h⟩ | ⟨c_3, h⟩
      · skip
        refine s_M_isKnocked [(16, .ifCond .ne 38, 0, (-1)), (19, .aload_n 0, 0, 0), (20, .getfield 157, 10, 69), (23, .iload_n 3, 0, 0), (24, .iaload, 0, 0), (25, .iload_n 1, 0, 0)] (by decide +kernel) (z' := (26, [(0, (vR 10 l0)), (1, (vI l1)), (2, (vI l2)), (3, (vI v3))], [(vI l1), (vI (M (R l0 69) (Int.toNat v3)))], R, M, 174)) (cs := [¬ (M (R l0 68) (Int.toNat v3) ≠ 0), xar 21 0, xidx v3 (xan 21)]) (by rfl) ⟨fun q => q c_3, xar_21, xix_21 c_2, trivial⟩ (Nat.le_refl _) ?_
        rcases xif_ex h with ⟨c_4, h⟩ | ⟨c_4, h⟩
        · skip
          refine s_M_isKnocked [(26, .if_icmp .ne 28, 0, (-1)), (29, .aload_n 0, 0, 0), (30, .getfield 160, 10, 70), (33, .iload_n 3, 0, 0), (34, .iaload, 0, 0), (35, .iload_n 2, 0, 0)] (by decide +kernel) (z' := (36, [(0, (vR 10 l0)), (1, (vI l1)), (2, (vI l2)), (3, (vI v3))], [(vI l2), (vI (M (R l0 70) (Int.toNat v3)))], R, M, 174)) (cs := [¬ (M (R l0 69) (Int.toNat v3) ≠ l1), xar 21 0, xidx v3 (xan 21)]) (by rfl) ⟨fun q => q c_4, xar_21, xix_21 c_2, trivial⟩ (Nat.le_refl _) ?_
          rcases xif_ex h with ⟨c_5, h⟩ | ⟨c_5, h⟩
          · skip
            refine s_M_isKnocked [(36, .if_icmp .ne 18, 0, (-1)), (39, .aload_n 0, 0, 0), (40, .getfield 166, 10, 72), (43, .iload_n 3, 0, 0), (44, .iaload, 0, 0), (45, .aload_n 0, 0, 0), (46, .getfield 136, 10, 62)] (by decide +kernel) (z' := (49, [(0, (vR 10 l0)), (1, (vI l1)), (2, (vI l2)), (3, (vI v3))], [(vI (M l0 62)), (vI (M (R l0 72) (Int.toNat v3)))], R, M, 174)) (cs := [¬ (M (R l0 70) (Int.toNat v3) ≠ l2), xar 21 0, xidx v3 (xan 21)]) (by rfl) ⟨fun q => q c_5, xar_21, xix_21 c_2, trivial⟩ (Nat.le_refl _) ?_
            rcases xif_ex h with ⟨c_6, h⟩ | ⟨c_6, h⟩
            · skip
              refine s_M_isKnocked [(49, .if_icmp .gt 5, 0, 54)] (by decide +kernel) (z' := (54, [(0, (vR 10 l0)), (1, (vI l1)), (2, (vI l2)), (3, (vI v3))], [], R, M, 174)) (cs := [M l0 62 < M (R l0 72) (Int.toNat v3)]) (by rfl) ⟨c_6, trivial⟩ (Nat.le_refl _) ?_
              exact o_M_isKnocked_J54 ih hq60 h
            · skip
              refine s_M_isKnocked [(49, .if_icmp .gt 5, 0, (-1)), (52, .iconst 1, 0, 1)] (by decide +kernel) (z' := (53, [(0, (vR 10 l0)), (1, (vI l1)), (2, (vI l2)), (3, (vI v3))], [(vI 1)], R, M, 174)) (cs := [¬ (M l0 62 < M (R l0 72) (Int.toNat v3))]) (by rfl) ⟨c_6, trivial⟩ (Nat.le_refl _) ?_
              obtain rfl := Option.some.inj h
              exact XR.retI .boolean rfl (xnar_z (by decide)) (by decide +kernel)
          · skip
            refine s_M_isKnocked [(36, .if_icmp .ne 18, 0, 54)] (by decide +kernel) (z' := (54, [(0, (vR 10 l0)), (1, (vI l1)), (2, (vI l2)), (3, (vI v3))], [], R, M, 174)) (cs := [M (R l0 70) (Int.toNat v3) ≠ l2]) (by rfl) ⟨c_5, trivial⟩ (Nat.le_refl _) ?_
            exact o_M_isKnocked_J54 ih hq60 h
        · skip
          refine s_M_isKnocked [(26, .if_icmp .ne 28, 0, 54)] (by decide +kernel) (z' := (54, [(0, (vR 10 l0)), (1, (vI l1)), (2, (vI l2)), (3, (vI v3))], [], R, M, 174)) (cs := [M (R l0 69) (Int.toNat v3) ≠ l1]) (by rfl) ⟨c_4, trivial⟩ (Nat.le_refl _) ?_
          exact o_M_isKnocked_J54 ih hq60 h
      · skip
        refine s_M_isKnocked [(16, .ifCond .ne 38, 0, 54)] (by decide +kernel) (z' := (54, [(0, (vR 10 l0)), (1, (vI l1)), (2, (vI l2)), (3, (vI v3))], [], R, M, 174)) (cs := [M (R l0 68) (Int.toNat v3) ≠ 0]) (by rfl) ⟨c_3, trivial⟩ (Nat.le_refl _) ?_
        exact o_M_isKnocked_J54 ih hq60 h
    · skip
      refine s_M_isKnocked [(7, .if_icmp .ge 53, 0, 60)] (by decide +kernel) (z' := (60, [(0, (vR 10 l0)), (1, (vI l1)), (2, (vI l2)), (3, (vI v3))], [], R, M, 174)) (cs := [M l0 60 ≤ v3]) (by rfl) ⟨Int.not_lt.mp c_1, trivial⟩ (Nat.le_refl _) ?_
      refine XR.pick [0, 1, 2] (ls' := [(0, (vR 10 l0)), (1, (vI l1)), (2, (vI l2))]) rfl ?_
      exact hq60  _ h
set_option maxRecDepth 100000 in
set_option maxHeartbeats 4000000 in
theorem o_M_isKnocked_F62 {sc : List Int} {R : xR} {M : xM}  {l0 : Nat} {l1 : Int} {l2 : Int}  : ∀ (n : Nat) (v3 : Int) (out : Int), M_isKnocked_F62 R M l0 l1 l2  n v3 = some out → XR false 0 174 sc y_M_isKnocked (62, [(0, (vR 10 l0)), (1, (vI l1)), (2, (vI l2)), (3, (vI v3))], [], R, M, 174) ((some (vI out)), R, M) := by
  intro n
  induction n with
  | zero => intro v3 out h; exact (xno h).elim
  | succ n ih =>
    intro v3 out h
    rw [M_isKnocked_F62] at h
    refine s_M_isKnocked [(62, .iload_n 3, 0, 0), (63, .aload_n 0, 0, 0), (64, .getfield 455, 10, 78)] (by decide +kernel) (z' := (67, [(0, (vR 10 l0)), (1, (vI l1)), (2, (vI l2)), (3, (vI v3))], [(vI (M l0 78)), (vI v3)], R, M, 174)) (cs := []) (by rfl) trivial (Nat.le_refl _) ?_
    rcases xif_ex h with ⟨c_8, h⟩ | ⟨c_8, h⟩
    · skip
      refine s_M_isKnocked [(67, .if_icmp .ge 29, 0, (-1)), (70, .aload_n 0, 0, 0), (71, .getfield 175, 10, 77), (74, .iload_n 1, 0, 0)] (by decide +kernel) (z' := (75, [(0, (vR 10 l0)), (1, (vI l1)), (2, (vI l2)), (3, (vI v3))], [(vI l1), (vI (M l0 77))], R, M, 174)) (cs := [¬ (M l0 78 ≤ v3)]) (by rfl) ⟨Int.not_le.mpr c_8, trivial⟩ (Nat.le_refl _) ?_
      rcases xif_ex h with ⟨c_9, h⟩ | ⟨c_9, h⟩
      · skip
        obtain ⟨c_10, h⟩ := xch_ex h
        refine s_M_isKnocked [(75, .if_icmp .ne 21, 0, (-1)), (78, .aload_n 0, 0, 0), (79, .getfield 178, 10, 79), (82, .iload_n 3, 0, 0), (83, .iaload, 0, 0), (84, .iload_n 2, 0, 0)] (by decide +kernel) (z' := (85, [(0, (vR 10 l0)), (1, (vI l1)), (2, (vI l2)), (3, (vI v3))], [(vI l2), (vI (M (R l0 79) (Int.toNat v3)))], R, M, 174)) (cs := [¬ (M l0 77 ≠ l1), xar 29 0, xidx v3 (xan 29)]) (by rfl) ⟨fun q => q c_9, xar_29, xix_29 c_10, trivial⟩ (Nat.le_refl _) ?_
        rcases xif_ex h with ⟨c_11, h⟩ | ⟨c_11, h⟩
        · skip
          refine s_M_isKnocked [(85, .if_icmp .ne 5, 0, (-1)), (88, .iconst 1, 0, 1)] (by decide +kernel) (z' := (89, [(0, (vR 10 l0)), (1, (vI l1)), (2, (vI l2)), (3, (vI v3))], [(vI 1)], R, M, 174)) (cs := [¬ (M (R l0 79) (Int.toNat v3) ≠ l2)]) (by rfl) ⟨fun q => q c_11, trivial⟩ (Nat.le_refl _) ?_
          obtain rfl := Option.some.inj h
          exact XR.retI .boolean rfl (xnar_z (by decide)) (by decide +kernel)
        · skip
          obtain ⟨v3_12, hv3_12, h⟩ := xl_ex h
          refine s_M_isKnocked [(85, .if_icmp .ne 5, 0, 90), (90, .iinc 3 1, 0, 0), (93, .goto (-31), 0, 62)] (by decide +kernel) (z' := (62, [(3, (vI v3_12)), (0, (vR 10 l0)), (1, (vI l1)), (2, (vI l2))], [], R, M, 174)) (cs := [M (R l0 79) (Int.toNat v3) ≠ l2]) (by subst hv3_12; rfl) ⟨c_11, trivial⟩ (Nat.le_refl _) ?_
          refine XR.pick [1, 2, 3, 0] (ls' := [(0, (vR 10 l0)), (1, (vI l1)), (2, (vI l2)), (3, (vI v3_12))]) rfl ?_
          exact ih v3_12 _ h
      · skip
        refine s_M_isKnocked [(75, .if_icmp .ne 21, 0, 96), (96, .iconst 0, 0, 0)] (by decide +kernel) (z' := (97, [(0, (vR 10 l0)), (1, (vI l1)), (2, (vI l2)), (3, (vI v3))], [(vI 0)], R, M, 174)) (cs := [M l0 77 ≠ l1]) (by rfl) ⟨c_9, trivial⟩ (Nat.le_refl _) ?_
        obtain rfl := Option.some.inj h
        exact XR.retI .boolean rfl (xnar_z (by decide)) (by decide +kernel)
    · skip
      refine s_M_isKnocked [(67, .if_icmp .ge 29, 0, 96), (96, .iconst 0, 0, 0)] (by decide +kernel) (z' := (97, [(0, (vR 10 l0)), (1, (vI l1)), (2, (vI l2)), (3, (vI v3))], [(vI 0)], R, M, 174)) (cs := [M l0 78 ≤ v3]) (by rfl) ⟨Int.not_lt.mp c_8, trivial⟩ (Nat.le_refl _) ?_
      obtain rfl := Option.some.inj h
      exact XR.retI .boolean rfl (xnar_z (by decide)) (by decide +kernel)
set_option maxRecDepth 100000 in
set_option maxHeartbeats 4000000 in
theorem o_M_isKnocked {sc : List Int} {R : xR} {M : xM} {l0 : Nat} {l1 : Int} {l2 : Int} {out : Int} (h : f_M_isKnocked R l0 l1 l2 M = some out) : XR false 0 174 sc y_M_isKnocked (0, [(0, (vR 10 l0)), (1, (vI l1)), (2, (vI l2))], [], R, M, 174) ((some (vI out)), R, M) := by
  unfold f_M_isKnocked at h
  refine s_M_isKnocked [(0, .iconst 0, 0, 0), (1, .istore_n 3, 0, 0)] (by decide +kernel) (z' := (2, [(3, (vI 0)), (0, (vR 10 l0)), (1, (vI l1)), (2, (vI l2))], [], R, M, 174)) (cs := []) (by rfl) trivial (Nat.le_refl _) ?_
  refine XR.pick [1, 2, 3, 0] (ls' := [(0, (vR 10 l0)), (1, (vI l1)), (2, (vI l2)), (3, (vI 0))]) rfl ?_
  refine o_M_isKnocked_F2 ?_ xfu 0 _ h
  · intro  out h
    refine s_M_isKnocked [(60, .iconst 0, 0, 0), (61, .istore_n 3, 0, 0)] (by decide +kernel) (z' := (62, [(3, (vI 0)), (0, (vR 10 l0)), (1, (vI l1)), (2, (vI l2))], [], R, M, 174)) (cs := []) (by rfl) trivial (Nat.le_refl _) ?_
    refine XR.pick [1, 2, 3, 0] (ls' := [(0, (vR 10 l0)), (1, (vI l1)), (2, (vI l2)), (3, (vI 0))]) rfl ?_
    refine o_M_isKnocked_F62  xfu 0 _ h
set_option maxRecDepth 100000 in
set_option maxHeartbeats 4000000 in
theorem c_M_isKnocked {sc : List Int} {R : xR} {M : xM} {l0 : Nat} {l1 : Int} {l2 : Int} {out : Int} (h : f_M_isKnocked R l0 l1 l2 M = some out) : XC false 0 sc y_M_isKnocked [(vR 10 l0), (vI l1), (vI l2)] R M 174 174 ((some (vI out)), R, M) := XC.of (by decide) (Nat.le_of_ble_eq_true rfl) (Nat.le_refl _) (Nat.le_refl _) (o_M_isKnocked h)
def M_knocked_J48 (R : xR) (l0 : Nat) (l1 : Int) (rc : Int → xM → Option xM) (v2 : Int) (v3 : Int) (s0 : Int) (s1 : Int) (s2 : Nat) (M : xM) : Option xM :=
  xch (0 ≤ s1 ∧ s1 < 32) <|
  xl (xu M s2 (Int.toNat s1) s0) fun M_7 =>
  xch (0 ≤ v3 ∧ v3 < 32) <|
  xl (xu M_7 (R l0 85) (Int.toNat v3) (w32 ((M_7 (R l0 85) (Int.toNat v3)) + (w32 ((M_7 (R l0 84) (Int.toNat v3)) - (M_7 (R l0 83) (Int.toNat v3))))))) fun M_9 =>
  xl (xu M_9 (R l0 84) (Int.toNat v3) 0) fun M_10 =>
  xl (w32 (v2 + 1)) fun v2_11 =>
  rc v2_11 M_10
def M_knocked_F2 (R : xR) (l0 : Nat) (l1 : Int) : Nat → Int → xM → Option xM
  | 0, _, _ => none
  | n + 1, v2, M =>
    if v2 < 4 then
      xl (w32 ((w32 (4 * l1)) + v2)) fun v3_2 =>
      xch (0 ≤ l1 ∧ l1 < 8) <|
      if M (R l0 32) (Int.toNat l1) = 1 then
        xch (0 ≤ v3_2 ∧ v3_2 < 32) <|
        M_knocked_J48 R l0 l1 (M_knocked_F2 R l0 l1  n) v2 v3_2 (w32 (Int.tdiv (w32 ((M (R l0 84) (Int.toNat v3_2)) * (M (R l0 35) (Int.toNat l1)))) 100)) v3_2 (R l0 83) M
      else
        M_knocked_J48 R l0 l1 (M_knocked_F2 R l0 l1  n) v2 v3_2 0 v3_2 (R l0 83) M
    else
      some (M)
def f_M_knocked (R : xR) (l0 : Nat) (l1 : Int) (M : xM) : Option xM :=
  M_knocked_F2 R l0 l1
    xfu 0 M
set_option maxRecDepth 100000 in
set_option maxHeartbeats 4000000 in
theorem s_M_knocked {d : Nat} {sc : List Int} {z z' : xS} {out : xO} (qs : List xI) {cs : List Prop} (hq : qs.all (xqb 10 false y_M_knocked.2.2.1 y_M_knocked.2.1) = true) (h : xN false sc qs z = some (z', cs)) (hc : xAll cs) (hE : z'.2.2.2.2.2 ≤ 174) (k : XR false d 174 sc y_M_knocked z' out) : XR false d 174 sc y_M_knocked z out := XR.seg 10 false rfl (fun q => by cases q) qs hq h hc hE k
set_option maxRecDepth 100000 in
set_option maxHeartbeats 4000000 in
theorem o_M_knocked_J48 {sc : List Int} {R : xR}   {l0 : Nat} {l1 : Int}  {rc : Int → xM → Option xM} (hrc : ∀ (w2 : Int) (M : xM) (out : xM), rc w2 M = some out → XR false 0 174 sc y_M_knocked (2, [(0, (vR 10 l0)), (1, (vI l1)), (2, (vI w2))], [], R, M, 174) (none, R, out)) {v2 : Int} {v3 : Int} {s0 : Int} {s1 : Int} {s2 : Nat} {M : xM} {out : xM} (h : M_knocked_J48 R l0 l1 rc v2 v3 s0 s1 s2 M = some out) : XR false 0 174 sc y_M_knocked (48, [(0, (vR 10 l0)), (1, (vI l1)), (2, (vI v2)), (3, (vI v3))], [(vI s0), (vI s1), (vR 27 s2)], R, M, 174) (none, R, out) := by
  unfold M_knocked_J48 at h
  obtain ⟨c_6, h⟩ := xch_ex h
  obtain ⟨M_7, hM_7, h⟩ := xl_ex h
  obtain ⟨c_8, h⟩ := xch_ex h
  obtain ⟨M_9, hM_9, h⟩ := xl_ex h
  obtain ⟨M_10, hM_10, h⟩ := xl_ex h
  obtain ⟨v2_11, hv2_11, h⟩ := xl_ex h
  refine s_M_knocked [(48, .iastore, 0, 0), (49, .aload_n 0, 0, 0), (50, .getfield 196, 10, 85), (53, .iload_n 3, 0, 0), (54, .dup2, 0, 0), (55, .iaload, 0, 0), (56, .aload_n 0, 0, 0), (57, .getfield 193, 10, 84), (60, .iload_n 3, 0, 0), (61, .iaload, 0, 0), (62, .aload_n 0, 0, 0), (63, .getfield 190, 10, 83), (66, .iload_n 3, 0, 0), (67, .iaload, 0, 0), (68, .isub, 0, 0), (69, .iadd, 0, 0), (70, .iastore, 0, 0), (71, .aload_n 0, 0, 0), (72, .getfield 193, 10, 84), (75, .iload_n 3, 0, 0), (76, .iconst 0, 0, 0), (77, .iastore, 0, 0), (78, .iinc 2 1, 0, 0), (81, .goto (-79), 0, 2)] (by decide +kernel) (z' := (2, [(2, (vI v2_11)), (0, (vR 10 l0)), (1, (vI l1)), (3, (vI v3))], [], R, M_10, 174)) (cs := [xar 27 0, xidx s1 (xan 27), xar 27 0, xidx v3 (xan 27), xar 27 0, xidx v3 (xan 27), xar 27 0, xidx v3 (xan 27), xar 27 0, xidx v3 (xan 27), xar 27 0, xidx v3 (xan 27)]) (by subst hM_7; subst hM_9; subst hM_10; subst hv2_11; rfl) ⟨xar_27, xix_27 c_6, xar_27, xix_27 c_8, xar_27, xix_27 c_8, xar_27, xix_27 c_8, xar_27, xix_27 c_8, xar_27, xix_27 c_8, trivial⟩ (Nat.le_refl _) ?_
  refine XR.pick [1, 2, 0] (ls' := [(0, (vR 10 l0)), (1, (vI l1)), (2, (vI v2_11))]) rfl ?_
  exact hrc v2_11 M_10 _ h
set_option maxRecDepth 100000 in
set_option maxHeartbeats 4000000 in
theorem o_M_knocked_F2 {sc : List Int} {R : xR}   {l0 : Nat} {l1 : Int}  : ∀ (n : Nat) (v2 : Int) (M : xM) (out : xM), M_knocked_F2 R l0 l1  n v2 M = some out → XR false 0 174 sc y_M_knocked (2, [(0, (vR 10 l0)), (1, (vI l1)), (2, (vI v2))], [], R, M, 174) (none, R, out) := by
  intro n
  induction n with
  | zero => intro v2 M out h; exact (xno h).elim
  | succ n ih =>
    intro v2 M out h
    rw [M_knocked_F2] at h
    refine s_M_knocked [(2, .iload_n 2, 0, 0), (3, .iconst 4, 0, 4)] (by decide +kernel) (z' := (4, [(0, (vR 10 l0)), (1, (vI l1)), (2, (vI v2))], [(vI 4), (vI v2)], R, M, 174)) (cs := []) (by rfl) trivial (Nat.le_refl _) ?_
    rcases xif_ex h with ⟨c_1, h⟩ | ⟨c_1, h⟩
    · skip
      obtain ⟨v3_2, hv3_2, h⟩ := xl_ex h
      obtain ⟨c_3, h⟩ := xch_ex h
      refine s_M_knocked [(4, .if_icmp .ge 80, 0, (-1)), (7, .iconst 4, 0, 4), (8, .iload_n 1, 0, 0), (9, .imul, 0, 0), (10, .iload_n 2, 0, 0), (11, .iadd, 0, 0), (12, .istore_n 3, 0, 0), (13, .aload_n 0, 0, 0), (14, .getfield 190, 10, 83), (17, .iload_n 3, 0, 0), (18, .aload_n 0, 0, 0), (19, .getfield 67, 10, 32), (22, .iload_n 1, 0, 0), (23, .iaload, 0, 0), (24, .iconst 1, 0, 1)] (by decide +kernel) (z' := (25, [(3, (vI v3_2)), (0, (vR 10 l0)), (1, (vI l1)), (2, (vI v2))], [(vI 1), (vI (M (R l0 32) (Int.toNat l1))), (vI v3_2), (vR 27 (R l0 83))], R, M, 174)) (cs := [¬ (4 ≤ v2), xar 30 0, xidx l1 (xan 30)]) (by subst hv3_2; rfl) ⟨Int.not_le.mpr c_1, xar_30, xix_30 c_3, trivial⟩ (Nat.le_refl _) ?_
      rcases xif_ex h with ⟨c_4, h⟩ | ⟨c_4, h⟩
      · skip
        obtain ⟨c_5, h⟩ := xch_ex h
        refine s_M_knocked [(25, .if_icmp .ne 22, 0, (-1)), (28, .aload_n 0, 0, 0), (29, .getfield 193, 10, 84), (32, .iload_n 3, 0, 0), (33, .iaload, 0, 0), (34, .aload_n 0, 0, 0), (35, .getfield 76, 10, 35), (38, .iload_n 1, 0, 0), (39, .iaload, 0, 0), (40, .imul, 0, 0), (41, .bipush 100, 0, 100), (43, .idiv, 0, 0), (44, .goto 4, 0, 48)] (by decide +kernel) (z' := (48, [(3, (vI v3_2)), (0, (vR 10 l0)), (1, (vI l1)), (2, (vI v2))], [(vI (w32 (Int.tdiv (w32 ((M (R l0 84) (Int.toNat v3_2)) * (M (R l0 35) (Int.toNat l1)))) 100))), (vI v3_2), (vR 27 (R l0 83))], R, M, 174)) (cs := [¬ (M (R l0 32) (Int.toNat l1) ≠ 1), xar 27 0, xidx v3_2 (xan 27), xar 30 0, xidx l1 (xan 30), (100 : Int) ≠ 0]) (by rfl) ⟨fun q => q c_4, xar_27, xix_27 c_5, xar_30, xix_30 c_3, by decide, trivial⟩ (Nat.le_refl _) ?_
        refine XR.pick [1, 2, 3, 0] (ls' := [(0, (vR 10 l0)), (1, (vI l1)), (2, (vI v2)), (3, (vI v3_2))]) rfl ?_
        exact o_M_knocked_J48 ih h
      · skip
        refine s_M_knocked [(25, .if_icmp .ne 22, 0, 47), (47, .iconst 0, 0, 0)] (by decide +kernel) (z' := (48, [(3, (vI v3_2)), (0, (vR 10 l0)), (1, (vI l1)), (2, (vI v2))], [(vI 0), (vI v3_2), (vR 27 (R l0 83))], R, M, 174)) (cs := [M (R l0 32) (Int.toNat l1) ≠ 1]) (by rfl) ⟨c_4, trivial⟩ (Nat.le_refl _) ?_
        refine XR.pick [1, 2, 3, 0] (ls' := [(0, (vR 10 l0)), (1, (vI l1)), (2, (vI v2)), (3, (vI v3_2))]) rfl ?_
        exact o_M_knocked_J48 ih h
    · skip
      refine s_M_knocked [(4, .if_icmp .ge 80, 0, 84)] (by decide +kernel) (z' := (84, [(0, (vR 10 l0)), (1, (vI l1)), (2, (vI v2))], [], R, M, 174)) (cs := [4 ≤ v2]) (by rfl) ⟨Int.not_lt.mp c_1, trivial⟩ (Nat.le_refl _) ?_
      obtain rfl := Option.some.inj h
      exact XR.retV rfl (by decide +kernel)
set_option maxRecDepth 100000 in
set_option maxHeartbeats 4000000 in
theorem o_M_knocked {sc : List Int} {R : xR} {M : xM} {l0 : Nat} {l1 : Int} {out : xM} (h : f_M_knocked R l0 l1 M = some out) : XR false 0 174 sc y_M_knocked (0, [(0, (vR 10 l0)), (1, (vI l1))], [], R, M, 174) (none, R, out) := by
  unfold f_M_knocked at h
  refine s_M_knocked [(0, .iconst 0, 0, 0), (1, .istore_n 2, 0, 0)] (by decide +kernel) (z' := (2, [(2, (vI 0)), (0, (vR 10 l0)), (1, (vI l1))], [], R, M, 174)) (cs := []) (by rfl) trivial (Nat.le_refl _) ?_
  refine XR.pick [1, 2, 0] (ls' := [(0, (vR 10 l0)), (1, (vI l1)), (2, (vI 0))]) rfl ?_
  refine o_M_knocked_F2  xfu 0 M _ h
set_option maxRecDepth 100000 in
set_option maxHeartbeats 4000000 in
theorem c_M_knocked {sc : List Int} {R : xR} {M : xM} {l0 : Nat} {l1 : Int} {out : xM} (h : f_M_knocked R l0 l1 M = some out) : XC false 0 sc y_M_knocked [(vR 10 l0), (vI l1)] R M 174 174 (none, R, out) := XC.of (by decide) (Nat.le_of_ble_eq_true rfl) (Nat.le_refl _) (Nat.le_refl _) (o_M_knocked h)
