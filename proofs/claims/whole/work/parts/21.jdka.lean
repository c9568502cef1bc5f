def f_S_coder (l0 : Nat) : Option Int :=
  if (1 : Int) = 0 then
    some (1)
  else
    some (0)
set_option maxRecDepth 100000 in
set_option maxHeartbeats 4000000 in
theorem s_S_coder {d : Nat} {sc : List Int} {z z' : xS} {out : xO} (qs : List xI) {cs : List Prop} (hq : qs.all (xqb 15 false y_S_coder.2.2.1 y_S_coder.2.1) = true) (h : xN false sc qs z = some (z', cs)) (hc : xAll cs) (hE : z'.2.2.2.2.2 ≤ 174) (k : XR false d 174 sc y_S_coder z' out) : XR false d 174 sc y_S_coder z out := XR.seg 15 false rfl (fun q => by cases q) qs hq h hc hE k
set_option maxRecDepth 100000 in
set_option maxHeartbeats 4000000 in
theorem o_S_coder {sc : List Int} {R : xR} {M : xM} {l0 : Nat} {out : Int} (h : f_S_coder l0 = some out) : XR false 0 174 sc y_S_coder (0, [(0, (vR 99 l0))], [], R, M, 174) ((some (vI out)), R, M) := by
  unfold f_S_coder at h
  refine s_S_coder [(0, .getstatic 38, 0, 0)] (by decide +kernel) (z' := (3, [(0, (vR 99 l0))], [(vI 1)], R, M, 174)) (cs := []) (by rfl) trivial (Nat.le_refl _) ?_
  rcases xif_ex h with ⟨c_1, h⟩ | ⟨c_1, h⟩
  · skip
    refine s_S_coder [(3, .ifCond .eq 10, 0, 13), (13, .iconst 1, 0, 1)] (by decide +kernel) (z' := (14, [(0, (vR 99 l0))], [(vI 1)], R, M, 174)) (cs := [(1 : Int) = 0]) (by rfl) ⟨c_1, trivial⟩ (Nat.le_refl _) ?_
    obtain rfl := Option.some.inj h
    exact XR.retI .byte rfl rfl (by decide +kernel)
  · skip
    refine s_S_coder [(3, .ifCond .eq 10, 0, (-1)), (6, .aload_n 0, 0, 0), (7, .getfield 15, 99, 1), (10, .goto 4, 0, 14)] (by decide +kernel) (z' := (14, [(0, (vR 99 l0))], [(vI 0)], R, M, 174)) (cs := [¬ ((1 : Int) = 0)]) (by rfl) ⟨c_1, trivial⟩ (Nat.le_refl _) ?_
    obtain rfl := Option.some.inj h
    exact XR.retI .byte rfl rfl (by decide +kernel)
set_option maxRecDepth 100000 in
set_option maxHeartbeats 4000000 in
theorem c_S_coder {sc : List Int} {R : xR} {M : xM} {l0 : Nat} {out : Int} (h : f_S_coder l0 = some out) : XC false 0 sc y_S_coder [(vR 99 l0)] R M 174 174 ((some (vI out)), R, M) := XC.of (by decide) (Nat.le_of_ble_eq_true rfl) (Nat.le_refl _) (Nat.le_refl _) (o_S_coder h)
def f_S_length (l0 : Nat) : Option Int :=
  xb1 (f_S_coder l0) fun r_1 =>
  some (xshr ((xsn l0 : Int)) r_1)
set_option maxRecDepth 100000 in
set_option maxHeartbeats 4000000 in
theorem s_S_length {d : Nat} {sc : List Int} {z z' : xS} {out : xO} (qs : List xI) {cs : List Prop} (hq : qs.all (xqb 15 false y_S_length.2.2.1 y_S_length.2.1) = true) (h : xN false sc qs z = some (z', cs)) (hc : xAll cs) (hE : z'.2.2.2.2.2 ≤ 174) (k : XR false d 174 sc y_S_length z' out) : XR false d 174 sc y_S_length z out := XR.seg 15 false rfl (fun q => by cases q) qs hq h hc hE k
set_option maxRecDepth 100000 in
set_option maxHeartbeats 4000000 in
theorem o_S_length {sc : List Int} {R : xR} {M : xM} {l0 : Nat} {out : Int} (h : f_S_length l0 = some out) : XR false 1 174 sc y_S_length (0, [(0, (vR 99 l0))], [], R, M, 174) ((some (vI out)), R, M) := by
  unfold f_S_length at h
  refine s_S_length [(0, .aload_n 0, 0, 0), (1, .getfield 9, 99, 0), (4, .arraylength, 98, 0), (5, .aload_n 0, 0, 0)] (by decide +kernel) (z' := (6, [(0, (vR 99 l0))], [(vR 99 l0), (vI ((xsn l0 : Int)))], R, M, 174)) (cs := [(98 : Nat) = 98]) (by rfl) ⟨rfl, trivial⟩ (Nat.le_refl _) ?_
  obtain ⟨r_1, e_2, h⟩ := xb1_ex h
  refine XR.callV 15 rfl (rest := [(vI ((xsn l0 : Int)))]) m_S_coder k_15_335 99 l0 (Or.inr ⟨rfl, rfl⟩) [] rfl rfl (c_S_coder e_2) (by decide) (Nat.le_of_ble_eq_true rfl) (by decide +kernel) (Nat.le_refl _) (Nat.le_refl _) ?_
  show XR false 1 174 sc y_S_length (9, [(0, (vR 99 l0))], [(vI r_1), (vI ((xsn l0 : Int)))], R, M, 174) _
  refine s_S_length [(9, .ishr, 0, 0)] (by decide +kernel) (z' := (10, [(0, (vR 99 l0))], [(vI (xshr ((xsn l0 : Int)) r_1))], R, M, 174)) (cs := []) (by rfl) trivial (Nat.le_refl _) ?_
  obtain rfl := Option.some.inj h
  exact XR.retI .int rfl rfl (by decide +kernel)
set_option maxRecDepth 100000 in
set_option maxHeartbeats 4000000 in
theorem c_S_length {sc : List Int} {R : xR} {M : xM} {l0 : Nat} {out : Int} (h : f_S_length l0 = some out) : XC false 1 sc y_S_length [(vR 99 l0)] R M 174 174 ((some (vI out)), R, M) := XC.of (by decide) (Nat.le_of_ble_eq_true rfl) (Nat.le_refl _) (Nat.le_refl _) (o_S_length h)
def f_S_isLatin1 (l0 : Nat) : Option Int :=
  if (1 : Int) = 0 then
    some (0)
  else
    if (0 : Int) = 0 then
      some (1)
    else
      some (0)
set_option maxRecDepth 100000 in
set_option maxHeartbeats 4000000 in
theorem s_S_isLatin1 {d : Nat} {sc : List Int} {z z' : xS} {out : xO} (qs : List xI) {cs : List Prop} (hq : qs.all (xqb 15 false y_S_isLatin1.2.2.1 y_S_isLatin1.2.1) = true) (h : xN false sc qs z = some (z', cs)) (hc : xAll cs) (hE : z'.2.2.2.2.2 ≤ 174) (k : XR false d 174 sc y_S_isLatin1 z' out) : XR false d 174 sc y_S_isLatin1 z out := XR.seg 15 false rfl (fun q => by cases q) qs hq h hc hE k
set_option maxRecDepth 100000 in
set_option maxHeartbeats 4000000 in
theorem o_S_isLatin1 {sc : List Int} {R : xR} {M : xM} {l0 : Nat} {out : Int} (h : f_S_isLatin1 l0 = some out) : XR false 0 174 sc y_S_isLatin1 (0, [(0, (vR 99 l0))], [], R, M, 174) ((some (vI out)), R, M) := by
  unfold f_S_isLatin1 at h
  refine s_S_isLatin1 [(0, .getstatic 38, 0, 0)] (by decide +kernel) (z' := (3, [(0, (vR 99 l0))], [(vI 1)], R, M, 174)) (cs := []) (by rfl) trivial (Nat.le_refl _) ?_
  rcases xif_ex h with ⟨c_1, h⟩ | ⟨c_1, h⟩
  · skip
    refine s_S_isLatin1 [(3, .ifCond .eq 14, 0, 17), (17, .iconst 0, 0, 0)] (by decide +kernel) (z' := (18, [(0, (vR 99 l0))], [(vI 0)], R, M, 174)) (cs := [(1 : Int) = 0]) (by rfl) ⟨c_1, trivial⟩ (Nat.le_refl _) ?_
    obtain rfl := Option.some.inj h
    exact XR.retI .boolean rfl (xnar_z (by decide)) (by decide +kernel)
  · skip
    refine s_S_isLatin1 [(3, .ifCond .eq 14, 0, (-1)), (6, .aload_n 0, 0, 0), (7, .getfield 15, 99, 1)] (by decide +kernel) (z' := (10, [(0, (vR 99 l0))], [(vI 0)], R, M, 174)) (cs := [¬ ((1 : Int) = 0)]) (by rfl) ⟨c_1, trivial⟩ (Nat.le_refl _) ?_
    rcases xif_ex h with ⟨c_2, h⟩ | ⟨c_2, h⟩
    · skip
      refine s_S_isLatin1 [(10, .ifCond .ne 7, 0, (-1)), (13, .iconst 1, 0, 1), (14, .goto 4, 0, 18)] (by decide +kernel) (z' := (18, [(0, (vR 99 l0))], [(vI 1)], R, M, 174)) (cs := [¬ ((0 : Int) ≠ 0)]) (by rfl) ⟨fun q => q c_2, trivial⟩ (Nat.le_refl _) ?_
      obtain rfl := Option.some.inj h
      exact XR.retI .boolean rfl (xnar_z (by decide)) (by decide +kernel)
    · skip
      refine s_S_isLatin1 [(10, .ifCond .ne 7, 0, 17), (17, .iconst 0, 0, 0)] (by decide +kernel) (z' := (18, [(0, (vR 99 l0))], [(vI 0)], R, M, 174)) (cs := [(0 : Int) ≠ 0]) (by rfl) ⟨c_2, trivial⟩ (Nat.le_refl _) ?_
      obtain rfl := Option.some.inj h
      exact XR.retI .boolean rfl (xnar_z (by decide)) (by decide +kernel)
set_option maxRecDepth 100000 in
set_option maxHeartbeats 4000000 in
theorem c_S_isLatin1 {sc : List Int} {R : xR} {M : xM} {l0 : Nat} {out : Int} (h : f_S_isLatin1 l0 = some out) : XC false 0 sc y_S_isLatin1 [(vR 99 l0)] R M 174 174 ((some (vI out)), R, M) := XC.of (by decide) (Nat.le_of_ble_eq_true rfl) (Nat.le_refl _) (Nat.le_refl _) (o_S_isLatin1 h)
def f_J_checkIndex (l0 : Int) (l1 : Int) : Option Int :=
  if l0 < 0 then
    none
  else
    if l0 < l1 then
      some (l0)
    else
      none
set_option maxRecDepth 100000 in
set_option maxHeartbeats 4000000 in
theorem s_J_checkIndex {d : Nat} {sc : List Int} {z z' : xS} {out : xO} (qs : List xI) {cs : List Prop} (hq : qs.all (xqb 17 false y_J_checkIndex.2.2.1 y_J_checkIndex.2.1) = true) (h : xN false sc qs z = some (z', cs)) (hc : xAll cs) (hE : z'.2.2.2.2.2 ≤ 174) (k : XR false d 174 sc y_J_checkIndex z' out) : XR false d 174 sc y_J_checkIndex z out := XR.seg 17 false rfl (fun q => by cases q) qs hq h hc hE k
set_option maxRecDepth 100000 in
set_option maxHeartbeats 4000000 in
theorem o_J_checkIndex {sc : List Int} {R : xR} {M : xM} {l0 : Int} {l1 : Int} {out : Int} (h : f_J_checkIndex l0 l1 = some out) : XR false 0 174 sc y_J_checkIndex (0, [(0, (vI l0)), (1, (vI l1)), (2, (vR 96 0))], [], R, M, 174) ((some (vI out)), R, M) := by
  unfold f_J_checkIndex at h
  refine s_J_checkIndex [(0, .iload_n 0, 0, 0)] (by decide +kernel) (z' := (1, [(0, (vI l0)), (1, (vI l1)), (2, (vR 96 0))], [(vI l0)], R, M, 174)) (cs := []) (by rfl) trivial (Nat.le_refl _) ?_
  rcases xif_ex h with ⟨c_1, h⟩ | ⟨c_1, h⟩
  · skip
    exact (xno h).elim
  · skip
    refine s_J_checkIndex [(1, .ifCond .lt 8, 0, (-1)), (4, .iload_n 0, 0, 0), (5, .iload_n 1, 0, 0)] (by decide +kernel) (z' := (6, [(0, (vI l0)), (1, (vI l1)), (2, (vR 96 0))], [(vI l1), (vI l0)], R, M, 174)) (cs := [¬ (l0 < 0)]) (by rfl) ⟨c_1, trivial⟩ (Nat.le_refl _) ?_
    rcases xif_ex h with ⟨c_2, h⟩ | ⟨c_2, h⟩
    · skip
      refine s_J_checkIndex [(6, .if_icmp .lt 10, 0, 16), (16, .iload_n 0, 0, 0)] (by decide +kernel) (z' := (17, [(0, (vI l0)), (1, (vI l1)), (2, (vR 96 0))], [(vI l0)], R, M, 174)) (cs := [l0 < l1]) (by rfl) ⟨c_2, trivial⟩ (Nat.le_refl _) ?_
      obtain rfl := Option.some.inj h
      exact XR.retI .int rfl rfl (by decide +kernel)
    · skip
      exact (xno h).elim
set_option maxRecDepth 100000 in
set_option maxHeartbeats 4000000 in
theorem c_J_checkIndex {sc : List Int} {R : xR} {M : xM} {l0 : Int} {l1 : Int} {out : Int} (h : f_J_checkIndex l0 l1 = some out) : XC false 0 sc y_J_checkIndex [(vI l0), (vI l1), (vR 96 0)] R M 174 174 ((some (vI out)), R, M) := XC.of (by decide) (Nat.le_of_ble_eq_true rfl) (Nat.le_refl _) (Nat.le_refl _) (o_J_checkIndex h)
def f_S_checkIndex (l0 : Int) (l1 : Int) : Option Unit :=
  xb1 (f_J_checkIndex l0 l1) fun r_1 =>
  some (())
set_option maxRecDepth 100000 in
set_option maxHeartbeats 4000000 in
theorem s_S_checkIndex {d : Nat} {sc : List Int} {z z' : xS} {out : xO} (qs : List xI) {cs : List Prop} (hq : qs.all (xqb 15 false y_S_checkIndex.2.2.1 y_S_checkIndex.2.1) = true) (h : xN false sc qs z = some (z', cs)) (hc : xAll cs) (hE : z'.2.2.2.2.2 ≤ 174) (k : XR false d 174 sc y_S_checkIndex z' out) : XR false d 174 sc y_S_checkIndex z out := XR.seg 15 false rfl (fun q => by cases q) qs hq h hc hE k
set_option maxRecDepth 100000 in
set_option maxHeartbeats 4000000 in
theorem o_S_checkIndex {sc : List Int} {R : xR} {M : xM} {l0 : Int} {l1 : Int} {out : Unit} (h : f_S_checkIndex l0 l1 = some out) : XR false 1 174 sc y_S_checkIndex (0, [(0, (vI l0)), (1, (vI l1))], [], R, M, 174) (none, R, M) := by
  unfold f_S_checkIndex at h
  refine s_S_checkIndex [(0, .iload_n 0, 0, 0), (1, .iload_n 1, 0, 0), (2, .getstatic 1053, 1, 0)] (by decide +kernel) (z' := (5, [(0, (vI l0)), (1, (vI l1))], [(vR 96 0), (vI l1), (vI l0)], R, M, 174)) (cs := []) (by rfl) trivial (Nat.le_refl _) ?_
  obtain ⟨r_1, e_2, h⟩ := xb1_ex h
  refine XR.callS 15 rfl (rest := []) m_J_checkIndex k_15_1059 [(vI l0), (vI l1), (vR 96 0)] rfl rfl (c_J_checkIndex e_2) (by decide) (Nat.le_of_ble_eq_true rfl) (by decide +kernel) (Nat.le_refl _) (Nat.le_refl _) ?_
  show XR false 1 174 sc y_S_checkIndex (8, [(0, (vI l0)), (1, (vI l1))], [(vI r_1)], R, M, 174) _
  refine s_S_checkIndex [(8, .pop, 0, 0)] (by decide +kernel) (z' := (9, [(0, (vI l0)), (1, (vI l1))], [], R, M, 174)) (cs := []) (by rfl) trivial (Nat.le_refl _) ?_
  obtain rfl := Option.some.inj h
  exact XR.retV rfl (by decide +kernel)
set_option maxRecDepth 100000 in
set_option maxHeartbeats 4000000 in
theorem c_S_checkIndex {sc : List Int} {R : xR} {M : xM} {l0 : Int} {l1 : Int} {out : Unit} (h : f_S_checkIndex l0 l1 = some out) : XC false 1 sc y_S_checkIndex [(vI l0), (vI l1)] R M 174 174 (none, R, M) := XC.of (by decide) (Nat.le_of_ble_eq_true rfl) (Nat.le_refl _) (Nat.le_refl _) (o_S_checkIndex h)
def f_Z_charAt (l0 : Nat) (l1 : Int) : Option Int :=
  xb1 (f_S_checkIndex l1 ((xsn l0 : Int))) fun _ =>
  xch (0 ≤ l1 ∧ l1 < (xsn l0 : Int)) <|
  xch (0 ≤ xi2c (xand (xsb l0 (Int.toNat l1)) 255) ∧ xi2c (xand (xsb l0 (Int.toNat l1)) 255) < 256) <|
  some (xi2c (xand (xsb l0 (Int.toNat l1)) 255))
set_option maxRecDepth 100000 in
set_option maxHeartbeats 4000000 in
theorem s_Z_charAt {d : Nat} {sc : List Int} {z z' : xS} {out : xO} (qs : List xI) {cs : List Prop} (hq : qs.all (xqb 16 false y_Z_charAt.2.2.1 y_Z_charAt.2.1) = true) (h : xN false sc qs z = some (z', cs)) (hc : xAll cs) (hE : z'.2.2.2.2.2 ≤ 174) (k : XR false d 174 sc y_Z_charAt z' out) : XR false d 174 sc y_Z_charAt z out := XR.seg 16 false rfl (fun q => by cases q) qs hq h hc hE k
set_option maxRecDepth 100000 in
set_option maxHeartbeats 4000000 in
theorem o_Z_charAt {sc : List Int} {R : xR} {M : xM} {l0 : Nat} {l1 : Int} {out : Int} (h : f_Z_charAt l0 l1 = some out) : XR false 2 174 sc y_Z_charAt (0, [(0, (vR 98 l0)), (1, (vI l1))], [], R, M, 174) ((some (vI out)), R, M) := by
  unfold f_Z_charAt at h
  refine s_Z_charAt [(0, .iload_n 1, 0, 0), (1, .aload_n 0, 0, 0), (2, .arraylength, 98, 0)] (by decide +kernel) (z' := (3, [(0, (vR 98 l0)), (1, (vI l1))], [(vI ((xsn l0 : Int))), (vI l1)], R, M, 174)) (cs := [(98 : Nat) = 98]) (by rfl) ⟨rfl, trivial⟩ (Nat.le_refl _) ?_
  obtain ⟨_, e_1, h⟩ := xb1_ex h
  refine XR.callS 16 rfl (rest := []) m_S_checkIndex k_16_9 [(vI l1), (vI ((xsn l0 : Int)))] rfl rfl (c_S_checkIndex e_1) (by decide) (Nat.le_of_ble_eq_true rfl) (by decide +kernel) (Nat.le_refl _) (Nat.le_refl _) ?_
  show XR false 2 174 sc y_Z_charAt (6, [(0, (vR 98 l0)), (1, (vI l1))], [], R, M, 174) _
  obtain ⟨c_2, h⟩ := xch_ex h
  obtain ⟨c_3, h⟩ := xch_ex h
  refine s_Z_charAt [(6, .aload_n 0, 0, 0), (7, .iload_n 1, 0, 0), (8, .baload, 98, 0), (9, .sipush 255, 0, 255), (12, .iand, 0, 0), (13, .i2c, 0, 0)] (by decide +kernel) (z' := (14, [(0, (vR 98 l0)), (1, (vI l1))], [(vI (xi2c (xand (xsb l0 (Int.toNat l1)) 255)))], R, M, 174)) (cs := [(98 : Nat) = 98, xidx l1 (xsn l0)]) (by rfl) ⟨rfl, c_2, trivial⟩ (Nat.le_refl _) ?_
  obtain rfl := Option.some.inj h
  exact XR.retI .char rfl (xnar_c c_3) (by decide +kernel)
set_option maxRecDepth 100000 in
set_option maxHeartbeats 4000000 in
theorem c_Z_charAt {sc : List Int} {R : xR} {M : xM} {l0 : Nat} {l1 : Int} {out : Int} (h : f_Z_charAt l0 l1 = some out) : XC false 2 sc y_Z_charAt [(vR 98 l0), (vI l1)] R M 174 174 ((some (vI out)), R, M) := XC.of (by decide) (Nat.le_of_ble_eq_true rfl) (Nat.le_refl _) (Nat.le_refl _) (o_Z_charAt h)
def f_S_charAt (l0 : Nat) (l1 : Int) : Option Int :=
  xb1 (f_S_isLatin1 l0) fun r_1 =>
  if r_1 = 0 then
    none
  else
    xb1 (f_Z_charAt l0 l1) fun r_4 =>
    xch (0 ≤ r_4 ∧ r_4 < 256) <|
    some (r_4)
set_option maxRecDepth 100000 in
set_option maxHeartbeats 4000000 in
theorem s_S_charAt {d : Nat} {sc : List Int} {z z' : xS} {out : xO} (qs : List xI) {cs : List Prop} (hq : qs.all (xqb 15 false y_S_charAt.2.2.1 y_S_charAt.2.1) = true) (h : xN false sc qs z = some (z', cs)) (hc : xAll cs) (hE : z'.2.2.2.2.2 ≤ 174) (k : XR false d 174 sc y_S_charAt z' out) : XR false d 174 sc y_S_charAt z out := XR.seg 15 false rfl (fun q => by cases q) qs hq h hc hE k
set_option maxRecDepth 100000 in
set_option maxHeartbeats 4000000 in
theorem o_S_charAt {sc : List Int} {R : xR} {M : xM} {l0 : Nat} {l1 : Int} {out : Int} (h : f_S_charAt l0 l1 = some out) : XR false 3 174 sc y_S_charAt (0, [(0, (vR 99 l0)), (1, (vI l1))], [], R, M, 174) ((some (vI out)), R, M) := by
  unfold f_S_charAt at h
  refine s_S_charAt [(0, .aload_n 0, 0, 0)] (by decide +kernel) (z' := (1, [(0, (vR 99 l0)), (1, (vI l1))], [(vR 99 l0)], R, M, 174)) (cs := []) (by rfl) trivial (Nat.le_refl _) ?_
  obtain ⟨r_1, e_2, h⟩ := xb1_ex h
  refine XR.callV 15 rfl (rest := []) m_S_isLatin1 k_15_492 99 l0 (Or.inr ⟨rfl, rfl⟩) [] rfl rfl (c_S_isLatin1 e_2) (by decide) (Nat.le_of_ble_eq_true rfl) (by decide +kernel) (Nat.le_refl _) (Nat.le_refl _) ?_
  show XR false 3 174 sc y_S_charAt (4, [(0, (vR 99 l0)), (1, (vI l1))], [(vI r_1)], R, M, 174) _
  rcases xif_ex h with ⟨c_3, h⟩ | ⟨c_3, h⟩
  · skip
    exact (xno h).elim
  · skip
    refine s_S_charAt [(4, .ifCond .eq 12, 0, (-1)), (7, .aload_n 0, 0, 0), (8, .getfield 9, 99, 0), (11, .iload_n 1, 0, 0)] (by decide +kernel) (z' := (12, [(0, (vR 99 l0)), (1, (vI l1))], [(vI l1), (vR 98 l0)], R, M, 174)) (cs := [¬ (r_1 = 0)]) (by rfl) ⟨c_3, trivial⟩ (Nat.le_refl _) ?_
    obtain ⟨r_4, e_5, h⟩ := xb1_ex h
    refine XR.callS 15 rfl (rest := []) m_Z_charAt k_15_495 [(vR 98 l0), (vI l1)] rfl rfl (c_Z_charAt e_5) (by decide) (Nat.le_of_ble_eq_true rfl) (by decide +kernel) (Nat.le_refl _) (Nat.le_refl _) ?_
    show XR false 3 174 sc y_S_charAt (15, [(0, (vR 99 l0)), (1, (vI l1))], [(vI r_4)], R, M, 174) _
    obtain ⟨c_6, h⟩ := xch_ex h
    obtain rfl := Option.some.inj h
    exact XR.retI .char rfl (xnar_c c_6) (by decide +kernel)
set_option maxRecDepth 100000 in
set_option maxHeartbeats 4000000 in
theorem c_S_charAt {sc : List Int} {R : xR} {M : xM} {l0 : Nat} {l1 : Int} {out : Int} (h : f_S_charAt l0 l1 = some out) : XC false 3 sc y_S_charAt [(vR 99 l0), (vI l1)] R M 174 174 ((some (vI out)), R, M) := XC.of (by decide) (Nat.le_of_ble_eq_true rfl) (Nat.le_refl _) (Nat.le_refl _) (o_S_charAt h)
def f_Z_canEncode (l0 : Int) : Option Int :=
  if l0 < 0 then
    some (0)
  else
    if 255 < l0 then
      some (0)
    else
      some (1)
set_option maxRecDepth 100000 in
set_option maxHeartbeats 4000000 in
theorem s_Z_canEncode {d : Nat} {sc : List Int} {z z' : xS} {out : xO} (qs : List xI) {cs : List Prop} (hq : qs.all (xqb 16 false y_Z_canEncode.2.2.1 y_Z_canEncode.2.1) = true) (h : xN false sc qs z = some (z', cs)) (hc : xAll cs) (hE : z'.2.2.2.2.2 ≤ 174) (k : XR false d 174 sc y_Z_canEncode z' out) : XR false d 174 sc y_Z_canEncode z out := XR.seg 16 false rfl (fun q => by cases q) qs hq h hc hE k
set_option maxRecDepth 100000 in
set_option maxHeartbeats 4000000 in
theorem o_Z_canEncode {sc : List Int} {R : xR} {M : xM} {l0 : Int} {out : Int} (h : f_Z_canEncode l0 = some out) : XR false 0 174 sc y_Z_canEncode (0, [(0, (vI l0))], [], R, M, 174) ((some (vI out)), R, M) := by
  unfold f_Z_canEncode at h
  refine s_Z_canEncode [(0, .iload_n 0, 0, 0)] (by decide +kernel) (z' := (1, [(0, (vI l0))], [(vI l0)], R, M, 174)) (cs := []) (by rfl) trivial (Nat.le_refl _) ?_
  rcases xif_ex h with ⟨c_1, h⟩ | ⟨c_1, h⟩
  · skip
    refine s_Z_canEncode [(1, .ifCond .lt 14, 0, 15), (15, .iconst 0, 0, 0)] (by decide +kernel) (z' := (16, [(0, (vI l0))], [(vI 0)], R, M, 174)) (cs := [l0 < 0]) (by rfl) ⟨c_1, trivial⟩ (Nat.le_refl _) ?_
    obtain rfl := Option.some.inj h
    exact XR.retI .boolean rfl (xnar_z (by decide)) (by decide +kernel)
  · skip
    refine s_Z_canEncode [(1, .ifCond .lt 14, 0, (-1)), (4, .iload_n 0, 0, 0), (5, .sipush 255, 0, 255)] (by decide +kernel) (z' := (8, [(0, (vI l0))], [(vI 255), (vI l0)], R, M, 174)) (cs := [¬ (l0 < 0)]) (by rfl) ⟨c_1, trivial⟩ (Nat.le_refl _) ?_
    rcases xif_ex h with ⟨c_2, h⟩ | ⟨c_2, h⟩
    · skip
      refine s_Z_canEncode [(8, .if_icmp .gt 7, 0, 15), (15, .iconst 0, 0, 0)] (by decide +kernel) (z' := (16, [(0, (vI l0))], [(vI 0)], R, M, 174)) (cs := [255 < l0]) (by rfl) ⟨c_2, trivial⟩ (Nat.le_refl _) ?_
      obtain rfl := Option.some.inj h
      exact XR.retI .boolean rfl (xnar_z (by decide)) (by decide +kernel)
    · skip
      refine s_Z_canEncode [(8, .if_icmp .gt 7, 0, (-1)), (11, .iconst 1, 0, 1), (12, .goto 4, 0, 16)] (by decide +kernel) (z' := (16, [(0, (vI l0))], [(vI 1)], R, M, 174)) (cs := [¬ (255 < l0)]) (by rfl) ⟨c_2, trivial⟩ (Nat.le_refl _) ?_
      obtain rfl := Option.some.inj h
      exact XR.retI .boolean rfl (xnar_z (by decide)) (by decide +kernel)
set_option maxRecDepth 100000 in
set_option maxHeartbeats 4000000 in
theorem c_Z_canEncode {sc : List Int} {R : xR} {M : xM} {l0 : Int} {out : Int} (h : f_Z_canEncode l0 = some out) : XC false 0 sc y_Z_canEncode [(vI l0)] R M 174 174 ((some (vI out)), R, M) := XC.of (by decide) (Nat.le_of_ble_eq_true rfl) (Nat.le_refl _) (Nat.le_refl _) (o_Z_canEncode h)
def Z_indexOfChar_F7 (l0 : Nat) (l3 : Int) : Nat → Int → Int → Option Int
  | 0, _, _ => none
  | n + 1, v4, v5 =>
    if v5 < l3 then
      xch (0 ≤ v5 ∧ v5 < (xsn l0 : Int)) <|
      if xsb l0 (Int.toNat v5) = v4 then
        some (v5)
      else
        xl (w32 (v5 + 1)) fun v5_5 =>
        Z_indexOfChar_F7 l0 l3  n v4 v5_5
    else
      some (-1)
def f_Z_indexOfChar (l0 : Nat) (l1 : Int) (l2 : Int) (l3 : Int) : Option Int :=
  xl (w8 l1) fun v4_1 =>
  Z_indexOfChar_F7 l0 l3
    xfu v4_1 l2
set_option maxRecDepth 100000 in
set_option maxHeartbeats 4000000 in
theorem s_Z_indexOfChar {d : Nat} {sc : List Int} {z z' : xS} {out : xO} (qs : List xI) {cs : List Prop} (hq : qs.all (xqb 16 false y_Z_indexOfChar.2.2.1 y_Z_indexOfChar.2.1) = true) (h : xN false sc qs z = some (z', cs)) (hc : xAll cs) (hE : z'.2.2.2.2.2 ≤ 174) (k : XR false d 174 sc y_Z_indexOfChar z' out) : XR false d 174 sc y_Z_indexOfChar z out := XR.seg 16 false rfl (fun q => by cases q) qs hq h hc hE k
set_option maxRecDepth 100000 in
set_option maxHeartbeats 4000000 in
theorem o_Z_indexOfChar_F7 {sc : List Int} {R : xR} {M : xM}  {l0 : Nat} {l3 : Int}  : ∀ (n : Nat) (v4 : Int) (v5 : Int) (out : Int), Z_indexOfChar_F7 l0 l3  n v4 v5 = some out → XR false 0 174 sc y_Z_indexOfChar (7, [(0, (vR 98 l0)), (3, (vI l3)), (4, (vI v4)), (5, (vI v5))], [], R, M, 174) ((some (vI out)), R, M) := by
  intro n
  induction n with
  | zero => intro v4 v5 out h; exact (xno h).elim
  | succ n ih =>
    intro v4 v5 out h
    rw [Z_indexOfChar_F7] at h
    refine s_Z_indexOfChar [(7, .iload 5, 0, 0), (9, .iload_n 3, 0, 0)] (by decide +kernel) (z' := (10, [(0, (vR 98 l0)), (3, (vI l3)), (4, (vI v4)), (5, (vI v5))], [(vI l3), (vI v5)], R, M, 174)) (cs := []) (by rfl) trivial (Nat.le_refl _) ?_
    rcases xif_ex h with ⟨c_2, h⟩ | ⟨c_2, h⟩
    · skip
      obtain ⟨c_3, h⟩ := xch_ex h
      refine s_Z_indexOfChar [(10, .if_icmp .ge 21, 0, (-1)), (13, .aload_n 0, 0, 0), (14, .iload 5, 0, 0), (16, .baload, 98, 0), (17, .iload 4, 0, 0)] (by decide +kernel) (z' := (19, [(0, (vR 98 l0)), (3, (vI l3)), (4, (vI v4)), (5, (vI v5))], [(vI v4), (vI (xsb l0 (Int.toNat v5)))], R, M, 174)) (cs := [¬ (l3 ≤ v5), (98 : Nat) = 98, xidx v5 (xsn l0)]) (by rfl) ⟨Int.not_le.mpr c_2, rfl, c_3, trivial⟩ (Nat.le_refl _) ?_
      rcases xif_ex h with ⟨c_4, h⟩ | ⟨c_4, h⟩
      · skip
        refine s_Z_indexOfChar [(19, .if_icmp .ne 6, 0, (-1)), (22, .iload 5, 0, 0)] (by decide +kernel) (z' := (24, [(0, (vR 98 l0)), (3, (vI l3)), (4, (vI v4)), (5, (vI v5))], [(vI v5)], R, M, 174)) (cs := [¬ (xsb l0 (Int.toNat v5) ≠ v4)]) (by rfl) ⟨fun q => q c_4, trivial⟩ (Nat.le_refl _) ?_
        obtain rfl := Option.some.inj h
        exact XR.retI .int rfl rfl (by decide +kernel)
      · skip
        obtain ⟨v5_5, hv5_5, h⟩ := xl_ex h
        refine s_Z_indexOfChar [(19, .if_icmp .ne 6, 0, 25), (25, .iinc 5 1, 0, 0), (28, .goto (-21), 0, 7)] (by decide +kernel) (z' := (7, [(5, (vI v5_5)), (0, (vR 98 l0)), (3, (vI l3)), (4, (vI v4))], [], R, M, 174)) (cs := [xsb l0 (Int.toNat v5) ≠ v4]) (by subst hv5_5; rfl) ⟨c_4, trivial⟩ (Nat.le_refl _) ?_
        refine XR.pick [1, 2, 3, 0] (ls' := [(0, (vR 98 l0)), (3, (vI l3)), (4, (vI v4)), (5, (vI v5_5))]) rfl ?_
        exact ih v4 v5_5 _ h
    · skip
      refine s_Z_indexOfChar [(10, .if_icmp .ge 21, 0, 31), (31, .iconst (-1), 0, (-1))] (by decide +kernel) (z' := (32, [(0, (vR 98 l0)), (3, (vI l3)), (4, (vI v4)), (5, (vI v5))], [(vI (-1))], R, M, 174)) (cs := [l3 ≤ v5]) (by rfl) ⟨Int.not_lt.mp c_2, trivial⟩ (Nat.le_refl _) ?_
      obtain rfl := Option.some.inj h
      exact XR.retI .int rfl rfl (by decide +kernel)
set_option maxRecDepth 100000 in
set_option maxHeartbeats 4000000 in
theorem o_Z_indexOfChar {sc : List Int} {R : xR} {M : xM} {l0 : Nat} {l1 : Int} {l2 : Int} {l3 : Int} {out : Int} (h : f_Z_indexOfChar l0 l1 l2 l3 = some out) : XR false 0 174 sc y_Z_indexOfChar (0, [(0, (vR 98 l0)), (1, (vI l1)), (2, (vI l2)), (3, (vI l3))], [], R, M, 174) ((some (vI out)), R, M) := by
  unfold f_Z_indexOfChar at h
  obtain ⟨v4_1, hv4_1, h⟩ := xl_ex h
  refine s_Z_indexOfChar [(0, .iload_n 1, 0, 0), (1, .i2b, 0, 0), (2, .istore 4, 0, 0), (4, .iload_n 2, 0, 0), (5, .istore 5, 0, 0)] (by decide +kernel) (z' := (7, [(5, (vI l2)), (4, (vI v4_1)), (0, (vR 98 l0)), (1, (vI l1)), (2, (vI l2)), (3, (vI l3))], [], R, M, 174)) (cs := []) (by subst hv4_1; rfl) trivial (Nat.le_refl _) ?_
  refine XR.pick [2, 5, 1, 0] (ls' := [(0, (vR 98 l0)), (3, (vI l3)), (4, (vI v4_1)), (5, (vI l2))]) rfl ?_
  refine o_Z_indexOfChar_F7  xfu v4_1 l2 _ h
set_option maxRecDepth 100000 in
set_option maxHeartbeats 4000000 in
theorem c_Z_indexOfChar {sc : List Int} {R : xR} {M : xM} {l0 : Nat} {l1 : Int} {l2 : Int} {l3 : Int} {out : Int} (h : f_Z_indexOfChar l0 l1 l2 l3 = some out) : XC false 0 sc y_Z_indexOfChar [(vR 98 l0), (vI l1), (vI l2), (vI l3)] R M 174 174 ((some (vI out)), R, M) := XC.of (by decide) (Nat.le_of_ble_eq_true rfl) (Nat.le_refl _) (Nat.le_refl _) (o_Z_indexOfChar h)
def f_Z_indexOf (l0 : Nat) (l1 : Int) (l2 : Int) (l3 : Int) : Option Int :=
  xb1 (f_Z_canEncode l1) fun r_1 =>
  if r_1 = 0 then
    some (-1)
  else
    xl (xmax l2 0) fun v2_4 =>
    xl (xmin l3 ((xsn l0 : Int))) fun v3_5 =>
    if v2_4 < v3_5 then
      xb1 (f_Z_indexOfChar l0 l1 v2_4 v3_5) fun r_7 =>
      some (r_7)
    else
      some (-1)
set_option maxRecDepth 100000 in
set_option maxHeartbeats 4000000 in
theorem s_Z_indexOf {d : Nat} {sc : List Int} {z z' : xS} {out : xO} (qs : List xI) {cs : List Prop} (hq : qs.all (xqb 16 false y_Z_indexOf.2.2.1 y_Z_indexOf.2.1) = true) (h : xN false sc qs z = some (z', cs)) (hc : xAll cs) (hE : z'.2.2.2.2.2 ≤ 174) (k : XR false d 174 sc y_Z_indexOf z' out) : XR false d 174 sc y_Z_indexOf z out := XR.seg 16 false rfl (fun q => by cases q) qs hq h hc hE k
set_option maxRecDepth 100000 in
set_option maxHeartbeats 4000000 in
theorem o_Z_indexOf {sc : List Int} {R : xR} {M : xM} {l0 : Nat} {l1 : Int} {l2 : Int} {l3 : Int} {out : Int} (h : f_Z_indexOf l0 l1 l2 l3 = some out) : XR false 1 174 sc y_Z_indexOf (0, [(0, (vR 98 l0)), (1, (vI l1)), (2, (vI l2)), (3, (vI l3))], [], R, M, 174) ((some (vI out)), R, M) := by
  unfold f_Z_indexOf at h
  refine s_Z_indexOf [(0, .iload_n 1, 0, 0)] (by decide +kernel) (z' := (1, [(0, (vR 98 l0)), (1, (vI l1)), (2, (vI l2)), (3, (vI l3))], [(vI l1)], R, M, 174)) (cs := []) (by rfl) trivial (Nat.le_refl _) ?_
  obtain ⟨r_1, e_2, h⟩ := xb1_ex h
  refine XR.callS 16 rfl (rest := []) m_Z_canEncode k_16_88 [(vI l1)] rfl rfl (c_Z_canEncode e_2) (by decide) (Nat.le_of_ble_eq_true rfl) (by decide +kernel) (Nat.le_refl _) (Nat.le_refl _) ?_
  show XR false 1 174 sc y_Z_indexOf (4, [(0, (vR 98 l0)), (1, (vI l1)), (2, (vI l2)), (3, (vI l3))], [(vI r_1)], R, M, 174) _
  rcases xif_ex h with ⟨c_3, h⟩ | ⟨c_3, h⟩
  · skip
    refine s_Z_indexOf [(4, .ifCond .ne 5, 0, (-1)), (7, .iconst (-1), 0, (-1))] (by decide +kernel) (z' := (8, [(0, (vR 98 l0)), (1, (vI l1)), (2, (vI l2)), (3, (vI l3))], [(vI (-1))], R, M, 174)) (cs := [¬ (r_1 ≠ 0)]) (by rfl) ⟨fun q => q c_3, trivial⟩ (Nat.le_refl _) ?_
    obtain rfl := Option.some.inj h
    exact XR.retI .int rfl rfl (by decide +kernel)
  · skip
    refine s_Z_indexOf [(4, .ifCond .ne 5, 0, 9), (9, .iload_n 2, 0, 0), (10, .iconst 0, 0, 0)] (by decide +kernel) (z' := (11, [(0, (vR 98 l0)), (1, (vI l1)), (2, (vI l2)), (3, (vI l3))], [(vI 0), (vI l2)], R, M, 174)) (cs := [r_1 ≠ 0]) (by rfl) ⟨c_3, trivial⟩ (Nat.le_refl _) ?_
    refine XR.mmax 16 rfl (rest := []) k_16_92 k_mmaxS k_mini k_mmaxC (Nat.le_refl _) (by decide) (Nat.le_of_ble_eq_true rfl) (by decide +kernel) ?_
    obtain ⟨v2_4, hv2_4, h⟩ := xl_ex h
    refine s_Z_indexOf [(14, .istore_n 2, 0, 0), (15, .iload_n 3, 0, 0), (16, .aload_n 0, 0, 0), (17, .arraylength, 98, 0)] (by decide +kernel) (z' := (18, [(2, (vI v2_4)), (0, (vR 98 l0)), (1, (vI l1)), (3, (vI l3))], [(vI ((xsn l0 : Int))), (vI l3)], R, M, 174)) (cs := [(98 : Nat) = 98]) (by subst hv2_4; rfl) ⟨rfl, trivial⟩ (Nat.le_refl _) ?_
    refine XR.mmin 16 rfl (rest := []) k_16_38 k_mminS k_mini k_mminC (Nat.le_refl _) (by decide) (Nat.le_of_ble_eq_true rfl) (by decide +kernel) ?_
    obtain ⟨v3_5, hv3_5, h⟩ := xl_ex h
    refine s_Z_indexOf [(21, .istore_n 3, 0, 0), (22, .iload_n 2, 0, 0), (23, .iload_n 3, 0, 0)] (by decide +kernel) (z' := (24, [(3, (vI v3_5)), (2, (vI v2_4)), (0, (vR 98 l0)), (1, (vI l1))], [(vI v3_5), (vI v2_4)], R, M, 174)) (cs := []) (by subst hv3_5; rfl) trivial (Nat.le_refl _) ?_
    rcases xif_ex h with ⟨c_6, h⟩ | ⟨c_6, h⟩
    · skip
      refine s_Z_indexOf [(24, .if_icmp .lt 5, 0, 29), (29, .aload_n 0, 0, 0), (30, .iload_n 1, 0, 0), (31, .iload_n 2, 0, 0), (32, .iload_n 3, 0, 0)] (by decide +kernel) (z' := (33, [(3, (vI v3_5)), (2, (vI v2_4)), (0, (vR 98 l0)), (1, (vI l1))], [(vI v3_5), (vI v2_4), (vI l1), (vR 98 l0)], R, M, 174)) (cs := [v2_4 < v3_5]) (by rfl) ⟨c_6, trivial⟩ (Nat.le_refl _) ?_
      obtain ⟨r_7, e_8, h⟩ := xb1_ex h
      refine XR.callS 16 rfl (rest := []) m_Z_indexOfChar k_16_95 [(vR 98 l0), (vI l1), (vI v2_4), (vI v3_5)] rfl rfl (c_Z_indexOfChar e_8) (by decide) (Nat.le_of_ble_eq_true rfl) (by decide +kernel) (Nat.le_refl _) (Nat.le_refl _) ?_
      show XR false 1 174 sc y_Z_indexOf (36, [(3, (vI v3_5)), (2, (vI v2_4)), (0, (vR 98 l0)), (1, (vI l1))], [(vI r_7)], R, M, 174) _
      obtain rfl := Option.some.inj h
      exact XR.retI .int rfl rfl (by decide +kernel)
    · skip
      refine s_Z_indexOf [(24, .if_icmp .lt 5, 0, (-1)), (27, .iconst (-1), 0, (-1))] (by decide +kernel) (z' := (28, [(3, (vI v3_5)), (2, (vI v2_4)), (0, (vR 98 l0)), (1, (vI l1))], [(vI (-1))], R, M, 174)) (cs := [¬ (v2_4 < v3_5)]) (by rfl) ⟨c_6, trivial⟩ (Nat.le_refl _) ?_
      obtain rfl := Option.some.inj h
      exact XR.retI .int rfl rfl (by decide +kernel)
set_option maxRecDepth 100000 in
set_option maxHeartbeats 4000000 in
theorem c_Z_indexOf {sc : List Int} {R : xR} {M : xM} {l0 : Nat} {l1 : Int} {l2 : Int} {l3 : Int} {out : Int} (h : f_Z_indexOf l0 l1 l2 l3 = some out) : XC false 1 sc y_Z_indexOf [(vR 98 l0), (vI l1), (vI l2), (vI l3)] R M 174 174 ((some (vI out)), R, M) := XC.of (by decide) (Nat.le_of_ble_eq_true rfl) (Nat.le_refl _) (Nat.le_refl _) (o_Z_indexOf h)
def f_S_indexOf_III (l0 : Nat) (l1 : Int) (l2 : Int) : Option Int :=
  xb1 (f_S_isLatin1 l0) fun r_1 =>
  if r_1 = 0 then
    xb1 (f_S_length l0) fun r_4 =>
    none
  else
    xb1 (f_S_length l0) fun r_6 =>
    xb1 (f_Z_indexOf l0 l1 l2 r_6) fun r_8 =>
    some (r_8)
set_option maxRecDepth 100000 in
set_option maxHeartbeats 4000000 in
theorem s_S_indexOf_III {d : Nat} {sc : List Int} {z z' : xS} {out : xO} (qs : List xI) {cs : List Prop} (hq : qs.all (xqb 15 false y_S_indexOf_III.2.2.1 y_S_indexOf_III.2.1) = true) (h : xN false sc qs z = some (z', cs)) (hc : xAll cs) (hE : z'.2.2.2.2.2 ≤ 174) (k : XR false d 174 sc y_S_indexOf_III z' out) : XR false d 174 sc y_S_indexOf_III z out := XR.seg 15 false rfl (fun q => by cases q) qs hq h hc hE k
set_option maxRecDepth 100000 in
set_option maxHeartbeats 4000000 in
theorem o_S_indexOf_III {sc : List Int} {R : xR} {M : xM} {l0 : Nat} {l1 : Int} {l2 : Int} {out : Int} (h : f_S_indexOf_III l0 l1 l2 = some out) : XR false 2 174 sc y_S_indexOf_III (0, [(0, (vR 99 l0)), (1, (vI l1)), (2, (vI l2))], [], R, M, 174) ((some (vI out)), R, M) := by
  unfold f_S_indexOf_III at h
  refine s_S_indexOf_III [(0, .aload_n 0, 0, 0)] (by decide +kernel) (z' := (1, [(0, (vR 99 l0)), (1, (vI l1)), (2, (vI l2))], [(vR 99 l0)], R, M, 174)) (cs := []) (by rfl) trivial (Nat.le_refl _) ?_
  obtain ⟨r_1, e_2, h⟩ := xb1_ex h
  refine XR.callV 15 rfl (rest := []) m_S_isLatin1 k_15_492 99 l0 (Or.inr ⟨rfl, rfl⟩) [] rfl rfl (c_S_isLatin1 e_2) (by decide) (Nat.le_of_ble_eq_true rfl) (by decide +kernel) (Nat.le_refl _) (Nat.le_refl _) ?_
  show XR false 2 174 sc y_S_indexOf_III (4, [(0, (vR 99 l0)), (1, (vI l1)), (2, (vI l2))], [(vI r_1)], R, M, 174) _
  rcases xif_ex h with ⟨c_3, h⟩ | ⟨c_3, h⟩
  · skip
    refine s_S_indexOf_III [(4, .ifCond .eq 19, 0, 23), (23, .aload_n 0, 0, 0), (24, .getfield 9, 99, 0), (27, .iload_n 1, 0, 0), (28, .iload_n 2, 0, 0), (29, .aload_n 0, 0, 0)] (by decide +kernel) (z' := (30, [(0, (vR 99 l0)), (1, (vI l1)), (2, (vI l2))], [(vR 99 l0), (vI l2), (vI l1), (vR 98 l0)], R, M, 174)) (cs := [r_1 = 0]) (by rfl) ⟨c_3, trivial⟩ (Nat.le_refl _) ?_
    obtain ⟨r_4, e_5, h⟩ := xb1_ex h
    refine XR.callV 15 rfl (rest := [(vI l2), (vI l1), (vR 98 l0)]) m_S_length k_15_505 99 l0 (Or.inr ⟨rfl, rfl⟩) [] rfl rfl (c_S_length e_5) (by decide) (Nat.le_of_ble_eq_true rfl) (by decide +kernel) (Nat.le_refl _) (Nat.le_refl _) ?_
    show XR false 2 174 sc y_S_indexOf_III (33, [(0, (vR 99 l0)), (1, (vI l1)), (2, (vI l2))], [(vI r_4), (vI l2), (vI l1), (vR 98 l0)], R, M, 174) _
    exact (xno h).elim
  · skip
    refine s_S_indexOf_III [(4, .ifCond .eq 19, 0, (-1)), (7, .aload_n 0, 0, 0), (8, .getfield 9, 99, 0), (11, .iload_n 1, 0, 0), (12, .iload_n 2, 0, 0), (13, .aload_n 0, 0, 0)] (by decide +kernel) (z' := (14, [(0, (vR 99 l0)), (1, (vI l1)), (2, (vI l2))], [(vR 99 l0), (vI l2), (vI l1), (vR 98 l0)], R, M, 174)) (cs := [¬ (r_1 = 0)]) (by rfl) ⟨c_3, trivial⟩ (Nat.le_refl _) ?_
    obtain ⟨r_6, e_7, h⟩ := xb1_ex h
    refine XR.callV 15 rfl (rest := [(vI l2), (vI l1), (vR 98 l0)]) m_S_length k_15_505 99 l0 (Or.inr ⟨rfl, rfl⟩) [] rfl rfl (c_S_length e_7) (by decide) (Nat.le_of_ble_eq_true rfl) (by decide +kernel) (Nat.le_refl _) (Nat.le_refl _) ?_
    show XR false 2 174 sc y_S_indexOf_III (17, [(0, (vR 99 l0)), (1, (vI l1)), (2, (vI l2))], [(vI r_6), (vI l2), (vI l1), (vR 98 l0)], R, M, 174) _
    obtain ⟨r_8, e_9, h⟩ := xb1_ex h
    refine XR.callS 15 rfl (rest := []) m_Z_indexOf k_15_637 [(vR 98 l0), (vI l1), (vI l2), (vI r_6)] rfl rfl (c_Z_indexOf e_9) (by decide) (Nat.le_of_ble_eq_true rfl) (by decide +kernel) (Nat.le_refl _) (Nat.le_refl _) ?_
    show XR false 2 174 sc y_S_indexOf_III (20, [(0, (vR 99 l0)), (1, (vI l1)), (2, (vI l2))], [(vI r_8)], R, M, 174) _
    refine s_S_indexOf_III [(20, .goto 16, 0, 36)] (by decide +kernel) (z' := (36, [(0, (vR 99 l0)), (1, (vI l1)), (2, (vI l2))], [(vI r_8)], R, M, 174)) (cs := []) (by rfl) trivial (Nat.le_refl _) ?_
    obtain rfl := Option.some.inj h
    exact XR.retI .int rfl rfl (by decide +kernel)
set_option maxRecDepth 100000 in
set_option maxHeartbeats 4000000 in
theorem c_S_indexOf_III {sc : List Int} {R : xR} {M : xM} {l0 : Nat} {l1 : Int} {l2 : Int} {out : Int} (h : f_S_indexOf_III l0 l1 l2 = some out) : XC false 2 sc y_S_indexOf_III [(vR 99 l0), (vI l1), (vI l2)] R M 174 174 ((some (vI out)), R, M) := XC.of (by decide) (Nat.le_of_ble_eq_true rfl) (Nat.le_refl _) (Nat.le_refl _) (o_S_indexOf_III h)
def f_S_indexOf_II (l0 : Nat) (l1 : Int) : Option Int :=
  xb1 (f_S_indexOf_III l0 l1 0) fun r_1 =>
  some (r_1)
set_option maxRecDepth 100000 in
set_option maxHeartbeats 4000000 in
theorem s_S_indexOf_II {d : Nat} {sc : List Int} {z z' : xS} {out : xO} (qs : List xI) {cs : List Prop} (hq : qs.all (xqb 15 false y_S_indexOf_II.2.2.1 y_S_indexOf_II.2.1) = true) (h : xN false sc qs z = some (z', cs)) (hc : xAll cs) (hE : z'.2.2.2.2.2 ≤ 174) (k : XR false d 174 sc y_S_indexOf_II z' out) : XR false d 174 sc y_S_indexOf_II z out := XR.seg 15 false rfl (fun q => by cases q) qs hq h hc hE k
set_option maxRecDepth 100000 in
set_option maxHeartbeats 4000000 in
theorem o_S_indexOf_II {sc : List Int} {R : xR} {M : xM} {l0 : Nat} {l1 : Int} {out : Int} (h : f_S_indexOf_II l0 l1 = some out) : XR false 3 174 sc y_S_indexOf_II (0, [(0, (vR 99 l0)), (1, (vI l1))], [], R, M, 174) ((some (vI out)), R, M) := by
  unfold f_S_indexOf_II at h
  refine s_S_indexOf_II [(0, .aload_n 0, 0, 0), (1, .iload_n 1, 0, 0), (2, .iconst 0, 0, 0)] (by decide +kernel) (z' := (3, [(0, (vR 99 l0)), (1, (vI l1))], [(vI 0), (vI l1), (vR 99 l0)], R, M, 174)) (cs := []) (by rfl) trivial (Nat.le_refl _) ?_
  obtain ⟨r_1, e_2, h⟩ := xb1_ex h
  refine XR.callV 15 rfl (rest := []) m_S_indexOf_III k_15_633 99 l0 (Or.inr ⟨rfl, rfl⟩) [(vI l1), (vI 0)] rfl rfl (c_S_indexOf_III e_2) (by decide) (Nat.le_of_ble_eq_true rfl) (by decide +kernel) (Nat.le_refl _) (Nat.le_refl _) ?_
  show XR false 3 174 sc y_S_indexOf_II (6, [(0, (vR 99 l0)), (1, (vI l1))], [(vI r_1)], R, M, 174) _
  obtain rfl := Option.some.inj h
  exact XR.retI .int rfl rfl (by decide +kernel)
set_option maxRecDepth 100000 in
set_option maxHeartbeats 4000000 in
theorem c_S_indexOf_II {sc : List Int} {R : xR} {M : xM} {l0 : Nat} {l1 : Int} {out : Int} (h : f_S_indexOf_II l0 l1 = some out) : XC false 3 sc y_S_indexOf_II [(vR 99 l0), (vI l1)] R M 174 174 ((some (vI out)), R, M) := XC.of (by decide) (Nat.le_of_ble_eq_true rfl) (Nat.le_refl _) (Nat.le_refl _) (o_S_indexOf_II h)
def J_fill_aIIV_F5 (k0 : Nat) (l0 : Nat) (l1 : Int) : Nat → Int → Int → xM → Option xM
  | 0, _, _, _ => none
  | n + 1, v2, v3, M =>
    if v2 < v3 then
      xch (0 ≤ v2 ∧ v2 < (xan k0 : Int)) <|
      xl (xu M l0 (Int.toNat v2) l1) fun M_4 =>
      xl (w32 (v2 + 1)) fun v2_5 =>
      J_fill_aIIV_F5 k0 l0 l1  n v2_5 v3 M_4
    else
      some (M)
def f_J_fill_aIIV (k0 : Nat) (l0 : Nat) (l1 : Int) (M : xM) : Option xM :=
  xl ((xan k0 : Int)) fun v3_1 =>
  J_fill_aIIV_F5 k0 l0 l1
    xfu 0 v3_1 M
set_option maxRecDepth 100000 in
set_option maxHeartbeats 4000000 in
theorem s_J_fill_aIIV {d : Nat} {sc : List Int} {z z' : xS} {out : xO} (qs : List xI) {cs : List Prop} (hq : qs.all (xqb 12 false y_J_fill_aIIV.2.2.1 y_J_fill_aIIV.2.1) = true) (h : xN false sc qs z = some (z', cs)) (hc : xAll cs) (hE : z'.2.2.2.2.2 ≤ 174) (k : XR false d 174 sc y_J_fill_aIIV z' out) : XR false d 174 sc y_J_fill_aIIV z out := XR.seg 12 false rfl (fun q => by cases q) qs hq h hc hE k
set_option maxRecDepth 100000 in
set_option maxHeartbeats 4000000 in
theorem o_J_fill_aIIV_F5 {sc : List Int} {R : xR}  {k0 : Nat} {l0 : Nat} {l1 : Int} (hkk0 : xar k0 0)  : ∀ (n : Nat) (v2 : Int) (v3 : Int) (M : xM) (out : xM), J_fill_aIIV_F5 k0 l0 l1  n v2 v3 M = some out → XR false 0 174 sc y_J_fill_aIIV (5, [(0, (vR k0 l0)), (1, (vI l1)), (2, (vI v2)), (3, (vI v3))], [], R, M, 174) (none, R, out) := by
  intro n
  induction n with
  | zero => intro v2 v3 M out h; exact (xno h).elim
  | succ n ih =>
    intro v2 v3 M out h
    rw [J_fill_aIIV_F5] at h
    refine s_J_fill_aIIV [(5, .iload_n 2, 0, 0), (6, .iload_n 3, 0, 0)] (by decide +kernel) (z' := (7, [(0, (vR k0 l0)), (1, (vI l1)), (2, (vI v2)), (3, (vI v3))], [(vI v3), (vI v2)], R, M, 174)) (cs := []) (by rfl) trivial (Nat.le_refl _) ?_
    rcases xif_ex h with ⟨c_2, h⟩ | ⟨c_2, h⟩
    · skip
      obtain ⟨c_3, h⟩ := xch_ex h
      obtain ⟨M_4, hM_4, h⟩ := xl_ex h
      obtain ⟨v2_5, hv2_5, h⟩ := xl_ex h
      refine s_J_fill_aIIV [(7, .if_icmp .ge 13, 0, (-1)), (10, .aload_n 0, 1, 0), (11, .iload_n 2, 0, 0), (12, .iload_n 1, 0, 0), (13, .iastore, 0, 0), (14, .iinc 2 1, 0, 0), (17, .goto (-12), 0, 5)] (by decide +kernel) (z' := (5, [(2, (vI v2_5)), (0, (vR k0 l0)), (1, (vI l1)), (3, (vI v3))], [], R, M_4, 174)) (cs := [¬ (v3 ≤ v2), k0 ≠ 96, xar k0 0, xidx v2 (xan k0)]) (by subst hM_4; subst hv2_5; rfl) ⟨Int.not_le.mpr c_2, (by have := hkk0.1; omega), hkk0, c_3, trivial⟩ (Nat.le_refl _) ?_
      refine XR.pick [1, 2, 0, 3] (ls' := [(0, (vR k0 l0)), (1, (vI l1)), (2, (vI v2_5)), (3, (vI v3))]) rfl ?_
      exact ih v2_5 v3 M_4 _ h
    · skip
      refine s_J_fill_aIIV [(7, .if_icmp .ge 13, 0, 20)] (by decide +kernel) (z' := (20, [(0, (vR k0 l0)), (1, (vI l1)), (2, (vI v2)), (3, (vI v3))], [], R, M, 174)) (cs := [v3 ≤ v2]) (by rfl) ⟨Int.not_lt.mp c_2, trivial⟩ (Nat.le_refl _) ?_
      obtain rfl := Option.some.inj h
      exact XR.retV rfl (by decide +kernel)
set_option maxRecDepth 100000 in
set_option maxHeartbeats 4000000 in
theorem o_J_fill_aIIV {sc : List Int} {R : xR} {M : xM} {k0 : Nat} (hkk0 : xar k0 0) {l0 : Nat} {l1 : Int} {out : xM} (h : f_J_fill_aIIV k0 l0 l1 M = some out) : XR false 0 174 sc y_J_fill_aIIV (0, [(0, (vR k0 l0)), (1, (vI l1))], [], R, M, 174) (none, R, out) := by
  unfold f_J_fill_aIIV at h
  obtain ⟨v3_1, hv3_1, h⟩ := xl_ex h
  refine s_J_fill_aIIV [(0, .iconst 0, 0, 0), (1, .istore_n 2, 0, 0), (2, .aload_n 0, 1, 0), (3, .arraylength, 0, 0), (4, .istore_n 3, 0, 0)] (by decide +kernel) (z' := (5, [(3, (vI v3_1)), (2, (vI 0)), (0, (vR k0 l0)), (1, (vI l1))], [], R, M, 174)) (cs := [k0 ≠ 96, 20 ≤ k0 ∧ k0 < 90 ∧ xae k0 < 4]) (by subst hv3_1; rfl) ⟨(by have := hkk0.1; omega), ⟨hkk0.1.1, hkk0.1.2, by rw [hkk0.2]; decide⟩, trivial⟩ (Nat.le_refl _) ?_
  refine XR.pick [2, 3, 1, 0] (ls' := [(0, (vR k0 l0)), (1, (vI l1)), (2, (vI 0)), (3, (vI v3_1))]) rfl ?_
  refine o_J_fill_aIIV_F5 hkk0  xfu 0 v3_1 M _ h
set_option maxRecDepth 100000 in
set_option maxHeartbeats 4000000 in
theorem c_J_fill_aIIV {sc : List Int} {R : xR} {M : xM} {k0 : Nat} (hkk0 : xar k0 0) {l0 : Nat} {l1 : Int} {out : xM} (h : f_J_fill_aIIV k0 l0 l1 M = some out) : XC false 0 sc y_J_fill_aIIV [(vR k0 l0), (vI l1)] R M 174 174 (none, R, out) := XC.of (by decide) (Nat.le_of_ble_eq_true rfl) (Nat.le_refl _) (Nat.le_refl _) (o_J_fill_aIIV hkk0 h)
def J_fill_aJJV_F6 (k0 : Nat) (l0 : Nat) (l1 : Int) : Nat → Int → Int → xM → Option xM
  | 0, _, _, _ => none
  | n + 1, v3, v4, M =>
    if v3 < v4 then
      xch (0 ≤ v3 ∧ v3 < (xan k0 : Int)) <|
      xl (xu M l0 (Int.toNat v3) l1) fun M_4 =>
      xl (w32 (v3 + 1)) fun v3_5 =>
      J_fill_aJJV_F6 k0 l0 l1  n v3_5 v4 M_4
    else
      some (M)
def f_J_fill_aJJV (k0 : Nat) (l0 : Nat) (l1 : Int) (M : xM) : Option xM :=
  xl ((xan k0 : Int)) fun v4_1 =>
  J_fill_aJJV_F6 k0 l0 l1
    xfu 0 v4_1 M
set_option maxRecDepth 100000 in
set_option maxHeartbeats 4000000 in
theorem s_J_fill_aJJV {d : Nat} {sc : List Int} {z z' : xS} {out : xO} (qs : List xI) {cs : List Prop} (hq : qs.all (xqb 12 false y_J_fill_aJJV.2.2.1 y_J_fill_aJJV.2.1) = true) (h : xN false sc qs z = some (z', cs)) (hc : xAll cs) (hE : z'.2.2.2.2.2 ≤ 174) (k : XR false d 174 sc y_J_fill_aJJV z' out) : XR false d 174 sc y_J_fill_aJJV z out := XR.seg 12 false rfl (fun q => by cases q) qs hq h hc hE k
set_option maxRecDepth 100000 in
set_option maxHeartbeats 4000000 in
theorem o_J_fill_aJJV_F6 {sc : List Int} {R : xR}  {k0 : Nat} {l0 : Nat} {l1 : Int} (hkk0 : xar k0 1)  : ∀ (n : Nat) (v3 : Int) (v4 : Int) (M : xM) (out : xM), J_fill_aJJV_F6 k0 l0 l1  n v3 v4 M = some out → XR false 0 174 sc y_J_fill_aJJV (6, [(0, (vR k0 l0)), (1, (vL l1)), (3, (vI v3)), (4, (vI v4))], [], R, M, 174) (none, R, out) := by
  intro n
  induction n with
  | zero => intro v3 v4 M out h; exact (xno h).elim
  | succ n ih =>
    intro v3 v4 M out h
    rw [J_fill_aJJV_F6] at h
    refine s_J_fill_aJJV [(6, .iload_n 3, 0, 0), (7, .iload 4, 0, 0)] (by decide +kernel) (z' := (9, [(0, (vR k0 l0)), (1, (vL l1)), (3, (vI v3)), (4, (vI v4))], [(vI v4), (vI v3)], R, M, 174)) (cs := []) (by rfl) trivial (Nat.le_refl _) ?_
    rcases xif_ex h with ⟨c_2, h⟩ | ⟨c_2, h⟩
    · skip
      obtain ⟨c_3, h⟩ := xch_ex h
      obtain ⟨M_4, hM_4, h⟩ := xl_ex h
      obtain ⟨v3_5, hv3_5, h⟩ := xl_ex h
      refine s_J_fill_aJJV [(9, .if_icmp .ge 13, 0, (-1)), (12, .aload_n 0, 1, 0), (13, .iload_n 3, 0, 0), (14, .lload_n 1, 0, 0), (15, .lastore, 0, 0), (16, .iinc 3 1, 0, 0), (19, .goto (-13), 0, 6)] (by decide +kernel) (z' := (6, [(3, (vI v3_5)), (0, (vR k0 l0)), (1, (vL l1)), (4, (vI v4))], [], R, M_4, 174)) (cs := [¬ (v4 ≤ v3), k0 ≠ 96, xar k0 1, xidx v3 (xan k0)]) (by subst hM_4; subst hv3_5; rfl) ⟨Int.not_le.mpr c_2, (by have := hkk0.1; omega), hkk0, c_3, trivial⟩ (Nat.le_refl _) ?_
      refine XR.pick [1, 2, 0, 3] (ls' := [(0, (vR k0 l0)), (1, (vL l1)), (3, (vI v3_5)), (4, (vI v4))]) rfl ?_
      exact ih v3_5 v4 M_4 _ h
    · skip
      refine s_J_fill_aJJV [(9, .if_icmp .ge 13, 0, 22)] (by decide +kernel) (z' := (22, [(0, (vR k0 l0)), (1, (vL l1)), (3, (vI v3)), (4, (vI v4))], [], R, M, 174)) (cs := [v4 ≤ v3]) (by rfl) ⟨Int.not_lt.mp c_2, trivial⟩ (Nat.le_refl _) ?_
      obtain rfl := Option.some.inj h
      exact XR.retV rfl (by decide +kernel)
set_option maxRecDepth 100000 in
set_option maxHeartbeats 4000000 in
theorem o_J_fill_aJJV {sc : List Int} {R : xR} {M : xM} {k0 : Nat} (hkk0 : xar k0 1) {l0 : Nat} {l1 : Int} {out : xM} (h : f_J_fill_aJJV k0 l0 l1 M = some out) : XR false 0 174 sc y_J_fill_aJJV (0, [(0, (vR k0 l0)), (1, (vL l1))], [], R, M, 174) (none, R, out) := by
  unfold f_J_fill_aJJV at h
  obtain ⟨v4_1, hv4_1, h⟩ := xl_ex h
  refine s_J_fill_aJJV [(0, .iconst 0, 0, 0), (1, .istore_n 3, 0, 0), (2, .aload_n 0, 1, 0), (3, .arraylength, 0, 0), (4, .istore 4, 0, 0)] (by decide +kernel) (z' := (6, [(4, (vI v4_1)), (3, (vI 0)), (0, (vR k0 l0)), (1, (vL l1))], [], R, M, 174)) (cs := [k0 ≠ 96, 20 ≤ k0 ∧ k0 < 90 ∧ xae k0 < 4]) (by subst hv4_1; rfl) ⟨(by have := hkk0.1; omega), ⟨hkk0.1.1, hkk0.1.2, by rw [hkk0.2]; decide⟩, trivial⟩ (Nat.le_refl _) ?_
  refine XR.pick [2, 3, 1, 0] (ls' := [(0, (vR k0 l0)), (1, (vL l1)), (3, (vI 0)), (4, (vI v4_1))]) rfl ?_
  refine o_J_fill_aJJV_F6 hkk0  xfu 0 v4_1 M _ h
set_option maxRecDepth 100000 in
set_option maxHeartbeats 4000000 in
theorem c_J_fill_aJJV {sc : List Int} {R : xR} {M : xM} {k0 : Nat} (hkk0 : xar k0 1) {l0 : Nat} {l1 : Int} {out : xM} (h : f_J_fill_aJJV k0 l0 l1 M = some out) : XC false 0 sc y_J_fill_aJJV [(vR k0 l0), (vL l1)] R M 174 174 (none, R, out) := XC.of (by decide) (Nat.le_of_ble_eq_true rfl) (Nat.le_refl _) (Nat.le_refl _) (o_J_fill_aJJV hkk0 h)
def f_J_rangeCheck (l0 : Int) (l1 : Int) (l2 : Int) : Option Unit :=
  if l2 < l1 then
    none
  else
    if l1 < 0 then
      none
    else
      if l0 < l2 then
        none
      else
        some (())
set_option maxRecDepth 100000 in
set_option maxHeartbeats 4000000 in
theorem s_J_rangeCheck {d : Nat} {sc : List Int} {z z' : xS} {out : xO} (qs : List xI) {cs : List Prop} (hq : qs.all (xqb 12 false y_J_rangeCheck.2.2.1 y_J_rangeCheck.2.1) = true) (h : xN false sc qs z = some (z', cs)) (hc : xAll cs) (hE : z'.2.2.2.2.2 ≤ 174) (k : XR false d 174 sc y_J_rangeCheck z' out) : XR false d 174 sc y_J_rangeCheck z out := XR.seg 12 false rfl (fun q => by cases q) qs hq h hc hE k
set_option maxRecDepth 100000 in
set_option maxHeartbeats 4000000 in
theorem o_J_rangeCheck {sc : List Int} {R : xR} {M : xM} {l0 : Int} {l1 : Int} {l2 : Int} {out : Unit} (h : f_J_rangeCheck l0 l1 l2 = some out) : XR false 0 174 sc y_J_rangeCheck (0, [(0, (vI l0)), (1, (vI l1)), (2, (vI l2))], [], R, M, 174) (none, R, M) := by
  unfold f_J_rangeCheck at h
  refine s_J_rangeCheck [(0, .iload_n 1, 0, 0), (1, .iload_n 2, 0, 0)] (by decide +kernel) (z' := (2, [(0, (vI l0)), (1, (vI l1)), (2, (vI l2))], [(vI l2), (vI l1)], R, M, 174)) (cs := []) (by rfl) trivial (Nat.le_refl _) ?_
  rcases xif_ex h with ⟨c_1, h⟩ | ⟨c_1, h⟩
  · skip
    exact (xno h).elim
  · skip
    refine s_J_rangeCheck [(2, .if_icmp .le 44, 0, 46), (46, .iload_n 1, 0, 0)] (by decide +kernel) (z' := (47, [(0, (vI l0)), (1, (vI l1)), (2, (vI l2))], [(vI l1)], R, M, 174)) (cs := [l1 ≤ l2]) (by rfl) ⟨Int.not_lt.mp c_1, trivial⟩ (Nat.le_refl _) ?_
    rcases xif_ex h with ⟨c_2, h⟩ | ⟨c_2, h⟩
    · skip
      exact (xno h).elim
    · skip
      refine s_J_rangeCheck [(47, .ifCond .ge 12, 0, 59), (59, .iload_n 2, 0, 0), (60, .iload_n 0, 0, 0)] (by decide +kernel) (z' := (61, [(0, (vI l0)), (1, (vI l1)), (2, (vI l2))], [(vI l0), (vI l2)], R, M, 174)) (cs := [0 ≤ l1]) (by rfl) ⟨Int.not_lt.mp c_2, trivial⟩ (Nat.le_refl _) ?_
      rcases xif_ex h with ⟨c_3, h⟩ | ⟨c_3, h⟩
      · skip
        exact (xno h).elim
      · skip
        refine s_J_rangeCheck [(61, .if_icmp .le 12, 0, 73)] (by decide +kernel) (z' := (73, [(0, (vI l0)), (1, (vI l1)), (2, (vI l2))], [], R, M, 174)) (cs := [l2 ≤ l0]) (by rfl) ⟨Int.not_lt.mp c_3, trivial⟩ (Nat.le_refl _) ?_
        obtain rfl := Option.some.inj h
        exact XR.retV rfl (by decide +kernel)
set_option maxRecDepth 100000 in
set_option maxHeartbeats 4000000 in
theorem c_J_rangeCheck {sc : List Int} {R : xR} {M : xM} {l0 : Int} {l1 : Int} {l2 : Int} {out : Unit} (h : f_J_rangeCheck l0 l1 l2 = some out) : XC false 0 sc y_J_rangeCheck [(vI l0), (vI l1), (vI l2)] R M 174 174 (none, R, M) := XC.of (by decide) (Nat.le_of_ble_eq_true rfl) (Nat.le_refl _) (Nat.le_refl _) (o_J_rangeCheck h)
def J_fill_aIIIIV_F10 (k0 : Nat) (l0 : Nat) (l2 : Int) (l3 : Int) : Nat → Int → xM → Option xM
  | 0, _, _ => none
  | n + 1, v4, M =>
    if v4 < l2 then
      xch (0 ≤ v4 ∧ v4 < (xan k0 : Int)) <|
      xl (xu M l0 (Int.toNat v4) l3) fun M_4 =>
      xl (w32 (v4 + 1)) fun v4_5 =>
      J_fill_aIIIIV_F10 k0 l0 l2 l3  n v4_5 M_4
    else
      some (M)
def f_J_fill_aIIIIV (k0 : Nat) (l0 : Nat) (l1 : Int) (l2 : Int) (l3 : Int) (M : xM) : Option xM :=
  xb1 (f_J_rangeCheck ((xan k0 : Int)) l1 l2) fun _ =>
  J_fill_aIIIIV_F10 k0 l0 l2 l3
    xfu l1 M
set_option maxRecDepth 100000 in
set_option maxHeartbeats 4000000 in
theorem s_J_fill_aIIIIV {d : Nat} {sc : List Int} {z z' : xS} {out : xO} (qs : List xI) {cs : List Prop} (hq : qs.all (xqb 12 false y_J_fill_aIIIIV.2.2.1 y_J_fill_aIIIIV.2.1) = true) (h : xN false sc qs z = some (z', cs)) (hc : xAll cs) (hE : z'.2.2.2.2.2 ≤ 174) (k : XR false d 174 sc y_J_fill_aIIIIV z' out) : XR false d 174 sc y_J_fill_aIIIIV z out := XR.seg 12 false rfl (fun q => by cases q) qs hq h hc hE k
set_option maxRecDepth 100000 in
set_option maxHeartbeats 4000000 in
theorem o_J_fill_aIIIIV_F10 {sc : List Int} {R : xR}  {k0 : Nat} {l0 : Nat} {l2 : Int} {l3 : Int} (hkk0 : xar k0 0)  : ∀ (n : Nat) (v4 : Int) (M : xM) (out : xM), J_fill_aIIIIV_F10 k0 l0 l2 l3  n v4 M = some out → XR false 1 174 sc y_J_fill_aIIIIV (10, [(0, (vR k0 l0)), (2, (vI l2)), (3, (vI l3)), (4, (vI v4))], [], R, M, 174) (none, R, out) := by
  intro n
  induction n with
  | zero => intro v4 M out h; exact (xno h).elim
  | succ n ih =>
    intro v4 M out h
    rw [J_fill_aIIIIV_F10] at h
    refine s_J_fill_aIIIIV [(10, .iload 4, 0, 0), (12, .iload_n 2, 0, 0)] (by decide +kernel) (z' := (13, [(0, (vR k0 l0)), (2, (vI l2)), (3, (vI l3)), (4, (vI v4))], [(vI l2), (vI v4)], R, M, 174)) (cs := []) (by rfl) trivial (Nat.le_refl _) ?_
    rcases xif_ex h with ⟨c_2, h⟩ | ⟨c_2, h⟩
    · skip
      obtain ⟨c_3, h⟩ := xch_ex h
      obtain ⟨M_4, hM_4, h⟩ := xl_ex h
      obtain ⟨v4_5, hv4_5, h⟩ := xl_ex h
      refine s_J_fill_aIIIIV [(13, .if_icmp .ge 14, 0, (-1)), (16, .aload_n 0, 1, 0), (17, .iload 4, 0, 0), (19, .iload_n 3, 0, 0), (20, .iastore, 0, 0), (21, .iinc 4 1, 0, 0), (24, .goto (-14), 0, 10)] (by decide +kernel) (z' := (10, [(4, (vI v4_5)), (0, (vR k0 l0)), (2, (vI l2)), (3, (vI l3))], [], R, M_4, 174)) (cs := [¬ (l2 ≤ v4), k0 ≠ 96, xar k0 0, xidx v4 (xan k0)]) (by subst hM_4; subst hv4_5; rfl) ⟨Int.not_le.mpr c_2, (by have := hkk0.1; omega), hkk0, c_3, trivial⟩ (Nat.le_refl _) ?_
      refine XR.pick [1, 2, 3, 0] (ls' := [(0, (vR k0 l0)), (2, (vI l2)), (3, (vI l3)), (4, (vI v4_5))]) rfl ?_
      exact ih v4_5 M_4 _ h
    · skip
      refine s_J_fill_aIIIIV [(13, .if_icmp .ge 14, 0, 27)] (by decide +kernel) (z' := (27, [(0, (vR k0 l0)), (2, (vI l2)), (3, (vI l3)), (4, (vI v4))], [], R, M, 174)) (cs := [l2 ≤ v4]) (by rfl) ⟨Int.not_lt.mp c_2, trivial⟩ (Nat.le_refl _) ?_
      obtain rfl := Option.some.inj h
      exact XR.retV rfl (by decide +kernel)
set_option maxRecDepth 100000 in
set_option maxHeartbeats 4000000 in
theorem o_J_fill_aIIIIV {sc : List Int} {R : xR} {M : xM} {k0 : Nat} (hkk0 : xar k0 0) {l0 : Nat} {l1 : Int} {l2 : Int} {l3 : Int} {out : xM} (h : f_J_fill_aIIIIV k0 l0 l1 l2 l3 M = some out) : XR false 1 174 sc y_J_fill_aIIIIV (0, [(0, (vR k0 l0)), (1, (vI l1)), (2, (vI l2)), (3, (vI l3))], [], R, M, 174) (none, R, out) := by
  unfold f_J_fill_aIIIIV at h
  refine s_J_fill_aIIIIV [(0, .aload_n 0, 1, 0), (1, .arraylength, 0, 0), (2, .iload_n 1, 0, 0), (3, .iload_n 2, 0, 0)] (by decide +kernel) (z' := (4, [(0, (vR k0 l0)), (1, (vI l1)), (2, (vI l2)), (3, (vI l3))], [(vI l2), (vI l1), (vI ((xan k0 : Int)))], R, M, 174)) (cs := [k0 ≠ 96, 20 ≤ k0 ∧ k0 < 90 ∧ xae k0 < 4]) (by rfl) ⟨(by have := hkk0.1; omega), ⟨hkk0.1.1, hkk0.1.2, by rw [hkk0.2]; decide⟩, trivial⟩ (Nat.le_refl _) ?_
  obtain ⟨_, e_1, h⟩ := xb1_ex h
  refine XR.callS 12 rfl (rest := []) m_J_rangeCheck k_12_13 [(vI ((xan k0 : Int))), (vI l1), (vI l2)] rfl rfl (c_J_rangeCheck e_1) (by decide) (Nat.le_of_ble_eq_true rfl) (by decide +kernel) (Nat.le_refl _) (Nat.le_refl _) ?_
  show XR false 1 174 sc y_J_fill_aIIIIV (7, [(0, (vR k0 l0)), (1, (vI l1)), (2, (vI l2)), (3, (vI l3))], [], R, M, 174) _
  refine s_J_fill_aIIIIV [(7, .iload_n 1, 0, 0), (8, .istore 4, 0, 0)] (by decide +kernel) (z' := (10, [(4, (vI l1)), (0, (vR k0 l0)), (1, (vI l1)), (2, (vI l2)), (3, (vI l3))], [], R, M, 174)) (cs := []) (by rfl) trivial (Nat.le_refl _) ?_
  refine XR.pick [1, 3, 4, 0] (ls' := [(0, (vR k0 l0)), (2, (vI l2)), (3, (vI l3)), (4, (vI l1))]) rfl ?_
  refine o_J_fill_aIIIIV_F10 hkk0  xfu l1 M _ h
set_option maxRecDepth 100000 in
set_option maxHeartbeats 4000000 in
theorem c_J_fill_aIIIIV {sc : List Int} {R : xR} {M : xM} {k0 : Nat} (hkk0 : xar k0 0) {l0 : Nat} {l1 : Int} {l2 : Int} {l3 : Int} {out : xM} (h : f_J_fill_aIIIIV k0 l0 l1 l2 l3 M = some out) : XC false 1 sc y_J_fill_aIIIIV [(vR k0 l0), (vI l1), (vI l2), (vI l3)] R M 174 174 (none, R, out) := XC.of (by decide) (Nat.le_of_ble_eq_true rfl) (Nat.le_refl _) (Nat.le_refl _) (o_J_fill_aIIIIV hkk0 h)
def f_J_bitCount (l0 : Int) : Option Int :=
  xl (w32 (l0 - (xand (xushr l0 1) 1431655765))) fun v0_1 =>
  xl (w32 ((xand v0_1 858993459) + (xand (xushr v0_1 2) 858993459))) fun v0_2 =>
  xl (xand (w32 (v0_2 + (xushr v0_2 4))) 252645135) fun v0_3 =>
  xl (w32 (v0_3 + (xushr v0_3 8))) fun v0_4 =>
  xl (w32 (v0_4 + (xushr v0_4 16))) fun v0_5 =>
  some (xand v0_5 63)
set_option maxRecDepth 100000 in
set_option maxHeartbeats 4000000 in
theorem s_J_bitCount {d : Nat} {sc : List Int} {z z' : xS} {out : xO} (qs : List xI) {cs : List Prop} (hq : qs.all (xqb 13 false y_J_bitCount.2.2.1 y_J_bitCount.2.1) = true) (h : xN false sc qs z = some (z', cs)) (hc : xAll cs) (hE : z'.2.2.2.2.2 ≤ 174) (k : XR false d 174 sc y_J_bitCount z' out) : XR false d 174 sc y_J_bitCount z out := XR.seg 13 false rfl (fun q => by cases q) qs hq h hc hE k
set_option maxRecDepth 100000 in
set_option maxHeartbeats 4000000 in
theorem o_J_bitCount {sc : List Int} {R : xR} {M : xM} {l0 : Int} {out : Int} (h : f_J_bitCount l0 = some out) : XR false 0 174 sc y_J_bitCount (0, [(0, (vI l0))], [], R, M, 174) ((some (vI out)), R, M) := by
  unfold f_J_bitCount at h
  obtain ⟨v0_1, hv0_1, h⟩ := xl_ex h
  obtain ⟨v0_2, hv0_2, h⟩ := xl_ex h
  obtain ⟨v0_3, hv0_3, h⟩ := xl_ex h
  obtain ⟨v0_4, hv0_4, h⟩ := xl_ex h
  obtain ⟨v0_5, hv0_5, h⟩ := xl_ex h
  refine s_J_bitCount [(0, .iload_n 0, 0, 0), (1, .iload_n 0, 0, 0), (2, .iconst 1, 0, 1), (3, .iushr, 0, 0), (4, .ldc_w 265, 0, 1431655765), (7, .iand, 0, 0), (8, .isub, 0, 0), (9, .istore_n 0, 0, 0), (10, .iload_n 0, 0, 0), (11, .ldc_w 266, 0, 858993459), (14, .iand, 0, 0), (15, .iload_n 0, 0, 0), (16, .iconst 2, 0, 2), (17, .iushr, 0, 0), (18, .ldc_w 266, 0, 858993459), (21, .iand, 0, 0), (22, .iadd, 0, 0), (23, .istore_n 0, 0, 0), (24, .iload_n 0, 0, 0), (25, .iload_n 0, 0, 0), (26, .iconst 4, 0, 4), (27, .iushr, 0, 0), (28, .iadd, 0, 0), (29, .ldc_w 267, 0, 252645135), (32, .iand, 0, 0), (33, .istore_n 0, 0, 0), (34, .iload_n 0, 0, 0), (35, .iload_n 0, 0, 0), (36, .bipush 8, 0, 8), (38, .iushr, 0, 0), (39, .iadd, 0, 0), (40, .istore_n 0, 0, 0), (41, .iload_n 0, 0, 0), (42, .iload_n 0, 0, 0), (43, .bipush 16, 0, 16), (45, .iushr, 0, 0), (46, .iadd, 0, 0), (47, .istore_n 0, 0, 0), (48, .iload_n 0, 0, 0), (49, .bipush 63, 0, 63), (51, .iand, 0, 0)] (by decide +kernel) (z' := (52, [(0, (vI v0_5))], [(vI (xand v0_5 63))], R, M, 174)) (cs := []) (by subst hv0_1; subst hv0_2; subst hv0_3; subst hv0_4; subst hv0_5; rfl) trivial (Nat.le_refl _) ?_
  obtain rfl := Option.some.inj h
  exact XR.retI .int rfl rfl (by decide +kernel)
set_option maxRecDepth 100000 in
set_option maxHeartbeats 4000000 in
theorem c_J_bitCount {sc : List Int} {R : xR} {M : xM} {l0 : Int} {out : Int} (h : f_J_bitCount l0 = some out) : XC false 0 sc y_J_bitCount [(vI l0)] R M 174 174 ((some (vI out)), R, M) := XC.of (by decide) (Nat.le_of_ble_eq_true rfl) (Nat.le_refl _) (Nat.le_refl _) (o_J_bitCount h)
def J_fill_aJIIJV_F10 (k0 : Nat) (l0 : Nat) (l2 : Int) (l3 : Int) : Nat → Int → xM → Option xM
  | 0, _, _ => none
  | n + 1, v5, M =>
    if v5 < l2 then
      xch (0 ≤ v5 ∧ v5 < (xan k0 : Int)) <|
      xl (xu M l0 (Int.toNat v5) l3) fun M_4 =>
      xl (w32 (v5 + 1)) fun v5_5 =>
      J_fill_aJIIJV_F10 k0 l0 l2 l3  n v5_5 M_4
    else
      some (M)
def f_J_fill_aJIIJV (k0 : Nat) (l0 : Nat) (l1 : Int) (l2 : Int) (l3 : Int) (M : xM) : Option xM :=
  xb1 (f_J_rangeCheck ((xan k0 : Int)) l1 l2) fun _ =>
  J_fill_aJIIJV_F10 k0 l0 l2 l3
    xfu l1 M
set_option maxRecDepth 100000 in
set_option maxHeartbeats 4000000 in
theorem s_J_fill_aJIIJV {d : Nat} {sc : List Int} {z z' : xS} {out : xO} (qs : List xI) {cs : List Prop} (hq : qs.all (xqb 12 false y_J_fill_aJIIJV.2.2.1 y_J_fill_aJIIJV.2.1) = true) (h : xN false sc qs z = some (z', cs)) (hc : xAll cs) (hE : z'.2.2.2.2.2 ≤ 174) (k : XR false d 174 sc y_J_fill_aJIIJV z' out) : XR false d 174 sc y_J_fill_aJIIJV z out := XR.seg 12 false rfl (fun q => by cases q) qs hq h hc hE k
set_option maxRecDepth 100000 in
set_option maxHeartbeats 4000000 in
theorem o_J_fill_aJIIJV_F10 {sc : List Int} {R : xR}  {k0 : Nat} {l0 : Nat} {l2 : Int} {l3 : Int} (hkk0 : xar k0 1)  : ∀ (n : Nat) (v5 : Int) (M : xM) (out : xM), J_fill_aJIIJV_F10 k0 l0 l2 l3  n v5 M = some out → XR false 1 174 sc y_J_fill_aJIIJV (10, [(0, (vR k0 l0)), (2, (vI l2)), (3, (vL l3)), (5, (vI v5))], [], R, M, 174) (none, R, out) := by
  intro n
  induction n with
  | zero => intro v5 M out h; exact (xno h).elim
  | succ n ih =>
    intro v5 M out h
    rw [J_fill_aJIIJV_F10] at h
    refine s_J_fill_aJIIJV [(10, .iload 5, 0, 0), (12, .iload_n 2, 0, 0)] (by decide +kernel) (z' := (13, [(0, (vR k0 l0)), (2, (vI l2)), (3, (vL l3)), (5, (vI v5))], [(vI l2), (vI v5)], R, M, 174)) (cs := []) (by rfl) trivial (Nat.le_refl _) ?_
    rcases xif_ex h with ⟨c_2, h⟩ | ⟨c_2, h⟩
    · skip
      obtain ⟨c_3, h⟩ := xch_ex h
      obtain ⟨M_4, hM_4, h⟩ := xl_ex h
      obtain ⟨v5_5, hv5_5, h⟩ := xl_ex h
      refine s_J_fill_aJIIJV [(13, .if_icmp .ge 14, 0, (-1)), (16, .aload_n 0, 1, 0), (17, .iload 5, 0, 0), (19, .lload_n 3, 0, 0), (20, .lastore, 0, 0), (21, .iinc 5 1, 0, 0), (24, .goto (-14), 0, 10)] (by decide +kernel) (z' := (10, [(5, (vI v5_5)), (0, (vR k0 l0)), (2, (vI l2)), (3, (vL l3))], [], R, M_4, 174)) (cs := [¬ (l2 ≤ v5), k0 ≠ 96, xar k0 1, xidx v5 (xan k0)]) (by subst hM_4; subst hv5_5; rfl) ⟨Int.not_le.mpr c_2, (by have := hkk0.1; omega), hkk0, c_3, trivial⟩ (Nat.le_refl _) ?_
      refine XR.pick [1, 2, 3, 0] (ls' := [(0, (vR k0 l0)), (2, (vI l2)), (3, (vL l3)), (5, (vI v5_5))]) rfl ?_
      exact ih v5_5 M_4 _ h
    · skip
      refine s_J_fill_aJIIJV [(13, .if_icmp .ge 14, 0, 27)] (by decide +kernel) (z' := (27, [(0, (vR k0 l0)), (2, (vI l2)), (3, (vL l3)), (5, (vI v5))], [], R, M, 174)) (cs := [l2 ≤ v5]) (by rfl) ⟨Int.not_lt.mp c_2, trivial⟩ (Nat.le_refl _) ?_
      obtain rfl := Option.some.inj h
      exact XR.retV rfl (by decide +kernel)
set_option maxRecDepth 100000 in
set_option maxHeartbeats 4000000 in
theorem o_J_fill_aJIIJV {sc : List Int} {R : xR} {M : xM} {k0 : Nat} (hkk0 : xar k0 1) {l0 : Nat} {l1 : Int} {l2 : Int} {l3 : Int} {out : xM} (h : f_J_fill_aJIIJV k0 l0 l1 l2 l3 M = some out) : XR false 1 174 sc y_J_fill_aJIIJV (0, [(0, (vR k0 l0)), (1, (vI l1)), (2, (vI l2)), (3, (vL l3))], [], R, M, 174) (none, R, out) := by
  unfold f_J_fill_aJIIJV at h
  refine s_J_fill_aJIIJV [(0, .aload_n 0, 1, 0), (1, .arraylength, 0, 0), (2, .iload_n 1, 0, 0), (3, .iload_n 2, 0, 0)] (by decide +kernel) (z' := (4, [(0, (vR k0 l0)), (1, (vI l1)), (2, (vI l2)), (3, (vL l3))], [(vI l2), (vI l1), (vI ((xan k0 : Int)))], R, M, 174)) (cs := [k0 ≠ 96, 20 ≤ k0 ∧ k0 < 90 ∧ xae k0 < 4]) (by rfl) ⟨(by have := hkk0.1; omega), ⟨hkk0.1.1, hkk0.1.2, by rw [hkk0.2]; decide⟩, trivial⟩ (Nat.le_refl _) ?_
  obtain ⟨_, e_1, h⟩ := xb1_ex h
  refine XR.callS 12 rfl (rest := []) m_J_rangeCheck k_12_13 [(vI ((xan k0 : Int))), (vI l1), (vI l2)] rfl rfl (c_J_rangeCheck e_1) (by decide) (Nat.le_of_ble_eq_true rfl) (by decide +kernel) (Nat.le_refl _) (Nat.le_refl _) ?_
  show XR false 1 174 sc y_J_fill_aJIIJV (7, [(0, (vR k0 l0)), (1, (vI l1)), (2, (vI l2)), (3, (vL l3))], [], R, M, 174) _
  refine s_J_fill_aJIIJV [(7, .iload_n 1, 0, 0), (8, .istore 5, 0, 0)] (by decide +kernel) (z' := (10, [(5, (vI l1)), (0, (vR k0 l0)), (1, (vI l1)), (2, (vI l2)), (3, (vL l3))], [], R, M, 174)) (cs := []) (by rfl) trivial (Nat.le_refl _) ?_
  refine XR.pick [1, 3, 4, 0] (ls' := [(0, (vR k0 l0)), (2, (vI l2)), (3, (vL l3)), (5, (vI l1))]) rfl ?_
  refine o_J_fill_aJIIJV_F10 hkk0  xfu l1 M _ h
set_option maxRecDepth 100000 in
set_option maxHeartbeats 4000000 in
theorem c_J_fill_aJIIJV {sc : List Int} {R : xR} {M : xM} {k0 : Nat} (hkk0 : xar k0 1) {l0 : Nat} {l1 : Int} {l2 : Int} {l3 : Int} {out : xM} (h : f_J_fill_aJIIJV k0 l0 l1 l2 l3 M = some out) : XC false 1 sc y_J_fill_aJIIJV [(vR k0 l0), (vI l1), (vI l2), (vL l3)] R M 174 174 (none, R, out) := XC.of (by decide) (Nat.le_of_ble_eq_true rfl) (Nat.le_refl _) (Nat.le_refl _) (o_J_fill_aJIIJV hkk0 h)
