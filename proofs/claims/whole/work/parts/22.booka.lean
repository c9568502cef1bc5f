def B_addEvent_J71 (R : xR) (l0 : Nat) (l5 : Int) (M : xM) : Option xM :=
  xl (xu M l0 10 l5) fun M_13 =>
  xl (xu M_13 l0 13 1) fun M_14 =>
  some (M_14)
def f_B_addEvent (R : xR) (l0 : Nat) (l1 : Int) (l2 : Int) (l3 : Int) (l4 : Int) (l5 : Int) (M : xM) : Option xM :=
  if M l0 4 < 40 then
    xch (0 ≤ M l0 4 ∧ M l0 4 < 40) <|
    xl (xu M (R l0 5) (Int.toNat (M l0 4)) l1) fun M_3 =>
    xch (0 ≤ M_3 l0 4 ∧ M_3 l0 4 < 40) <|
    xl (xu M_3 (R l0 6) (Int.toNat (M_3 l0 4)) l2) fun M_5 =>
    xch (0 ≤ M_5 l0 4 ∧ M_5 l0 4 < 40) <|
    xl (xu M_5 (R l0 7) (Int.toNat (M_5 l0 4)) l3) fun M_7 =>
    xch (0 ≤ M_7 l0 4 ∧ M_7 l0 4 < 40) <|
    xl (xu M_7 (R l0 8) (Int.toNat (M_7 l0 4)) l4) fun M_9 =>
    xch (0 ≤ M_9 l0 4 ∧ M_9 l0 4 < 40) <|
    xl (xu M_9 (R l0 9) (Int.toNat (M_9 l0 4)) l5) fun M_11 =>
    xl (xu M_11 l0 4 (w32 ((M_11 l0 4) + 1))) fun M_12 =>
    B_addEvent_J71 R l0 l5 M_12
  else
    B_addEvent_J71 R l0 l5 M
set_option maxRecDepth 100000 in
set_option maxHeartbeats 4000000 in
theorem s_B_addEvent {d : Nat} {sc : List Int} {z z' : xS} {out : xO} (qs : List xI) {cs : List Prop} (hq : qs.all (xqb 0 false y_B_addEvent.2.2.1 y_B_addEvent.2.1) = true) (h : xN false sc qs z = some (z', cs)) (hc : xAll cs) (hE : z'.2.2.2.2.2 ≤ 174) (k : XR false d 174 sc y_B_addEvent z' out) : XR false d 174 sc y_B_addEvent z out := XR.seg 0 false rfl (fun q => by cases q) qs hq h hc hE k
set_option maxRecDepth 100000 in
set_option maxHeartbeats 4000000 in
theorem o_B_addEvent_J71 {sc : List Int} {R : xR}   {l0 : Nat} {l5 : Int}  {M : xM} {out : xM} (h : B_addEvent_J71 R l0 l5  M = some out) : XR false 0 174 sc y_B_addEvent (71, [(0, (vR 0 l0)), (5, (vI l5))], [], R, M, 174) (none, R, out) := by
  unfold B_addEvent_J71 at h
  obtain ⟨M_13, hM_13, h⟩ := xl_ex h
  obtain ⟨M_14, hM_14, h⟩ := xl_ex h
  refine s_B_addEvent [(71, .aload_n 0, 0, 0), (72, .iload 5, 0, 0), (74, .putfield 43, 0, 10), (77, .aload_n 0, 0, 0), (78, .iconst 1, 0, 1), (79, .putfield 52, 0, 13)] (by decide +kernel) (z' := (82, [(0, (vR 0 l0)), (5, (vI l5))], [], R, M_14, 174)) (cs := [(1 : Int) = 0 ∨ (1 : Int) = 1]) (by subst hM_13; subst hM_14; rfl) ⟨by decide, trivial⟩ (Nat.le_refl _) ?_
  obtain rfl := Option.some.inj h
  exact XR.retV rfl (by decide +kernel)
set_option maxRecDepth 100000 in
set_option maxHeartbeats 4000000 in
theorem o_B_addEvent {sc : List Int} {R : xR} {M : xM} {l0 : Nat} {l1 : Int} {l2 : Int} {l3 : Int} {l4 : Int} {l5 : Int} {out : xM} (h : f_B_addEvent R l0 l1 l2 l3 l4 l5 M = some out) : XR false 0 174 sc y_B_addEvent (0, [(0, (vR 0 l0)), (1, (vI l1)), (2, (vI l2)), (3, (vI l3)), (4, (vI l4)), (5, (vI l5))], [], R, M, 174) (none, R, out) := by
  unfold f_B_addEvent at h
  refine s_B_addEvent [(0, .aload_n 0, 0, 0), (1, .getfield 25, 0, 4), (4, .bipush 40, 0, 40)] (by decide +kernel) (z' := (6, [(0, (vR 0 l0)), (1, (vI l1)), (2, (vI l2)), (3, (vI l3)), (4, (vI l4)), (5, (vI l5))], [(vI 40), (vI (M l0 4))], R, M, 174)) (cs := []) (by rfl) trivial (Nat.le_refl _) ?_
  rcases xif_ex h with ⟨c_1, h⟩ | ⟨c_1, h⟩
  · skip
    obtain ⟨c_2, h⟩ := xch_ex h
    obtain ⟨M_3, hM_3, h⟩ := xl_ex h
    obtain ⟨c_4, h⟩ := xch_ex h
    obtain ⟨M_5, hM_5, h⟩ := xl_ex h
    obtain ⟨c_6, h⟩ := xch_ex h
    obtain ⟨M_7, hM_7, h⟩ := xl_ex h
    obtain ⟨c_8, h⟩ := xch_ex h
    obtain ⟨M_9, hM_9, h⟩ := xl_ex h
    obtain ⟨c_10, h⟩ := xch_ex h
    obtain ⟨M_11, hM_11, h⟩ := xl_ex h
    obtain ⟨M_12, hM_12, h⟩ := xl_ex h
    refine s_B_addEvent [(6, .if_icmp .ge 65, 0, (-1)), (9, .aload_n 0, 0, 0), (10, .getfield 28, 0, 5), (13, .aload_n 0, 0, 0), (14, .getfield 25, 0, 4), (17, .iload_n 1, 0, 0), (18, .iastore, 0, 0), (19, .aload_n 0, 0, 0), (20, .getfield 31, 0, 6), (23, .aload_n 0, 0, 0), (24, .getfield 25, 0, 4), (27, .iload_n 2, 0, 0), (28, .iastore, 0, 0), (29, .aload_n 0, 0, 0), (30, .getfield 34, 0, 7), (33, .aload_n 0, 0, 0), (34, .getfield 25, 0, 4), (37, .iload_n 3, 0, 0), (38, .iastore, 0, 0), (39, .aload_n 0, 0, 0), (40, .getfield 37, 0, 8), (43, .aload_n 0, 0, 0), (44, .getfield 25, 0, 4), (47, .iload 4, 0, 0), (49, .iastore, 0, 0), (50, .aload_n 0, 0, 0), (51, .getfield 40, 0, 9), (54, .aload_n 0, 0, 0), (55, .getfield 25, 0, 4), (58, .iload 5, 0, 0), (60, .iastore, 0, 0), (61, .aload_n 0, 0, 0), (62, .dup, 0, 0), (63, .getfield 25, 0, 4), (66, .iconst 1, 0, 1), (67, .iadd, 0, 0), (68, .putfield 25, 0, 4)] (by decide +kernel) (z' := (71, [(0, (vR 0 l0)), (1, (vI l1)), (2, (vI l2)), (3, (vI l3)), (4, (vI l4)), (5, (vI l5))], [], R, M_12, 174)) (cs := [¬ (40 ≤ M l0 4), xar 21 0, xidx (M l0 4) (xan 21), xar 21 0, xidx (M_3 l0 4) (xan 21), xar 21 0, xidx (M_5 l0 4) (xan 21), xar 21 0, xidx (M_7 l0 4) (xan 21), xar 21 0, xidx (M_9 l0 4) (xan 21)]) (by subst hM_3; subst hM_5; subst hM_7; subst hM_9; subst hM_11; subst hM_12; rfl) ⟨Int.not_le.mpr c_1, xar_21, xix_21 c_2, xar_21, xix_21 c_4, xar_21, xix_21 c_6, xar_21, xix_21 c_8, xar_21, xix_21 c_10, trivial⟩ (Nat.le_refl _) ?_
    refine XR.pick [0, 5] (ls' := [(0, (vR 0 l0)), (5, (vI l5))]) rfl ?_
    exact o_B_addEvent_J71  h
  · skip
    refine s_B_addEvent [(6, .if_icmp .ge 65, 0, 71)] (by decide +kernel) (z' := (71, [(0, (vR 0 l0)), (1, (vI l1)), (2, (vI l2)), (3, (vI l3)), (4, (vI l4)), (5, (vI l5))], [], R, M, 174)) (cs := [40 ≤ M l0 4]) (by rfl) ⟨Int.not_lt.mp c_1, trivial⟩ (Nat.le_refl _) ?_
    refine XR.pick [0, 5] (ls' := [(0, (vR 0 l0)), (5, (vI l5))]) rfl ?_
    exact o_B_addEvent_J71  h
set_option maxRecDepth 100000 in
set_option maxHeartbeats 4000000 in
theorem c_B_addEvent {sc : List Int} {R : xR} {M : xM} {l0 : Nat} {l1 : Int} {l2 : Int} {l3 : Int} {l4 : Int} {l5 : Int} {out : xM} (h : f_B_addEvent R l0 l1 l2 l3 l4 l5 M = some out) : XC false 0 sc y_B_addEvent [(vR 0 l0), (vI l1), (vI l2), (vI l3), (vI l4), (vI l5)] R M 174 174 (none, R, out) := XC.of (by decide) (Nat.le_of_ble_eq_true rfl) (Nat.le_refl _) (Nat.le_refl _) (o_B_addEvent h)
def B_addRow_J50 (R : xR) (l0 : Nat) (l3 : Int) (M : xM) : Option xM :=
  xl (xu M l0 10 l3) fun M_9 =>
  xl (xu M_9 l0 13 1) fun M_10 =>
  some (M_10)
def f_B_addRow (R : xR) (l0 : Nat) (l1 : Int) (l2 : Int) (l3 : Int) (M : xM) : Option xM :=
  if M l0 0 < 200 then
    xch (0 ≤ M l0 0 ∧ M l0 0 < 200) <|
    xl (xu M (R l0 1) (Int.toNat (M l0 0)) l1) fun M_3 =>
    xch (0 ≤ M_3 l0 0 ∧ M_3 l0 0 < 200) <|
    xl (xu M_3 (R l0 2) (Int.toNat (M_3 l0 0)) l2) fun M_5 =>
    xch (0 ≤ M_5 l0 0 ∧ M_5 l0 0 < 200) <|
    xl (xu M_5 (R l0 3) (Int.toNat (M_5 l0 0)) l3) fun M_7 =>
    xl (xu M_7 l0 0 (w32 ((M_7 l0 0) + 1))) fun M_8 =>
    B_addRow_J50 R l0 l3 M_8
  else
    B_addRow_J50 R l0 l3 M
set_option maxRecDepth 100000 in
set_option maxHeartbeats 4000000 in
theorem s_B_addRow {d : Nat} {sc : List Int} {z z' : xS} {out : xO} (qs : List xI) {cs : List Prop} (hq : qs.all (xqb 0 false y_B_addRow.2.2.1 y_B_addRow.2.1) = true) (h : xN false sc qs z = some (z', cs)) (hc : xAll cs) (hE : z'.2.2.2.2.2 ≤ 174) (k : XR false d 174 sc y_B_addRow z' out) : XR false d 174 sc y_B_addRow z out := XR.seg 0 false rfl (fun q => by cases q) qs hq h hc hE k
set_option maxRecDepth 100000 in
set_option maxHeartbeats 4000000 in
theorem o_B_addRow_J50 {sc : List Int} {R : xR}   {l0 : Nat} {l3 : Int}  {M : xM} {out : xM} (h : B_addRow_J50 R l0 l3  M = some out) : XR false 0 174 sc y_B_addRow (50, [(0, (vR 0 l0)), (3, (vI l3))], [], R, M, 174) (none, R, out) := by
  unfold B_addRow_J50 at h
  obtain ⟨M_9, hM_9, h⟩ := xl_ex h
  obtain ⟨M_10, hM_10, h⟩ := xl_ex h
  refine s_B_addRow [(50, .aload_n 0, 0, 0), (51, .iload_n 3, 0, 0), (52, .putfield 43, 0, 10), (55, .aload_n 0, 0, 0), (56, .iconst 1, 0, 1), (57, .putfield 52, 0, 13)] (by decide +kernel) (z' := (60, [(0, (vR 0 l0)), (3, (vI l3))], [], R, M_10, 174)) (cs := [(1 : Int) = 0 ∨ (1 : Int) = 1]) (by subst hM_9; subst hM_10; rfl) ⟨by decide, trivial⟩ (Nat.le_refl _) ?_
  obtain rfl := Option.some.inj h
  exact XR.retV rfl (by decide +kernel)
set_option maxRecDepth 100000 in
set_option maxHeartbeats 4000000 in
theorem o_B_addRow {sc : List Int} {R : xR} {M : xM} {l0 : Nat} {l1 : Int} {l2 : Int} {l3 : Int} {out : xM} (h : f_B_addRow R l0 l1 l2 l3 M = some out) : XR false 0 174 sc y_B_addRow (0, [(0, (vR 0 l0)), (1, (vI l1)), (2, (vI l2)), (3, (vI l3))], [], R, M, 174) (none, R, out) := by
  unfold f_B_addRow at h
  refine s_B_addRow [(0, .aload_n 0, 0, 0), (1, .getfield 9, 0, 0), (4, .sipush 200, 0, 200)] (by decide +kernel) (z' := (7, [(0, (vR 0 l0)), (1, (vI l1)), (2, (vI l2)), (3, (vI l3))], [(vI 200), (vI (M l0 0))], R, M, 174)) (cs := []) (by rfl) trivial (Nat.le_refl _) ?_
  rcases xif_ex h with ⟨c_1, h⟩ | ⟨c_1, h⟩
  · skip
    obtain ⟨c_2, h⟩ := xch_ex h
    obtain ⟨M_3, hM_3, h⟩ := xl_ex h
    obtain ⟨c_4, h⟩ := xch_ex h
    obtain ⟨M_5, hM_5, h⟩ := xl_ex h
    obtain ⟨c_6, h⟩ := xch_ex h
    obtain ⟨M_7, hM_7, h⟩ := xl_ex h
    obtain ⟨M_8, hM_8, h⟩ := xl_ex h
    refine s_B_addRow [(7, .if_icmp .ge 43, 0, (-1)), (10, .aload_n 0, 0, 0), (11, .getfield 15, 0, 1), (14, .aload_n 0, 0, 0), (15, .getfield 9, 0, 0), (18, .iload_n 1, 0, 0), (19, .iastore, 0, 0), (20, .aload_n 0, 0, 0), (21, .getfield 19, 0, 2), (24, .aload_n 0, 0, 0), (25, .getfield 9, 0, 0), (28, .iload_n 2, 0, 0), (29, .iastore, 0, 0), (30, .aload_n 0, 0, 0), (31, .getfield 22, 0, 3), (34, .aload_n 0, 0, 0), (35, .getfield 9, 0, 0), (38, .iload_n 3, 0, 0), (39, .iastore, 0, 0), (40, .aload_n 0, 0, 0), (41, .dup, 0, 0), (42, .getfield 9, 0, 0), (45, .iconst 1, 0, 1), (46, .iadd, 0, 0), (47, .putfield 9, 0, 0)] (by decide +kernel) (z' := (50, [(0, (vR 0 l0)), (1, (vI l1)), (2, (vI l2)), (3, (vI l3))], [], R, M_8, 174)) (cs := [¬ (200 ≤ M l0 0), xar 20 0, xidx (M l0 0) (xan 20), xar 20 0, xidx (M_3 l0 0) (xan 20), xar 20 0, xidx (M_5 l0 0) (xan 20)]) (by subst hM_3; subst hM_5; subst hM_7; subst hM_8; rfl) ⟨Int.not_le.mpr c_1, xar_20, xix_20 c_2, xar_20, xix_20 c_4, xar_20, xix_20 c_6, trivial⟩ (Nat.le_refl _) ?_
    refine XR.pick [0, 3] (ls' := [(0, (vR 0 l0)), (3, (vI l3))]) rfl ?_
    exact o_B_addRow_J50  h
  · skip
    refine s_B_addRow [(7, .if_icmp .ge 43, 0, 50)] (by decide +kernel) (z' := (50, [(0, (vR 0 l0)), (1, (vI l1)), (2, (vI l2)), (3, (vI l3))], [], R, M, 174)) (cs := [200 ≤ M l0 0]) (by rfl) ⟨Int.not_lt.mp c_1, trivial⟩ (Nat.le_refl _) ?_
    refine XR.pick [0, 3] (ls' := [(0, (vR 0 l0)), (3, (vI l3))]) rfl ?_
    exact o_B_addRow_J50  h
set_option maxRecDepth 100000 in
set_option maxHeartbeats 4000000 in
theorem c_B_addRow {sc : List Int} {R : xR} {M : xM} {l0 : Nat} {l1 : Int} {l2 : Int} {l3 : Int} {out : xM} (h : f_B_addRow R l0 l1 l2 l3 M = some out) : XC false 0 sc y_B_addRow [(vR 0 l0), (vI l1), (vI l2), (vI l3)] R M 174 174 (none, R, out) := XC.of (by decide) (Nat.le_of_ble_eq_true rfl) (Nat.le_refl _) (Nat.le_refl _) (o_B_addRow h)
def f_B_addStatus (l0 : Nat) (l1 : Int) (l2 : Int) (M : xM) : Option Int :=
  if l1 = 0 then
    if l2 < M l0 10 then
      some (5)
    else
      some (0)
  else
    some (4)
set_option maxRecDepth 100000 in
set_option maxHeartbeats 4000000 in
theorem s_B_addStatus {d : Nat} {sc : List Int} {z z' : xS} {out : xO} (qs : List xI) {cs : List Prop} (hq : qs.all (xqb 0 false y_B_addStatus.2.2.1 y_B_addStatus.2.1) = true) (h : xN false sc qs z = some (z', cs)) (hc : xAll cs) (hE : z'.2.2.2.2.2 ≤ 174) (k : XR false d 174 sc y_B_addStatus z' out) : XR false d 174 sc y_B_addStatus z out := XR.seg 0 false rfl (fun q => by cases q) qs hq h hc hE k
set_option maxRecDepth 100000 in
set_option maxHeartbeats 4000000 in
theorem o_B_addStatus {sc : List Int} {R : xR} {M : xM} {l0 : Nat} {l1 : Int} {l2 : Int} {out : Int} (h : f_B_addStatus l0 l1 l2 M = some out) : XR false 0 174 sc y_B_addStatus (0, [(0, (vR 0 l0)), (1, (vI l1)), (2, (vI l2))], [], R, M, 174) ((some (vI out)), R, M) := by
  unfold f_B_addStatus at h
  refine s_B_addStatus [(0, .iload_n 1, 0, 0)] (by decide +kernel) (z' := (1, [(0, (vR 0 l0)), (1, (vI l1)), (2, (vI l2))], [(vI l1)], R, M, 174)) (cs := []) (by rfl) trivial (Nat.le_refl _) ?_
  rcases xif_ex h with ⟨c_1, h⟩ | ⟨c_1, h⟩
  · skip
    refine s_B_addStatus [(1, .ifCond .eq 5, 0, 6), (6, .iload_n 2, 0, 0), (7, .aload_n 0, 0, 0), (8, .getfield 43, 0, 10)] (by decide +kernel) (z' := (11, [(0, (vR 0 l0)), (1, (vI l1)), (2, (vI l2))], [(vI (M l0 10)), (vI l2)], R, M, 174)) (cs := [l1 = 0]) (by rfl) ⟨c_1, trivial⟩ (Nat.le_refl _) ?_
    rcases xif_ex h with ⟨c_2, h⟩ | ⟨c_2, h⟩
    · skip
      refine s_B_addStatus [(11, .if_icmp .ge 7, 0, (-1)), (14, .iconst 5, 0, 5), (15, .goto 4, 0, 19)] (by decide +kernel) (z' := (19, [(0, (vR 0 l0)), (1, (vI l1)), (2, (vI l2))], [(vI 5)], R, M, 174)) (cs := [¬ (M l0 10 ≤ l2)]) (by rfl) ⟨Int.not_le.mpr c_2, trivial⟩ (Nat.le_refl _) ?_
      obtain rfl := Option.some.inj h
      exact XR.retI .int rfl rfl (by decide +kernel)
    · skip
      refine s_B_addStatus [(11, .if_icmp .ge 7, 0, 18), (18, .iconst 0, 0, 0)] (by decide +kernel) (z' := (19, [(0, (vR 0 l0)), (1, (vI l1)), (2, (vI l2))], [(vI 0)], R, M, 174)) (cs := [M l0 10 ≤ l2]) (by rfl) ⟨Int.not_lt.mp c_2, trivial⟩ (Nat.le_refl _) ?_
      obtain rfl := Option.some.inj h
      exact XR.retI .int rfl rfl (by decide +kernel)
  · skip
    refine s_B_addStatus [(1, .ifCond .eq 5, 0, (-1)), (4, .iconst 4, 0, 4)] (by decide +kernel) (z' := (5, [(0, (vR 0 l0)), (1, (vI l1)), (2, (vI l2))], [(vI 4)], R, M, 174)) (cs := [¬ (l1 = 0)]) (by rfl) ⟨c_1, trivial⟩ (Nat.le_refl _) ?_
    obtain rfl := Option.some.inj h
    exact XR.retI .int rfl rfl (by decide +kernel)
set_option maxRecDepth 100000 in
set_option maxHeartbeats 4000000 in
theorem c_B_addStatus {sc : List Int} {R : xR} {M : xM} {l0 : Nat} {l1 : Int} {l2 : Int} {out : Int} (h : f_B_addStatus l0 l1 l2 M = some out) : XC false 0 sc y_B_addStatus [(vR 0 l0), (vI l1), (vI l2)] R M 174 174 ((some (vI out)), R, M) := XC.of (by decide) (Nat.le_of_ble_eq_true rfl) (Nat.le_refl _) (Nat.le_refl _) (o_B_addStatus h)
def f_B_cell (l0 : Int) (l1 : Int) (l2 : Int) : Option Int :=
  some (w32 ((w32 ((w32 ((w32 (l0 * 48)) + l1)) * 4)) + l2))
set_option maxRecDepth 100000 in
set_option maxHeartbeats 4000000 in
theorem s_B_cell {d : Nat} {sc : List Int} {z z' : xS} {out : xO} (qs : List xI) {cs : List Prop} (hq : qs.all (xqb 0 false y_B_cell.2.2.1 y_B_cell.2.1) = true) (h : xN false sc qs z = some (z', cs)) (hc : xAll cs) (hE : z'.2.2.2.2.2 ≤ 174) (k : XR false d 174 sc y_B_cell z' out) : XR false d 174 sc y_B_cell z out := XR.seg 0 false rfl (fun q => by cases q) qs hq h hc hE k
set_option maxRecDepth 100000 in
set_option maxHeartbeats 4000000 in
theorem o_B_cell {sc : List Int} {R : xR} {M : xM} {l0 : Int} {l1 : Int} {l2 : Int} {out : Int} (h : f_B_cell l0 l1 l2 = some out) : XR false 0 174 sc y_B_cell (0, [(0, (vI l0)), (1, (vI l1)), (2, (vI l2))], [], R, M, 174) ((some (vI out)), R, M) := by
  unfold f_B_cell at h
  refine s_B_cell [(0, .iload_n 0, 0, 0), (1, .bipush 48, 0, 48), (3, .imul, 0, 0), (4, .iload_n 1, 0, 0), (5, .iadd, 0, 0), (6, .iconst 4, 0, 4), (7, .imul, 0, 0), (8, .iload_n 2, 0, 0), (9, .iadd, 0, 0)] (by decide +kernel) (z' := (10, [(0, (vI l0)), (1, (vI l1)), (2, (vI l2))], [(vI (w32 ((w32 ((w32 ((w32 (l0 * 48)) + l1)) * 4)) + l2)))], R, M, 174)) (cs := []) (by rfl) trivial (Nat.le_refl _) ?_
  obtain rfl := Option.some.inj h
  exact XR.retI .int rfl rfl (by decide +kernel)
set_option maxRecDepth 100000 in
set_option maxHeartbeats 4000000 in
theorem c_B_cell {sc : List Int} {R : xR} {M : xM} {l0 : Int} {l1 : Int} {l2 : Int} {out : Int} (h : f_B_cell l0 l1 l2 = some out) : XC false 0 sc y_B_cell [(vI l0), (vI l1), (vI l2)] R M 174 174 ((some (vI out)), R, M) := XC.of (by decide) (Nat.le_of_ble_eq_true rfl) (Nat.le_refl _) (Nat.le_refl _) (o_B_cell h)
def f_B_eventStatus (l0 : Nat) (l1 : Int) (M : xM) : Option Int :=
  if M l0 4 < 40 then
    xb1 (f_B_addStatus l0 0 l1 M) fun r_2 =>
    some (r_2)
  else
    xb1 (f_B_addStatus l0 1 l1 M) fun r_4 =>
    some (r_4)
set_option maxRecDepth 100000 in
set_option maxHeartbeats 4000000 in
theorem s_B_eventStatus {d : Nat} {sc : List Int} {z z' : xS} {out : xO} (qs : List xI) {cs : List Prop} (hq : qs.all (xqb 0 false y_B_eventStatus.2.2.1 y_B_eventStatus.2.1) = true) (h : xN false sc qs z = some (z', cs)) (hc : xAll cs) (hE : z'.2.2.2.2.2 ≤ 174) (k : XR false d 174 sc y_B_eventStatus z' out) : XR false d 174 sc y_B_eventStatus z out := XR.seg 0 false rfl (fun q => by cases q) qs hq h hc hE k
set_option maxRecDepth 100000 in
set_option maxHeartbeats 4000000 in
theorem o_B_eventStatus {sc : List Int} {R : xR} {M : xM} {l0 : Nat} {l1 : Int} {out : Int} (h : f_B_eventStatus l0 l1 M = some out) : XR false 1 174 sc y_B_eventStatus (0, [(0, (vR 0 l0)), (1, (vI l1))], [], R, M, 174) ((some (vI out)), R, M) := by
  unfold f_B_eventStatus at h
  refine s_B_eventStatus [(0, .aload_n 0, 0, 0), (1, .aload_n 0, 0, 0), (2, .getfield 25, 0, 4), (5, .bipush 40, 0, 40)] (by decide +kernel) (z' := (7, [(0, (vR 0 l0)), (1, (vI l1))], [(vI 40), (vI (M l0 4)), (vR 0 l0)], R, M, 174)) (cs := []) (by rfl) trivial (Nat.le_refl _) ?_
  rcases xif_ex h with ⟨c_1, h⟩ | ⟨c_1, h⟩
  · skip
    refine s_B_eventStatus [(7, .if_icmp .lt 7, 0, 14), (14, .iconst 0, 0, 0), (15, .iload_n 1, 0, 0)] (by decide +kernel) (z' := (16, [(0, (vR 0 l0)), (1, (vI l1))], [(vI l1), (vI 0), (vR 0 l0)], R, M, 174)) (cs := [M l0 4 < 40]) (by rfl) ⟨c_1, trivial⟩ (Nat.le_refl _) ?_
    obtain ⟨r_2, e_3, h⟩ := xb1_ex h
    refine XR.callV 0 rfl (rest := []) m_B_addStatus k_0_69 0 l0 (Or.inl ⟨by decide, rfl⟩) [(vI 0), (vI l1)] rfl rfl (c_B_addStatus e_3) (by decide) (Nat.le_of_ble_eq_true rfl) (by decide +kernel) (Nat.le_refl _) (Nat.le_refl _) ?_
    show XR false 1 174 sc y_B_eventStatus (19, [(0, (vR 0 l0)), (1, (vI l1))], [(vI r_2)], R, M, 174) _
    obtain rfl := Option.some.inj h
    exact XR.retI .int rfl rfl (by decide +kernel)
  · skip
    refine s_B_eventStatus [(7, .if_icmp .lt 7, 0, (-1)), (10, .iconst 1, 0, 1), (11, .goto 4, 0, 15), (15, .iload_n 1, 0, 0)] (by decide +kernel) (z' := (16, [(0, (vR 0 l0)), (1, (vI l1))], [(vI l1), (vI 1), (vR 0 l0)], R, M, 174)) (cs := [¬ (M l0 4 < 40)]) (by rfl) ⟨c_1, trivial⟩ (Nat.le_refl _) ?_
    obtain ⟨r_4, e_5, h⟩ := xb1_ex h
    refine XR.callV 0 rfl (rest := []) m_B_addStatus k_0_69 0 l0 (Or.inl ⟨by decide, rfl⟩) [(vI 1), (vI l1)] rfl rfl (c_B_addStatus e_5) (by decide) (Nat.le_of_ble_eq_true rfl) (by decide +kernel) (Nat.le_refl _) (Nat.le_refl _) ?_
    show XR false 1 174 sc y_B_eventStatus (19, [(0, (vR 0 l0)), (1, (vI l1))], [(vI r_4)], R, M, 174) _
    obtain rfl := Option.some.inj h
    exact XR.retI .int rfl rfl (by decide +kernel)
set_option maxRecDepth 100000 in
set_option maxHeartbeats 4000000 in
theorem c_B_eventStatus {sc : List Int} {R : xR} {M : xM} {l0 : Nat} {l1 : Int} {out : Int} (h : f_B_eventStatus l0 l1 M = some out) : XC false 1 sc y_B_eventStatus [(vR 0 l0), (vI l1)] R M 174 174 ((some (vI out)), R, M) := XC.of (by decide) (Nat.le_of_ble_eq_true rfl) (Nat.le_refl _) (Nat.le_refl _) (o_B_eventStatus h)
def f_B_forget (l0 : Nat) (M : xM) : Option xM :=
  xl (xu M l0 0 0) fun M_1 =>
  xl (xu M_1 l0 4 0) fun M_2 =>
  xl (xu M_2 l0 13 1) fun M_3 =>
  some (M_3)
set_option maxRecDepth 100000 in
set_option maxHeartbeats 4000000 in
theorem s_B_forget {d : Nat} {sc : List Int} {z z' : xS} {out : xO} (qs : List xI) {cs : List Prop} (hq : qs.all (xqb 0 false y_B_forget.2.2.1 y_B_forget.2.1) = true) (h : xN false sc qs z = some (z', cs)) (hc : xAll cs) (hE : z'.2.2.2.2.2 ≤ 174) (k : XR false d 174 sc y_B_forget z' out) : XR false d 174 sc y_B_forget z out := XR.seg 0 false rfl (fun q => by cases q) qs hq h hc hE k
set_option maxRecDepth 100000 in
set_option maxHeartbeats 4000000 in
theorem o_B_forget {sc : List Int} {R : xR} {M : xM} {l0 : Nat} {out : xM} (h : f_B_forget l0 M = some out) : XR false 0 174 sc y_B_forget (0, [(0, (vR 0 l0))], [], R, M, 174) (none, R, out) := by
  unfold f_B_forget at h
  obtain ⟨M_1, hM_1, h⟩ := xl_ex h
  obtain ⟨M_2, hM_2, h⟩ := xl_ex h
  obtain ⟨M_3, hM_3, h⟩ := xl_ex h
  refine s_B_forget [(0, .aload_n 0, 0, 0), (1, .iconst 0, 0, 0), (2, .putfield 9, 0, 0), (5, .aload_n 0, 0, 0), (6, .iconst 0, 0, 0), (7, .putfield 25, 0, 4), (10, .aload_n 0, 0, 0), (11, .iconst 1, 0, 1), (12, .putfield 52, 0, 13)] (by decide +kernel) (z' := (15, [(0, (vR 0 l0))], [], R, M_3, 174)) (cs := [(1 : Int) = 0 ∨ (1 : Int) = 1]) (by subst hM_1; subst hM_2; subst hM_3; rfl) ⟨by decide, trivial⟩ (Nat.le_refl _) ?_
  obtain rfl := Option.some.inj h
  exact XR.retV rfl (by decide +kernel)
set_option maxRecDepth 100000 in
set_option maxHeartbeats 4000000 in
theorem c_B_forget {sc : List Int} {R : xR} {M : xM} {l0 : Nat} {out : xM} (h : f_B_forget l0 M = some out) : XC false 0 sc y_B_forget [(vR 0 l0)] R M 174 174 (none, R, out) := XC.of (by decide) (Nat.le_of_ble_eq_true rfl) (Nat.le_refl _) (Nat.le_refl _) (o_B_forget h)
def B_gatherEvent_F27 (R : xR) (l0 : Nat) (l2 : Int) (l4 : Int) : Nat → Int → xM → Option xM
  | 0, _, _ => none
  | n + 1, v5, M =>
    if l4 < v5 then
      some (M)
    else
      if v5 < 48 then
        xch (0 ≤ l2 ∧ l2 < 8) <|
        xl (xu M (R l0 16) (Int.toNat l2) (yor (M (R l0 16) (Int.toNat l2)) (yshl 1 v5))) fun M_8 =>
        xl (w32 (v5 + 1)) fun v5_9 =>
        B_gatherEvent_F27 R l0 l2 l4  n v5_9 M_8
      else
        some (M)
def B_gatherEvent_F66 (R : xR) (l0 : Nat) (l2 : Int) (l4 : Int) : Nat → Int → xM → Option xM
  | 0, _, _ => none
  | n + 1, v5, M =>
    if v5 < 48 then
      xch (0 ≤ w32 ((w32 (l2 * 48)) + v5) ∧ w32 ((w32 (l2 * 48)) + v5) < 384) <|
      xl (xu M (R l0 17) (Int.toNat (w32 ((w32 (l2 * 48)) + v5))) (w32 ((M (R l0 17) (Int.toNat (w32 ((w32 (l2 * 48)) + v5)))) + l4))) fun M_12 =>
      xl (w32 (v5 + 1)) fun v5_13 =>
      B_gatherEvent_F66 R l0 l2 l4  n v5_13 M_12
    else
      some (M)
def f_B_gatherEvent (R : xR) (l0 : Nat) (l1 : Int) (l2 : Int) (l3 : Int) (l4 : Int) (M : xM) : Option xM :=
  if l1 = 0 then
    xch (0 ≤ l2 ∧ l2 < 8) <|
    xl (xu M (R l0 15) (Int.toNat l2) (yor (M (R l0 15) (Int.toNat l2)) (yshl 1 l3))) fun M_3 =>
    some (M_3)
  else
    if l1 = 2 then
      B_gatherEvent_F27 R l0 l2 l4
        xfu l3 M
    else
      B_gatherEvent_F66 R l0 l2 l4
        xfu l3 M
set_option maxRecDepth 100000 in
set_option maxHeartbeats 4000000 in
theorem s_B_gatherEvent {d : Nat} {sc : List Int} {z z' : xS} {out : xO} (qs : List xI) {cs : List Prop} (hq : qs.all (xqb 0 false y_B_gatherEvent.2.2.1 y_B_gatherEvent.2.1) = true) (h : xN false sc qs z = some (z', cs)) (hc : xAll cs) (hE : z'.2.2.2.2.2 ≤ 174) (k : XR false d 174 sc y_B_gatherEvent z' out) : XR false d 174 sc y_B_gatherEvent z out := XR.seg 0 false rfl (fun q => by cases q) qs hq h hc hE k
set_option maxRecDepth 100000 in
set_option maxHeartbeats 4000000 in
theorem o_B_gatherEvent_F27 {sc : List Int} {R : xR}   {l0 : Nat} {l2 : Int} {l4 : Int}  : ∀ (n : Nat) (v5 : Int) (M : xM) (out : xM), B_gatherEvent_F27 R l0 l2 l4  n v5 M = some out → XR false 0 174 sc y_B_gatherEvent (27, [(0, (vR 0 l0)), (2, (vI l2)), (4, (vI l4)), (5, (vI v5))], [], R, M, 174) (none, R, out) := by
  intro n
  induction n with
  | zero => intro v5 M out h; exact (xno h).elim
  | succ n ih =>
    intro v5 M out h
    rw [B_gatherEvent_F27] at h
    refine s_B_gatherEvent [(27, .iload 5, 0, 0), (29, .iload 4, 0, 0)] (by decide +kernel) (z' := (31, [(0, (vR 0 l0)), (2, (vI l2)), (4, (vI l4)), (5, (vI v5))], [(vI l4), (vI v5)], R, M, 174)) (cs := []) (by rfl) trivial (Nat.le_refl _) ?_
    rcases xif_ex h with ⟨c_5, h⟩ | ⟨c_5, h⟩
    · skip
      refine s_B_gatherEvent [(31, .if_icmp .gt 29, 0, 60), (60, .goto 36, 0, 96)] (by decide +kernel) (z' := (96, [(0, (vR 0 l0)), (2, (vI l2)), (4, (vI l4)), (5, (vI v5))], [], R, M, 174)) (cs := [l4 < v5]) (by rfl) ⟨c_5, trivial⟩ (Nat.le_refl _) ?_
      obtain rfl := Option.some.inj h
      exact XR.retV rfl (by decide +kernel)
    · skip
      refine s_B_gatherEvent [(31, .if_icmp .gt 29, 0, (-1)), (34, .iload 5, 0, 0), (36, .bipush 48, 0, 48)] (by decide +kernel) (z' := (38, [(0, (vR 0 l0)), (2, (vI l2)), (4, (vI l4)), (5, (vI v5))], [(vI 48), (vI v5)], R, M, 174)) (cs := [¬ (l4 < v5)]) (by rfl) ⟨c_5, trivial⟩ (Nat.le_refl _) ?_
      rcases xif_ex h with ⟨c_6, h⟩ | ⟨c_6, h⟩
      · skip
        obtain ⟨c_7, h⟩ := xch_ex h
        obtain ⟨M_8, hM_8, h⟩ := xl_ex h
        obtain ⟨v5_9, hv5_9, h⟩ := xl_ex h
        refine s_B_gatherEvent [(38, .if_icmp .ge 22, 0, (-1)), (41, .aload_n 0, 0, 0), (42, .getfield 63, 0, 16), (45, .iload_n 2, 0, 0), (46, .dup2, 0, 0), (47, .laload, 0, 0), (48, .lconst 1, 0, 1), (49, .iload 5, 0, 0), (51, .lshl, 0, 0), (52, .lor, 0, 0), (53, .lastore, 0, 0), (54, .iinc 5 1, 0, 0), (57, .goto (-30), 0, 27)] (by decide +kernel) (z' := (27, [(5, (vI v5_9)), (0, (vR 0 l0)), (2, (vI l2)), (4, (vI l4))], [], R, M_8, 174)) (cs := [¬ (48 ≤ v5), xar 24 1, xidx l2 (xan 24), xar 24 1, xidx l2 (xan 24)]) (by subst hM_8; subst hv5_9; rfl) ⟨Int.not_le.mpr c_6, xar_24, xix_24 c_7, xar_24, xix_24 c_7, trivial⟩ (Nat.le_refl _) ?_
        refine XR.pick [1, 2, 3, 0] (ls' := [(0, (vR 0 l0)), (2, (vI l2)), (4, (vI l4)), (5, (vI v5_9))]) rfl ?_
        exact ih v5_9 M_8 _ h
      · skip
        refine s_B_gatherEvent [(38, .if_icmp .ge 22, 0, 60), (60, .goto 36, 0, 96)] (by decide +kernel) (z' := (96, [(0, (vR 0 l0)), (2, (vI l2)), (4, (vI l4)), (5, (vI v5))], [], R, M, 174)) (cs := [48 ≤ v5]) (by rfl) ⟨Int.not_lt.mp c_6, trivial⟩ (Nat.le_refl _) ?_
        obtain rfl := Option.some.inj h
        exact XR.retV rfl (by decide +kernel)
set_option maxRecDepth 100000 in
set_option maxHeartbeats 4000000 in
theorem o_B_gatherEvent_F66 {sc : List Int} {R : xR}   {l0 : Nat} {l2 : Int} {l4 : Int}  : ∀ (n : Nat) (v5 : Int) (M : xM) (out : xM), B_gatherEvent_F66 R l0 l2 l4  n v5 M = some out → XR false 0 174 sc y_B_gatherEvent (66, [(0, (vR 0 l0)), (2, (vI l2)), (4, (vI l4)), (5, (vI v5))], [], R, M, 174) (none, R, out) := by
  intro n
  induction n with
  | zero => intro v5 M out h; exact (xno h).elim
  | succ n ih =>
    intro v5 M out h
    rw [B_gatherEvent_F66] at h
    refine s_B_gatherEvent [(66, .iload 5, 0, 0), (68, .bipush 48, 0, 48)] (by decide +kernel) (z' := (70, [(0, (vR 0 l0)), (2, (vI l2)), (4, (vI l4)), (5, (vI v5))], [(vI 48), (vI v5)], R, M, 174)) (cs := []) (by rfl) trivial (Nat.le_refl _) ?_
    rcases xif_ex h with ⟨c_10, h⟩ | ⟨c_10, h⟩
    · skip
      obtain ⟨c_11, h⟩ := xch_ex h
      obtain ⟨M_12, hM_12, h⟩ := xl_ex h
      obtain ⟨v5_13, hv5_13, h⟩ := xl_ex h
      refine s_B_gatherEvent [(70, .if_icmp .ge 26, 0, (-1)), (73, .aload_n 0, 0, 0), (74, .getfield 66, 0, 17), (77, .iload_n 2, 0, 0), (78, .bipush 48, 0, 48), (80, .imul, 0, 0), (81, .iload 5, 0, 0), (83, .iadd, 0, 0), (84, .dup2, 0, 0), (85, .iaload, 0, 0), (86, .iload 4, 0, 0), (88, .iadd, 0, 0), (89, .iastore, 0, 0), (90, .iinc 5 1, 0, 0), (93, .goto (-27), 0, 66)] (by decide +kernel) (z' := (66, [(5, (vI v5_13)), (0, (vR 0 l0)), (2, (vI l2)), (4, (vI l4))], [], R, M_12, 174)) (cs := [¬ (48 ≤ v5), xar 25 0, xidx (w32 ((w32 (l2 * 48)) + v5)) (xan 25), xar 25 0, xidx (w32 ((w32 (l2 * 48)) + v5)) (xan 25)]) (by subst hM_12; subst hv5_13; rfl) ⟨Int.not_le.mpr c_10, xar_25, xix_25 c_11, xar_25, xix_25 c_11, trivial⟩ (Nat.le_refl _) ?_
      refine XR.pick [1, 2, 3, 0] (ls' := [(0, (vR 0 l0)), (2, (vI l2)), (4, (vI l4)), (5, (vI v5_13))]) rfl ?_
      exact ih v5_13 M_12 _ h
    · skip
      refine s_B_gatherEvent [(70, .if_icmp .ge 26, 0, 96)] (by decide +kernel) (z' := (96, [(0, (vR 0 l0)), (2, (vI l2)), (4, (vI l4)), (5, (vI v5))], [], R, M, 174)) (cs := [48 ≤ v5]) (by rfl) ⟨Int.not_lt.mp c_10, trivial⟩ (Nat.le_refl _) ?_
      obtain rfl := Option.some.inj h
      exact XR.retV rfl (by decide +kernel)
set_option maxRecDepth 100000 in
set_option maxHeartbeats 4000000 in
theorem o_B_gatherEvent {sc : List Int} {R : xR} {M : xM} {l0 : Nat} {l1 : Int} {l2 : Int} {l3 : Int} {l4 : Int} {out : xM} (h : f_B_gatherEvent R l0 l1 l2 l3 l4 M = some out) : XR false 0 174 sc y_B_gatherEvent (0, [(0, (vR 0 l0)), (1, (vI l1)), (2, (vI l2)), (3, (vI l3)), (4, (vI l4))], [], R, M, 174) (none, R, out) := by
  unfold f_B_gatherEvent at h
  refine s_B_gatherEvent [(0, .iload_n 1, 0, 0)] (by decide +kernel) (z' := (1, [(0, (vR 0 l0)), (1, (vI l1)), (2, (vI l2)), (3, (vI l3)), (4, (vI l4))], [(vI l1)], R, M, 174)) (cs := []) (by rfl) trivial (Nat.le_refl _) ?_
  rcases xif_ex h with ⟨c_1, h⟩ | ⟨c_1, h⟩
  · skip
    obtain ⟨c_2, h⟩ := xch_ex h
    obtain ⟨M_3, hM_3, h⟩ := xl_ex h
    refine s_B_gatherEvent [(1, .ifCond .ne 18, 0, (-1)), (4, .aload_n 0, 0, 0), (5, .getfield 59, 0, 15), (8, .iload_n 2, 0, 0), (9, .dup2, 0, 0), (10, .laload, 0, 0), (11, .lconst 1, 0, 1), (12, .iload_n 3, 0, 0), (13, .lshl, 0, 0), (14, .lor, 0, 0), (15, .lastore, 0, 0), (16, .goto 80, 0, 96)] (by decide +kernel) (z' := (96, [(0, (vR 0 l0)), (1, (vI l1)), (2, (vI l2)), (3, (vI l3)), (4, (vI l4))], [], R, M_3, 174)) (cs := [¬ (l1 ≠ 0), xar 24 1, xidx l2 (xan 24), xar 24 1, xidx l2 (xan 24)]) (by subst hM_3; rfl) ⟨fun q => q c_1, xar_24, xix_24 c_2, xar_24, xix_24 c_2, trivial⟩ (Nat.le_refl _) ?_
    obtain rfl := Option.some.inj h
    exact XR.retV rfl (by decide +kernel)
  · skip
    refine s_B_gatherEvent [(1, .ifCond .ne 18, 0, 19), (19, .iload_n 1, 0, 0), (20, .iconst 2, 0, 2)] (by decide +kernel) (z' := (21, [(0, (vR 0 l0)), (1, (vI l1)), (2, (vI l2)), (3, (vI l3)), (4, (vI l4))], [(vI 2), (vI l1)], R, M, 174)) (cs := [l1 ≠ 0]) (by rfl) ⟨c_1, trivial⟩ (Nat.le_refl _) ?_
    rcases xif_ex h with ⟨c_4, h⟩ | ⟨c_4, h⟩
    · skip
      refine s_B_gatherEvent [(21, .if_icmp .ne 42, 0, (-1)), (24, .iload_n 3, 0, 0), (25, .istore 5, 0, 0)] (by decide +kernel) (z' := (27, [(5, (vI l3)), (0, (vR 0 l0)), (1, (vI l1)), (2, (vI l2)), (3, (vI l3)), (4, (vI l4))], [], R, M, 174)) (cs := [¬ (l1 ≠ 2)]) (by rfl) ⟨fun q => q c_4, trivial⟩ (Nat.le_refl _) ?_
      refine XR.pick [1, 3, 5, 0] (ls' := [(0, (vR 0 l0)), (2, (vI l2)), (4, (vI l4)), (5, (vI l3))]) rfl ?_
      refine o_B_gatherEvent_F27  xfu l3 M _ h
    · skip
      refine s_B_gatherEvent [(21, .if_icmp .ne 42, 0, 63), (63, .iload_n 3, 0, 0), (64, .istore 5, 0, 0)] (by decide +kernel) (z' := (66, [(5, (vI l3)), (0, (vR 0 l0)), (1, (vI l1)), (2, (vI l2)), (3, (vI l3)), (4, (vI l4))], [], R, M, 174)) (cs := [l1 ≠ 2]) (by rfl) ⟨c_4, trivial⟩ (Nat.le_refl _) ?_
      refine XR.pick [1, 3, 5, 0] (ls' := [(0, (vR 0 l0)), (2, (vI l2)), (4, (vI l4)), (5, (vI l3))]) rfl ?_
      refine o_B_gatherEvent_F66  xfu l3 M _ h
set_option maxRecDepth 100000 in
set_option maxHeartbeats 4000000 in
theorem c_B_gatherEvent {sc : List Int} {R : xR} {M : xM} {l0 : Nat} {l1 : Int} {l2 : Int} {l3 : Int} {l4 : Int} {out : xM} (h : f_B_gatherEvent R l0 l1 l2 l3 l4 M = some out) : XC false 0 sc y_B_gatherEvent [(vR 0 l0), (vI l1), (vI l2), (vI l3), (vI l4)] R M 174 174 (none, R, out) := XC.of (by decide) (Nat.le_of_ble_eq_true rfl) (Nat.le_refl _) (Nat.le_refl _) (o_B_gatherEvent h)
def B_gather_J72 (R : xR) (l0 : Nat) (rc : Int → xM → Option xM) (q78 : xM → Option xM) (v1 : Int) (M : xM) : Option xM :=
  xl (w32 (v1 + 1)) fun v1_12 =>
  rc v1_12 M
def B_gather_F34 (R : xR) (l0 : Nat) (q78 : xM → Option xM) : Nat → Int → xM → Option xM
  | 0, _, _ => none
  | n + 1, v1, M =>
    if v1 < M l0 0 then
      xch (0 ≤ v1 ∧ v1 < 200) <|
      if M l0 11 < M (R l0 3) (Int.toNat v1) then
        B_gather_J72 R l0 (B_gather_F34 R l0 q78 n) q78 v1 M
      else
        xch (0 ≤ M (R l0 1) (Int.toNat v1) ∧ M (R l0 1) (Int.toNat v1) < 768) <|
        xl (xu M (R l0 14) (Int.toNat (M (R l0 1) (Int.toNat v1))) (M (R l0 2) (Int.toNat v1))) fun M_14 =>
        B_gather_J72 R l0 (B_gather_F34 R l0 q78 n) q78 v1 M_14
    else
      q78 M
def B_gather_J129 (R : xR) (l0 : Nat) (rc : Int → xM → Option xM) (q135 : xM → Option xM) (v1 : Int) (M : xM) : Option xM :=
  xl (w32 (v1 + 1)) fun v1_19 =>
  rc v1_19 M
def B_gather_F80 (R : xR) (l0 : Nat) (q135 : xM → Option xM) : Nat → Int → xM → Option xM
  | 0, _, _ => none
  | n + 1, v1, M =>
    if v1 < M l0 4 then
      xch (0 ≤ v1 ∧ v1 < 40) <|
      if M l0 11 < M (R l0 9) (Int.toNat v1) then
        B_gather_J129 R l0 (B_gather_F80 R l0 q135 n) q135 v1 M
      else
        xb1 (f_B_gatherEvent R l0 (M (R l0 5) (Int.toNat v1)) (M (R l0 6) (Int.toNat v1)) (M (R l0 7) (Int.toNat v1)) (M (R l0 8) (Int.toNat v1)) M) fun M_20 =>
        B_gather_J129 R l0 (B_gather_F80 R l0 q135 n) q135 v1 M_20
    else
      q135 M
def f_B_gather (R : xR) (l0 : Nat) (M : xM) : Option xM :=
  xb1 (f_J_fill_aIIV 23 (R l0 14) 0 M) fun M_1 =>
  xb1 (f_J_fill_aJJV 24 (R l0 15) 0 M_1) fun M_3 =>
  xb1 (f_J_fill_aJJV 24 (R l0 16) 0 M_3) fun M_5 =>
  xb1 (f_J_fill_aIIV 25 (R l0 17) 0 M_5) fun M_7 =>
  B_gather_F34 R l0
    (fun (M_15 : xM) =>
      B_gather_F80 R l0
        (fun (M_22 : xM) =>
          xl (xu M_22 l0 13 0) fun M_23 =>
          some (M_23))
        xfu 0 M_15)
    xfu 0 M_7
set_option maxRecDepth 100000 in
set_option maxHeartbeats 4000000 in
theorem s_B_gather {d : Nat} {sc : List Int} {z z' : xS} {out : xO} (qs : List xI) {cs : List Prop} (hq : qs.all (xqb 0 false y_B_gather.2.2.1 y_B_gather.2.1) = true) (h : xN false sc qs z = some (z', cs)) (hc : xAll cs) (hE : z'.2.2.2.2.2 ≤ 174) (k : XR false d 174 sc y_B_gather z' out) : XR false d 174 sc y_B_gather z out := XR.seg 0 false rfl (fun q => by cases q) qs hq h hc hE k
set_option maxRecDepth 100000 in
set_option maxHeartbeats 4000000 in
theorem o_B_gather_J72 {sc : List Int} {R : xR}   {l0 : Nat}  {rc : Int → xM → Option xM} {q78 : xM → Option xM} (hrc : ∀ (w1 : Int) (M : xM) (out : xM), rc w1 M = some out → XR false 1 174 sc y_B_gather (34, [(0, (vR 0 l0)), (1, (vI w1))], [], R, M, 174) (none, R, out)) (hq78 : ∀ (M : xM) (out : xM), q78 M = some out → XR false 1 174 sc y_B_gather (78, [(0, (vR 0 l0))], [], R, M, 174) (none, R, out)) {v1 : Int} {M : xM} {out : xM} (h : B_gather_J72 R l0 rc q78 v1 M = some out) : XR false 1 174 sc y_B_gather (72, [(0, (vR 0 l0)), (1, (vI v1))], [], R, M, 174) (none, R, out) := by
  unfold B_gather_J72 at h
  obtain ⟨v1_12, hv1_12, h⟩ := xl_ex h
  refine s_B_gather [(72, .iinc 1 1, 0, 0), (75, .goto (-41), 0, 34)] (by decide +kernel) (z' := (34, [(1, (vI v1_12)), (0, (vR 0 l0))], [], R, M, 174)) (cs := []) (by subst hv1_12; rfl) trivial (Nat.le_refl _) ?_
  refine XR.pick [1, 0] (ls' := [(0, (vR 0 l0)), (1, (vI v1_12))]) rfl ?_
  exact hrc v1_12 M _ h
set_option maxRecDepth 100000 in
set_option maxHeartbeats 4000000 in
theorem o_B_gather_F34 {sc : List Int} {R : xR}   {l0 : Nat}  {q78 : xM → Option xM} (hq78 : ∀ (M : xM) (out : xM), q78 M = some out → XR false 1 174 sc y_B_gather (78, [(0, (vR 0 l0))], [], R, M, 174) (none, R, out)) : ∀ (n : Nat) (v1 : Int) (M : xM) (out : xM), B_gather_F34 R l0 q78 n v1 M = some out → XR false 1 174 sc y_B_gather (34, [(0, (vR 0 l0)), (1, (vI v1))], [], R, M, 174) (none, R, out) := by
  intro n
  induction n with
  | zero => intro v1 M out h; exact (xno h).elim
  | succ n ih =>
    intro v1 M out h
    rw [B_gather_F34] at h
    refine s_B_gather [(34, .iload_n 1, 0, 0), (35, .aload_n 0, 0, 0), (36, .getfield 9, 0, 0)] (by decide +kernel) (z' := (39, [(0, (vR 0 l0)), (1, (vI v1))], [(vI (M l0 0)), (vI v1)], R, M, 174)) (cs := []) (by rfl) trivial (Nat.le_refl _) ?_
    rcases xif_ex h with ⟨c_9, h⟩ | ⟨c_9, h⟩
    · skip
      obtain ⟨c_10, h⟩ := xch_ex h
      refine s_B_gather [(39, .if_icmp .ge 39, 0, (-1)), (42, .aload_n 0, 0, 0), (43, .getfield 22, 0, 3), (46, .iload_n 1, 0, 0), (47, .iaload, 0, 0), (48, .aload_n 0, 0, 0), (49, .getfield 46, 0, 11)] (by decide +kernel) (z' := (52, [(0, (vR 0 l0)), (1, (vI v1))], [(vI (M l0 11)), (vI (M (R l0 3) (Int.toNat v1)))], R, M, 174)) (cs := [¬ (M l0 0 ≤ v1), xar 20 0, xidx v1 (xan 20)]) (by rfl) ⟨Int.not_le.mpr c_9, xar_20, xix_20 c_10, trivial⟩ (Nat.le_refl _) ?_
      rcases xif_ex h with ⟨c_11, h⟩ | ⟨c_11, h⟩
      · skip
        refine s_B_gather [(52, .if_icmp .gt 20, 0, 72)] (by decide +kernel) (z' := (72, [(0, (vR 0 l0)), (1, (vI v1))], [], R, M, 174)) (cs := [M l0 11 < M (R l0 3) (Int.toNat v1)]) (by rfl) ⟨c_11, trivial⟩ (Nat.le_refl _) ?_
        exact o_B_gather_J72 ih hq78 h
      · skip
        obtain ⟨c_13, h⟩ := xch_ex h
        obtain ⟨M_14, hM_14, h⟩ := xl_ex h
        refine s_B_gather [(52, .if_icmp .gt 20, 0, (-1)), (55, .aload_n 0, 0, 0), (56, .getfield 56, 0, 14), (59, .aload_n 0, 0, 0), (60, .getfield 15, 0, 1), (63, .iload_n 1, 0, 0), (64, .iaload, 0, 0), (65, .aload_n 0, 0, 0), (66, .getfield 19, 0, 2), (69, .iload_n 1, 0, 0), (70, .iaload, 0, 0), (71, .iastore, 0, 0)] (by decide +kernel) (z' := (72, [(0, (vR 0 l0)), (1, (vI v1))], [], R, M_14, 174)) (cs := [¬ (M l0 11 < M (R l0 3) (Int.toNat v1)), xar 20 0, xidx v1 (xan 20), xar 20 0, xidx v1 (xan 20), xar 23 0, xidx (M (R l0 1) (Int.toNat v1)) (xan 23)]) (by subst hM_14; rfl) ⟨c_11, xar_20, xix_20 c_10, xar_20, xix_20 c_10, xar_23, xix_23 c_13, trivial⟩ (Nat.le_refl _) ?_
        exact o_B_gather_J72 ih hq78 h
    · skip
      refine s_B_gather [(39, .if_icmp .ge 39, 0, 78)] (by decide +kernel) (z' := (78, [(0, (vR 0 l0)), (1, (vI v1))], [], R, M, 174)) (cs := [M l0 0 ≤ v1]) (by rfl) ⟨Int.not_lt.mp c_9, trivial⟩ (Nat.le_refl _) ?_
      refine XR.pick [0] (ls' := [(0, (vR 0 l0))]) rfl ?_
      exact hq78 M _ h
set_option maxRecDepth 100000 in
set_option maxHeartbeats 4000000 in
theorem o_B_gather_J129 {sc : List Int} {R : xR}   {l0 : Nat}  {rc : Int → xM → Option xM} {q135 : xM → Option xM} (hrc : ∀ (w1 : Int) (M : xM) (out : xM), rc w1 M = some out → XR false 1 174 sc y_B_gather (80, [(0, (vR 0 l0)), (1, (vI w1))], [], R, M, 174) (none, R, out)) (hq135 : ∀ (M : xM) (out : xM), q135 M = some out → XR false 1 174 sc y_B_gather (135, [(0, (vR 0 l0))], [], R, M, 174) (none, R, out)) {v1 : Int} {M : xM} {out : xM} (h : B_gather_J129 R l0 rc q135 v1 M = some out) : XR false 1 174 sc y_B_gather (129, [(0, (vR 0 l0)), (1, (vI v1))], [], R, M, 174) (none, R, out) := by
  unfold B_gather_J129 at h
  obtain ⟨v1_19, hv1_19, h⟩ := xl_ex h
  refine s_B_gather [(129, .iinc 1 1, 0, 0), (132, .goto (-52), 0, 80)] (by decide +kernel) (z' := (80, [(1, (vI v1_19)), (0, (vR 0 l0))], [], R, M, 174)) (cs := []) (by subst hv1_19; rfl) trivial (Nat.le_refl _) ?_
  refine XR.pick [1, 0] (ls' := [(0, (vR 0 l0)), (1, (vI v1_19))]) rfl ?_
  exact hrc v1_19 M _ h
set_option maxRecDepth 100000 in
set_option maxHeartbeats 4000000 in
theorem o_B_gather_F80 {sc : List Int} {R : xR}   {l0 : Nat}  {q135 : xM → Option xM} (hq135 : ∀ (M : xM) (out : xM), q135 M = some out → XR false 1 174 sc y_B_gather (135, [(0, (vR 0 l0))], [], R, M, 174) (none, R, out)) : ∀ (n : Nat) (v1 : Int) (M : xM) (out : xM), B_gather_F80 R l0 q135 n v1 M = some out → XR false 1 174 sc y_B_gather (80, [(0, (vR 0 l0)), (1, (vI v1))], [], R, M, 174) (none, R, out) := by
  intro n
  induction n with
  | zero => intro v1 M out h; exact (xno h).elim
  | succ n ih =>
    intro v1 M out h
    rw [B_gather_F80] at h
    refine s_B_gather [(80, .iload_n 1, 0, 0), (81, .aload_n 0, 0, 0), (82, .getfield 25, 0, 4)] (by decide +kernel) (z' := (85, [(0, (vR 0 l0)), (1, (vI v1))], [(vI (M l0 4)), (vI v1)], R, M, 174)) (cs := []) (by rfl) trivial (Nat.le_refl _) ?_
    rcases xif_ex h with ⟨c_16, h⟩ | ⟨c_16, h⟩
    · skip
      obtain ⟨c_17, h⟩ := xch_ex h
      refine s_B_gather [(85, .if_icmp .ge 50, 0, (-1)), (88, .aload_n 0, 0, 0), (89, .getfield 40, 0, 9), (92, .iload_n 1, 0, 0), (93, .iaload, 0, 0), (94, .aload_n 0, 0, 0), (95, .getfield 46, 0, 11)] (by decide +kernel) (z' := (98, [(0, (vR 0 l0)), (1, (vI v1))], [(vI (M l0 11)), (vI (M (R l0 9) (Int.toNat v1)))], R, M, 174)) (cs := [¬ (M l0 4 ≤ v1), xar 21 0, xidx v1 (xan 21)]) (by rfl) ⟨Int.not_le.mpr c_16, xar_21, xix_21 c_17, trivial⟩ (Nat.le_refl _) ?_
      rcases xif_ex h with ⟨c_18, h⟩ | ⟨c_18, h⟩
      · skip
        refine s_B_gather [(98, .if_icmp .gt 31, 0, 129)] (by decide +kernel) (z' := (129, [(0, (vR 0 l0)), (1, (vI v1))], [], R, M, 174)) (cs := [M l0 11 < M (R l0 9) (Int.toNat v1)]) (by rfl) ⟨c_18, trivial⟩ (Nat.le_refl _) ?_
        exact o_B_gather_J129 ih hq135 h
      · skip
        refine s_B_gather [(98, .if_icmp .gt 31, 0, (-1)), (101, .aload_n 0, 0, 0), (102, .aload_n 0, 0, 0), (103, .getfield 28, 0, 5), (106, .iload_n 1, 0, 0), (107, .iaload, 0, 0), (108, .aload_n 0, 0, 0), (109, .getfield 31, 0, 6), (112, .iload_n 1, 0, 0), (113, .iaload, 0, 0), (114, .aload_n 0, 0, 0), (115, .getfield 34, 0, 7), (118, .iload_n 1, 0, 0), (119, .iaload, 0, 0), (120, .aload_n 0, 0, 0), (121, .getfield 37, 0, 8), (124, .iload_n 1, 0, 0), (125, .iaload, 0, 0)] (by decide +kernel) (z' := (126, [(0, (vR 0 l0)), (1, (vI v1))], [(vI (M (R l0 8) (Int.toNat v1))), (vI (M (R l0 7) (Int.toNat v1))), (vI (M (R l0 6) (Int.toNat v1))), (vI (M (R l0 5) (Int.toNat v1))), (vR 0 l0)], R, M, 174)) (cs := [¬ (M l0 11 < M (R l0 9) (Int.toNat v1)), xar 21 0, xidx v1 (xan 21), xar 21 0, xidx v1 (xan 21), xar 21 0, xidx v1 (xan 21), xar 21 0, xidx v1 (xan 21)]) (by rfl) ⟨c_18, xar_21, xix_21 c_17, xar_21, xix_21 c_17, xar_21, xix_21 c_17, xar_21, xix_21 c_17, trivial⟩ (Nat.le_refl _) ?_
        obtain ⟨M_20, e_21, h⟩ := xb1_ex h
        refine XR.callV 0 rfl (rest := []) m_B_gatherEvent k_0_82 0 l0 (Or.inl ⟨by decide, rfl⟩) [(vI (M (R l0 5) (Int.toNat v1))), (vI (M (R l0 6) (Int.toNat v1))), (vI (M (R l0 7) (Int.toNat v1))), (vI (M (R l0 8) (Int.toNat v1)))] rfl rfl (c_B_gatherEvent e_21) (by decide) (Nat.le_of_ble_eq_true rfl) (by decide +kernel) (Nat.le_refl _) (Nat.le_refl _) ?_
        show XR false 1 174 sc y_B_gather (129, [(0, (vR 0 l0)), (1, (vI v1))], [], R, M_20, 174) _
        exact o_B_gather_J129 ih hq135 h
    · skip
      refine s_B_gather [(85, .if_icmp .ge 50, 0, 135)] (by decide +kernel) (z' := (135, [(0, (vR 0 l0)), (1, (vI v1))], [], R, M, 174)) (cs := [M l0 4 ≤ v1]) (by rfl) ⟨Int.not_lt.mp c_16, trivial⟩ (Nat.le_refl _) ?_
      refine XR.pick [0] (ls' := [(0, (vR 0 l0))]) rfl ?_
      exact hq135 M _ h
set_option maxRecDepth 100000 in
set_option maxHeartbeats 4000000 in
theorem o_B_gather {sc : List Int} {R : xR} {M : xM} {l0 : Nat} {out : xM} (h : f_B_gather R l0 M = some out) : XR false 1 174 sc y_B_gather (0, [(0, (vR 0 l0))], [], R, M, 174) (none, R, out) := by
  unfold f_B_gather at h
  refine s_B_gather [(0, .aload_n 0, 0, 0), (1, .getfield 56, 0, 14), (4, .iconst 0, 0, 0)] (by decide +kernel) (z' := (5, [(0, (vR 0 l0))], [(vI 0), (vR 23 (R l0 14))], R, M, 174)) (cs := []) (by rfl) trivial (Nat.le_refl _) ?_
  obtain ⟨M_1, e_2, h⟩ := xb1_ex h
  refine XR.callS 0 rfl (rest := []) m_J_fill_aIIV k_0_73 [(vR 23 (R l0 14)), (vI 0)] rfl rfl (c_J_fill_aIIV (xar_23) e_2) (by decide) (Nat.le_of_ble_eq_true rfl) (by decide +kernel) (Nat.le_refl _) (Nat.le_refl _) ?_
  show XR false 1 174 sc y_B_gather (8, [(0, (vR 0 l0))], [], R, M_1, 174) _
  refine s_B_gather [(8, .aload_n 0, 0, 0), (9, .getfield 59, 0, 15), (12, .lconst 0, 0, 0)] (by decide +kernel) (z' := (13, [(0, (vR 0 l0))], [(vL 0), (vR 24 (R l0 15))], R, M_1, 174)) (cs := []) (by rfl) trivial (Nat.le_refl _) ?_
  obtain ⟨M_3, e_4, h⟩ := xb1_ex h
  refine XR.callS 0 rfl (rest := []) m_J_fill_aJJV k_0_79 [(vR 24 (R l0 15)), (vL 0)] rfl rfl (c_J_fill_aJJV (xar_24) e_4) (by decide) (Nat.le_of_ble_eq_true rfl) (by decide +kernel) (Nat.le_refl _) (Nat.le_refl _) ?_
  show XR false 1 174 sc y_B_gather (16, [(0, (vR 0 l0))], [], R, M_3, 174) _
  refine s_B_gather [(16, .aload_n 0, 0, 0), (17, .getfield 63, 0, 16), (20, .lconst 0, 0, 0)] (by decide +kernel) (z' := (21, [(0, (vR 0 l0))], [(vL 0), (vR 24 (R l0 16))], R, M_3, 174)) (cs := []) (by rfl) trivial (Nat.le_refl _) ?_
  obtain ⟨M_5, e_6, h⟩ := xb1_ex h
  refine XR.callS 0 rfl (rest := []) m_J_fill_aJJV k_0_79 [(vR 24 (R l0 16)), (vL 0)] rfl rfl (c_J_fill_aJJV (xar_24) e_6) (by decide) (Nat.le_of_ble_eq_true rfl) (by decide +kernel) (Nat.le_refl _) (Nat.le_refl _) ?_
  show XR false 1 174 sc y_B_gather (24, [(0, (vR 0 l0))], [], R, M_5, 174) _
  refine s_B_gather [(24, .aload_n 0, 0, 0), (25, .getfield 66, 0, 17), (28, .iconst 0, 0, 0)] (by decide +kernel) (z' := (29, [(0, (vR 0 l0))], [(vI 0), (vR 25 (R l0 17))], R, M_5, 174)) (cs := []) (by rfl) trivial (Nat.le_refl _) ?_
  obtain ⟨M_7, e_8, h⟩ := xb1_ex h
  refine XR.callS 0 rfl (rest := []) m_J_fill_aIIV k_0_73 [(vR 25 (R l0 17)), (vI 0)] rfl rfl (c_J_fill_aIIV (xar_25) e_8) (by decide) (Nat.le_of_ble_eq_true rfl) (by decide +kernel) (Nat.le_refl _) (Nat.le_refl _) ?_
  show XR false 1 174 sc y_B_gather (32, [(0, (vR 0 l0))], [], R, M_7, 174) _
  refine s_B_gather [(32, .iconst 0, 0, 0), (33, .istore_n 1, 0, 0)] (by decide +kernel) (z' := (34, [(1, (vI 0)), (0, (vR 0 l0))], [], R, M_7, 174)) (cs := []) (by rfl) trivial (Nat.le_refl _) ?_
  refine XR.pick [1, 0] (ls' := [(0, (vR 0 l0)), (1, (vI 0))]) rfl ?_
  refine o_B_gather_F34 ?_ xfu 0 M_7 _ h
  · intro M_15 out h
    refine s_B_gather [(78, .iconst 0, 0, 0), (79, .istore_n 1, 0, 0)] (by decide +kernel) (z' := (80, [(1, (vI 0)), (0, (vR 0 l0))], [], R, M_15, 174)) (cs := []) (by rfl) trivial (Nat.le_refl _) ?_
    refine XR.pick [1, 0] (ls' := [(0, (vR 0 l0)), (1, (vI 0))]) rfl ?_
    refine o_B_gather_F80 ?_ xfu 0 M_15 _ h
    · intro M_22 out h
      obtain ⟨M_23, hM_23, h⟩ := xl_ex h
      refine s_B_gather [(135, .aload_n 0, 0, 0), (136, .iconst 0, 0, 0), (137, .putfield 52, 0, 13)] (by decide +kernel) (z' := (140, [(0, (vR 0 l0))], [], R, M_23, 174)) (cs := [(0 : Int) = 0 ∨ (0 : Int) = 1]) (by subst hM_23; rfl) ⟨by decide, trivial⟩ (Nat.le_refl _) ?_
      obtain rfl := Option.some.inj h
      exact XR.retV rfl (by decide +kernel)
set_option maxRecDepth 100000 in
set_option maxHeartbeats 4000000 in
theorem c_B_gather {sc : List Int} {R : xR} {M : xM} {l0 : Nat} {out : xM} (h : f_B_gather R l0 M = some out) : XC false 1 sc y_B_gather [(vR 0 l0)] R M 174 174 (none, R, out) := XC.of (by decide) (Nat.le_of_ble_eq_true rfl) (Nat.le_refl _) (Nat.le_refl _) (o_B_gather h)
def f_B_holesBy (R : xR) (l0 : Nat) (l1 : Int) (l2 : Int) (M : xM) : Option Int :=
  xch (0 ≤ w32 ((w32 (l1 * 48)) + l2) ∧ w32 ((w32 (l1 * 48)) + l2) < 384) <|
  some (M (R l0 17) (Int.toNat (w32 ((w32 (l1 * 48)) + l2))))
set_option maxRecDepth 100000 in
set_option maxHeartbeats 4000000 in
theorem s_B_holesBy {d : Nat} {sc : List Int} {z z' : xS} {out : xO} (qs : List xI) {cs : List Prop} (hq : qs.all (xqb 0 false y_B_holesBy.2.2.1 y_B_holesBy.2.1) = true) (h : xN false sc qs z = some (z', cs)) (hc : xAll cs) (hE : z'.2.2.2.2.2 ≤ 174) (k : XR false d 174 sc y_B_holesBy z' out) : XR false d 174 sc y_B_holesBy z out := XR.seg 0 false rfl (fun q => by cases q) qs hq h hc hE k
set_option maxRecDepth 100000 in
set_option maxHeartbeats 4000000 in
theorem o_B_holesBy {sc : List Int} {R : xR} {M : xM} {l0 : Nat} {l1 : Int} {l2 : Int} {out : Int} (h : f_B_holesBy R l0 l1 l2 M = some out) : XR false 0 174 sc y_B_holesBy (0, [(0, (vR 0 l0)), (1, (vI l1)), (2, (vI l2))], [], R, M, 174) ((some (vI out)), R, M) := by
  unfold f_B_holesBy at h
  obtain ⟨c_1, h⟩ := xch_ex h
  refine s_B_holesBy [(0, .aload_n 0, 0, 0), (1, .getfield 66, 0, 17), (4, .iload_n 1, 0, 0), (5, .bipush 48, 0, 48), (7, .imul, 0, 0), (8, .iload_n 2, 0, 0), (9, .iadd, 0, 0), (10, .iaload, 0, 0)] (by decide +kernel) (z' := (11, [(0, (vR 0 l0)), (1, (vI l1)), (2, (vI l2))], [(vI (M (R l0 17) (Int.toNat (w32 ((w32 (l1 * 48)) + l2)))))], R, M, 174)) (cs := [xar 25 0, xidx (w32 ((w32 (l1 * 48)) + l2)) (xan 25)]) (by rfl) ⟨xar_25, xix_25 c_1, trivial⟩ (Nat.le_refl _) ?_
  obtain rfl := Option.some.inj h
  exact XR.retI .int rfl rfl (by decide +kernel)
set_option maxRecDepth 100000 in
set_option maxHeartbeats 4000000 in
theorem c_B_holesBy {sc : List Int} {R : xR} {M : xM} {l0 : Nat} {l1 : Int} {l2 : Int} {out : Int} (h : f_B_holesBy R l0 l1 l2 M = some out) : XC false 0 sc y_B_holesBy [(vR 0 l0), (vI l1), (vI l2)] R M 174 174 ((some (vI out)), R, M) := XC.of (by decide) (Nat.le_of_ble_eq_true rfl) (Nat.le_refl _) (Nat.le_refl _) (o_B_holesBy h)
def f_B_isKnocked (R : xR) (l0 : Nat) (l1 : Int) (l2 : Int) (M : xM) : Option Int :=
  xch (0 ≤ l1 ∧ l1 < 8) <|
  if yand (yushr (M (R l0 15) (Int.toNat l1)) l2) 1 = 0 then
    some (0)
  else
    some (1)
set_option maxRecDepth 100000 in
set_option maxHeartbeats 4000000 in
theorem s_B_isKnocked {d : Nat} {sc : List Int} {z z' : xS} {out : xO} (qs : List xI) {cs : List Prop} (hq : qs.all (xqb 0 false y_B_isKnocked.2.2.1 y_B_isKnocked.2.1) = true) (h : xN false sc qs z = some (z', cs)) (hc : xAll cs) (hE : z'.2.2.2.2.2 ≤ 174) (k : XR false d 174 sc y_B_isKnocked z' out) : XR false d 174 sc y_B_isKnocked z out := XR.seg 0 false rfl (fun q => by cases q) qs hq h hc hE k
set_option maxRecDepth 100000 in
set_option maxHeartbeats 4000000 in
theorem o_B_isKnocked {sc : List Int} {R : xR} {M : xM} {l0 : Nat} {l1 : Int} {l2 : Int} {out : Int} (h : f_B_isKnocked R l0 l1 l2 M = some out) : XR false 0 174 sc y_B_isKnocked (0, [(0, (vR 0 l0)), (1, (vI l1)), (2, (vI l2))], [], R, M, 174) ((some (vI out)), R, M) := by
  unfold f_B_isKnocked at h
  obtain ⟨c_1, h⟩ := xch_ex h
  refine s_B_isKnocked [(0, .aload_n 0, 0, 0), (1, .getfield 59, 0, 15), (4, .iload_n 1, 0, 0), (5, .laload, 0, 0), (6, .iload_n 2, 0, 0), (7, .lushr, 0, 0), (8, .lconst 1, 0, 1), (9, .land, 0, 0), (10, .lconst 0, 0, 0), (11, .lcmp, 0, 0)] (by decide +kernel) (z' := (12, [(0, (vR 0 l0)), (1, (vI l1)), (2, (vI l2))], [(vI (xcmp (yand (yushr (M (R l0 15) (Int.toNat l1)) l2) 1) 0))], R, M, 174)) (cs := [xar 24 1, xidx l1 (xan 24)]) (by rfl) ⟨xar_24, xix_24 c_1, trivial⟩ (Nat.le_refl _) ?_
  rcases xif_ex h with ⟨c_2, h⟩ | ⟨c_2, h⟩
  · skip
    refine s_B_isKnocked [(12, .ifCond .eq 7, 0, 19), (19, .iconst 0, 0, 0)] (by decide +kernel) (z' := (20, [(0, (vR 0 l0)), (1, (vI l1)), (2, (vI l2))], [(vI 0)], R, M, 174)) (cs := [xcmp (yand (yushr (M (R l0 15) (Int.toNat l1)) l2) 1) 0 = 0]) (by rfl) ⟨xcmp_eq.mpr c_2, trivial⟩ (Nat.le_refl _) ?_
    obtain rfl := Option.some.inj h
    exact XR.retI .boolean rfl (xnar_z (by decide)) (by decide +kernel)
  · skip
    refine s_B_isKnocked [(12, .ifCond .eq 7, 0, (-1)), (15, .iconst 1, 0, 1), (16, .goto 4, 0, 20)] (by decide +kernel) (z' := (20, [(0, (vR 0 l0)), (1, (vI l1)), (2, (vI l2))], [(vI 1)], R, M, 174)) (cs := [¬ (xcmp (yand (yushr (M (R l0 15) (Int.toNat l1)) l2) 1) 0 = 0)]) (by rfl) ⟨fun q => c_2 (xcmp_eq.mp q), trivial⟩ (Nat.le_refl _) ?_
    obtain rfl := Option.some.inj h
    exact XR.retI .boolean rfl (xnar_z (by decide)) (by decide +kernel)
set_option maxRecDepth 100000 in
set_option maxHeartbeats 4000000 in
theorem c_B_isKnocked {sc : List Int} {R : xR} {M : xM} {l0 : Nat} {l1 : Int} {l2 : Int} {out : Int} (h : f_B_isKnocked R l0 l1 l2 M = some out) : XC false 0 sc y_B_isKnocked [(vR 0 l0), (vI l1), (vI l2)] R M 174 174 ((some (vI out)), R, M) := XC.of (by decide) (Nat.le_of_ble_eq_true rfl) (Nat.le_refl _) (Nat.le_refl _) (o_B_isKnocked h)
def f_B_isOff (R : xR) (l0 : Nat) (l1 : Int) (l2 : Int) (M : xM) : Option Int :=
  xch (0 ≤ l1 ∧ l1 < 8) <|
  if yand (yushr (M (R l0 16) (Int.toNat l1)) l2) 1 = 0 then
    some (0)
  else
    some (1)
set_option maxRecDepth 100000 in
set_option maxHeartbeats 4000000 in
theorem s_B_isOff {d : Nat} {sc : List Int} {z z' : xS} {out : xO} (qs : List xI) {cs : List Prop} (hq : qs.all (xqb 0 false y_B_isOff.2.2.1 y_B_isOff.2.1) = true) (h : xN false sc qs z = some (z', cs)) (hc : xAll cs) (hE : z'.2.2.2.2.2 ≤ 174) (k : XR false d 174 sc y_B_isOff z' out) : XR false d 174 sc y_B_isOff z out := XR.seg 0 false rfl (fun q => by cases q) qs hq h hc hE k
set_option maxRecDepth 100000 in
set_option maxHeartbeats 4000000 in
theorem o_B_isOff {sc : List Int} {R : xR} {M : xM} {l0 : Nat} {l1 : Int} {l2 : Int} {out : Int} (h : f_B_isOff R l0 l1 l2 M = some out) : XR false 0 174 sc y_B_isOff (0, [(0, (vR 0 l0)), (1, (vI l1)), (2, (vI l2))], [], R, M, 174) ((some (vI out)), R, M) := by
  unfold f_B_isOff at h
  obtain ⟨c_1, h⟩ := xch_ex h
  refine s_B_isOff [(0, .aload_n 0, 0, 0), (1, .getfield 63, 0, 16), (4, .iload_n 1, 0, 0), (5, .laload, 0, 0), (6, .iload_n 2, 0, 0), (7, .lushr, 0, 0), (8, .lconst 1, 0, 1), (9, .land, 0, 0), (10, .lconst 0, 0, 0), (11, .lcmp, 0, 0)] (by decide +kernel) (z' := (12, [(0, (vR 0 l0)), (1, (vI l1)), (2, (vI l2))], [(vI (xcmp (yand (yushr (M (R l0 16) (Int.toNat l1)) l2) 1) 0))], R, M, 174)) (cs := [xar 24 1, xidx l1 (xan 24)]) (by rfl) ⟨xar_24, xix_24 c_1, trivial⟩ (Nat.le_refl _) ?_
  rcases xif_ex h with ⟨c_2, h⟩ | ⟨c_2, h⟩
  · skip
    refine s_B_isOff [(12, .ifCond .eq 7, 0, 19), (19, .iconst 0, 0, 0)] (by decide +kernel) (z' := (20, [(0, (vR 0 l0)), (1, (vI l1)), (2, (vI l2))], [(vI 0)], R, M, 174)) (cs := [xcmp (yand (yushr (M (R l0 16) (Int.toNat l1)) l2) 1) 0 = 0]) (by rfl) ⟨xcmp_eq.mpr c_2, trivial⟩ (Nat.le_refl _) ?_
    obtain rfl := Option.some.inj h
    exact XR.retI .boolean rfl (xnar_z (by decide)) (by decide +kernel)
  · skip
    refine s_B_isOff [(12, .ifCond .eq 7, 0, (-1)), (15, .iconst 1, 0, 1), (16, .goto 4, 0, 20)] (by decide +kernel) (z' := (20, [(0, (vR 0 l0)), (1, (vI l1)), (2, (vI l2))], [(vI 1)], R, M, 174)) (cs := [¬ (xcmp (yand (yushr (M (R l0 16) (Int.toNat l1)) l2) 1) 0 = 0)]) (by rfl) ⟨fun q => c_2 (xcmp_eq.mp q), trivial⟩ (Nat.le_refl _) ?_
    obtain rfl := Option.some.inj h
    exact XR.retI .boolean rfl (xnar_z (by decide)) (by decide +kernel)
set_option maxRecDepth 100000 in
set_option maxHeartbeats 4000000 in
theorem c_B_isOff {sc : List Int} {R : xR} {M : xM} {l0 : Nat} {l1 : Int} {l2 : Int} {out : Int} (h : f_B_isOff R l0 l1 l2 M = some out) : XC false 0 sc y_B_isOff [(vR 0 l0), (vI l1), (vI l2)] R M 174 174 ((some (vI out)), R, M) := XC.of (by decide) (Nat.le_of_ble_eq_true rfl) (Nat.le_refl _) (Nat.le_refl _) (o_B_isOff h)
def f_B_rowStatus (l0 : Nat) (l1 : Int) (M : xM) : Option Int :=
  if M l0 0 < 200 then
    xb1 (f_B_addStatus l0 0 l1 M) fun r_2 =>
    some (r_2)
  else
    xb1 (f_B_addStatus l0 1 l1 M) fun r_4 =>
    some (r_4)
set_option maxRecDepth 100000 in
set_option maxHeartbeats 4000000 in
theorem s_B_rowStatus {d : Nat} {sc : List Int} {z z' : xS} {out : xO} (qs : List xI) {cs : List Prop} (hq : qs.all (xqb 0 false y_B_rowStatus.2.2.1 y_B_rowStatus.2.1) = true) (h : xN false sc qs z = some (z', cs)) (hc : xAll cs) (hE : z'.2.2.2.2.2 ≤ 174) (k : XR false d 174 sc y_B_rowStatus z' out) : XR false d 174 sc y_B_rowStatus z out := XR.seg 0 false rfl (fun q => by cases q) qs hq h hc hE k
set_option maxRecDepth 100000 in
set_option maxHeartbeats 4000000 in
theorem o_B_rowStatus {sc : List Int} {R : xR} {M : xM} {l0 : Nat} {l1 : Int} {out : Int} (h : f_B_rowStatus l0 l1 M = some out) : XR false 1 174 sc y_B_rowStatus (0, [(0, (vR 0 l0)), (1, (vI l1))], [], R, M, 174) ((some (vI out)), R, M) := by
  unfold f_B_rowStatus at h
  refine s_B_rowStatus [(0, .aload_n 0, 0, 0), (1, .aload_n 0, 0, 0), (2, .getfield 9, 0, 0), (5, .sipush 200, 0, 200)] (by decide +kernel) (z' := (8, [(0, (vR 0 l0)), (1, (vI l1))], [(vI 200), (vI (M l0 0)), (vR 0 l0)], R, M, 174)) (cs := []) (by rfl) trivial (Nat.le_refl _) ?_
  rcases xif_ex h with ⟨c_1, h⟩ | ⟨c_1, h⟩
  · skip
    refine s_B_rowStatus [(8, .if_icmp .lt 7, 0, 15), (15, .iconst 0, 0, 0), (16, .iload_n 1, 0, 0)] (by decide +kernel) (z' := (17, [(0, (vR 0 l0)), (1, (vI l1))], [(vI l1), (vI 0), (vR 0 l0)], R, M, 174)) (cs := [M l0 0 < 200]) (by rfl) ⟨c_1, trivial⟩ (Nat.le_refl _) ?_
    obtain ⟨r_2, e_3, h⟩ := xb1_ex h
    refine XR.callV 0 rfl (rest := []) m_B_addStatus k_0_69 0 l0 (Or.inl ⟨by decide, rfl⟩) [(vI 0), (vI l1)] rfl rfl (c_B_addStatus e_3) (by decide) (Nat.le_of_ble_eq_true rfl) (by decide +kernel) (Nat.le_refl _) (Nat.le_refl _) ?_
    show XR false 1 174 sc y_B_rowStatus (20, [(0, (vR 0 l0)), (1, (vI l1))], [(vI r_2)], R, M, 174) _
    obtain rfl := Option.some.inj h
    exact XR.retI .int rfl rfl (by decide +kernel)
  · skip
    refine s_B_rowStatus [(8, .if_icmp .lt 7, 0, (-1)), (11, .iconst 1, 0, 1), (12, .goto 4, 0, 16), (16, .iload_n 1, 0, 0)] (by decide +kernel) (z' := (17, [(0, (vR 0 l0)), (1, (vI l1))], [(vI l1), (vI 1), (vR 0 l0)], R, M, 174)) (cs := [¬ (M l0 0 < 200)]) (by rfl) ⟨c_1, trivial⟩ (Nat.le_refl _) ?_
    obtain ⟨r_4, e_5, h⟩ := xb1_ex h
    refine XR.callV 0 rfl (rest := []) m_B_addStatus k_0_69 0 l0 (Or.inl ⟨by decide, rfl⟩) [(vI 1), (vI l1)] rfl rfl (c_B_addStatus e_5) (by decide) (Nat.le_of_ble_eq_true rfl) (by decide +kernel) (Nat.le_refl _) (Nat.le_refl _) ?_
    show XR false 1 174 sc y_B_rowStatus (20, [(0, (vR 0 l0)), (1, (vI l1))], [(vI r_4)], R, M, 174) _
    obtain rfl := Option.some.inj h
    exact XR.retI .int rfl rfl (by decide +kernel)
set_option maxRecDepth 100000 in
set_option maxHeartbeats 4000000 in
theorem c_B_rowStatus {sc : List Int} {R : xR} {M : xM} {l0 : Nat} {l1 : Int} {out : Int} (h : f_B_rowStatus l0 l1 M = some out) : XC false 1 sc y_B_rowStatus [(vR 0 l0), (vI l1)] R M 174 174 ((some (vI out)), R, M) := XC.of (by decide) (Nat.le_of_ble_eq_true rfl) (Nat.le_refl _) (Nat.le_refl _) (o_B_rowStatus h)
def f_B_setAsOf (l0 : Nat) (l1 : Int) (M : xM) : Option xM :=
  xl (xu M l0 11 l1) fun M_1 =>
  xl (xu M_1 l0 13 1) fun M_2 =>
  some (M_2)
set_option maxRecDepth 100000 in
set_option maxHeartbeats 4000000 in
theorem s_B_setAsOf {d : Nat} {sc : List Int} {z z' : xS} {out : xO} (qs : List xI) {cs : List Prop} (hq : qs.all (xqb 0 false y_B_setAsOf.2.2.1 y_B_setAsOf.2.1) = true) (h : xN false sc qs z = some (z', cs)) (hc : xAll cs) (hE : z'.2.2.2.2.2 ≤ 174) (k : XR false d 174 sc y_B_setAsOf z' out) : XR false d 174 sc y_B_setAsOf z out := XR.seg 0 false rfl (fun q => by cases q) qs hq h hc hE k
set_option maxRecDepth 100000 in
set_option maxHeartbeats 4000000 in
theorem o_B_setAsOf {sc : List Int} {R : xR} {M : xM} {l0 : Nat} {l1 : Int} {out : xM} (h : f_B_setAsOf l0 l1 M = some out) : XR false 0 174 sc y_B_setAsOf (0, [(0, (vR 0 l0)), (1, (vI l1))], [], R, M, 174) (none, R, out) := by
  unfold f_B_setAsOf at h
  obtain ⟨M_1, hM_1, h⟩ := xl_ex h
  obtain ⟨M_2, hM_2, h⟩ := xl_ex h
  refine s_B_setAsOf [(0, .aload_n 0, 0, 0), (1, .iload_n 1, 0, 0), (2, .putfield 46, 0, 11), (5, .aload_n 0, 0, 0), (6, .iconst 1, 0, 1), (7, .putfield 52, 0, 13)] (by decide +kernel) (z' := (10, [(0, (vR 0 l0)), (1, (vI l1))], [], R, M_2, 174)) (cs := [(1 : Int) = 0 ∨ (1 : Int) = 1]) (by subst hM_1; subst hM_2; rfl) ⟨by decide, trivial⟩ (Nat.le_refl _) ?_
  obtain rfl := Option.some.inj h
  exact XR.retV rfl (by decide +kernel)
set_option maxRecDepth 100000 in
set_option maxHeartbeats 4000000 in
theorem c_B_setAsOf {sc : List Int} {R : xR} {M : xM} {l0 : Nat} {l1 : Int} {out : xM} (h : f_B_setAsOf l0 l1 M = some out) : XC false 0 sc y_B_setAsOf [(vR 0 l0), (vI l1)] R M 174 174 (none, R, out) := XC.of (by decide) (Nat.le_of_ble_eq_true rfl) (Nat.le_refl _) (Nat.le_refl _) (o_B_setAsOf h)
def f_B_setWarmth (R : xR) (l0 : Nat) (l1 : Int) (l2 : Int) (M : xM) : Option xM :=
  xch (0 ≤ l1 ∧ l1 < 48) <|
  xl (xu M (R l0 12) (Int.toNat l1) l2) fun M_2 =>
  xl (xu M_2 l0 13 1) fun M_3 =>
  some (M_3)
set_option maxRecDepth 100000 in
set_option maxHeartbeats 4000000 in
theorem s_B_setWarmth {d : Nat} {sc : List Int} {z z' : xS} {out : xO} (qs : List xI) {cs : List Prop} (hq : qs.all (xqb 0 false y_B_setWarmth.2.2.1 y_B_setWarmth.2.1) = true) (h : xN false sc qs z = some (z', cs)) (hc : xAll cs) (hE : z'.2.2.2.2.2 ≤ 174) (k : XR false d 174 sc y_B_setWarmth z' out) : XR false d 174 sc y_B_setWarmth z out := XR.seg 0 false rfl (fun q => by cases q) qs hq h hc hE k
set_option maxRecDepth 100000 in
set_option maxHeartbeats 4000000 in
theorem o_B_setWarmth {sc : List Int} {R : xR} {M : xM} {l0 : Nat} {l1 : Int} {l2 : Int} {out : xM} (h : f_B_setWarmth R l0 l1 l2 M = some out) : XR false 0 174 sc y_B_setWarmth (0, [(0, (vR 0 l0)), (1, (vI l1)), (2, (vI l2))], [], R, M, 174) (none, R, out) := by
  unfold f_B_setWarmth at h
  obtain ⟨c_1, h⟩ := xch_ex h
  obtain ⟨M_2, hM_2, h⟩ := xl_ex h
  obtain ⟨M_3, hM_3, h⟩ := xl_ex h
  refine s_B_setWarmth [(0, .aload_n 0, 0, 0), (1, .getfield 49, 0, 12), (4, .iload_n 1, 0, 0), (5, .iload_n 2, 0, 0), (6, .iastore, 0, 0), (7, .aload_n 0, 0, 0), (8, .iconst 1, 0, 1), (9, .putfield 52, 0, 13)] (by decide +kernel) (z' := (12, [(0, (vR 0 l0)), (1, (vI l1)), (2, (vI l2))], [], R, M_3, 174)) (cs := [xar 22 0, xidx l1 (xan 22), (1 : Int) = 0 ∨ (1 : Int) = 1]) (by subst hM_2; subst hM_3; rfl) ⟨xar_22, xix_22 c_1, by decide, trivial⟩ (Nat.le_refl _) ?_
  obtain rfl := Option.some.inj h
  exact XR.retV rfl (by decide +kernel)
set_option maxRecDepth 100000 in
set_option maxHeartbeats 4000000 in
theorem c_B_setWarmth {sc : List Int} {R : xR} {M : xM} {l0 : Nat} {l1 : Int} {l2 : Int} {out : xM} (h : f_B_setWarmth R l0 l1 l2 M = some out) : XC false 0 sc y_B_setWarmth [(vR 0 l0), (vI l1), (vI l2)] R M 174 174 (none, R, out) := XC.of (by decide) (Nat.le_of_ble_eq_true rfl) (Nat.le_refl _) (Nat.le_refl _) (o_B_setWarmth h)
def T_share_F20 (R : xR) (l0 : Nat) (l1 : Int) (l3 : Int) (l4 : Int) (q81 : Int → xM → Option xM) : Nat → Int → Int → xM → Option xM
  | 0, _, _, _ => none
  | n + 1, v6, v8, M =>
    if v8 < l3 then
      xch (0 ≤ v8 ∧ v8 < 8) <|
      xl (w64 (l1 * (M (R l0 0) (Int.toNat v8)))) fun v9_5 =>
      xch (l4 ≠ 0) <|
      xl (xu M (R l0 1) (Int.toNat v8) (w32 (w64 (Int.tdiv v9_5 l4)))) fun M_7 =>
      xl (xu M_7 (R l0 2) (Int.toNat v8) (Int.tmod v9_5 l4)) fun M_8 =>
      xl (w64 (v6 - (M_8 (R l0 1) (Int.toNat v8)))) fun v6_9 =>
      xl (w32 (v8 + 1)) fun v8_10 =>
      T_share_F20 R l0 l1 l3 l4 q81 n v6_9 v8_10 M_8
    else
      q81 v6 M
def T_share_J131 (R : xR) (l0 : Nat) (l3 : Int) (rc : Int → Int → Int → Int → xM → Option xM) (q137 : Int → Int → Int → xM → Option xM) (v6 : Int) (v8 : Int) (v9 : Int) (v10 : Int) (M : xM) : Option xM :=
  xl (w32 (v10 + 1)) fun v10_19 =>
  rc v6 v8 v9 v10_19 M
def T_share_F103 (R : xR) (l0 : Nat) (l3 : Int) (q137 : Int → Int → Int → xM → Option xM) : Nat → Int → Int → Int → Int → xM → Option xM
  | 0, _, _, _, _, _ => none
  | n + 1, v6, v8, v9, v10, M =>
    if v10 < l3 then
      xch (0 ≤ v10 ∧ v10 < 8) <|
      xch (0 ≤ v9 ∧ v9 < 8) <|
      if M (R l0 2) (Int.toNat v9) < M (R l0 2) (Int.toNat v10) then
        T_share_J131 R l0 l3 (T_share_F103 R l0 l3 q137 n) q137 v6 v8 v10 v10 M
      else
        T_share_J131 R l0 l3 (T_share_F103 R l0 l3 q137 n) q137 v6 v8 v9 v10 M
    else
      q137 v6 v8 v9 M
def T_share_F84 (R : xR) (l0 : Nat) (l3 : Int) : Nat → Int → Int → xM → Option xM
  | 0, _, _, _ => none
  | n + 1, v6, v8, M =>
    if v8 < l3 then
      if 0 < v6 then
        T_share_F103 R l0 l3
          (fun (v6_20 : Int) (v8_21 : Int) (v9_22 : Int) (M_23 : xM) =>
            xch (0 ≤ v9_22 ∧ v9_22 < 8) <|
            xl (xu M_23 (R l0 1) (Int.toNat v9_22) (w32 ((M_23 (R l0 1) (Int.toNat v9_22)) + 1))) fun M_25 =>
            xl (xu M_25 (R l0 2) (Int.toNat v9_22) (-1)) fun M_26 =>
            xl (w64 (v6_20 - 1)) fun v6_27 =>
            xl (w32 (v8_21 + 1)) fun v8_28 =>
            T_share_F84 R l0 l3  n v6_27 v8_28 M_26)
          xfu v6 v8 0 1 M
      else
        some (M)
    else
      some (M)
def f_T_share (R : xR) (l0 : Nat) (l1 : Int) (l3 : Int) (l4 : Int) (M : xM) : Option xM :=
  if 0 < l4 then
    if 8 < l3 then
      some (M)
    else
      T_share_F20 R l0 l1 l3 l4
        (fun (v6_11 : Int) (M_12 : xM) =>
          T_share_F84 R l0 l3
            xfu v6_11 0 M_12)
        xfu l1 0 M
  else
    some (M)
set_option maxRecDepth 100000 in
set_option maxHeartbeats 4000000 in
theorem s_T_share {d : Nat} {sc : List Int} {z z' : xS} {out : xO} (qs : List xI) {cs : List Prop} (hq : qs.all (xqb 5 false y_T_share.2.2.1 y_T_share.2.1) = true) (h : xN false sc qs z = some (z', cs)) (hc : xAll cs) (hE : z'.2.2.2.2.2 ≤ 174) (k : XR false d 174 sc y_T_share z' out) : XR false d 174 sc y_T_share z out := XR.seg 5 false rfl (fun q => by cases q) qs hq h hc hE k
set_option maxRecDepth 100000 in
set_option maxHeartbeats 4000000 in
theorem o_T_share_F20 {sc : List Int} {R : xR}   {l0 : Nat} {l1 : Int} {l3 : Int} {l4 : Int}  {q81 : Int → xM → Option xM} (hq81 : ∀ (w6 : Int) (M : xM) (out : xM), q81 w6 M = some out → XR false 0 174 sc y_T_share (81, [(0, (vR 5 l0)), (3, (vI l3)), (6, (vL w6))], [], R, M, 174) (none, R, out)) : ∀ (n : Nat) (v6 : Int) (v8 : Int) (M : xM) (out : xM), T_share_F20 R l0 l1 l3 l4 q81 n v6 v8 M = some out → XR false 0 174 sc y_T_share (20, [(0, (vR 5 l0)), (1, (vL l1)), (3, (vI l3)), (4, (vL l4)), (6, (vL v6)), (8, (vI v8))], [], R, M, 174) (none, R, out) := by
  intro n
  induction n with
  | zero => intro v6 v8 M out h; exact (xno h).elim
  | succ n ih =>
    intro v6 v8 M out h
    rw [T_share_F20] at h
    refine s_T_share [(20, .iload 8, 0, 0), (22, .iload_n 3, 0, 0)] (by decide +kernel) (z' := (23, [(0, (vR 5 l0)), (1, (vL l1)), (3, (vI l3)), (4, (vL l4)), (6, (vL v6)), (8, (vI v8))], [(vI l3), (vI v8)], R, M, 174)) (cs := []) (by rfl) trivial (Nat.le_refl _) ?_
    rcases xif_ex h with ⟨c_3, h⟩ | ⟨c_3, h⟩
    · skip
      obtain ⟨c_4, h⟩ := xch_ex h
      obtain ⟨v9_5, hv9_5, h⟩ := xl_ex h
      obtain ⟨c_6, h⟩ := xch_ex h
      obtain ⟨M_7, hM_7, h⟩ := xl_ex h
      obtain ⟨M_8, hM_8, h⟩ := xl_ex h
      obtain ⟨v6_9, hv6_9, h⟩ := xl_ex h
      obtain ⟨v8_10, hv8_10, h⟩ := xl_ex h
      refine s_T_share [(23, .if_icmp .ge 58, 0, (-1)), (26, .lload_n 1, 0, 0), (27, .aload_n 0, 0, 0), (28, .getfield 9, 5, 0), (31, .iload 8, 0, 0), (33, .laload, 0, 0), (34, .lmul, 0, 0), (35, .lstore 9, 0, 0), (37, .aload_n 0, 0, 0), (38, .getfield 15, 5, 1), (41, .iload 8, 0, 0), (43, .lload 9, 0, 0), (45, .lload 4, 0, 0), (47, .ldiv, 0, 0), (48, .l2i, 0, 0), (49, .iastore, 0, 0), (50, .aload_n 0, 0, 0), (51, .getfield 19, 5, 2), (54, .iload 8, 0, 0), (56, .lload 9, 0, 0), (58, .lload 4, 0, 0), (60, .lrem, 0, 0), (61, .lastore, 0, 0), (62, .lload 6, 0, 0), (64, .aload_n 0, 0, 0), (65, .getfield 15, 5, 1), (68, .iload 8, 0, 0), (70, .iaload, 0, 0), (71, .i2l, 0, 0), (72, .lsub, 0, 0), (73, .lstore 6, 0, 0), (75, .iinc 8 1, 0, 0), (78, .goto (-58), 0, 20)] (by decide +kernel) (z' := (20, [(8, (vI v8_10)), (6, (vL v6_9)), (9, (vL v9_5)), (0, (vR 5 l0)), (1, (vL l1)), (3, (vI l3)), (4, (vL l4))], [], R, M_8, 174)) (cs := [¬ (l3 ≤ v8), xar 24 1, xidx v8 (xan 24), l4 ≠ 0, xar 30 0, xidx v8 (xan 30), l4 ≠ 0, xar 24 1, xidx v8 (xan 24), xar 30 0, xidx v8 (xan 30)]) (by subst hv9_5; subst hM_7; subst hM_8; subst hv6_9; subst hv8_10; rfl) ⟨Int.not_le.mpr c_3, xar_24, xix_24 c_4, c_6, xar_30, xix_30 c_4, c_6, xar_24, xix_24 c_4, xar_30, xix_30 c_4, trivial⟩ (Nat.le_refl _) ?_
      refine XR.pick [3, 4, 5, 6, 1, 0] (ls' := [(0, (vR 5 l0)), (1, (vL l1)), (3, (vI l3)), (4, (vL l4)), (6, (vL v6_9)), (8, (vI v8_10))]) rfl ?_
      exact ih v6_9 v8_10 M_8 _ h
    · skip
      refine s_T_share [(23, .if_icmp .ge 58, 0, 81)] (by decide +kernel) (z' := (81, [(0, (vR 5 l0)), (1, (vL l1)), (3, (vI l3)), (4, (vL l4)), (6, (vL v6)), (8, (vI v8))], [], R, M, 174)) (cs := [l3 ≤ v8]) (by rfl) ⟨Int.not_lt.mp c_3, trivial⟩ (Nat.le_refl _) ?_
      refine XR.pick [0, 2, 4] (ls' := [(0, (vR 5 l0)), (3, (vI l3)), (6, (vL v6))]) rfl ?_
      exact hq81 v6 M _ h
set_option maxRecDepth 100000 in
set_option maxHeartbeats 4000000 in
theorem o_T_share_J131 {sc : List Int} {R : xR}   {l0 : Nat} {l3 : Int}  {rc : Int → Int → Int → Int → xM → Option xM} {q137 : Int → Int → Int → xM → Option xM} (hrc : ∀ (w6 : Int) (w8 : Int) (w9 : Int) (w10 : Int) (M : xM) (out : xM), rc w6 w8 w9 w10 M = some out → XR false 0 174 sc y_T_share (103, [(0, (vR 5 l0)), (3, (vI l3)), (6, (vL w6)), (8, (vI w8)), (9, (vI w9)), (10, (vI w10))], [], R, M, 174) (none, R, out)) (hq137 : ∀ (w6 : Int) (w8 : Int) (w9 : Int) (M : xM) (out : xM), q137 w6 w8 w9 M = some out → XR false 0 174 sc y_T_share (137, [(0, (vR 5 l0)), (3, (vI l3)), (6, (vL w6)), (8, (vI w8)), (9, (vI w9))], [], R, M, 174) (none, R, out)) {v6 : Int} {v8 : Int} {v9 : Int} {v10 : Int} {M : xM} {out : xM} (h : T_share_J131 R l0 l3 rc q137 v6 v8 v9 v10 M = some out) : XR false 0 174 sc y_T_share (131, [(0, (vR 5 l0)), (3, (vI l3)), (6, (vL v6)), (8, (vI v8)), (9, (vI v9)), (10, (vI v10))], [], R, M, 174) (none, R, out) := by
  unfold T_share_J131 at h
  obtain ⟨v10_19, hv10_19, h⟩ := xl_ex h
  refine s_T_share [(131, .iinc 10 1, 0, 0), (134, .goto (-31), 0, 103)] (by decide +kernel) (z' := (103, [(10, (vI v10_19)), (0, (vR 5 l0)), (3, (vI l3)), (6, (vL v6)), (8, (vI v8)), (9, (vI v9))], [], R, M, 174)) (cs := []) (by subst hv10_19; rfl) trivial (Nat.le_refl _) ?_
  refine XR.pick [1, 2, 3, 4, 5, 0] (ls' := [(0, (vR 5 l0)), (3, (vI l3)), (6, (vL v6)), (8, (vI v8)), (9, (vI v9)), (10, (vI v10_19))]) rfl ?_
  exact hrc v6 v8 v9 v10_19 M _ h
set_option maxRecDepth 100000 in
set_option maxHeartbeats 4000000 in
theorem o_T_share_F103 {sc : List Int} {R : xR}   {l0 : Nat} {l3 : Int}  {q137 : Int → Int → Int → xM → Option xM} (hq137 : ∀ (w6 : Int) (w8 : Int) (w9 : Int) (M : xM) (out : xM), q137 w6 w8 w9 M = some out → XR false 0 174 sc y_T_share (137, [(0, (vR 5 l0)), (3, (vI l3)), (6, (vL w6)), (8, (vI w8)), (9, (vI w9))], [], R, M, 174) (none, R, out)) : ∀ (n : Nat) (v6 : Int) (v8 : Int) (v9 : Int) (v10 : Int) (M : xM) (out : xM), T_share_F103 R l0 l3 q137 n v6 v8 v9 v10 M = some out → XR false 0 174 sc y_T_share (103, [(0, (vR 5 l0)), (3, (vI l3)), (6, (vL v6)), (8, (vI v8)), (9, (vI v9)), (10, (vI v10))], [], R, M, 174) (none, R, out) := by
  intro n
  induction n with
  | zero => intro v6 v8 v9 v10 M out h; exact (xno h).elim
  | succ n ih =>
    intro v6 v8 v9 v10 M out h
    rw [T_share_F103] at h
    refine s_T_share [(103, .iload 10, 0, 0), (105, .iload_n 3, 0, 0)] (by decide +kernel) (z' := (106, [(0, (vR 5 l0)), (3, (vI l3)), (6, (vL v6)), (8, (vI v8)), (9, (vI v9)), (10, (vI v10))], [(vI l3), (vI v10)], R, M, 174)) (cs := []) (by rfl) trivial (Nat.le_refl _) ?_
    rcases xif_ex h with ⟨c_15, h⟩ | ⟨c_15, h⟩
    · skip
      obtain ⟨c_16, h⟩ := xch_ex h
      obtain ⟨c_17, h⟩ := xch_ex h
      refine s_T_share [(106, .if_icmp .ge 31, 0, (-1)), (109, .aload_n 0, 0, 0), (110, .getfield 19, 5, 2), (113, .iload 10, 0, 0), (115, .laload, 0, 0), (116, .aload_n 0, 0, 0), (117, .getfield 19, 5, 2), (120, .iload 9, 0, 0), (122, .laload, 0, 0), (123, .lcmp, 0, 0)] (by decide +kernel) (z' := (124, [(0, (vR 5 l0)), (3, (vI l3)), (6, (vL v6)), (8, (vI v8)), (9, (vI v9)), (10, (vI v10))], [(vI (xcmp (M (R l0 2) (Int.toNat v10)) (M (R l0 2) (Int.toNat v9))))], R, M, 174)) (cs := [¬ (l3 ≤ v10), xar 24 1, xidx v10 (xan 24), xar 24 1, xidx v9 (xan 24)]) (by rfl) ⟨Int.not_le.mpr c_15, xar_24, xix_24 c_16, xar_24, xix_24 c_17, trivial⟩ (Nat.le_refl _) ?_
      rcases xif_ex h with ⟨c_18, h⟩ | ⟨c_18, h⟩
      · skip
        refine s_T_share [(124, .ifCond .le 7, 0, (-1)), (127, .iload 10, 0, 0), (129, .istore 9, 0, 0)] (by decide +kernel) (z' := (131, [(9, (vI v10)), (0, (vR 5 l0)), (3, (vI l3)), (6, (vL v6)), (8, (vI v8)), (10, (vI v10))], [], R, M, 174)) (cs := [¬ (xcmp (M (R l0 2) (Int.toNat v10)) (M (R l0 2) (Int.toNat v9)) ≤ 0)]) (by rfl) ⟨fun q => xcmp_le.mp q c_18, trivial⟩ (Nat.le_refl _) ?_
        refine XR.pick [1, 2, 3, 4, 0, 5] (ls' := [(0, (vR 5 l0)), (3, (vI l3)), (6, (vL v6)), (8, (vI v8)), (9, (vI v10)), (10, (vI v10))]) rfl ?_
        exact o_T_share_J131 ih hq137 h
      · skip
        refine s_T_share [(124, .ifCond .le 7, 0, 131)] (by decide +kernel) (z' := (131, [(0, (vR 5 l0)), (3, (vI l3)), (6, (vL v6)), (8, (vI v8)), (9, (vI v9)), (10, (vI v10))], [], R, M, 174)) (cs := [xcmp (M (R l0 2) (Int.toNat v10)) (M (R l0 2) (Int.toNat v9)) ≤ 0]) (by rfl) ⟨xcmp_le.mpr c_18, trivial⟩ (Nat.le_refl _) ?_
        exact o_T_share_J131 ih hq137 h
    · skip
      refine s_T_share [(106, .if_icmp .ge 31, 0, 137)] (by decide +kernel) (z' := (137, [(0, (vR 5 l0)), (3, (vI l3)), (6, (vL v6)), (8, (vI v8)), (9, (vI v9)), (10, (vI v10))], [], R, M, 174)) (cs := [l3 ≤ v10]) (by rfl) ⟨Int.not_lt.mp c_15, trivial⟩ (Nat.le_refl _) ?_
      refine XR.pick [0, 1, 2, 3, 4] (ls' := [(0, (vR 5 l0)), (3, (vI l3)), (6, (vL v6)), (8, (vI v8)), (9, (vI v9))]) rfl ?_
      exact hq137 v6 v8 v9 M _ h
set_option maxRecDepth 100000 in
set_option maxHeartbeats 4000000 in
theorem o_T_share_F84 {sc : List Int} {R : xR}   {l0 : Nat} {l3 : Int}  : ∀ (n : Nat) (v6 : Int) (v8 : Int) (M : xM) (out : xM), T_share_F84 R l0 l3  n v6 v8 M = some out → XR false 0 174 sc y_T_share (84, [(0, (vR 5 l0)), (3, (vI l3)), (6, (vL v6)), (8, (vI v8))], [], R, M, 174) (none, R, out) := by
  intro n
  induction n with
  | zero => intro v6 v8 M out h; exact (xno h).elim
  | succ n ih =>
    intro v6 v8 M out h
    rw [T_share_F84] at h
    refine s_T_share [(84, .iload 8, 0, 0), (86, .iload_n 3, 0, 0)] (by decide +kernel) (z' := (87, [(0, (vR 5 l0)), (3, (vI l3)), (6, (vL v6)), (8, (vI v8))], [(vI l3), (vI v8)], R, M, 174)) (cs := []) (by rfl) trivial (Nat.le_refl _) ?_
    rcases xif_ex h with ⟨c_13, h⟩ | ⟨c_13, h⟩
    · skip
      refine s_T_share [(87, .if_icmp .ge 83, 0, (-1)), (90, .lload 6, 0, 0), (92, .lconst 0, 0, 0), (93, .lcmp, 0, 0)] (by decide +kernel) (z' := (94, [(0, (vR 5 l0)), (3, (vI l3)), (6, (vL v6)), (8, (vI v8))], [(vI (xcmp v6 0))], R, M, 174)) (cs := [¬ (l3 ≤ v8)]) (by rfl) ⟨Int.not_le.mpr c_13, trivial⟩ (Nat.le_refl _) ?_
      rcases xif_ex h with ⟨c_14, h⟩ | ⟨c_14, h⟩
      · skip
        refine s_T_share [(94, .ifCond .le 76, 0, (-1)), (97, .iconst 0, 0, 0), (98, .istore 9, 0, 0), (100, .iconst 1, 0, 1), (101, .istore 10, 0, 0)] (by decide +kernel) (z' := (103, [(10, (vI 1)), (9, (vI 0)), (0, (vR 5 l0)), (3, (vI l3)), (6, (vL v6)), (8, (vI v8))], [], R, M, 174)) (cs := [¬ (xcmp v6 0 ≤ 0)]) (by rfl) ⟨fun q => xcmp_le.mp q c_14, trivial⟩ (Nat.le_refl _) ?_
        refine XR.pick [2, 3, 4, 5, 1, 0] (ls' := [(0, (vR 5 l0)), (3, (vI l3)), (6, (vL v6)), (8, (vI v8)), (9, (vI 0)), (10, (vI 1))]) rfl ?_
        refine o_T_share_F103 ?_ xfu v6 v8 0 1 M _ h
        · intro v6_20 v8_21 v9_22 M_23 out h
          obtain ⟨c_24, h⟩ := xch_ex h
          obtain ⟨M_25, hM_25, h⟩ := xl_ex h
          obtain ⟨M_26, hM_26, h⟩ := xl_ex h
          obtain ⟨v6_27, hv6_27, h⟩ := xl_ex h
          obtain ⟨v8_28, hv8_28, h⟩ := xl_ex h
          refine s_T_share [(137, .aload_n 0, 0, 0), (138, .getfield 15, 5, 1), (141, .iload 9, 0, 0), (143, .dup2, 0, 0), (144, .iaload, 0, 0), (145, .iconst 1, 0, 1), (146, .iadd, 0, 0), (147, .iastore, 0, 0), (148, .aload_n 0, 0, 0), (149, .getfield 19, 5, 2), (152, .iload 9, 0, 0), (154, .ldc2_w 22, 0, (-1)), (157, .lastore, 0, 0), (158, .lload 6, 0, 0), (160, .lconst 1, 0, 1), (161, .lsub, 0, 0), (162, .lstore 6, 0, 0), (164, .iinc 8 1, 0, 0), (167, .goto (-83), 0, 84)] (by decide +kernel) (z' := (84, [(8, (vI v8_28)), (6, (vL v6_27)), (0, (vR 5 l0)), (3, (vI l3)), (9, (vI v9_22))], [], R, M_26, 174)) (cs := [xar 30 0, xidx v9_22 (xan 30), xar 30 0, xidx v9_22 (xan 30), xar 24 1, xidx v9_22 (xan 24)]) (by subst hM_25; subst hM_26; subst hv6_27; subst hv8_28; rfl) ⟨xar_30, xix_30 c_24, xar_30, xix_30 c_24, xar_24, xix_24 c_24, trivial⟩ (Nat.le_refl _) ?_
          refine XR.pick [2, 3, 1, 0] (ls' := [(0, (vR 5 l0)), (3, (vI l3)), (6, (vL v6_27)), (8, (vI v8_28))]) rfl ?_
          exact ih v6_27 v8_28 M_26 _ h
      · skip
        refine s_T_share [(94, .ifCond .le 76, 0, 170)] (by decide +kernel) (z' := (170, [(0, (vR 5 l0)), (3, (vI l3)), (6, (vL v6)), (8, (vI v8))], [], R, M, 174)) (cs := [xcmp v6 0 ≤ 0]) (by rfl) ⟨xcmp_le.mpr c_14, trivial⟩ (Nat.le_refl _) ?_
        obtain rfl := Option.some.inj h
        exact XR.retV rfl (by decide +kernel)
    · skip
      refine s_T_share [(87, .if_icmp .ge 83, 0, 170)] (by decide +kernel) (z' := (170, [(0, (vR 5 l0)), (3, (vI l3)), (6, (vL v6)), (8, (vI v8))], [], R, M, 174)) (cs := [l3 ≤ v8]) (by rfl) ⟨Int.not_lt.mp c_13, trivial⟩ (Nat.le_refl _) ?_
      obtain rfl := Option.some.inj h
      exact XR.retV rfl (by decide +kernel)
set_option maxRecDepth 100000 in
set_option maxHeartbeats 4000000 in
theorem o_T_share {sc : List Int} {R : xR} {M : xM} {l0 : Nat} {l1 : Int} {l3 : Int} {l4 : Int} {out : xM} (h : f_T_share R l0 l1 l3 l4 M = some out) : XR false 0 174 sc y_T_share (0, [(0, (vR 5 l0)), (1, (vL l1)), (3, (vI l3)), (4, (vL l4))], [], R, M, 174) (none, R, out) := by
  unfold f_T_share at h
  refine s_T_share [(0, .lload 4, 0, 0), (2, .lconst 0, 0, 0), (3, .lcmp, 0, 0)] (by decide +kernel) (z' := (4, [(0, (vR 5 l0)), (1, (vL l1)), (3, (vI l3)), (4, (vL l4))], [(vI (xcmp l4 0))], R, M, 174)) (cs := []) (by rfl) trivial (Nat.le_refl _) ?_
  rcases xif_ex h with ⟨c_1, h⟩ | ⟨c_1, h⟩
  · skip
    refine s_T_share [(4, .ifCond .le 9, 0, (-1)), (7, .iload_n 3, 0, 0), (8, .bipush 8, 0, 8)] (by decide +kernel) (z' := (10, [(0, (vR 5 l0)), (1, (vL l1)), (3, (vI l3)), (4, (vL l4))], [(vI 8), (vI l3)], R, M, 174)) (cs := [¬ (xcmp l4 0 ≤ 0)]) (by rfl) ⟨fun q => xcmp_le.mp q c_1, trivial⟩ (Nat.le_refl _) ?_
    rcases xif_ex h with ⟨c_2, h⟩ | ⟨c_2, h⟩
    · skip
      refine s_T_share [(10, .if_icmp .le 4, 0, (-1))] (by decide +kernel) (z' := (13, [(0, (vR 5 l0)), (1, (vL l1)), (3, (vI l3)), (4, (vL l4))], [], R, M, 174)) (cs := [¬ (l3 ≤ 8)]) (by rfl) ⟨Int.not_le.mpr c_2, trivial⟩ (Nat.le_refl _) ?_
      obtain rfl := Option.some.inj h
      exact XR.retV rfl (by decide +kernel)
    · skip
      refine s_T_share [(10, .if_icmp .le 4, 0, 14), (14, .lload_n 1, 0, 0), (15, .lstore 6, 0, 0), (17, .iconst 0, 0, 0), (18, .istore 8, 0, 0)] (by decide +kernel) (z' := (20, [(8, (vI 0)), (6, (vL l1)), (0, (vR 5 l0)), (1, (vL l1)), (3, (vI l3)), (4, (vL l4))], [], R, M, 174)) (cs := [l3 ≤ 8]) (by rfl) ⟨Int.not_lt.mp c_2, trivial⟩ (Nat.le_refl _) ?_
      refine XR.pick [2, 3, 4, 5, 1, 0] (ls' := [(0, (vR 5 l0)), (1, (vL l1)), (3, (vI l3)), (4, (vL l4)), (6, (vL l1)), (8, (vI 0))]) rfl ?_
      refine o_T_share_F20 ?_ xfu l1 0 M _ h
      · intro v6_11 M_12 out h
        refine s_T_share [(81, .iconst 0, 0, 0), (82, .istore 8, 0, 0)] (by decide +kernel) (z' := (84, [(8, (vI 0)), (0, (vR 5 l0)), (3, (vI l3)), (6, (vL v6_11))], [], R, M_12, 174)) (cs := []) (by rfl) trivial (Nat.le_refl _) ?_
        refine XR.pick [1, 2, 3, 0] (ls' := [(0, (vR 5 l0)), (3, (vI l3)), (6, (vL v6_11)), (8, (vI 0))]) rfl ?_
        refine o_T_share_F84  xfu v6_11 0 M_12 _ h
  · skip
    refine s_T_share [(4, .ifCond .le 9, 0, 13)] (by decide +kernel) (z' := (13, [(0, (vR 5 l0)), (1, (vL l1)), (3, (vI l3)), (4, (vL l4))], [], R, M, 174)) (cs := [xcmp l4 0 ≤ 0]) (by rfl) ⟨xcmp_le.mpr c_1, trivial⟩ (Nat.le_refl _) ?_
    obtain rfl := Option.some.inj h
    exact XR.retV rfl (by decide +kernel)
set_option maxRecDepth 100000 in
set_option maxHeartbeats 4000000 in
theorem c_T_share {sc : List Int} {R : xR} {M : xM} {l0 : Nat} {l1 : Int} {l3 : Int} {l4 : Int} {out : xM} (h : f_T_share R l0 l1 l3 l4 M = some out) : XC false 0 sc y_T_share [(vR 5 l0), (vL l1), (vI l3), (vL l4)] R M 174 174 (none, R, out) := XC.of (by decide) (Nat.le_of_ble_eq_true rfl) (Nat.le_refl _) (Nat.le_refl _) (o_T_share h)
def f_Y_get (R : xR) (l0 : Nat) (l1 : Int) (l2 : Int) (M : xM) : Option Int :=
  xch (0 ≤ w32 ((w32 (l1 * 60)) + l2) ∧ w32 ((w32 (l1 * 60)) + l2) < 240) <|
  some (M (R l0 0) (Int.toNat (w32 ((w32 (l1 * 60)) + l2))))
set_option maxRecDepth 100000 in
set_option maxHeartbeats 4000000 in
theorem s_Y_get {d : Nat} {sc : List Int} {z z' : xS} {out : xO} (qs : List xI) {cs : List Prop} (hq : qs.all (xqb 8 false y_Y_get.2.2.1 y_Y_get.2.1) = true) (h : xN false sc qs z = some (z', cs)) (hc : xAll cs) (hE : z'.2.2.2.2.2 ≤ 174) (k : XR false d 174 sc y_Y_get z' out) : XR false d 174 sc y_Y_get z out := XR.seg 8 false rfl (fun q => by cases q) qs hq h hc hE k
set_option maxRecDepth 100000 in
set_option maxHeartbeats 4000000 in
theorem o_Y_get {sc : List Int} {R : xR} {M : xM} {l0 : Nat} {l1 : Int} {l2 : Int} {out : Int} (h : f_Y_get R l0 l1 l2 M = some out) : XR false 0 174 sc y_Y_get (0, [(0, (vR 8 l0)), (1, (vI l1)), (2, (vI l2))], [], R, M, 174) ((some (vL out)), R, M) := by
  unfold f_Y_get at h
  obtain ⟨c_1, h⟩ := xch_ex h
  refine s_Y_get [(0, .aload_n 0, 0, 0), (1, .getfield 9, 8, 0), (4, .iload_n 1, 0, 0), (5, .bipush 60, 0, 60), (7, .imul, 0, 0), (8, .iload_n 2, 0, 0), (9, .iadd, 0, 0), (10, .laload, 0, 0)] (by decide +kernel) (z' := (11, [(0, (vR 8 l0)), (1, (vI l1)), (2, (vI l2))], [(vL (M (R l0 0) (Int.toNat (w32 ((w32 (l1 * 60)) + l2)))))], R, M, 174)) (cs := [xar 40 1, xidx (w32 ((w32 (l1 * 60)) + l2)) (xan 40)]) (by rfl) ⟨xar_40, xix_40 c_1, trivial⟩ (Nat.le_refl _) ?_
  obtain rfl := Option.some.inj h
  exact XR.retL rfl (by decide +kernel)
set_option maxRecDepth 100000 in
set_option maxHeartbeats 4000000 in
theorem c_Y_get {sc : List Int} {R : xR} {M : xM} {l0 : Nat} {l1 : Int} {l2 : Int} {out : Int} (h : f_Y_get R l0 l1 l2 M = some out) : XC false 0 sc y_Y_get [(vR 8 l0), (vI l1), (vI l2)] R M 174 174 ((some (vL out)), R, M) := XC.of (by decide) (Nat.le_of_ble_eq_true rfl) (Nat.le_refl _) (Nat.le_refl _) (o_Y_get h)
def Y_areWithin_F3 (R : xR) (M : xM) (l0 : Nat) (l1 : Int) (l2 : Int) (l3 : Int) : Nat → Int → Option Int
  | 0, _ => none
  | n + 1, v5 =>
    if v5 < l2 then
      xb1 (f_Y_get R l0 l1 v5 M) fun r_2 =>
      if r_2 < 0 then
        some (0)
      else
        if l3 < r_2 then
          some (0)
        else
          xl (w32 (v5 + 1)) fun v5_6 =>
          Y_areWithin_F3 R M l0 l1 l2 l3  n v5_6
    else
      some (1)
def f_Y_areWithin (R : xR) (l0 : Nat) (l1 : Int) (l2 : Int) (l3 : Int) (M : xM) : Option Int :=
  Y_areWithin_F3 R M l0 l1 l2 l3
    xfu 0
set_option maxRecDepth 100000 in
set_option maxHeartbeats 4000000 in
theorem s_Y_areWithin {d : Nat} {sc : List Int} {z z' : xS} {out : xO} (qs : List xI) {cs : List Prop} (hq : qs.all (xqb 8 false y_Y_areWithin.2.2.1 y_Y_areWithin.2.1) = true) (h : xN false sc qs z = some (z', cs)) (hc : xAll cs) (hE : z'.2.2.2.2.2 ≤ 174) (k : XR false d 174 sc y_Y_areWithin z' out) : XR false d 174 sc y_Y_areWithin z out := XR.seg 8 false rfl (fun q => by cases q) qs hq h hc hE k
set_option maxRecDepth 100000 in
set_option maxHeartbeats 4000000 in
theorem o_Y_areWithin_F3 {sc : List Int} {R : xR} {M : xM}  {l0 : Nat} {l1 : Int} {l2 : Int} {l3 : Int}  : ∀ (n : Nat) (v5 : Int) (out : Int), Y_areWithin_F3 R M l0 l1 l2 l3  n v5 = some out → XR false 1 174 sc y_Y_areWithin (3, [(0, (vR 8 l0)), (1, (vI l1)), (2, (vI l2)), (3, (vL l3)), (5, (vI v5))], [], R, M, 174) ((some (vI out)), R, M) := by
  intro n
  induction n with
  | zero => intro v5 out h; exact (xno h).elim
  | succ n ih =>
    intro v5 out h
    rw [Y_areWithin_F3] at h
    refine s_Y_areWithin [(3, .iload 5, 0, 0), (5, .iload_n 2, 0, 0)] (by decide +kernel) (z' := (6, [(0, (vR 8 l0)), (1, (vI l1)), (2, (vI l2)), (3, (vL l3)), (5, (vI v5))], [(vI l2), (vI v5)], R, M, 174)) (cs := []) (by rfl) trivial (Nat.le_refl _) ?_
    rcases xif_ex h with ⟨c_1, h⟩ | ⟨c_1, h⟩
    · skip
      refine s_Y_areWithin [(6, .if_icmp .ge 34, 0, (-1)), (9, .aload_n 0, 0, 0), (10, .iload_n 1, 0, 0), (11, .iload 5, 0, 0)] (by decide +kernel) (z' := (13, [(0, (vR 8 l0)), (1, (vI l1)), (2, (vI l2)), (3, (vL l3)), (5, (vI v5))], [(vI v5), (vI l1), (vR 8 l0)], R, M, 174)) (cs := [¬ (l2 ≤ v5)]) (by rfl) ⟨Int.not_le.mpr c_1, trivial⟩ (Nat.le_refl _) ?_
      obtain ⟨r_2, e_3, h⟩ := xb1_ex h
      refine XR.callV 8 rfl (rest := []) m_Y_get k_8_38 8 l0 (Or.inl ⟨by decide, rfl⟩) [(vI l1), (vI v5)] rfl rfl (c_Y_get e_3) (by decide) (Nat.le_of_ble_eq_true rfl) (by decide +kernel) (Nat.le_refl _) (Nat.le_refl _) ?_
      show XR false 1 174 sc y_Y_areWithin (16, [(0, (vR 8 l0)), (1, (vI l1)), (2, (vI l2)), (3, (vL l3)), (5, (vI v5))], [(vL r_2)], R, M, 174) _
      refine s_Y_areWithin [(16, .lstore 6, 0, 0), (18, .lload 6, 0, 0), (20, .lconst 0, 0, 0), (21, .lcmp, 0, 0)] (by decide +kernel) (z' := (22, [(6, (vL r_2)), (0, (vR 8 l0)), (1, (vI l1)), (2, (vI l2)), (3, (vL l3)), (5, (vI v5))], [(vI (xcmp r_2 0))], R, M, 174)) (cs := []) (by rfl) trivial (Nat.le_refl _) ?_
      rcases xif_ex h with ⟨c_4, h⟩ | ⟨c_4, h⟩
      · skip
        refine s_Y_areWithin [(22, .ifCond .lt 10, 0, 32), (32, .iconst 0, 0, 0)] (by decide +kernel) (z' := (33, [(6, (vL r_2)), (0, (vR 8 l0)), (1, (vI l1)), (2, (vI l2)), (3, (vL l3)), (5, (vI v5))], [(vI 0)], R, M, 174)) (cs := [xcmp r_2 0 < 0]) (by rfl) ⟨xcmp_lt.mpr c_4, trivial⟩ (Nat.le_refl _) ?_
        obtain rfl := Option.some.inj h
        exact XR.retI .boolean rfl (xnar_z (by decide)) (by decide +kernel)
      · skip
        refine s_Y_areWithin [(22, .ifCond .lt 10, 0, (-1)), (25, .lload 6, 0, 0), (27, .lload_n 3, 0, 0), (28, .lcmp, 0, 0)] (by decide +kernel) (z' := (29, [(6, (vL r_2)), (0, (vR 8 l0)), (1, (vI l1)), (2, (vI l2)), (3, (vL l3)), (5, (vI v5))], [(vI (xcmp r_2 l3))], R, M, 174)) (cs := [¬ (xcmp r_2 0 < 0)]) (by rfl) ⟨fun q => c_4 (xcmp_lt.mp q), trivial⟩ (Nat.le_refl _) ?_
        rcases xif_ex h with ⟨c_5, h⟩ | ⟨c_5, h⟩
        · skip
          refine s_Y_areWithin [(29, .ifCond .le 5, 0, (-1)), (32, .iconst 0, 0, 0)] (by decide +kernel) (z' := (33, [(6, (vL r_2)), (0, (vR 8 l0)), (1, (vI l1)), (2, (vI l2)), (3, (vL l3)), (5, (vI v5))], [(vI 0)], R, M, 174)) (cs := [¬ (xcmp r_2 l3 ≤ 0)]) (by rfl) ⟨fun q => xcmp_le.mp q c_5, trivial⟩ (Nat.le_refl _) ?_
          obtain rfl := Option.some.inj h
          exact XR.retI .boolean rfl (xnar_z (by decide)) (by decide +kernel)
        · skip
          obtain ⟨v5_6, hv5_6, h⟩ := xl_ex h
          refine s_Y_areWithin [(29, .ifCond .le 5, 0, 34), (34, .iinc 5 1, 0, 0), (37, .goto (-34), 0, 3)] (by decide +kernel) (z' := (3, [(5, (vI v5_6)), (6, (vL r_2)), (0, (vR 8 l0)), (1, (vI l1)), (2, (vI l2)), (3, (vL l3))], [], R, M, 174)) (cs := [xcmp r_2 l3 ≤ 0]) (by subst hv5_6; rfl) ⟨xcmp_le.mpr c_5, trivial⟩ (Nat.le_refl _) ?_
          refine XR.pick [2, 3, 4, 5, 0] (ls' := [(0, (vR 8 l0)), (1, (vI l1)), (2, (vI l2)), (3, (vL l3)), (5, (vI v5_6))]) rfl ?_
          exact ih v5_6 _ h
    · skip
      refine s_Y_areWithin [(6, .if_icmp .ge 34, 0, 40), (40, .iconst 1, 0, 1)] (by decide +kernel) (z' := (41, [(0, (vR 8 l0)), (1, (vI l1)), (2, (vI l2)), (3, (vL l3)), (5, (vI v5))], [(vI 1)], R, M, 174)) (cs := [l2 ≤ v5]) (by rfl) ⟨Int.not_lt.mp c_1, trivial⟩ (Nat.le_refl _) ?_
      obtain rfl := Option.some.inj h
      exact XR.retI .boolean rfl (xnar_z (by decide)) (by decide +kernel)
set_option maxRecDepth 100000 in
set_option maxHeartbeats 4000000 in
theorem o_Y_areWithin {sc : List Int} {R : xR} {M : xM} {l0 : Nat} {l1 : Int} {l2 : Int} {l3 : Int} {out : Int} (h : f_Y_areWithin R l0 l1 l2 l3 M = some out) : XR false 1 174 sc y_Y_areWithin (0, [(0, (vR 8 l0)), (1, (vI l1)), (2, (vI l2)), (3, (vL l3))], [], R, M, 174) ((some (vI out)), R, M) := by
  unfold f_Y_areWithin at h
  refine s_Y_areWithin [(0, .iconst 0, 0, 0), (1, .istore 5, 0, 0)] (by decide +kernel) (z' := (3, [(5, (vI 0)), (0, (vR 8 l0)), (1, (vI l1)), (2, (vI l2)), (3, (vL l3))], [], R, M, 174)) (cs := []) (by rfl) trivial (Nat.le_refl _) ?_
  refine XR.pick [1, 2, 3, 4, 0] (ls' := [(0, (vR 8 l0)), (1, (vI l1)), (2, (vI l2)), (3, (vL l3)), (5, (vI 0))]) rfl ?_
  refine o_Y_areWithin_F3  xfu 0 _ h
set_option maxRecDepth 100000 in
set_option maxHeartbeats 4000000 in
theorem c_Y_areWithin {sc : List Int} {R : xR} {M : xM} {l0 : Nat} {l1 : Int} {l2 : Int} {l3 : Int} {out : Int} (h : f_Y_areWithin R l0 l1 l2 l3 M = some out) : XC false 1 sc y_Y_areWithin [(vR 8 l0), (vI l1), (vI l2), (vL l3)] R M 174 174 ((some (vI out)), R, M) := XC.of (by decide) (Nat.le_of_ble_eq_true rfl) (Nat.le_refl _) (Nat.le_refl _) (o_Y_areWithin h)
def f_Y_areAlike (R : xR) (l0 : Nat) (l1 : Int) (l2 : Int) (M : xM) : Option Int :=
  xch (0 ≤ l1 ∧ l1 < 4) <|
  xch (0 ≤ l2 ∧ l2 < 4) <|
  if M (R l0 1) (Int.toNat l1) = M (R l0 1) (Int.toNat l2) then
    some (1)
  else
    some (0)
set_option maxRecDepth 100000 in
set_option maxHeartbeats 4000000 in
theorem s_Y_areAlike {d : Nat} {sc : List Int} {z z' : xS} {out : xO} (qs : List xI) {cs : List Prop} (hq : qs.all (xqb 8 false y_Y_areAlike.2.2.1 y_Y_areAlike.2.1) = true) (h : xN false sc qs z = some (z', cs)) (hc : xAll cs) (hE : z'.2.2.2.2.2 ≤ 174) (k : XR false d 174 sc y_Y_areAlike z' out) : XR false d 174 sc y_Y_areAlike z out := XR.seg 8 false rfl (fun q => by cases q) qs hq h hc hE k
set_option maxRecDepth 100000 in
set_option maxHeartbeats 4000000 in
theorem o_Y_areAlike {sc : List Int} {R : xR} {M : xM} {l0 : Nat} {l1 : Int} {l2 : Int} {out : Int} (h : f_Y_areAlike R l0 l1 l2 M = some out) : XR false 0 174 sc y_Y_areAlike (0, [(0, (vR 8 l0)), (1, (vI l1)), (2, (vI l2))], [], R, M, 174) ((some (vI out)), R, M) := by
  unfold f_Y_areAlike at h
  obtain ⟨c_1, h⟩ := xch_ex h
  obtain ⟨c_2, h⟩ := xch_ex h
  refine s_Y_areAlike [(0, .aload_n 0, 0, 0), (1, .getfield 15, 8, 1), (4, .iload_n 1, 0, 0), (5, .iaload, 0, 0), (6, .aload_n 0, 0, 0), (7, .getfield 15, 8, 1), (10, .iload_n 2, 0, 0), (11, .iaload, 0, 0)] (by decide +kernel) (z' := (12, [(0, (vR 8 l0)), (1, (vI l1)), (2, (vI l2))], [(vI (M (R l0 1) (Int.toNat l2))), (vI (M (R l0 1) (Int.toNat l1)))], R, M, 174)) (cs := [xar 34 0, xidx l1 (xan 34), xar 34 0, xidx l2 (xan 34)]) (by rfl) ⟨xar_34, xix_34 c_1, xar_34, xix_34 c_2, trivial⟩ (Nat.le_refl _) ?_
  rcases xif_ex h with ⟨c_3, h⟩ | ⟨c_3, h⟩
  · skip
    refine s_Y_areAlike [(12, .if_icmp .ne 7, 0, (-1)), (15, .iconst 1, 0, 1), (16, .goto 4, 0, 20)] (by decide +kernel) (z' := (20, [(0, (vR 8 l0)), (1, (vI l1)), (2, (vI l2))], [(vI 1)], R, M, 174)) (cs := [¬ (M (R l0 1) (Int.toNat l1) ≠ M (R l0 1) (Int.toNat l2))]) (by rfl) ⟨fun q => q c_3, trivial⟩ (Nat.le_refl _) ?_
    obtain rfl := Option.some.inj h
    exact XR.retI .boolean rfl (xnar_z (by decide)) (by decide +kernel)
  · skip
    refine s_Y_areAlike [(12, .if_icmp .ne 7, 0, 19), (19, .iconst 0, 0, 0)] (by decide +kernel) (z' := (20, [(0, (vR 8 l0)), (1, (vI l1)), (2, (vI l2))], [(vI 0)], R, M, 174)) (cs := [M (R l0 1) (Int.toNat l1) ≠ M (R l0 1) (Int.toNat l2)]) (by rfl) ⟨c_3, trivial⟩ (Nat.le_refl _) ?_
    obtain rfl := Option.some.inj h
    exact XR.retI .boolean rfl (xnar_z (by decide)) (by decide +kernel)
set_option maxRecDepth 100000 in
set_option maxHeartbeats 4000000 in
theorem c_Y_areAlike {sc : List Int} {R : xR} {M : xM} {l0 : Nat} {l1 : Int} {l2 : Int} {out : Int} (h : f_Y_areAlike R l0 l1 l2 M = some out) : XC false 0 sc y_Y_areAlike [(vR 8 l0), (vI l1), (vI l2)] R M 174 174 ((some (vI out)), R, M) := XC.of (by decide) (Nat.le_of_ble_eq_true rfl) (Nat.le_refl _) (Nat.le_refl _) (o_Y_areAlike h)
def f_Y_cut (l0 : Int) (l1 : Int) : Option Int :=
  if l0 = 0 then
    some (w8 (w32 l1))
  else
    if l0 = 1 then
      some (w16 (w32 l1))
    else
      if l0 = 2 then
        some (w32 l1)
      else
        some (l1)
set_option maxRecDepth 100000 in
set_option maxHeartbeats 4000000 in
theorem s_Y_cut {d : Nat} {sc : List Int} {z z' : xS} {out : xO} (qs : List xI) {cs : List Prop} (hq : qs.all (xqb 8 false y_Y_cut.2.2.1 y_Y_cut.2.1) = true) (h : xN false sc qs z = some (z', cs)) (hc : xAll cs) (hE : z'.2.2.2.2.2 ≤ 174) (k : XR false d 174 sc y_Y_cut z' out) : XR false d 174 sc y_Y_cut z out := XR.seg 8 false rfl (fun q => by cases q) qs hq h hc hE k
set_option maxRecDepth 100000 in
set_option maxHeartbeats 4000000 in
theorem o_Y_cut {sc : List Int} {R : xR} {M : xM} {l0 : Int} {l1 : Int} {out : Int} (h : f_Y_cut l0 l1 = some out) : XR false 0 174 sc y_Y_cut (0, [(0, (vI l0)), (1, (vL l1))], [], R, M, 174) ((some (vL out)), R, M) := by
  unfold f_Y_cut at h
  refine s_Y_cut [(0, .iload_n 0, 0, 0)] (by decide +kernel) (z' := (1, [(0, (vI l0)), (1, (vL l1))], [(vI l0)], R, M, 174)) (cs := []) (by rfl) trivial (Nat.le_refl _) ?_
  rcases xif_ex h with ⟨c_1, h⟩ | ⟨c_1, h⟩
  · skip
    refine s_Y_cut [(1, .tableswitch 41 0 2 #[27, 32, 37], 1, 28), (28, .lload_n 1, 0, 0), (29, .l2i, 0, 0), (30, .i2b, 0, 0), (31, .i2l, 0, 0)] (by decide +kernel) (z' := (32, [(0, (vI l0)), (1, (vL l1))], [(vL (w8 (w32 l1)))], R, M, 174)) (cs := [l0 = (0 : Int) + ((0 : Nat) : Int)]) (by rfl) ⟨by rw [c_1]; rfl, trivial⟩ (Nat.le_refl _) ?_
    obtain rfl := Option.some.inj h
    exact XR.retL rfl (by decide +kernel)
  · skip
    rcases xif_ex h with ⟨c_2, h⟩ | ⟨c_2, h⟩
    · skip
      refine s_Y_cut [(1, .tableswitch 41 0 2 #[27, 32, 37], 2, 33), (33, .lload_n 1, 0, 0), (34, .l2i, 0, 0), (35, .i2s, 0, 0), (36, .i2l, 0, 0)] (by decide +kernel) (z' := (37, [(0, (vI l0)), (1, (vL l1))], [(vL (w16 (w32 l1)))], R, M, 174)) (cs := [l0 = (0 : Int) + ((1 : Nat) : Int)]) (by rfl) ⟨by rw [c_2]; rfl, trivial⟩ (Nat.le_refl _) ?_
      obtain rfl := Option.some.inj h
      exact XR.retL rfl (by decide +kernel)
    · skip
      rcases xif_ex h with ⟨c_3, h⟩ | ⟨c_3, h⟩
      · skip
        refine s_Y_cut [(1, .tableswitch 41 0 2 #[27, 32, 37], 3, 38), (38, .lload_n 1, 0, 0), (39, .l2i, 0, 0), (40, .i2l, 0, 0)] (by decide +kernel) (z' := (41, [(0, (vI l0)), (1, (vL l1))], [(vL (w32 l1))], R, M, 174)) (cs := [l0 = (0 : Int) + ((2 : Nat) : Int)]) (by rfl) ⟨by rw [c_3]; rfl, trivial⟩ (Nat.le_refl _) ?_
        obtain rfl := Option.some.inj h
        exact XR.retL rfl (by decide +kernel)
      · skip
        refine s_Y_cut [(1, .tableswitch 41 0 2 #[27, 32, 37], 0, 42), (42, .lload_n 1, 0, 0)] (by decide +kernel) (z' := (43, [(0, (vI l0)), (1, (vL l1))], [(vL l1)], R, M, 174)) (cs := [l0 < 0 ∨ 2 < l0]) (by rfl) ⟨by omega, trivial⟩ (Nat.le_refl _) ?_
        obtain rfl := Option.some.inj h
        exact XR.retL rfl (by decide +kernel)
set_option maxRecDepth 100000 in
set_option maxHeartbeats 4000000 in
theorem c_Y_cut {sc : List Int} {R : xR} {M : xM} {l0 : Int} {l1 : Int} {out : Int} (h : f_Y_cut l0 l1 = some out) : XC false 0 sc y_Y_cut [(vI l0), (vL l1)] R M 174 174 ((some (vL out)), R, M) := XC.of (by decide) (Nat.le_of_ble_eq_true rfl) (Nat.le_refl _) (Nat.le_refl _) (o_Y_cut h)
def f_Y_hasPlace (R : xR) (l0 : Nat) (l1 : Int) (l2 : Int) (M : xM) : Option Int :=
  if l2 < 0 then
    some (0)
  else
    xch (0 ≤ l1 ∧ l1 < 4) <|
    if l2 < M (R l0 2) (Int.toNat l1) then
      some (1)
    else
      some (0)
set_option maxRecDepth 100000 in
set_option maxHeartbeats 4000000 in
theorem s_Y_hasPlace {d : Nat} {sc : List Int} {z z' : xS} {out : xO} (qs : List xI) {cs : List Prop} (hq : qs.all (xqb 8 false y_Y_hasPlace.2.2.1 y_Y_hasPlace.2.1) = true) (h : xN false sc qs z = some (z', cs)) (hc : xAll cs) (hE : z'.2.2.2.2.2 ≤ 174) (k : XR false d 174 sc y_Y_hasPlace z' out) : XR false d 174 sc y_Y_hasPlace z out := XR.seg 8 false rfl (fun q => by cases q) qs hq h hc hE k
set_option maxRecDepth 100000 in
set_option maxHeartbeats 4000000 in
theorem o_Y_hasPlace {sc : List Int} {R : xR} {M : xM} {l0 : Nat} {l1 : Int} {l2 : Int} {out : Int} (h : f_Y_hasPlace R l0 l1 l2 M = some out) : XR false 0 174 sc y_Y_hasPlace (0, [(0, (vR 8 l0)), (1, (vI l1)), (2, (vI l2))], [], R, M, 174) ((some (vI out)), R, M) := by
  unfold f_Y_hasPlace at h
  refine s_Y_hasPlace [(0, .iload_n 2, 0, 0)] (by decide +kernel) (z' := (1, [(0, (vR 8 l0)), (1, (vI l1)), (2, (vI l2))], [(vI l2)], R, M, 174)) (cs := []) (by rfl) trivial (Nat.le_refl _) ?_
  rcases xif_ex h with ⟨c_1, h⟩ | ⟨c_1, h⟩
  · skip
    refine s_Y_hasPlace [(1, .ifCond .lt 17, 0, 18), (18, .iconst 0, 0, 0)] (by decide +kernel) (z' := (19, [(0, (vR 8 l0)), (1, (vI l1)), (2, (vI l2))], [(vI 0)], R, M, 174)) (cs := [l2 < 0]) (by rfl) ⟨c_1, trivial⟩ (Nat.le_refl _) ?_
    obtain rfl := Option.some.inj h
    exact XR.retI .boolean rfl (xnar_z (by decide)) (by decide +kernel)
  · skip
    obtain ⟨c_2, h⟩ := xch_ex h
    refine s_Y_hasPlace [(1, .ifCond .lt 17, 0, (-1)), (4, .iload_n 2, 0, 0), (5, .aload_n 0, 0, 0), (6, .getfield 19, 8, 2), (9, .iload_n 1, 0, 0), (10, .iaload, 0, 0)] (by decide +kernel) (z' := (11, [(0, (vR 8 l0)), (1, (vI l1)), (2, (vI l2))], [(vI (M (R l0 2) (Int.toNat l1))), (vI l2)], R, M, 174)) (cs := [¬ (l2 < 0), xar 34 0, xidx l1 (xan 34)]) (by rfl) ⟨c_1, xar_34, xix_34 c_2, trivial⟩ (Nat.le_refl _) ?_
    rcases xif_ex h with ⟨c_3, h⟩ | ⟨c_3, h⟩
    · skip
      refine s_Y_hasPlace [(11, .if_icmp .ge 7, 0, (-1)), (14, .iconst 1, 0, 1), (15, .goto 4, 0, 19)] (by decide +kernel) (z' := (19, [(0, (vR 8 l0)), (1, (vI l1)), (2, (vI l2))], [(vI 1)], R, M, 174)) (cs := [¬ (M (R l0 2) (Int.toNat l1) ≤ l2)]) (by rfl) ⟨Int.not_le.mpr c_3, trivial⟩ (Nat.le_refl _) ?_
      obtain rfl := Option.some.inj h
      exact XR.retI .boolean rfl (xnar_z (by decide)) (by decide +kernel)
    · skip
      refine s_Y_hasPlace [(11, .if_icmp .ge 7, 0, 18), (18, .iconst 0, 0, 0)] (by decide +kernel) (z' := (19, [(0, (vR 8 l0)), (1, (vI l1)), (2, (vI l2))], [(vI 0)], R, M, 174)) (cs := [M (R l0 2) (Int.toNat l1) ≤ l2]) (by rfl) ⟨Int.not_lt.mp c_3, trivial⟩ (Nat.le_refl _) ?_
      obtain rfl := Option.some.inj h
      exact XR.retI .boolean rfl (xnar_z (by decide)) (by decide +kernel)
set_option maxRecDepth 100000 in
set_option maxHeartbeats 4000000 in
theorem c_Y_hasPlace {sc : List Int} {R : xR} {M : xM} {l0 : Nat} {l1 : Int} {l2 : Int} {out : Int} (h : f_Y_hasPlace R l0 l1 l2 M = some out) : XC false 0 sc y_Y_hasPlace [(vR 8 l0), (vI l1), (vI l2)] R M 174 174 ((some (vI out)), R, M) := XC.of (by decide) (Nat.le_of_ble_eq_true rfl) (Nat.le_refl _) (Nat.le_refl _) (o_Y_hasPlace h)
