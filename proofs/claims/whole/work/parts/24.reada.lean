def f_L_addStep (R : xR) (l0 : Nat) (l1 : Int) (M : xM) : Option xM :=
  if M l0 7 < 600 then
    xch (0 ≤ M l0 7 ∧ M l0 7 < 600) <|
    xl (xu M (R l0 6) (Int.toNat (M l0 7)) l1) fun M_3 =>
    xl (xu M_3 l0 7 (w32 ((M_3 l0 7) + 1))) fun M_4 =>
    some (M_4)
  else
    some (M)
set_option maxRecDepth 100000 in
set_option maxHeartbeats 4000000 in
theorem s_L_addStep {d : Nat} {sc : List Int} {z z' : xS} {out : xO} (qs : List xI) {cs : List Prop} (hq : qs.all (xqb 3 false y_L_addStep.2.2.1 y_L_addStep.2.1) = true) (h : xN false sc qs z = some (z', cs)) (hc : xAll cs) (hE : z'.2.2.2.2.2 ≤ 174) (k : XR false d 174 sc y_L_addStep z' out) : XR false d 174 sc y_L_addStep z out := XR.seg 3 false rfl (fun q => by cases q) qs hq h hc hE k
set_option maxRecDepth 100000 in
set_option maxHeartbeats 4000000 in
theorem o_L_addStep {sc : List Int} {R : xR} {M : xM} {l0 : Nat} {l1 : Int} {out : xM} (h : f_L_addStep R l0 l1 M = some out) : XR false 0 174 sc y_L_addStep (0, [(0, (vR 3 l0)), (1, (vI l1))], [], R, M, 174) (none, R, out) := by
  unfold f_L_addStep at h
  refine s_L_addStep [(0, .aload_n 0, 0, 0), (1, .getfield 35, 3, 7), (4, .sipush 600, 0, 600)] (by decide +kernel) (z' := (7, [(0, (vR 3 l0)), (1, (vI l1))], [(vI 600), (vI (M l0 7))], R, M, 174)) (cs := []) (by rfl) trivial (Nat.le_refl _) ?_
  rcases xif_ex h with ⟨c_1, h⟩ | ⟨c_1, h⟩
  · skip
    obtain ⟨c_2, h⟩ := xch_ex h
    obtain ⟨M_3, hM_3, h⟩ := xl_ex h
    obtain ⟨M_4, hM_4, h⟩ := xl_ex h
    refine s_L_addStep [(7, .if_icmp .ge 23, 0, (-1)), (10, .aload_n 0, 0, 0), (11, .getfield 32, 3, 6), (14, .aload_n 0, 0, 0), (15, .getfield 35, 3, 7), (18, .iload_n 1, 0, 0), (19, .iastore, 0, 0), (20, .aload_n 0, 0, 0), (21, .dup, 0, 0), (22, .getfield 35, 3, 7), (25, .iconst 1, 0, 1), (26, .iadd, 0, 0), (27, .putfield 35, 3, 7)] (by decide +kernel) (z' := (30, [(0, (vR 3 l0)), (1, (vI l1))], [], R, M_4, 174)) (cs := [¬ (600 ≤ M l0 7), xar 31 0, xidx (M l0 7) (xan 31)]) (by subst hM_3; subst hM_4; rfl) ⟨Int.not_le.mpr c_1, xar_31, xix_31 c_2, trivial⟩ (Nat.le_refl _) ?_
    obtain rfl := Option.some.inj h
    exact XR.retV rfl (by decide +kernel)
  · skip
    refine s_L_addStep [(7, .if_icmp .ge 23, 0, 30)] (by decide +kernel) (z' := (30, [(0, (vR 3 l0)), (1, (vI l1))], [], R, M, 174)) (cs := [600 ≤ M l0 7]) (by rfl) ⟨Int.not_lt.mp c_1, trivial⟩ (Nat.le_refl _) ?_
    obtain rfl := Option.some.inj h
    exact XR.retV rfl (by decide +kernel)
set_option maxRecDepth 100000 in
set_option maxHeartbeats 4000000 in
theorem c_L_addStep {sc : List Int} {R : xR} {M : xM} {l0 : Nat} {l1 : Int} {out : xM} (h : f_L_addStep R l0 l1 M = some out) : XC false 0 sc y_L_addStep [(vR 3 l0), (vI l1)] R M 174 174 (none, R, out) := XC.of (by decide) (Nat.le_of_ble_eq_true rfl) (Nat.le_refl _) (Nat.le_refl _) (o_L_addStep h)
def L_readAtom_J119 (R : xR) (rs : Nat → Nat → Int → xM → Option (Int × xM)) (l1 : Nat) (s0 : Int) (s1 : Nat) (M : xM) : Option (Int × xM) :=
  xb1 (f_L_addStep R s1 s0 M) fun M_12 =>
  xb1 (f_A_advance R l1 M_12) fun M_14 =>
  some (1, M_14)
def L_readAtom_J91 (R : xR) (rs : Nat → Nat → Int → xM → Option (Int × xM)) (l0 : Nat) (l1 : Nat) (v3 : Int) (s0 : Int) (s1 : Nat) (M : xM) : Option (Int × xM) :=
  xb2 (f_A_stands s1 s0 M) fun r_7 M_8 =>
  if r_7 = 0 then
    some (0, M_8)
  else
    if v3 = 0 then
      L_readAtom_J119 R rs l1 (w32 (10000 + (M_8 l1 9))) l0 M_8
    else
      L_readAtom_J119 R rs l1 (M_8 l1 10) l0 M_8
def L_readAtom_J90 (R : xR) (rs : Nat → Nat → Int → xM → Option (Int × xM)) (l0 : Nat) (l1 : Nat) (v3 : Int) (s0 : Nat) (M : xM) : Option (Int × xM) :=
  L_readAtom_J91 R rs l0 l1 v3 0 s0 M
def L_readAtom_J86 (R : xR) (rs : Nat → Nat → Int → xM → Option (Int × xM)) (l0 : Nat) (l1 : Nat) (v3 : Int) (s0 : Nat) (M : xM) : Option (Int × xM) :=
  L_readAtom_J91 R rs l0 l1 v3 1 s0 M
def L_readAtom_J64 (R : xR) (rs : Nat → Nat → Int → xM → Option (Int × xM)) (l0 : Nat) (l1 : Nat) (s0 : Int) (M : xM) : Option (Int × xM) :=
  if s0 = 0 then
    if M l1 9 < 0 then
      L_readAtom_J90 R rs l0 l1 s0 l1 M
    else
      if M l1 9 < 6 then
        L_readAtom_J86 R rs l0 l1 s0 l1 M
      else
        L_readAtom_J90 R rs l0 l1 s0 l1 M
  else
    L_readAtom_J86 R rs l0 l1 s0 l1 M
def f_L_readAtom (R : xR) (rs : Nat → Nat → Int → xM → Option (Int × xM)) (l0 : Nat) (l1 : Nat) (l2 : Int) (M : xM) : Option (Int × xM) :=
  xb1 (f_A_isSign l1 40 M) fun r_1 =>
  if r_1 = 0 then
    if M l1 7 = 2 then
      L_readAtom_J64 R rs l0 l1 1 M
    else
      L_readAtom_J64 R rs l0 l1 0 M
  else
    if l2 < 6 then
      xb1 (f_A_advance R l1 M) fun M_18 =>
      xb2 (rs l0 l1 (w32 (l2 + 1)) M_18) fun r_20 M_21 =>
      if r_20 = 0 then
        some (0, M_21)
      else
        xb2 (f_A_takeSign R l1 41 M_21) fun r_24 M_25 =>
        if r_24 = 0 then
          some (0, M_25)
        else
          some (1, M_25)
    else
      xb2 (f_A_wrong l1 5 M) fun r_28 M_29 =>
      xch (r_28 = 0 ∨ r_28 = 1) <|
      some (r_28, M_29)
set_option maxRecDepth 100000 in
set_option maxHeartbeats 4000000 in
theorem s_L_readAtom {d : Nat} {sc : List Int} {z z' : xS} {out : xO} (qs : List xI) {cs : List Prop} (hq : qs.all (xqb 3 false y_L_readAtom.2.2.1 y_L_readAtom.2.1) = true) (h : xN false sc qs z = some (z', cs)) (hc : xAll cs) (hE : z'.2.2.2.2.2 ≤ 174) (k : XR false d 174 sc y_L_readAtom z' out) : XR false d 174 sc y_L_readAtom z out := XR.seg 3 false rfl (fun q => by cases q) qs hq h hc hE k
set_option maxRecDepth 100000 in
set_option maxHeartbeats 4000000 in
theorem o_L_readAtom_J119 {sc : List Int} {d0 : Nat} (hd0 : 20 ≤ d0) {R : xR}   {l1 : Nat} {rs : Nat → Nat → Int → xM → Option (Int × xM)} (hrs : ∀ (a b : Nat) (x : Int) (M : xM) (out : Int × xM), rs a b x M = some out → XC false d0 sc y_L_readSum [vR 3 a, vR 7 b, vI x] R M 174 174 (some (vI out.1), R, out.2))  {s0 : Int} {s1 : Nat} {M : xM} {out : Int × xM} (h : L_readAtom_J119 R rs l1  s0 s1 M = some out) : XR false (d0 + 1) 174 sc y_L_readAtom (119, [(1, (vR 7 l1))], [(vI s0), (vR 3 s1)], R, M, 174) ((some (vI out.1)), R, out.2) := by
  unfold L_readAtom_J119 at h
  obtain ⟨M_12, e_13, h⟩ := xb1_ex h
  refine XR.callV 3 rfl (rest := []) m_L_addStep k_3_100 3 s1 (Or.inl ⟨by decide, rfl⟩) [(vI s0)] rfl rfl (c_L_addStep e_13) (by omega) (Nat.le_of_ble_eq_true rfl) (by decide +kernel) (Nat.le_refl _) (Nat.le_refl _) ?_
  show XR false (d0 + 1) 174 sc y_L_readAtom (122, [(1, (vR 7 l1))], [], R, M_12, 174) _
  refine s_L_readAtom (d := (d0 + 1)) [(122, .aload_n 1, 0, 0)] (by decide +kernel) (z' := (123, [(1, (vR 7 l1))], [(vR 7 l1)], R, M_12, 174)) (cs := []) (by rfl) trivial (Nat.le_refl _) ?_
  obtain ⟨M_14, e_15, h⟩ := xb1_ex h
  refine XR.callV 3 rfl (rest := []) m_A_advance k_3_70 7 l1 (Or.inl ⟨by decide, rfl⟩) [] rfl rfl (c_A_advance e_15) (by omega) (Nat.le_of_ble_eq_true rfl) (by decide +kernel) (Nat.le_refl _) (Nat.le_refl _) ?_
  show XR false (d0 + 1) 174 sc y_L_readAtom (126, [(1, (vR 7 l1))], [], R, M_14, 174) _
  refine s_L_readAtom (d := (d0 + 1)) [(126, .iconst 1, 0, 1)] (by decide +kernel) (z' := (127, [(1, (vR 7 l1))], [(vI 1)], R, M_14, 174)) (cs := []) (by rfl) trivial (Nat.le_refl _) ?_
  obtain rfl := Option.some.inj h
  exact XR.retI .boolean rfl (xnar_z (by decide)) (by decide +kernel)
set_option maxRecDepth 100000 in
set_option maxHeartbeats 4000000 in
theorem o_L_readAtom_J91 {sc : List Int} {d0 : Nat} (hd0 : 20 ≤ d0) {R : xR}   {l0 : Nat} {l1 : Nat} {rs : Nat → Nat → Int → xM → Option (Int × xM)} (hrs : ∀ (a b : Nat) (x : Int) (M : xM) (out : Int × xM), rs a b x M = some out → XC false d0 sc y_L_readSum [vR 3 a, vR 7 b, vI x] R M 174 174 (some (vI out.1), R, out.2))  {v3 : Int} {s0 : Int} {s1 : Nat} {M : xM} {out : Int × xM} (h : L_readAtom_J91 R rs l0 l1  v3 s0 s1 M = some out) : XR false (d0 + 1) 174 sc y_L_readAtom (91, [(0, (vR 3 l0)), (1, (vR 7 l1)), (3, (vI v3))], [(vI s0), (vR 7 s1)], R, M, 174) ((some (vI out.1)), R, out.2) := by
  unfold L_readAtom_J91 at h
  obtain ⟨r_7, M_8, e_9, h⟩ := xb2_ex h
  refine XR.callV 3 rfl (rest := []) m_A_stands k_3_54 7 s1 (Or.inl ⟨by decide, rfl⟩) [(vI s0)] rfl rfl (c_A_stands e_9) (by omega) (Nat.le_of_ble_eq_true rfl) (by decide +kernel) (Nat.le_refl _) (Nat.le_refl _) ?_
  show XR false (d0 + 1) 174 sc y_L_readAtom (94, [(0, (vR 3 l0)), (1, (vR 7 l1)), (3, (vI v3))], [(vI r_7)], R, M_8, 174) _
  rcases xif_ex h with ⟨c_10, h⟩ | ⟨c_10, h⟩
  · skip
    refine s_L_readAtom (d := (d0 + 1)) [(94, .ifCond .ne 5, 0, (-1)), (97, .iconst 0, 0, 0)] (by decide +kernel) (z' := (98, [(0, (vR 3 l0)), (1, (vR 7 l1)), (3, (vI v3))], [(vI 0)], R, M_8, 174)) (cs := [¬ (r_7 ≠ 0)]) (by rfl) ⟨fun q => q c_10, trivial⟩ (Nat.le_refl _) ?_
    obtain rfl := Option.some.inj h
    exact XR.retI .boolean rfl (xnar_z (by decide)) (by decide +kernel)
  · skip
    refine s_L_readAtom (d := (d0 + 1)) [(94, .ifCond .ne 5, 0, 99), (99, .aload_n 0, 0, 0), (100, .iload_n 3, 0, 0)] (by decide +kernel) (z' := (101, [(0, (vR 3 l0)), (1, (vR 7 l1)), (3, (vI v3))], [(vI v3), (vR 3 l0)], R, M_8, 174)) (cs := [r_7 ≠ 0]) (by rfl) ⟨c_10, trivial⟩ (Nat.le_refl _) ?_
    rcases xif_ex h with ⟨c_11, h⟩ | ⟨c_11, h⟩
    · skip
      refine s_L_readAtom (d := (d0 + 1)) [(101, .ifCond .eq 10, 0, 111), (111, .sipush 10000, 0, 10000), (114, .aload_n 1, 0, 0), (115, .getfield 107, 7, 9), (118, .iadd, 0, 0)] (by decide +kernel) (z' := (119, [(0, (vR 3 l0)), (1, (vR 7 l1)), (3, (vI v3))], [(vI (w32 (10000 + (M_8 l1 9)))), (vR 3 l0)], R, M_8, 174)) (cs := [v3 = 0]) (by rfl) ⟨c_11, trivial⟩ (Nat.le_refl _) ?_
      refine XR.pick [1] (ls' := [(1, (vR 7 l1))]) rfl ?_
      exact o_L_readAtom_J119 hd0 hrs  h
    · skip
      refine s_L_readAtom (d := (d0 + 1)) [(101, .ifCond .eq 10, 0, (-1)), (104, .aload_n 1, 0, 0), (105, .getfield 110, 7, 10), (108, .goto 11, 0, 119)] (by decide +kernel) (z' := (119, [(0, (vR 3 l0)), (1, (vR 7 l1)), (3, (vI v3))], [(vI (M_8 l1 10)), (vR 3 l0)], R, M_8, 174)) (cs := [¬ (v3 = 0)]) (by rfl) ⟨c_11, trivial⟩ (Nat.le_refl _) ?_
      refine XR.pick [1] (ls' := [(1, (vR 7 l1))]) rfl ?_
      exact o_L_readAtom_J119 hd0 hrs  h
set_option maxRecDepth 100000 in
set_option maxHeartbeats 4000000 in
theorem o_L_readAtom_J90 {sc : List Int} {d0 : Nat} (hd0 : 20 ≤ d0) {R : xR}   {l0 : Nat} {l1 : Nat} {rs : Nat → Nat → Int → xM → Option (Int × xM)} (hrs : ∀ (a b : Nat) (x : Int) (M : xM) (out : Int × xM), rs a b x M = some out → XC false d0 sc y_L_readSum [vR 3 a, vR 7 b, vI x] R M 174 174 (some (vI out.1), R, out.2))  {v3 : Int} {s0 : Nat} {M : xM} {out : Int × xM} (h : L_readAtom_J90 R rs l0 l1  v3 s0 M = some out) : XR false (d0 + 1) 174 sc y_L_readAtom (90, [(0, (vR 3 l0)), (1, (vR 7 l1)), (3, (vI v3))], [(vR 7 s0)], R, M, 174) ((some (vI out.1)), R, out.2) := by
  unfold L_readAtom_J90 at h
  refine s_L_readAtom (d := (d0 + 1)) [(90, .iconst 0, 0, 0)] (by decide +kernel) (z' := (91, [(0, (vR 3 l0)), (1, (vR 7 l1)), (3, (vI v3))], [(vI 0), (vR 7 s0)], R, M, 174)) (cs := []) (by rfl) trivial (Nat.le_refl _) ?_
  exact o_L_readAtom_J91 hd0 hrs  h
set_option maxRecDepth 100000 in
set_option maxHeartbeats 4000000 in
theorem o_L_readAtom_J86 {sc : List Int} {d0 : Nat} (hd0 : 20 ≤ d0) {R : xR}   {l0 : Nat} {l1 : Nat} {rs : Nat → Nat → Int → xM → Option (Int × xM)} (hrs : ∀ (a b : Nat) (x : Int) (M : xM) (out : Int × xM), rs a b x M = some out → XC false d0 sc y_L_readSum [vR 3 a, vR 7 b, vI x] R M 174 174 (some (vI out.1), R, out.2))  {v3 : Int} {s0 : Nat} {M : xM} {out : Int × xM} (h : L_readAtom_J86 R rs l0 l1  v3 s0 M = some out) : XR false (d0 + 1) 174 sc y_L_readAtom (86, [(0, (vR 3 l0)), (1, (vR 7 l1)), (3, (vI v3))], [(vR 7 s0)], R, M, 174) ((some (vI out.1)), R, out.2) := by
  unfold L_readAtom_J86 at h
  refine s_L_readAtom (d := (d0 + 1)) [(86, .iconst 1, 0, 1), (87, .goto 4, 0, 91)] (by decide +kernel) (z' := (91, [(0, (vR 3 l0)), (1, (vR 7 l1)), (3, (vI v3))], [(vI 1), (vR 7 s0)], R, M, 174)) (cs := []) (by rfl) trivial (Nat.le_refl _) ?_
  exact o_L_readAtom_J91 hd0 hrs  h
set_option maxRecDepth 100000 in
set_option maxHeartbeats 4000000 in
theorem o_L_readAtom_J64 {sc : List Int} {d0 : Nat} (hd0 : 20 ≤ d0) {R : xR}   {l0 : Nat} {l1 : Nat} {rs : Nat → Nat → Int → xM → Option (Int × xM)} (hrs : ∀ (a b : Nat) (x : Int) (M : xM) (out : Int × xM), rs a b x M = some out → XC false d0 sc y_L_readSum [vR 3 a, vR 7 b, vI x] R M 174 174 (some (vI out.1), R, out.2))  {s0 : Int} {M : xM} {out : Int × xM} (h : L_readAtom_J64 R rs l0 l1  s0 M = some out) : XR false (d0 + 1) 174 sc y_L_readAtom (64, [(0, (vR 3 l0)), (1, (vR 7 l1))], [(vI s0)], R, M, 174) ((some (vI out.1)), R, out.2) := by
  unfold L_readAtom_J64 at h
  refine s_L_readAtom (d := (d0 + 1)) [(64, .istore_n 3, 0, 0), (65, .aload_n 1, 0, 0), (66, .iload_n 3, 0, 0)] (by decide +kernel) (z' := (67, [(3, (vI s0)), (0, (vR 3 l0)), (1, (vR 7 l1))], [(vI s0), (vR 7 l1)], R, M, 174)) (cs := []) (by rfl) trivial (Nat.le_refl _) ?_
  rcases xif_ex h with ⟨c_5, h⟩ | ⟨c_5, h⟩
  · skip
    refine s_L_readAtom (d := (d0 + 1)) [(67, .ifCond .ne 19, 0, (-1)), (70, .aload_n 1, 0, 0), (71, .getfield 107, 7, 9)] (by decide +kernel) (z' := (74, [(3, (vI s0)), (0, (vR 3 l0)), (1, (vR 7 l1))], [(vI (M l1 9)), (vR 7 l1)], R, M, 174)) (cs := [¬ (s0 ≠ 0)]) (by rfl) ⟨fun q => q c_5, trivial⟩ (Nat.le_refl _) ?_
    rcases xif_ex h with ⟨c_6, h⟩ | ⟨c_6, h⟩
    · skip
      refine s_L_readAtom (d := (d0 + 1)) [(74, .ifCond .lt 16, 0, 90)] (by decide +kernel) (z' := (90, [(3, (vI s0)), (0, (vR 3 l0)), (1, (vR 7 l1))], [(vR 7 l1)], R, M, 174)) (cs := [M l1 9 < 0]) (by rfl) ⟨c_6, trivial⟩ (Nat.le_refl _) ?_
      refine XR.pick [1, 2, 0] (ls' := [(0, (vR 3 l0)), (1, (vR 7 l1)), (3, (vI s0))]) rfl ?_
      exact o_L_readAtom_J90 hd0 hrs  h
    · skip
      refine s_L_readAtom (d := (d0 + 1)) [(74, .ifCond .lt 16, 0, (-1)), (77, .aload_n 1, 0, 0), (78, .getfield 107, 7, 9), (81, .bipush 6, 0, 6)] (by decide +kernel) (z' := (83, [(3, (vI s0)), (0, (vR 3 l0)), (1, (vR 7 l1))], [(vI 6), (vI (M l1 9)), (vR 7 l1)], R, M, 174)) (cs := [¬ (M l1 9 < 0)]) (by rfl) ⟨c_6, trivial⟩ (Nat.le_refl _) ?_
      rcases xif_ex h with ⟨c_16, h⟩ | ⟨c_16, h⟩
      · skip
        refine s_L_readAtom (d := (d0 + 1)) [(83, .if_icmp .ge 7, 0, (-1))] (by decide +kernel) (z' := (86, [(3, (vI s0)), (0, (vR 3 l0)), (1, (vR 7 l1))], [(vR 7 l1)], R, M, 174)) (cs := [¬ (6 ≤ M l1 9)]) (by rfl) ⟨Int.not_le.mpr c_16, trivial⟩ (Nat.le_refl _) ?_
        refine XR.pick [1, 2, 0] (ls' := [(0, (vR 3 l0)), (1, (vR 7 l1)), (3, (vI s0))]) rfl ?_
        exact o_L_readAtom_J86 hd0 hrs  h
      · skip
        refine s_L_readAtom (d := (d0 + 1)) [(83, .if_icmp .ge 7, 0, 90)] (by decide +kernel) (z' := (90, [(3, (vI s0)), (0, (vR 3 l0)), (1, (vR 7 l1))], [(vR 7 l1)], R, M, 174)) (cs := [6 ≤ M l1 9]) (by rfl) ⟨Int.not_lt.mp c_16, trivial⟩ (Nat.le_refl _) ?_
        refine XR.pick [1, 2, 0] (ls' := [(0, (vR 3 l0)), (1, (vR 7 l1)), (3, (vI s0))]) rfl ?_
        exact o_L_readAtom_J90 hd0 hrs  h
  · skip
    refine s_L_readAtom (d := (d0 + 1)) [(67, .ifCond .ne 19, 0, 86)] (by decide +kernel) (z' := (86, [(3, (vI s0)), (0, (vR 3 l0)), (1, (vR 7 l1))], [(vR 7 l1)], R, M, 174)) (cs := [s0 ≠ 0]) (by rfl) ⟨c_5, trivial⟩ (Nat.le_refl _) ?_
    refine XR.pick [1, 2, 0] (ls' := [(0, (vR 3 l0)), (1, (vR 7 l1)), (3, (vI s0))]) rfl ?_
    exact o_L_readAtom_J86 hd0 hrs  h
set_option maxRecDepth 100000 in
set_option maxHeartbeats 4000000 in
theorem o_L_readAtom {sc : List Int} {R : xR} {M : xM} {d0 : Nat} (hd0 : 20 ≤ d0) {rs : Nat → Nat → Int → xM → Option (Int × xM)} (hrs : ∀ (a b : Nat) (x : Int) (M : xM) (out : Int × xM), rs a b x M = some out → XC false d0 sc y_L_readSum [vR 3 a, vR 7 b, vI x] R M 174 174 (some (vI out.1), R, out.2)) {l0 : Nat} {l1 : Nat} {l2 : Int} {out : Int × xM} (h : f_L_readAtom R rs l0 l1 l2 M = some out) : XR false (d0 + 1) 174 sc y_L_readAtom (0, [(0, (vR 3 l0)), (1, (vR 7 l1)), (2, (vI l2))], [], R, M, 174) ((some (vI out.1)), R, out.2) := by
  unfold f_L_readAtom at h
  refine s_L_readAtom (d := (d0 + 1)) [(0, .aload_n 1, 0, 0), (1, .bipush 40, 0, 40)] (by decide +kernel) (z' := (3, [(0, (vR 3 l0)), (1, (vR 7 l1)), (2, (vI l2))], [(vI 40), (vR 7 l1)], R, M, 174)) (cs := []) (by rfl) trivial (Nat.le_refl _) ?_
  obtain ⟨r_1, e_2, h⟩ := xb1_ex h
  refine XR.callV 3 rfl (rest := []) m_A_isSign k_3_97 7 l1 (Or.inl ⟨by decide, rfl⟩) [(vI 40)] rfl rfl (c_A_isSign e_2) (by omega) (Nat.le_of_ble_eq_true rfl) (by decide +kernel) (Nat.le_refl _) (Nat.le_refl _) ?_
  show XR false (d0 + 1) 174 sc y_L_readAtom (6, [(0, (vR 3 l0)), (1, (vR 7 l1)), (2, (vI l2))], [(vI r_1)], R, M, 174) _
  rcases xif_ex h with ⟨c_3, h⟩ | ⟨c_3, h⟩
  · skip
    refine s_L_readAtom (d := (d0 + 1)) [(6, .ifCond .eq 45, 0, 51), (51, .aload_n 1, 0, 0), (52, .getfield 41, 7, 7), (55, .iconst 2, 0, 2)] (by decide +kernel) (z' := (56, [(0, (vR 3 l0)), (1, (vR 7 l1)), (2, (vI l2))], [(vI 2), (vI (M l1 7))], R, M, 174)) (cs := [r_1 = 0]) (by rfl) ⟨c_3, trivial⟩ (Nat.le_refl _) ?_
    rcases xif_ex h with ⟨c_4, h⟩ | ⟨c_4, h⟩
    · skip
      refine s_L_readAtom (d := (d0 + 1)) [(56, .if_icmp .ne 7, 0, (-1)), (59, .iconst 1, 0, 1), (60, .goto 4, 0, 64)] (by decide +kernel) (z' := (64, [(0, (vR 3 l0)), (1, (vR 7 l1)), (2, (vI l2))], [(vI 1)], R, M, 174)) (cs := [¬ (M l1 7 ≠ 2)]) (by rfl) ⟨fun q => q c_4, trivial⟩ (Nat.le_refl _) ?_
      refine XR.pick [0, 1] (ls' := [(0, (vR 3 l0)), (1, (vR 7 l1))]) rfl ?_
      exact o_L_readAtom_J64 hd0 hrs  h
    · skip
      refine s_L_readAtom (d := (d0 + 1)) [(56, .if_icmp .ne 7, 0, 63), (63, .iconst 0, 0, 0)] (by decide +kernel) (z' := (64, [(0, (vR 3 l0)), (1, (vR 7 l1)), (2, (vI l2))], [(vI 0)], R, M, 174)) (cs := [M l1 7 ≠ 2]) (by rfl) ⟨c_4, trivial⟩ (Nat.le_refl _) ?_
      refine XR.pick [0, 1] (ls' := [(0, (vR 3 l0)), (1, (vR 7 l1))]) rfl ?_
      exact o_L_readAtom_J64 hd0 hrs  h
  · skip
    refine s_L_readAtom (d := (d0 + 1)) [(6, .ifCond .eq 45, 0, (-1)), (9, .iload_n 2, 0, 0), (10, .bipush 6, 0, 6)] (by decide +kernel) (z' := (12, [(0, (vR 3 l0)), (1, (vR 7 l1)), (2, (vI l2))], [(vI 6), (vI l2)], R, M, 174)) (cs := [¬ (r_1 = 0)]) (by rfl) ⟨c_3, trivial⟩ (Nat.le_refl _) ?_
    rcases xif_ex h with ⟨c_17, h⟩ | ⟨c_17, h⟩
    · skip
      refine s_L_readAtom (d := (d0 + 1)) [(12, .if_icmp .lt 9, 0, 21), (21, .aload_n 1, 0, 0)] (by decide +kernel) (z' := (22, [(0, (vR 3 l0)), (1, (vR 7 l1)), (2, (vI l2))], [(vR 7 l1)], R, M, 174)) (cs := [l2 < 6]) (by rfl) ⟨c_17, trivial⟩ (Nat.le_refl _) ?_
      obtain ⟨M_18, e_19, h⟩ := xb1_ex h
      refine XR.callV 3 rfl (rest := []) m_A_advance k_3_70 7 l1 (Or.inl ⟨by decide, rfl⟩) [] rfl rfl (c_A_advance e_19) (by omega) (Nat.le_of_ble_eq_true rfl) (by decide +kernel) (Nat.le_refl _) (Nat.le_refl _) ?_
      show XR false (d0 + 1) 174 sc y_L_readAtom (25, [(0, (vR 3 l0)), (1, (vR 7 l1)), (2, (vI l2))], [], R, M_18, 174) _
      refine s_L_readAtom (d := (d0 + 1)) [(25, .aload_n 0, 0, 0), (26, .aload_n 1, 0, 0), (27, .iload_n 2, 0, 0), (28, .iconst 1, 0, 1), (29, .iadd, 0, 0)] (by decide +kernel) (z' := (30, [(0, (vR 3 l0)), (1, (vR 7 l1)), (2, (vI l2))], [(vI (w32 (l2 + 1))), (vR 7 l1), (vR 3 l0)], R, M_18, 174)) (cs := []) (by rfl) trivial (Nat.le_refl _) ?_
      obtain ⟨r_20, M_21, e_22, h⟩ := xb2_ex h
      refine XR.callV 3 rfl (rest := []) m_L_readSum k_3_77 3 l0 (Or.inl ⟨by decide, rfl⟩) [(vR 7 l1), (vI (w32 (l2 + 1)))] rfl rfl (hrs _ _ _ _ _ e_22) (by omega) (Nat.le_of_ble_eq_true rfl) (by decide +kernel) (Nat.le_refl _) (Nat.le_refl _) ?_
      show XR false (d0 + 1) 174 sc y_L_readAtom (33, [(0, (vR 3 l0)), (1, (vR 7 l1)), (2, (vI l2))], [(vI r_20)], R, M_21, 174) _
      rcases xif_ex h with ⟨c_23, h⟩ | ⟨c_23, h⟩
      · skip
        refine s_L_readAtom (d := (d0 + 1)) [(33, .ifCond .eq 16, 0, 49), (49, .iconst 0, 0, 0)] (by decide +kernel) (z' := (50, [(0, (vR 3 l0)), (1, (vR 7 l1)), (2, (vI l2))], [(vI 0)], R, M_21, 174)) (cs := [r_20 = 0]) (by rfl) ⟨c_23, trivial⟩ (Nat.le_refl _) ?_
        obtain rfl := Option.some.inj h
        exact XR.retI .boolean rfl (xnar_z (by decide)) (by decide +kernel)
      · skip
        refine s_L_readAtom (d := (d0 + 1)) [(33, .ifCond .eq 16, 0, (-1)), (36, .aload_n 1, 0, 0), (37, .bipush 41, 0, 41)] (by decide +kernel) (z' := (39, [(0, (vR 3 l0)), (1, (vR 7 l1)), (2, (vI l2))], [(vI 41), (vR 7 l1)], R, M_21, 174)) (cs := [¬ (r_20 = 0)]) (by rfl) ⟨c_23, trivial⟩ (Nat.le_refl _) ?_
        obtain ⟨r_24, M_25, e_26, h⟩ := xb2_ex h
        refine XR.callV 3 rfl (rest := []) m_A_takeSign k_3_73 7 l1 (Or.inl ⟨by decide, rfl⟩) [(vI 41)] rfl rfl (c_A_takeSign e_26) (by omega) (Nat.le_of_ble_eq_true rfl) (by decide +kernel) (Nat.le_refl _) (Nat.le_refl _) ?_
        show XR false (d0 + 1) 174 sc y_L_readAtom (42, [(0, (vR 3 l0)), (1, (vR 7 l1)), (2, (vI l2))], [(vI r_24)], R, M_25, 174) _
        rcases xif_ex h with ⟨c_27, h⟩ | ⟨c_27, h⟩
        · skip
          refine s_L_readAtom (d := (d0 + 1)) [(42, .ifCond .eq 7, 0, 49), (49, .iconst 0, 0, 0)] (by decide +kernel) (z' := (50, [(0, (vR 3 l0)), (1, (vR 7 l1)), (2, (vI l2))], [(vI 0)], R, M_25, 174)) (cs := [r_24 = 0]) (by rfl) ⟨c_27, trivial⟩ (Nat.le_refl _) ?_
          obtain rfl := Option.some.inj h
          exact XR.retI .boolean rfl (xnar_z (by decide)) (by decide +kernel)
        · skip
          refine s_L_readAtom (d := (d0 + 1)) [(42, .ifCond .eq 7, 0, (-1)), (45, .iconst 1, 0, 1), (46, .goto 4, 0, 50)] (by decide +kernel) (z' := (50, [(0, (vR 3 l0)), (1, (vR 7 l1)), (2, (vI l2))], [(vI 1)], R, M_25, 174)) (cs := [¬ (r_24 = 0)]) (by rfl) ⟨c_27, trivial⟩ (Nat.le_refl _) ?_
          obtain rfl := Option.some.inj h
          exact XR.retI .boolean rfl (xnar_z (by decide)) (by decide +kernel)
    · skip
      refine s_L_readAtom (d := (d0 + 1)) [(12, .if_icmp .lt 9, 0, (-1)), (15, .aload_n 1, 0, 0), (16, .iconst 5, 0, 5)] (by decide +kernel) (z' := (17, [(0, (vR 3 l0)), (1, (vR 7 l1)), (2, (vI l2))], [(vI 5), (vR 7 l1)], R, M, 174)) (cs := [¬ (l2 < 6)]) (by rfl) ⟨c_17, trivial⟩ (Nat.le_refl _) ?_
      obtain ⟨r_28, M_29, e_30, h⟩ := xb2_ex h
      refine XR.callV 3 rfl (rest := []) m_A_wrong k_3_58 7 l1 (Or.inl ⟨by decide, rfl⟩) [(vI 5)] rfl rfl (c_A_wrong e_30) (by omega) (Nat.le_of_ble_eq_true rfl) (by decide +kernel) (Nat.le_refl _) (Nat.le_refl _) ?_
      show XR false (d0 + 1) 174 sc y_L_readAtom (20, [(0, (vR 3 l0)), (1, (vR 7 l1)), (2, (vI l2))], [(vI r_28)], R, M_29, 174) _
      obtain ⟨c_31, h⟩ := xch_ex h
      obtain rfl := Option.some.inj h
      exact XR.retI .boolean rfl (xnar_z c_31) (by decide +kernel)
set_option maxRecDepth 100000 in
set_option maxHeartbeats 4000000 in
theorem c_L_readAtom {sc : List Int} {R : xR} {M : xM} {d0 : Nat} (hd0 : 20 ≤ d0) {rs : Nat → Nat → Int → xM → Option (Int × xM)} (hrs : ∀ (a b : Nat) (x : Int) (M : xM) (out : Int × xM), rs a b x M = some out → XC false d0 sc y_L_readSum [vR 3 a, vR 7 b, vI x] R M 174 174 (some (vI out.1), R, out.2)) {l0 : Nat} {l1 : Nat} {l2 : Int} {out : Int × xM} (h : f_L_readAtom R rs l0 l1 l2 M = some out) : XC false (d0 + 1) sc y_L_readAtom [(vR 3 l0), (vR 7 l1), (vI l2)] R M 174 174 ((some (vI out.1)), R, out.2) := XC.of (by decide) (Nat.le_of_ble_eq_true rfl) (Nat.le_refl _) (Nat.le_refl _) (o_L_readAtom hd0 hrs h)
def L_readItem_F10 (R : xR) (rs : Nat → Nat → Int → xM → Option (Int × xM)) (l0 : Nat) (l1 : Nat) (l2 : Int) : Nat → Int → Int → xM → Option (Int × xM)
  | 0, _, _, _ => none
  | n + 1, v3, v4, M =>
    if v3 = 0 then
      xch (v3 = 0 ∨ v3 = 1) <|
      some (v3, M)
    else
      xb1 (f_A_isSign l1 42 M) fun r_6 =>
      if r_6 = 0 then
        xch (v3 = 0 ∨ v3 = 1) <|
        some (v3, M)
      else
        if v4 < 600 then
          xb1 (f_A_advance R l1 M) fun M_11 =>
          xb2 (f_L_readAtom R rs l0 l1 l2 M_11) fun r_13 M_14 =>
          xb1 (f_L_addStep R l0 10012 M_14) fun M_16 =>
          xl (w32 (v4 + 1)) fun v4_18 =>
          L_readItem_F10 R rs l0 l1 l2  n r_13 v4_18 M_16
        else
          xch (v3 = 0 ∨ v3 = 1) <|
          some (v3, M)
def f_L_readItem (R : xR) (rs : Nat → Nat → Int → xM → Option (Int × xM)) (l0 : Nat) (l1 : Nat) (l2 : Int) (M : xM) : Option (Int × xM) :=
  xb2 (f_L_readAtom R rs l0 l1 l2 M) fun r_1 M_2 =>
  L_readItem_F10 R rs l0 l1 l2
    xfu r_1 0 M_2
set_option maxRecDepth 100000 in
set_option maxHeartbeats 4000000 in
theorem s_L_readItem {d : Nat} {sc : List Int} {z z' : xS} {out : xO} (qs : List xI) {cs : List Prop} (hq : qs.all (xqb 3 false y_L_readItem.2.2.1 y_L_readItem.2.1) = true) (h : xN false sc qs z = some (z', cs)) (hc : xAll cs) (hE : z'.2.2.2.2.2 ≤ 174) (k : XR false d 174 sc y_L_readItem z' out) : XR false d 174 sc y_L_readItem z out := XR.seg 3 false rfl (fun q => by cases q) qs hq h hc hE k
set_option maxRecDepth 100000 in
set_option maxHeartbeats 4000000 in
theorem o_L_readItem_F10 {sc : List Int} {d0 : Nat} (hd0 : 20 ≤ d0) {R : xR}   {l0 : Nat} {l1 : Nat} {l2 : Int} {rs : Nat → Nat → Int → xM → Option (Int × xM)} (hrs : ∀ (a b : Nat) (x : Int) (M : xM) (out : Int × xM), rs a b x M = some out → XC false d0 sc y_L_readSum [vR 3 a, vR 7 b, vI x] R M 174 174 (some (vI out.1), R, out.2))  : ∀ (n : Nat) (v3 : Int) (v4 : Int) (M : xM) (out : Int × xM), L_readItem_F10 R rs l0 l1 l2  n v3 v4 M = some out → XR false (d0 + 2) 174 sc y_L_readItem (10, [(0, (vR 3 l0)), (1, (vR 7 l1)), (2, (vI l2)), (3, (vI v3)), (4, (vI v4))], [], R, M, 174) ((some (vI out.1)), R, out.2) := by
  intro n
  induction n with
  | zero => intro v3 v4 M out h; exact (xno h).elim
  | succ n ih =>
    intro v3 v4 M out h
    rw [L_readItem_F10] at h
    refine s_L_readItem (d := (d0 + 2)) [(10, .iload_n 3, 0, 0)] (by decide +kernel) (z' := (11, [(0, (vR 3 l0)), (1, (vR 7 l1)), (2, (vI l2)), (3, (vI v3)), (4, (vI v4))], [(vI v3)], R, M, 174)) (cs := []) (by rfl) trivial (Nat.le_refl _) ?_
    rcases xif_ex h with ⟨c_4, h⟩ | ⟨c_4, h⟩
    · skip
      obtain ⟨c_5, h⟩ := xch_ex h
      refine s_L_readItem (d := (d0 + 2)) [(11, .ifCond .eq 44, 0, 55), (55, .iload_n 3, 0, 0)] (by decide +kernel) (z' := (56, [(0, (vR 3 l0)), (1, (vR 7 l1)), (2, (vI l2)), (3, (vI v3)), (4, (vI v4))], [(vI v3)], R, M, 174)) (cs := [v3 = 0]) (by rfl) ⟨c_4, trivial⟩ (Nat.le_refl _) ?_
      obtain rfl := Option.some.inj h
      exact XR.retI .boolean rfl (xnar_z c_5) (by decide +kernel)
    · skip
      refine s_L_readItem (d := (d0 + 2)) [(11, .ifCond .eq 44, 0, (-1)), (14, .aload_n 1, 0, 0), (15, .bipush 42, 0, 42)] (by decide +kernel) (z' := (17, [(0, (vR 3 l0)), (1, (vR 7 l1)), (2, (vI l2)), (3, (vI v3)), (4, (vI v4))], [(vI 42), (vR 7 l1)], R, M, 174)) (cs := [¬ (v3 = 0)]) (by rfl) ⟨c_4, trivial⟩ (Nat.le_refl _) ?_
      obtain ⟨r_6, e_7, h⟩ := xb1_ex h
      refine XR.callV 3 rfl (rest := []) m_A_isSign k_3_97 7 l1 (Or.inl ⟨by decide, rfl⟩) [(vI 42)] rfl rfl (c_A_isSign e_7) (by omega) (Nat.le_of_ble_eq_true rfl) (by decide +kernel) (Nat.le_refl _) (Nat.le_refl _) ?_
      show XR false (d0 + 2) 174 sc y_L_readItem (20, [(0, (vR 3 l0)), (1, (vR 7 l1)), (2, (vI l2)), (3, (vI v3)), (4, (vI v4))], [(vI r_6)], R, M, 174) _
      rcases xif_ex h with ⟨c_8, h⟩ | ⟨c_8, h⟩
      · skip
        obtain ⟨c_9, h⟩ := xch_ex h
        refine s_L_readItem (d := (d0 + 2)) [(20, .ifCond .eq 35, 0, 55), (55, .iload_n 3, 0, 0)] (by decide +kernel) (z' := (56, [(0, (vR 3 l0)), (1, (vR 7 l1)), (2, (vI l2)), (3, (vI v3)), (4, (vI v4))], [(vI v3)], R, M, 174)) (cs := [r_6 = 0]) (by rfl) ⟨c_8, trivial⟩ (Nat.le_refl _) ?_
        obtain rfl := Option.some.inj h
        exact XR.retI .boolean rfl (xnar_z c_9) (by decide +kernel)
      · skip
        refine s_L_readItem (d := (d0 + 2)) [(20, .ifCond .eq 35, 0, (-1)), (23, .iload 4, 0, 0), (25, .sipush 600, 0, 600)] (by decide +kernel) (z' := (28, [(0, (vR 3 l0)), (1, (vR 7 l1)), (2, (vI l2)), (3, (vI v3)), (4, (vI v4))], [(vI 600), (vI v4)], R, M, 174)) (cs := [¬ (r_6 = 0)]) (by rfl) ⟨c_8, trivial⟩ (Nat.le_refl _) ?_
        rcases xif_ex h with ⟨c_10, h⟩ | ⟨c_10, h⟩
        · skip
          refine s_L_readItem (d := (d0 + 2)) [(28, .if_icmp .ge 27, 0, (-1)), (31, .aload_n 1, 0, 0)] (by decide +kernel) (z' := (32, [(0, (vR 3 l0)), (1, (vR 7 l1)), (2, (vI l2)), (3, (vI v3)), (4, (vI v4))], [(vR 7 l1)], R, M, 174)) (cs := [¬ (600 ≤ v4)]) (by rfl) ⟨Int.not_le.mpr c_10, trivial⟩ (Nat.le_refl _) ?_
          obtain ⟨M_11, e_12, h⟩ := xb1_ex h
          refine XR.callV 3 rfl (rest := []) m_A_advance k_3_70 7 l1 (Or.inl ⟨by decide, rfl⟩) [] rfl rfl (c_A_advance e_12) (by omega) (Nat.le_of_ble_eq_true rfl) (by decide +kernel) (Nat.le_refl _) (Nat.le_refl _) ?_
          show XR false (d0 + 2) 174 sc y_L_readItem (35, [(0, (vR 3 l0)), (1, (vR 7 l1)), (2, (vI l2)), (3, (vI v3)), (4, (vI v4))], [], R, M_11, 174) _
          refine s_L_readItem (d := (d0 + 2)) [(35, .aload_n 0, 0, 0), (36, .aload_n 1, 0, 0), (37, .iload_n 2, 0, 0)] (by decide +kernel) (z' := (38, [(0, (vR 3 l0)), (1, (vR 7 l1)), (2, (vI l2)), (3, (vI v3)), (4, (vI v4))], [(vI l2), (vR 7 l1), (vR 3 l0)], R, M_11, 174)) (cs := []) (by rfl) trivial (Nat.le_refl _) ?_
          obtain ⟨r_13, M_14, e_15, h⟩ := xb2_ex h
          refine XR.callV 3 rfl (rest := []) m_L_readAtom k_3_104 3 l0 (Or.inl ⟨by decide, rfl⟩) [(vR 7 l1), (vI l2)] rfl rfl (c_L_readAtom hd0 hrs e_15) (by omega) (Nat.le_of_ble_eq_true rfl) (by decide +kernel) (Nat.le_refl _) (Nat.le_refl _) ?_
          show XR false (d0 + 2) 174 sc y_L_readItem (41, [(0, (vR 3 l0)), (1, (vR 7 l1)), (2, (vI l2)), (3, (vI v3)), (4, (vI v4))], [(vI r_13)], R, M_14, 174) _
          refine s_L_readItem (d := (d0 + 2)) [(41, .istore_n 3, 0, 0), (42, .aload_n 0, 0, 0), (43, .sipush 10012, 0, 10012)] (by decide +kernel) (z' := (46, [(3, (vI r_13)), (0, (vR 3 l0)), (1, (vR 7 l1)), (2, (vI l2)), (4, (vI v4))], [(vI 10012), (vR 3 l0)], R, M_14, 174)) (cs := []) (by rfl) trivial (Nat.le_refl _) ?_
          obtain ⟨M_16, e_17, h⟩ := xb1_ex h
          refine XR.callV 3 rfl (rest := []) m_L_addStep k_3_100 3 l0 (Or.inl ⟨by decide, rfl⟩) [(vI 10012)] rfl rfl (c_L_addStep e_17) (by omega) (Nat.le_of_ble_eq_true rfl) (by decide +kernel) (Nat.le_refl _) (Nat.le_refl _) ?_
          show XR false (d0 + 2) 174 sc y_L_readItem (49, [(3, (vI r_13)), (0, (vR 3 l0)), (1, (vR 7 l1)), (2, (vI l2)), (4, (vI v4))], [], R, M_16, 174) _
          obtain ⟨v4_18, hv4_18, h⟩ := xl_ex h
          refine s_L_readItem (d := (d0 + 2)) [(49, .iinc 4 1, 0, 0), (52, .goto (-42), 0, 10)] (by decide +kernel) (z' := (10, [(4, (vI v4_18)), (3, (vI r_13)), (0, (vR 3 l0)), (1, (vR 7 l1)), (2, (vI l2))], [], R, M_16, 174)) (cs := []) (by subst hv4_18; rfl) trivial (Nat.le_refl _) ?_
          refine XR.pick [2, 3, 4, 1, 0] (ls' := [(0, (vR 3 l0)), (1, (vR 7 l1)), (2, (vI l2)), (3, (vI r_13)), (4, (vI v4_18))]) rfl ?_
          exact ih r_13 v4_18 M_16 _ h
        · skip
          obtain ⟨c_19, h⟩ := xch_ex h
          refine s_L_readItem (d := (d0 + 2)) [(28, .if_icmp .ge 27, 0, 55), (55, .iload_n 3, 0, 0)] (by decide +kernel) (z' := (56, [(0, (vR 3 l0)), (1, (vR 7 l1)), (2, (vI l2)), (3, (vI v3)), (4, (vI v4))], [(vI v3)], R, M, 174)) (cs := [600 ≤ v4]) (by rfl) ⟨Int.not_lt.mp c_10, trivial⟩ (Nat.le_refl _) ?_
          obtain rfl := Option.some.inj h
          exact XR.retI .boolean rfl (xnar_z c_19) (by decide +kernel)
set_option maxRecDepth 100000 in
set_option maxHeartbeats 4000000 in
theorem o_L_readItem {sc : List Int} {R : xR} {M : xM} {d0 : Nat} (hd0 : 20 ≤ d0) {rs : Nat → Nat → Int → xM → Option (Int × xM)} (hrs : ∀ (a b : Nat) (x : Int) (M : xM) (out : Int × xM), rs a b x M = some out → XC false d0 sc y_L_readSum [vR 3 a, vR 7 b, vI x] R M 174 174 (some (vI out.1), R, out.2)) {l0 : Nat} {l1 : Nat} {l2 : Int} {out : Int × xM} (h : f_L_readItem R rs l0 l1 l2 M = some out) : XR false (d0 + 2) 174 sc y_L_readItem (0, [(0, (vR 3 l0)), (1, (vR 7 l1)), (2, (vI l2))], [], R, M, 174) ((some (vI out.1)), R, out.2) := by
  unfold f_L_readItem at h
  refine s_L_readItem (d := (d0 + 2)) [(0, .aload_n 0, 0, 0), (1, .aload_n 1, 0, 0), (2, .iload_n 2, 0, 0)] (by decide +kernel) (z' := (3, [(0, (vR 3 l0)), (1, (vR 7 l1)), (2, (vI l2))], [(vI l2), (vR 7 l1), (vR 3 l0)], R, M, 174)) (cs := []) (by rfl) trivial (Nat.le_refl _) ?_
  obtain ⟨r_1, M_2, e_3, h⟩ := xb2_ex h
  refine XR.callV 3 rfl (rest := []) m_L_readAtom k_3_104 3 l0 (Or.inl ⟨by decide, rfl⟩) [(vR 7 l1), (vI l2)] rfl rfl (c_L_readAtom hd0 hrs e_3) (by omega) (Nat.le_of_ble_eq_true rfl) (by decide +kernel) (Nat.le_refl _) (Nat.le_refl _) ?_
  show XR false (d0 + 2) 174 sc y_L_readItem (6, [(0, (vR 3 l0)), (1, (vR 7 l1)), (2, (vI l2))], [(vI r_1)], R, M_2, 174) _
  refine s_L_readItem (d := (d0 + 2)) [(6, .istore_n 3, 0, 0), (7, .iconst 0, 0, 0), (8, .istore 4, 0, 0)] (by decide +kernel) (z' := (10, [(4, (vI 0)), (3, (vI r_1)), (0, (vR 3 l0)), (1, (vR 7 l1)), (2, (vI l2))], [], R, M_2, 174)) (cs := []) (by rfl) trivial (Nat.le_refl _) ?_
  refine XR.pick [2, 3, 4, 1, 0] (ls' := [(0, (vR 3 l0)), (1, (vR 7 l1)), (2, (vI l2)), (3, (vI r_1)), (4, (vI 0))]) rfl ?_
  refine o_L_readItem_F10 hd0 hrs  xfu r_1 0 M_2 _ h
set_option maxRecDepth 100000 in
set_option maxHeartbeats 4000000 in
theorem c_L_readItem {sc : List Int} {R : xR} {M : xM} {d0 : Nat} (hd0 : 20 ≤ d0) {rs : Nat → Nat → Int → xM → Option (Int × xM)} (hrs : ∀ (a b : Nat) (x : Int) (M : xM) (out : Int × xM), rs a b x M = some out → XC false d0 sc y_L_readSum [vR 3 a, vR 7 b, vI x] R M 174 174 (some (vI out.1), R, out.2)) {l0 : Nat} {l1 : Nat} {l2 : Int} {out : Int × xM} (h : f_L_readItem R rs l0 l1 l2 M = some out) : XC false (d0 + 2) sc y_L_readItem [(vR 3 l0), (vR 7 l1), (vI l2)] R M 174 174 ((some (vI out.1)), R, out.2) := XC.of (by decide) (Nat.le_of_ble_eq_true rfl) (Nat.le_refl _) (Nat.le_refl _) (o_L_readItem hd0 hrs h)
def L_readSum_J58 (R : xR) (rs : Nat → Nat → Int → xM → Option (Int × xM)) (l0 : Nat) (l1 : Nat) (l2 : Int) (rc : Int → Int → xM → Option (Int × xM)) (v4 : Int) (s0 : Int) (M : xM) : Option (Int × xM) :=
  xb1 (f_A_advance R l1 M) fun M_17 =>
  xb2 (f_L_readItem R rs l0 l1 l2 M_17) fun r_19 M_20 =>
  xb1 (f_L_addStep R l0 s0 M_20) fun M_22 =>
  xl (w32 (v4 + 1)) fun v4_24 =>
  rc r_19 v4_24 M_22
def L_readSum_J32 (R : xR) (rs : Nat → Nat → Int → xM → Option (Int × xM)) (l0 : Nat) (l1 : Nat) (l2 : Int) (rc : Int → Int → xM → Option (Int × xM)) (v3 : Int) (v4 : Int) (M : xM) : Option (Int × xM) :=
  if v4 < 600 then
    xb1 (f_A_isSign l1 43 M) fun r_14 =>
    if r_14 = 0 then
      L_readSum_J58 R rs l0 l1 l2 rc v4 10011 M
    else
      L_readSum_J58 R rs l0 l1 l2 rc v4 10010 M
  else
    xch (v3 = 0 ∨ v3 = 1) <|
    some (v3, M)
def L_readSum_F10 (R : xR) (rs : Nat → Nat → Int → xM → Option (Int × xM)) (l0 : Nat) (l1 : Nat) (l2 : Int) : Nat → Int → Int → xM → Option (Int × xM)
  | 0, _, _, _ => none
  | n + 1, v3, v4, M =>
    if v3 = 0 then
      xch (v3 = 0 ∨ v3 = 1) <|
      some (v3, M)
    else
      xb1 (f_A_isSign l1 43 M) fun r_6 =>
      if r_6 = 0 then
        xb1 (f_A_isSign l1 45 M) fun r_9 =>
        if r_9 = 0 then
          xch (v3 = 0 ∨ v3 = 1) <|
          some (v3, M)
        else
          L_readSum_J32 R rs l0 l1 l2 (L_readSum_F10 R rs l0 l1 l2  n) v3 v4 M
      else
        L_readSum_J32 R rs l0 l1 l2 (L_readSum_F10 R rs l0 l1 l2  n) v3 v4 M
def f_L_readSumB (R : xR) (rs : Nat → Nat → Int → xM → Option (Int × xM)) (l0 : Nat) (l1 : Nat) (l2 : Int) (M : xM) : Option (Int × xM) :=
  xb2 (f_L_readItem R rs l0 l1 l2 M) fun r_1 M_2 =>
  L_readSum_F10 R rs l0 l1 l2
    xfu r_1 0 M_2
set_option maxRecDepth 100000 in
set_option maxHeartbeats 4000000 in
theorem s_L_readSum {d : Nat} {sc : List Int} {z z' : xS} {out : xO} (qs : List xI) {cs : List Prop} (hq : qs.all (xqb 3 false y_L_readSum.2.2.1 y_L_readSum.2.1) = true) (h : xN false sc qs z = some (z', cs)) (hc : xAll cs) (hE : z'.2.2.2.2.2 ≤ 174) (k : XR false d 174 sc y_L_readSum z' out) : XR false d 174 sc y_L_readSum z out := XR.seg 3 false rfl (fun q => by cases q) qs hq h hc hE k
set_option maxRecDepth 100000 in
set_option maxHeartbeats 4000000 in
theorem o_L_readSum_J58 {sc : List Int} {d0 : Nat} (hd0 : 20 ≤ d0) {R : xR}   {l0 : Nat} {l1 : Nat} {l2 : Int} {rs : Nat → Nat → Int → xM → Option (Int × xM)} (hrs : ∀ (a b : Nat) (x : Int) (M : xM) (out : Int × xM), rs a b x M = some out → XC false d0 sc y_L_readSum [vR 3 a, vR 7 b, vI x] R M 174 174 (some (vI out.1), R, out.2))  {rc : Int → Int → xM → Option (Int × xM)} (hrc : ∀ (w3 : Int) (w4 : Int) (M : xM) (out : Int × xM), rc w3 w4 M = some out → XR false (d0 + 3) 174 sc y_L_readSum (10, [(0, (vR 3 l0)), (1, (vR 7 l1)), (2, (vI l2)), (3, (vI w3)), (4, (vI w4))], [], R, M, 174) ((some (vI out.1)), R, out.2)) {v4 : Int} {s0 : Int} {M : xM} {out : Int × xM} (h : L_readSum_J58 R rs l0 l1 l2 rc v4 s0 M = some out) : XR false (d0 + 3) 174 sc y_L_readSum (58, [(0, (vR 3 l0)), (1, (vR 7 l1)), (2, (vI l2)), (4, (vI v4))], [(vI s0)], R, M, 174) ((some (vI out.1)), R, out.2) := by
  unfold L_readSum_J58 at h
  refine s_L_readSum (d := (d0 + 3)) [(58, .istore 5, 0, 0), (60, .aload_n 1, 0, 0)] (by decide +kernel) (z' := (61, [(5, (vI s0)), (0, (vR 3 l0)), (1, (vR 7 l1)), (2, (vI l2)), (4, (vI v4))], [(vR 7 l1)], R, M, 174)) (cs := []) (by rfl) trivial (Nat.le_refl _) ?_
  obtain ⟨M_17, e_18, h⟩ := xb1_ex h
  refine XR.callV 3 rfl (rest := []) m_A_advance k_3_70 7 l1 (Or.inl ⟨by decide, rfl⟩) [] rfl rfl (c_A_advance e_18) (by omega) (Nat.le_of_ble_eq_true rfl) (by decide +kernel) (Nat.le_refl _) (Nat.le_refl _) ?_
  show XR false (d0 + 3) 174 sc y_L_readSum (64, [(5, (vI s0)), (0, (vR 3 l0)), (1, (vR 7 l1)), (2, (vI l2)), (4, (vI v4))], [], R, M_17, 174) _
  refine s_L_readSum (d := (d0 + 3)) [(64, .aload_n 0, 0, 0), (65, .aload_n 1, 0, 0), (66, .iload_n 2, 0, 0)] (by decide +kernel) (z' := (67, [(5, (vI s0)), (0, (vR 3 l0)), (1, (vR 7 l1)), (2, (vI l2)), (4, (vI v4))], [(vI l2), (vR 7 l1), (vR 3 l0)], R, M_17, 174)) (cs := []) (by rfl) trivial (Nat.le_refl _) ?_
  obtain ⟨r_19, M_20, e_21, h⟩ := xb2_ex h
  refine XR.callV 3 rfl (rest := []) m_L_readItem k_3_94 3 l0 (Or.inl ⟨by decide, rfl⟩) [(vR 7 l1), (vI l2)] rfl rfl (c_L_readItem hd0 hrs e_21) (by omega) (Nat.le_of_ble_eq_true rfl) (by decide +kernel) (Nat.le_refl _) (Nat.le_refl _) ?_
  show XR false (d0 + 3) 174 sc y_L_readSum (70, [(5, (vI s0)), (0, (vR 3 l0)), (1, (vR 7 l1)), (2, (vI l2)), (4, (vI v4))], [(vI r_19)], R, M_20, 174) _
  refine s_L_readSum (d := (d0 + 3)) [(70, .istore_n 3, 0, 0), (71, .aload_n 0, 0, 0), (72, .iload 5, 0, 0)] (by decide +kernel) (z' := (74, [(3, (vI r_19)), (5, (vI s0)), (0, (vR 3 l0)), (1, (vR 7 l1)), (2, (vI l2)), (4, (vI v4))], [(vI s0), (vR 3 l0)], R, M_20, 174)) (cs := []) (by rfl) trivial (Nat.le_refl _) ?_
  obtain ⟨M_22, e_23, h⟩ := xb1_ex h
  refine XR.callV 3 rfl (rest := []) m_L_addStep k_3_100 3 l0 (Or.inl ⟨by decide, rfl⟩) [(vI s0)] rfl rfl (c_L_addStep e_23) (by omega) (Nat.le_of_ble_eq_true rfl) (by decide +kernel) (Nat.le_refl _) (Nat.le_refl _) ?_
  show XR false (d0 + 3) 174 sc y_L_readSum (77, [(3, (vI r_19)), (5, (vI s0)), (0, (vR 3 l0)), (1, (vR 7 l1)), (2, (vI l2)), (4, (vI v4))], [], R, M_22, 174) _
  obtain ⟨v4_24, hv4_24, h⟩ := xl_ex h
  refine s_L_readSum (d := (d0 + 3)) [(77, .iinc 4 1, 0, 0), (80, .goto (-70), 0, 10)] (by decide +kernel) (z' := (10, [(4, (vI v4_24)), (3, (vI r_19)), (5, (vI s0)), (0, (vR 3 l0)), (1, (vR 7 l1)), (2, (vI l2))], [], R, M_22, 174)) (cs := []) (by subst hv4_24; rfl) trivial (Nat.le_refl _) ?_
  refine XR.pick [3, 4, 5, 1, 0] (ls' := [(0, (vR 3 l0)), (1, (vR 7 l1)), (2, (vI l2)), (3, (vI r_19)), (4, (vI v4_24))]) rfl ?_
  exact hrc r_19 v4_24 M_22 _ h
set_option maxRecDepth 100000 in
set_option maxHeartbeats 4000000 in
theorem o_L_readSum_J32 {sc : List Int} {d0 : Nat} (hd0 : 20 ≤ d0) {R : xR}   {l0 : Nat} {l1 : Nat} {l2 : Int} {rs : Nat → Nat → Int → xM → Option (Int × xM)} (hrs : ∀ (a b : Nat) (x : Int) (M : xM) (out : Int × xM), rs a b x M = some out → XC false d0 sc y_L_readSum [vR 3 a, vR 7 b, vI x] R M 174 174 (some (vI out.1), R, out.2))  {rc : Int → Int → xM → Option (Int × xM)} (hrc : ∀ (w3 : Int) (w4 : Int) (M : xM) (out : Int × xM), rc w3 w4 M = some out → XR false (d0 + 3) 174 sc y_L_readSum (10, [(0, (vR 3 l0)), (1, (vR 7 l1)), (2, (vI l2)), (3, (vI w3)), (4, (vI w4))], [], R, M, 174) ((some (vI out.1)), R, out.2)) {v3 : Int} {v4 : Int} {M : xM} {out : Int × xM} (h : L_readSum_J32 R rs l0 l1 l2 rc v3 v4 M = some out) : XR false (d0 + 3) 174 sc y_L_readSum (32, [(0, (vR 3 l0)), (1, (vR 7 l1)), (2, (vI l2)), (3, (vI v3)), (4, (vI v4))], [], R, M, 174) ((some (vI out.1)), R, out.2) := by
  unfold L_readSum_J32 at h
  refine s_L_readSum (d := (d0 + 3)) [(32, .iload 4, 0, 0), (34, .sipush 600, 0, 600)] (by decide +kernel) (z' := (37, [(0, (vR 3 l0)), (1, (vR 7 l1)), (2, (vI l2)), (3, (vI v3)), (4, (vI v4))], [(vI 600), (vI v4)], R, M, 174)) (cs := []) (by rfl) trivial (Nat.le_refl _) ?_
  rcases xif_ex h with ⟨c_13, h⟩ | ⟨c_13, h⟩
  · skip
    refine s_L_readSum (d := (d0 + 3)) [(37, .if_icmp .ge 46, 0, (-1)), (40, .aload_n 1, 0, 0), (41, .bipush 43, 0, 43)] (by decide +kernel) (z' := (43, [(0, (vR 3 l0)), (1, (vR 7 l1)), (2, (vI l2)), (3, (vI v3)), (4, (vI v4))], [(vI 43), (vR 7 l1)], R, M, 174)) (cs := [¬ (600 ≤ v4)]) (by rfl) ⟨Int.not_le.mpr c_13, trivial⟩ (Nat.le_refl _) ?_
    obtain ⟨r_14, e_15, h⟩ := xb1_ex h
    refine XR.callV 3 rfl (rest := []) m_A_isSign k_3_97 7 l1 (Or.inl ⟨by decide, rfl⟩) [(vI 43)] rfl rfl (c_A_isSign e_15) (by omega) (Nat.le_of_ble_eq_true rfl) (by decide +kernel) (Nat.le_refl _) (Nat.le_refl _) ?_
    show XR false (d0 + 3) 174 sc y_L_readSum (46, [(0, (vR 3 l0)), (1, (vR 7 l1)), (2, (vI l2)), (3, (vI v3)), (4, (vI v4))], [(vI r_14)], R, M, 174) _
    rcases xif_ex h with ⟨c_16, h⟩ | ⟨c_16, h⟩
    · skip
      refine s_L_readSum (d := (d0 + 3)) [(46, .ifCond .eq 9, 0, 55), (55, .sipush 10011, 0, 10011)] (by decide +kernel) (z' := (58, [(0, (vR 3 l0)), (1, (vR 7 l1)), (2, (vI l2)), (3, (vI v3)), (4, (vI v4))], [(vI 10011)], R, M, 174)) (cs := [r_14 = 0]) (by rfl) ⟨c_16, trivial⟩ (Nat.le_refl _) ?_
      refine XR.pick [0, 1, 2, 4] (ls' := [(0, (vR 3 l0)), (1, (vR 7 l1)), (2, (vI l2)), (4, (vI v4))]) rfl ?_
      exact o_L_readSum_J58 hd0 hrs hrc h
    · skip
      refine s_L_readSum (d := (d0 + 3)) [(46, .ifCond .eq 9, 0, (-1)), (49, .sipush 10010, 0, 10010), (52, .goto 6, 0, 58)] (by decide +kernel) (z' := (58, [(0, (vR 3 l0)), (1, (vR 7 l1)), (2, (vI l2)), (3, (vI v3)), (4, (vI v4))], [(vI 10010)], R, M, 174)) (cs := [¬ (r_14 = 0)]) (by rfl) ⟨c_16, trivial⟩ (Nat.le_refl _) ?_
      refine XR.pick [0, 1, 2, 4] (ls' := [(0, (vR 3 l0)), (1, (vR 7 l1)), (2, (vI l2)), (4, (vI v4))]) rfl ?_
      exact o_L_readSum_J58 hd0 hrs hrc h
  · skip
    obtain ⟨c_25, h⟩ := xch_ex h
    refine s_L_readSum (d := (d0 + 3)) [(37, .if_icmp .ge 46, 0, 83), (83, .iload_n 3, 0, 0)] (by decide +kernel) (z' := (84, [(0, (vR 3 l0)), (1, (vR 7 l1)), (2, (vI l2)), (3, (vI v3)), (4, (vI v4))], [(vI v3)], R, M, 174)) (cs := [600 ≤ v4]) (by rfl) ⟨Int.not_lt.mp c_13, trivial⟩ (Nat.le_refl _) ?_
    obtain rfl := Option.some.inj h
    exact XR.retI .boolean rfl (xnar_z c_25) (by decide +kernel)
set_option maxRecDepth 100000 in
set_option maxHeartbeats 4000000 in
theorem o_L_readSum_F10 {sc : List Int} {d0 : Nat} (hd0 : 20 ≤ d0) {R : xR}   {l0 : Nat} {l1 : Nat} {l2 : Int} {rs : Nat → Nat → Int → xM → Option (Int × xM)} (hrs : ∀ (a b : Nat) (x : Int) (M : xM) (out : Int × xM), rs a b x M = some out → XC false d0 sc y_L_readSum [vR 3 a, vR 7 b, vI x] R M 174 174 (some (vI out.1), R, out.2))  : ∀ (n : Nat) (v3 : Int) (v4 : Int) (M : xM) (out : Int × xM), L_readSum_F10 R rs l0 l1 l2  n v3 v4 M = some out → XR false (d0 + 3) 174 sc y_L_readSum (10, [(0, (vR 3 l0)), (1, (vR 7 l1)), (2, (vI l2)), (3, (vI v3)), (4, (vI v4))], [], R, M, 174) ((some (vI out.1)), R, out.2) := by
  intro n
  induction n with
  | zero => intro v3 v4 M out h; exact (xno h).elim
  | succ n ih =>
    intro v3 v4 M out h
    rw [L_readSum_F10] at h
    refine s_L_readSum (d := (d0 + 3)) [(10, .iload_n 3, 0, 0)] (by decide +kernel) (z' := (11, [(0, (vR 3 l0)), (1, (vR 7 l1)), (2, (vI l2)), (3, (vI v3)), (4, (vI v4))], [(vI v3)], R, M, 174)) (cs := []) (by rfl) trivial (Nat.le_refl _) ?_
    rcases xif_ex h with ⟨c_4, h⟩ | ⟨c_4, h⟩
    · skip
      obtain ⟨c_5, h⟩ := xch_ex h
      refine s_L_readSum (d := (d0 + 3)) [(11, .ifCond .eq 72, 0, 83), (83, .iload_n 3, 0, 0)] (by decide +kernel) (z' := (84, [(0, (vR 3 l0)), (1, (vR 7 l1)), (2, (vI l2)), (3, (vI v3)), (4, (vI v4))], [(vI v3)], R, M, 174)) (cs := [v3 = 0]) (by rfl) ⟨c_4, trivial⟩ (Nat.le_refl _) ?_
      obtain rfl := Option.some.inj h
      exact XR.retI .boolean rfl (xnar_z c_5) (by decide +kernel)
    · skip
      refine s_L_readSum (d := (d0 + 3)) [(11, .ifCond .eq 72, 0, (-1)), (14, .aload_n 1, 0, 0), (15, .bipush 43, 0, 43)] (by decide +kernel) (z' := (17, [(0, (vR 3 l0)), (1, (vR 7 l1)), (2, (vI l2)), (3, (vI v3)), (4, (vI v4))], [(vI 43), (vR 7 l1)], R, M, 174)) (cs := [¬ (v3 = 0)]) (by rfl) ⟨c_4, trivial⟩ (Nat.le_refl _) ?_
      obtain ⟨r_6, e_7, h⟩ := xb1_ex h
      refine XR.callV 3 rfl (rest := []) m_A_isSign k_3_97 7 l1 (Or.inl ⟨by decide, rfl⟩) [(vI 43)] rfl rfl (c_A_isSign e_7) (by omega) (Nat.le_of_ble_eq_true rfl) (by decide +kernel) (Nat.le_refl _) (Nat.le_refl _) ?_
      show XR false (d0 + 3) 174 sc y_L_readSum (20, [(0, (vR 3 l0)), (1, (vR 7 l1)), (2, (vI l2)), (3, (vI v3)), (4, (vI v4))], [(vI r_6)], R, M, 174) _
      rcases xif_ex h with ⟨c_8, h⟩ | ⟨c_8, h⟩
      · skip
        refine s_L_readSum (d := (d0 + 3)) [(20, .ifCond .ne 12, 0, (-1)), (23, .aload_n 1, 0, 0), (24, .bipush 45, 0, 45)] (by decide +kernel) (z' := (26, [(0, (vR 3 l0)), (1, (vR 7 l1)), (2, (vI l2)), (3, (vI v3)), (4, (vI v4))], [(vI 45), (vR 7 l1)], R, M, 174)) (cs := [¬ (r_6 ≠ 0)]) (by rfl) ⟨fun q => q c_8, trivial⟩ (Nat.le_refl _) ?_
        obtain ⟨r_9, e_10, h⟩ := xb1_ex h
        refine XR.callV 3 rfl (rest := []) m_A_isSign k_3_97 7 l1 (Or.inl ⟨by decide, rfl⟩) [(vI 45)] rfl rfl (c_A_isSign e_10) (by omega) (Nat.le_of_ble_eq_true rfl) (by decide +kernel) (Nat.le_refl _) (Nat.le_refl _) ?_
        show XR false (d0 + 3) 174 sc y_L_readSum (29, [(0, (vR 3 l0)), (1, (vR 7 l1)), (2, (vI l2)), (3, (vI v3)), (4, (vI v4))], [(vI r_9)], R, M, 174) _
        rcases xif_ex h with ⟨c_11, h⟩ | ⟨c_11, h⟩
        · skip
          obtain ⟨c_12, h⟩ := xch_ex h
          refine s_L_readSum (d := (d0 + 3)) [(29, .ifCond .eq 54, 0, 83), (83, .iload_n 3, 0, 0)] (by decide +kernel) (z' := (84, [(0, (vR 3 l0)), (1, (vR 7 l1)), (2, (vI l2)), (3, (vI v3)), (4, (vI v4))], [(vI v3)], R, M, 174)) (cs := [r_9 = 0]) (by rfl) ⟨c_11, trivial⟩ (Nat.le_refl _) ?_
          obtain rfl := Option.some.inj h
          exact XR.retI .boolean rfl (xnar_z c_12) (by decide +kernel)
        · skip
          refine s_L_readSum (d := (d0 + 3)) [(29, .ifCond .eq 54, 0, (-1))] (by decide +kernel) (z' := (32, [(0, (vR 3 l0)), (1, (vR 7 l1)), (2, (vI l2)), (3, (vI v3)), (4, (vI v4))], [], R, M, 174)) (cs := [¬ (r_9 = 0)]) (by rfl) ⟨c_11, trivial⟩ (Nat.le_refl _) ?_
          exact o_L_readSum_J32 hd0 hrs ih h
      · skip
        refine s_L_readSum (d := (d0 + 3)) [(20, .ifCond .ne 12, 0, 32)] (by decide +kernel) (z' := (32, [(0, (vR 3 l0)), (1, (vR 7 l1)), (2, (vI l2)), (3, (vI v3)), (4, (vI v4))], [], R, M, 174)) (cs := [r_6 ≠ 0]) (by rfl) ⟨c_8, trivial⟩ (Nat.le_refl _) ?_
        exact o_L_readSum_J32 hd0 hrs ih h
set_option maxRecDepth 100000 in
set_option maxHeartbeats 4000000 in
theorem o_L_readSum {sc : List Int} {R : xR} {M : xM} {d0 : Nat} (hd0 : 20 ≤ d0) {rs : Nat → Nat → Int → xM → Option (Int × xM)} (hrs : ∀ (a b : Nat) (x : Int) (M : xM) (out : Int × xM), rs a b x M = some out → XC false d0 sc y_L_readSum [vR 3 a, vR 7 b, vI x] R M 174 174 (some (vI out.1), R, out.2)) {l0 : Nat} {l1 : Nat} {l2 : Int} {out : Int × xM} (h : f_L_readSumB R rs l0 l1 l2 M = some out) : XR false (d0 + 3) 174 sc y_L_readSum (0, [(0, (vR 3 l0)), (1, (vR 7 l1)), (2, (vI l2))], [], R, M, 174) ((some (vI out.1)), R, out.2) := by
  unfold f_L_readSumB at h
  refine s_L_readSum (d := (d0 + 3)) [(0, .aload_n 0, 0, 0), (1, .aload_n 1, 0, 0), (2, .iload_n 2, 0, 0)] (by decide +kernel) (z' := (3, [(0, (vR 3 l0)), (1, (vR 7 l1)), (2, (vI l2))], [(vI l2), (vR 7 l1), (vR 3 l0)], R, M, 174)) (cs := []) (by rfl) trivial (Nat.le_refl _) ?_
  obtain ⟨r_1, M_2, e_3, h⟩ := xb2_ex h
  refine XR.callV 3 rfl (rest := []) m_L_readItem k_3_94 3 l0 (Or.inl ⟨by decide, rfl⟩) [(vR 7 l1), (vI l2)] rfl rfl (c_L_readItem hd0 hrs e_3) (by omega) (Nat.le_of_ble_eq_true rfl) (by decide +kernel) (Nat.le_refl _) (Nat.le_refl _) ?_
  show XR false (d0 + 3) 174 sc y_L_readSum (6, [(0, (vR 3 l0)), (1, (vR 7 l1)), (2, (vI l2))], [(vI r_1)], R, M_2, 174) _
  refine s_L_readSum (d := (d0 + 3)) [(6, .istore_n 3, 0, 0), (7, .iconst 0, 0, 0), (8, .istore 4, 0, 0)] (by decide +kernel) (z' := (10, [(4, (vI 0)), (3, (vI r_1)), (0, (vR 3 l0)), (1, (vR 7 l1)), (2, (vI l2))], [], R, M_2, 174)) (cs := []) (by rfl) trivial (Nat.le_refl _) ?_
  refine XR.pick [2, 3, 4, 1, 0] (ls' := [(0, (vR 3 l0)), (1, (vR 7 l1)), (2, (vI l2)), (3, (vI r_1)), (4, (vI 0))]) rfl ?_
  refine o_L_readSum_F10 hd0 hrs  xfu r_1 0 M_2 _ h
set_option maxRecDepth 100000 in
set_option maxHeartbeats 4000000 in
theorem c_L_readSumB {sc : List Int} {R : xR} {M : xM} {d0 : Nat} (hd0 : 20 ≤ d0) {rs : Nat → Nat → Int → xM → Option (Int × xM)} (hrs : ∀ (a b : Nat) (x : Int) (M : xM) (out : Int × xM), rs a b x M = some out → XC false d0 sc y_L_readSum [vR 3 a, vR 7 b, vI x] R M 174 174 (some (vI out.1), R, out.2)) {l0 : Nat} {l1 : Nat} {l2 : Int} {out : Int × xM} (h : f_L_readSumB R rs l0 l1 l2 M = some out) : XC false (d0 + 3) sc y_L_readSum [(vR 3 l0), (vR 7 l1), (vI l2)] R M 174 174 ((some (vI out.1)), R, out.2) := XC.of (by decide) (Nat.le_of_ble_eq_true rfl) (Nat.le_refl _) (Nat.le_refl _) (o_L_readSum hd0 hrs h)
def f_L_readSum (R : xR) : Nat → Nat → Nat → Int → xM → Option (Int × xM)
  | 0, _, _, _, _ => none
  | n + 1, a, b, x, M => f_L_readSumB R (f_L_readSum R n) a b x M
theorem c_L_readSumN {sc : List Int} {R : xR} : ∀ (n a b : Nat) (x : Int) (M : xM) (out : Int × xM), f_L_readSum R n a b x M = some out → XC false (20 + 3 * n) sc y_L_readSum [vR 3 a, vR 7 b, vI x] R M 174 174 (some (vI out.1), R, out.2) := by
  intro n
  induction n with
  | zero => intro a b x M out h; exact (xno h).elim
  | succ n ih => intro a b x M out h; exact c_L_readSumB (d0 := 20 + 3 * n) (by omega) ih h
theorem c_L_readSum {sc : List Int} {R : xR} {M : xM} {l0 l1 : Nat} {l2 : Int} {out : Int × xM} (h : f_L_readSum R 10 l0 l1 l2 M = some out) : XC false 50 sc y_L_readSum [vR 3 l0, vR 7 l1, vI l2] R M 174 174 (some (vI out.1), R, out.2) := c_L_readSumN 10 l0 l1 l2 M out h
def f_N_keepsLayer (R : xR) (l0 : Nat) (l1 : Int) (M : xM) : Option Int :=
  xch (0 ≤ l1 ∧ l1 < 8) <|
  if M (R l0 4) (Int.toNat l1) = 1 then
    some (1)
  else
    if M (R l0 4) (Int.toNat l1) = 2 then
      some (1)
    else
      some (0)
set_option maxRecDepth 100000 in
set_option maxHeartbeats 4000000 in
theorem s_N_keepsLayer {d : Nat} {sc : List Int} {z z' : xS} {out : xO} (qs : List xI) {cs : List Prop} (hq : qs.all (xqb 6 false y_N_keepsLayer.2.2.1 y_N_keepsLayer.2.1) = true) (h : xN false sc qs z = some (z', cs)) (hc : xAll cs) (hE : z'.2.2.2.2.2 ≤ 174) (k : XR false d 174 sc y_N_keepsLayer z' out) : XR false d 174 sc y_N_keepsLayer z out := XR.seg 6 false rfl (fun q => by cases q) qs hq h hc hE k
set_option maxRecDepth 100000 in
set_option maxHeartbeats 4000000 in
theorem o_N_keepsLayer {sc : List Int} {R : xR} {M : xM} {l0 : Nat} {l1 : Int} {out : Int} (h : f_N_keepsLayer R l0 l1 M = some out) : XR false 0 174 sc y_N_keepsLayer (0, [(0, (vR 6 l0)), (1, (vI l1))], [], R, M, 174) ((some (vI out)), R, M) := by
  unfold f_N_keepsLayer at h
  obtain ⟨c_1, h⟩ := xch_ex h
  refine s_N_keepsLayer [(0, .aload_n 0, 0, 0), (1, .getfield 25, 6, 4), (4, .iload_n 1, 0, 0), (5, .iaload, 0, 0), (6, .iconst 1, 0, 1)] (by decide +kernel) (z' := (7, [(0, (vR 6 l0)), (1, (vI l1))], [(vI 1), (vI (M (R l0 4) (Int.toNat l1)))], R, M, 174)) (cs := [xar 30 0, xidx l1 (xan 30)]) (by rfl) ⟨xar_30, xix_30 c_1, trivial⟩ (Nat.le_refl _) ?_
  rcases xif_ex h with ⟨c_2, h⟩ | ⟨c_2, h⟩
  · skip
    refine s_N_keepsLayer [(7, .if_icmp .eq 13, 0, 20), (20, .iconst 1, 0, 1), (21, .goto 4, 0, 25)] (by decide +kernel) (z' := (25, [(0, (vR 6 l0)), (1, (vI l1))], [(vI 1)], R, M, 174)) (cs := [M (R l0 4) (Int.toNat l1) = 1]) (by rfl) ⟨c_2, trivial⟩ (Nat.le_refl _) ?_
    obtain rfl := Option.some.inj h
    exact XR.retI .boolean rfl (xnar_z (by decide)) (by decide +kernel)
  · skip
    refine s_N_keepsLayer [(7, .if_icmp .eq 13, 0, (-1)), (10, .aload_n 0, 0, 0), (11, .getfield 25, 6, 4), (14, .iload_n 1, 0, 0), (15, .iaload, 0, 0), (16, .iconst 2, 0, 2)] (by decide +kernel) (z' := (17, [(0, (vR 6 l0)), (1, (vI l1))], [(vI 2), (vI (M (R l0 4) (Int.toNat l1)))], R, M, 174)) (cs := [¬ (M (R l0 4) (Int.toNat l1) = 1), xar 30 0, xidx l1 (xan 30)]) (by rfl) ⟨c_2, xar_30, xix_30 c_1, trivial⟩ (Nat.le_refl _) ?_
    rcases xif_ex h with ⟨c_3, h⟩ | ⟨c_3, h⟩
    · skip
      refine s_N_keepsLayer [(17, .if_icmp .ne 7, 0, (-1)), (20, .iconst 1, 0, 1), (21, .goto 4, 0, 25)] (by decide +kernel) (z' := (25, [(0, (vR 6 l0)), (1, (vI l1))], [(vI 1)], R, M, 174)) (cs := [¬ (M (R l0 4) (Int.toNat l1) ≠ 2)]) (by rfl) ⟨fun q => q c_3, trivial⟩ (Nat.le_refl _) ?_
      obtain rfl := Option.some.inj h
      exact XR.retI .boolean rfl (xnar_z (by decide)) (by decide +kernel)
    · skip
      refine s_N_keepsLayer [(17, .if_icmp .ne 7, 0, 24), (24, .iconst 0, 0, 0)] (by decide +kernel) (z' := (25, [(0, (vR 6 l0)), (1, (vI l1))], [(vI 0)], R, M, 174)) (cs := [M (R l0 4) (Int.toNat l1) ≠ 2]) (by rfl) ⟨c_3, trivial⟩ (Nat.le_refl _) ?_
      obtain rfl := Option.some.inj h
      exact XR.retI .boolean rfl (xnar_z (by decide)) (by decide +kernel)
set_option maxRecDepth 100000 in
set_option maxHeartbeats 4000000 in
theorem c_N_keepsLayer {sc : List Int} {R : xR} {M : xM} {l0 : Nat} {l1 : Int} {out : Int} (h : f_N_keepsLayer R l0 l1 M = some out) : XC false 0 sc y_N_keepsLayer [(vR 6 l0), (vI l1)] R M 174 174 ((some (vI out)), R, M) := XC.of (by decide) (Nat.le_of_ble_eq_true rfl) (Nat.le_refl _) (Nat.le_refl _) (o_N_keepsLayer h)
def f_L_variable (l0 : Int) (l1 : Int) (l2 : Nat) (l3 : Nat) (M : xM) : Option Int :=
  if l0 < 4 then
    xch (0 ≤ w32 ((w32 (l1 * 4)) + l0) ∧ w32 ((w32 (l1 * 4)) + l0) < 192) <|
    some (M l2 (Int.toNat (w32 ((w32 (l1 * 4)) + l0))))
  else
    if l0 = 4 then
      xch (0 ≤ l1 ∧ l1 < 48) <|
      some (M l3 (Int.toNat l1))
    else
      some (l1)
set_option maxRecDepth 100000 in
set_option maxHeartbeats 4000000 in
theorem s_L_variable {d : Nat} {sc : List Int} {z z' : xS} {out : xO} (qs : List xI) {cs : List Prop} (hq : qs.all (xqb 3 false y_L_variable.2.2.1 y_L_variable.2.1) = true) (h : xN false sc qs z = some (z', cs)) (hc : xAll cs) (hE : z'.2.2.2.2.2 ≤ 174) (k : XR false d 174 sc y_L_variable z' out) : XR false d 174 sc y_L_variable z out := XR.seg 3 false rfl (fun q => by cases q) qs hq h hc hE k
set_option maxRecDepth 100000 in
set_option maxHeartbeats 4000000 in
theorem o_L_variable {sc : List Int} {R : xR} {M : xM} {l0 : Int} {l1 : Int} {l2 : Nat} {l3 : Nat} {out : Int} (h : f_L_variable l0 l1 l2 l3 M = some out) : XR false 0 174 sc y_L_variable (0, [(0, (vI l0)), (1, (vI l1)), (2, (vR 26 l2)), (3, (vR 22 l3))], [], R, M, 174) ((some (vL out)), R, M) := by
  unfold f_L_variable at h
  refine s_L_variable [(0, .iload_n 0, 0, 0), (1, .iconst 4, 0, 4)] (by decide +kernel) (z' := (2, [(0, (vI l0)), (1, (vI l1)), (2, (vR 26 l2)), (3, (vR 22 l3))], [(vI 4), (vI l0)], R, M, 174)) (cs := []) (by rfl) trivial (Nat.le_refl _) ?_
  rcases xif_ex h with ⟨c_1, h⟩ | ⟨c_1, h⟩
  · skip
    obtain ⟨c_2, h⟩ := xch_ex h
    refine s_L_variable [(2, .if_icmp .ge 12, 0, (-1)), (5, .aload_n 2, 0, 0), (6, .iload_n 1, 0, 0), (7, .iconst 4, 0, 4), (8, .imul, 0, 0), (9, .iload_n 0, 0, 0), (10, .iadd, 0, 0), (11, .iaload, 0, 0), (12, .i2l, 0, 0)] (by decide +kernel) (z' := (13, [(0, (vI l0)), (1, (vI l1)), (2, (vR 26 l2)), (3, (vR 22 l3))], [(vL (M l2 (Int.toNat (w32 ((w32 (l1 * 4)) + l0)))))], R, M, 174)) (cs := [¬ (4 ≤ l0), xar 26 0, xidx (w32 ((w32 (l1 * 4)) + l0)) (xan 26)]) (by rfl) ⟨Int.not_le.mpr c_1, xar_26, xix_26 c_2, trivial⟩ (Nat.le_refl _) ?_
    obtain rfl := Option.some.inj h
    exact XR.retL rfl (by decide +kernel)
  · skip
    refine s_L_variable [(2, .if_icmp .ge 12, 0, 14), (14, .iload_n 0, 0, 0), (15, .iconst 4, 0, 4)] (by decide +kernel) (z' := (16, [(0, (vI l0)), (1, (vI l1)), (2, (vR 26 l2)), (3, (vR 22 l3))], [(vI 4), (vI l0)], R, M, 174)) (cs := [4 ≤ l0]) (by rfl) ⟨Int.not_lt.mp c_1, trivial⟩ (Nat.le_refl _) ?_
    rcases xif_ex h with ⟨c_3, h⟩ | ⟨c_3, h⟩
    · skip
      obtain ⟨c_4, h⟩ := xch_ex h
      refine s_L_variable [(16, .if_icmp .ne 10, 0, (-1)), (19, .aload_n 3, 0, 0), (20, .iload_n 1, 0, 0), (21, .iaload, 0, 0), (22, .i2l, 0, 0), (23, .goto 5, 0, 28)] (by decide +kernel) (z' := (28, [(0, (vI l0)), (1, (vI l1)), (2, (vR 26 l2)), (3, (vR 22 l3))], [(vL (M l3 (Int.toNat l1)))], R, M, 174)) (cs := [¬ (l0 ≠ 4), xar 22 0, xidx l1 (xan 22)]) (by rfl) ⟨fun q => q c_3, xar_22, xix_22 c_4, trivial⟩ (Nat.le_refl _) ?_
      obtain rfl := Option.some.inj h
      exact XR.retL rfl (by decide +kernel)
    · skip
      refine s_L_variable [(16, .if_icmp .ne 10, 0, 26), (26, .iload_n 1, 0, 0), (27, .i2l, 0, 0)] (by decide +kernel) (z' := (28, [(0, (vI l0)), (1, (vI l1)), (2, (vR 26 l2)), (3, (vR 22 l3))], [(vL l1)], R, M, 174)) (cs := [l0 ≠ 4]) (by rfl) ⟨c_3, trivial⟩ (Nat.le_refl _) ?_
      obtain rfl := Option.some.inj h
      exact XR.retL rfl (by decide +kernel)
set_option maxRecDepth 100000 in
set_option maxHeartbeats 4000000 in
theorem c_L_variable {sc : List Int} {R : xR} {M : xM} {l0 : Int} {l1 : Int} {l2 : Nat} {l3 : Nat} {out : Int} (h : f_L_variable l0 l1 l2 l3 M = some out) : XC false 0 sc y_L_variable [(vI l0), (vI l1), (vR 26 l2), (vR 22 l3)] R M 174 174 ((some (vL out)), R, M) := XC.of (by decide) (Nat.le_of_ble_eq_true rfl) (Nat.le_refl _) (Nat.le_refl _) (o_L_variable h)
def f_L_joinSides (l0 : Int) (l1 : Int) (l3 : Int) : Option Int :=
  if l0 = 10010 then
    some (w64 (l1 + l3))
  else
    if l0 = 10011 then
      some (w64 (l1 - l3))
    else
      some (w64 (l1 * l3))
set_option maxRecDepth 100000 in
set_option maxHeartbeats 4000000 in
theorem s_L_joinSides {d : Nat} {sc : List Int} {z z' : xS} {out : xO} (qs : List xI) {cs : List Prop} (hq : qs.all (xqb 3 false y_L_joinSides.2.2.1 y_L_joinSides.2.1) = true) (h : xN false sc qs z = some (z', cs)) (hc : xAll cs) (hE : z'.2.2.2.2.2 ≤ 174) (k : XR false d 174 sc y_L_joinSides z' out) : XR false d 174 sc y_L_joinSides z out := XR.seg 3 false rfl (fun q => by cases q) qs hq h hc hE k
set_option maxRecDepth 100000 in
set_option maxHeartbeats 4000000 in
theorem o_L_joinSides {sc : List Int} {R : xR} {M : xM} {l0 : Int} {l1 : Int} {l3 : Int} {out : Int} (h : f_L_joinSides l0 l1 l3 = some out) : XR false 0 174 sc y_L_joinSides (0, [(0, (vI l0)), (1, (vL l1)), (3, (vL l3))], [], R, M, 174) ((some (vL out)), R, M) := by
  unfold f_L_joinSides at h
  refine s_L_joinSides [(0, .iload_n 0, 0, 0), (1, .sipush 10010, 0, 10010)] (by decide +kernel) (z' := (4, [(0, (vI l0)), (1, (vL l1)), (3, (vL l3))], [(vI 10010), (vI l0)], R, M, 174)) (cs := []) (by rfl) trivial (Nat.le_refl _) ?_
  rcases xif_ex h with ⟨c_1, h⟩ | ⟨c_1, h⟩
  · skip
    refine s_L_joinSides [(4, .if_icmp .ne 7, 0, (-1)), (7, .lload_n 1, 0, 0), (8, .lload_n 3, 0, 0), (9, .ladd, 0, 0)] (by decide +kernel) (z' := (10, [(0, (vI l0)), (1, (vL l1)), (3, (vL l3))], [(vL (w64 (l1 + l3)))], R, M, 174)) (cs := [¬ (l0 ≠ 10010)]) (by rfl) ⟨fun q => q c_1, trivial⟩ (Nat.le_refl _) ?_
    obtain rfl := Option.some.inj h
    exact XR.retL rfl (by decide +kernel)
  · skip
    refine s_L_joinSides [(4, .if_icmp .ne 7, 0, 11), (11, .iload_n 0, 0, 0), (12, .sipush 10011, 0, 10011)] (by decide +kernel) (z' := (15, [(0, (vI l0)), (1, (vL l1)), (3, (vL l3))], [(vI 10011), (vI l0)], R, M, 174)) (cs := [l0 ≠ 10010]) (by rfl) ⟨c_1, trivial⟩ (Nat.le_refl _) ?_
    rcases xif_ex h with ⟨c_2, h⟩ | ⟨c_2, h⟩
    · skip
      refine s_L_joinSides [(15, .if_icmp .ne 9, 0, (-1)), (18, .lload_n 1, 0, 0), (19, .lload_n 3, 0, 0), (20, .lsub, 0, 0), (21, .goto 6, 0, 27)] (by decide +kernel) (z' := (27, [(0, (vI l0)), (1, (vL l1)), (3, (vL l3))], [(vL (w64 (l1 - l3)))], R, M, 174)) (cs := [¬ (l0 ≠ 10011)]) (by rfl) ⟨fun q => q c_2, trivial⟩ (Nat.le_refl _) ?_
      obtain rfl := Option.some.inj h
      exact XR.retL rfl (by decide +kernel)
    · skip
      refine s_L_joinSides [(15, .if_icmp .ne 9, 0, 24), (24, .lload_n 1, 0, 0), (25, .lload_n 3, 0, 0), (26, .lmul, 0, 0)] (by decide +kernel) (z' := (27, [(0, (vI l0)), (1, (vL l1)), (3, (vL l3))], [(vL (w64 (l1 * l3)))], R, M, 174)) (cs := [l0 ≠ 10011]) (by rfl) ⟨c_2, trivial⟩ (Nat.le_refl _) ?_
      obtain rfl := Option.some.inj h
      exact XR.retL rfl (by decide +kernel)
set_option maxRecDepth 100000 in
set_option maxHeartbeats 4000000 in
theorem c_L_joinSides {sc : List Int} {R : xR} {M : xM} {l0 : Int} {l1 : Int} {l3 : Int} {out : Int} (h : f_L_joinSides l0 l1 l3 = some out) : XC false 0 sc y_L_joinSides [(vI l0), (vL l1), (vL l3)] R M 174 174 ((some (vL out)), R, M) := XC.of (by decide) (Nat.le_of_ble_eq_true rfl) (Nat.le_refl _) (Nat.le_refl _) (o_L_joinSides h)
def L_sumOf_J125 (R : xR) (l0 : Nat) (l1 : Int) (l2 : Int) (l3 : Nat) (l4 : Nat) (rc : Int → Int → xM → Option (Int × xM)) (q131 : Int → xM → Option (Int × xM)) (v5 : Int) (v6 : Int) (M : xM) : Option (Int × xM) :=
  xl (w32 (v6 + 1)) fun v6_13 =>
  rc v5 v6_13 M
def L_sumOf_J79 (R : xR) (l0 : Nat) (l1 : Int) (l2 : Int) (l3 : Nat) (l4 : Nat) (rc : Int → Int → xM → Option (Int × xM)) (q131 : Int → xM → Option (Int × xM)) (v5 : Int) (v6 : Int) (s0 : Int) (s1 : Int) (s2 : Nat) (M : xM) : Option (Int × xM) :=
  xch (0 ≤ s1 ∧ s1 < 32) <|
  xl (xu M s2 (Int.toNat s1) s0) fun M_11 =>
  xl (w32 (v5 + 1)) fun v5_12 =>
  L_sumOf_J125 R l0 l1 l2 l3 l4 rc q131 v5_12 v6 M_11
def L_sumOf_F11 (R : xR) (l0 : Nat) (l1 : Int) (l2 : Int) (l3 : Nat) (l4 : Nat) (q131 : Int → xM → Option (Int × xM)) : Nat → Int → Int → xM → Option (Int × xM)
  | 0, _, _, _ => none
  | n + 1, v5, v6, M =>
    xch (0 ≤ l1 ∧ l1 < 8) <|
    if v6 < M (R l0 3) (Int.toNat l1) then
      xch (0 ≤ v6 ∧ v6 < 600) <|
      xl (M (R l0 6) (Int.toNat v6)) fun v7_6 =>
      if v7_6 < 10010 then
        if v5 < 32 then
          if v7_6 < 10000 then
            L_sumOf_J79 R l0 l1 l2 l3 l4 (L_sumOf_F11 R l0 l1 l2 l3 l4 q131 n) q131 v5 v6 v7_6 v5 (R l0 8) M
          else
            xb1 (f_L_variable (w32 (v7_6 - 10000)) l2 l3 l4 M) fun r_14 =>
            L_sumOf_J79 R l0 l1 l2 l3 l4 (L_sumOf_F11 R l0 l1 l2 l3 l4 q131 n) q131 v5 v6 r_14 v5 (R l0 8) M
        else
          L_sumOf_J125 R l0 l1 l2 l3 l4 (L_sumOf_F11 R l0 l1 l2 l3 l4 q131 n) q131 v5 v6 M
      else
        if v5 < 2 then
          L_sumOf_J125 R l0 l1 l2 l3 l4 (L_sumOf_F11 R l0 l1 l2 l3 l4 q131 n) q131 v5 v6 M
        else
          xl (w32 (v5 + (-1))) fun v5_17 =>
          xch (0 ≤ w32 (v5_17 - 1) ∧ w32 (v5_17 - 1) < 32) <|
          xch (0 ≤ v5_17 ∧ v5_17 < 32) <|
          xb1 (f_L_joinSides v7_6 (M (R l0 8) (Int.toNat (w32 (v5_17 - 1)))) (M (R l0 8) (Int.toNat v5_17))) fun r_20 =>
          xl (xu M (R l0 8) (Int.toNat (w32 (v5_17 - 1))) r_20) fun M_22 =>
          L_sumOf_J125 R l0 l1 l2 l3 l4 (L_sumOf_F11 R l0 l1 l2 l3 l4 q131 n) q131 v5_17 v6 M_22
    else
      q131 v5 M
def f_L_sumOf (R : xR) (l0 : Nat) (l1 : Int) (l2 : Int) (l3 : Nat) (l4 : Nat) (M : xM) : Option (Int × xM) :=
  xch (0 ≤ l1 ∧ l1 < 8) <|
  xl (M (R l0 2) (Int.toNat l1)) fun v6_2 =>
  L_sumOf_F11 R l0 l1 l2 l3 l4
    (fun (v5_23 : Int) (M_24 : xM) =>
      if 0 < v5_23 then
        some (M_24 (R l0 8) (Int.toNat 0), M_24)
      else
        some (0, M_24))
    xfu 0 v6_2 M
set_option maxRecDepth 100000 in
set_option maxHeartbeats 4000000 in
theorem s_L_sumOf {d : Nat} {sc : List Int} {z z' : xS} {out : xO} (qs : List xI) {cs : List Prop} (hq : qs.all (xqb 3 false y_L_sumOf.2.2.1 y_L_sumOf.2.1) = true) (h : xN false sc qs z = some (z', cs)) (hc : xAll cs) (hE : z'.2.2.2.2.2 ≤ 174) (k : XR false d 174 sc y_L_sumOf z' out) : XR false d 174 sc y_L_sumOf z out := XR.seg 3 false rfl (fun q => by cases q) qs hq h hc hE k
set_option maxRecDepth 100000 in
set_option maxHeartbeats 4000000 in
theorem o_L_sumOf_J125 {sc : List Int} {R : xR}   {l0 : Nat} {l1 : Int} {l2 : Int} {l3 : Nat} {l4 : Nat}  {rc : Int → Int → xM → Option (Int × xM)} {q131 : Int → xM → Option (Int × xM)} (hrc : ∀ (w5 : Int) (w6 : Int) (M : xM) (out : Int × xM), rc w5 w6 M = some out → XR false 1 174 sc y_L_sumOf (11, [(0, (vR 3 l0)), (1, (vI l1)), (2, (vI l2)), (3, (vR 26 l3)), (4, (vR 22 l4)), (5, (vI w5)), (6, (vI w6))], [], R, M, 174) ((some (vL out.1)), R, out.2)) (hq131 : ∀ (w5 : Int) (M : xM) (out : Int × xM), q131 w5 M = some out → XR false 1 174 sc y_L_sumOf (131, [(0, (vR 3 l0)), (5, (vI w5))], [], R, M, 174) ((some (vL out.1)), R, out.2)) {v5 : Int} {v6 : Int} {M : xM} {out : Int × xM} (h : L_sumOf_J125 R l0 l1 l2 l3 l4 rc q131 v5 v6 M = some out) : XR false 1 174 sc y_L_sumOf (125, [(0, (vR 3 l0)), (1, (vI l1)), (2, (vI l2)), (3, (vR 26 l3)), (4, (vR 22 l4)), (5, (vI v5)), (6, (vI v6))], [], R, M, 174) ((some (vL out.1)), R, out.2) := by
  unfold L_sumOf_J125 at h
  obtain ⟨v6_13, hv6_13, h⟩ := xl_ex h
  refine s_L_sumOf [(125, .iinc 6 1, 0, 0), (128, .goto (-117), 0, 11)] (by decide +kernel) (z' := (11, [(6, (vI v6_13)), (0, (vR 3 l0)), (1, (vI l1)), (2, (vI l2)), (3, (vR 26 l3)), (4, (vR 22 l4)), (5, (vI v5))], [], R, M, 174)) (cs := []) (by subst hv6_13; rfl) trivial (Nat.le_refl _) ?_
  refine XR.pick [1, 2, 3, 4, 5, 6, 0] (ls' := [(0, (vR 3 l0)), (1, (vI l1)), (2, (vI l2)), (3, (vR 26 l3)), (4, (vR 22 l4)), (5, (vI v5)), (6, (vI v6_13))]) rfl ?_
  exact hrc v5 v6_13 M _ h
set_option maxRecDepth 100000 in
set_option maxHeartbeats 4000000 in
theorem o_L_sumOf_J79 {sc : List Int} {R : xR}   {l0 : Nat} {l1 : Int} {l2 : Int} {l3 : Nat} {l4 : Nat}  {rc : Int → Int → xM → Option (Int × xM)} {q131 : Int → xM → Option (Int × xM)} (hrc : ∀ (w5 : Int) (w6 : Int) (M : xM) (out : Int × xM), rc w5 w6 M = some out → XR false 1 174 sc y_L_sumOf (11, [(0, (vR 3 l0)), (1, (vI l1)), (2, (vI l2)), (3, (vR 26 l3)), (4, (vR 22 l4)), (5, (vI w5)), (6, (vI w6))], [], R, M, 174) ((some (vL out.1)), R, out.2)) (hq131 : ∀ (w5 : Int) (M : xM) (out : Int × xM), q131 w5 M = some out → XR false 1 174 sc y_L_sumOf (131, [(0, (vR 3 l0)), (5, (vI w5))], [], R, M, 174) ((some (vL out.1)), R, out.2)) {v5 : Int} {v6 : Int} {s0 : Int} {s1 : Int} {s2 : Nat} {M : xM} {out : Int × xM} (h : L_sumOf_J79 R l0 l1 l2 l3 l4 rc q131 v5 v6 s0 s1 s2 M = some out) : XR false 1 174 sc y_L_sumOf (79, [(0, (vR 3 l0)), (1, (vI l1)), (2, (vI l2)), (3, (vR 26 l3)), (4, (vR 22 l4)), (5, (vI v5)), (6, (vI v6))], [(vL s0), (vI s1), (vR 32 s2)], R, M, 174) ((some (vL out.1)), R, out.2) := by
  unfold L_sumOf_J79 at h
  obtain ⟨c_10, h⟩ := xch_ex h
  obtain ⟨M_11, hM_11, h⟩ := xl_ex h
  obtain ⟨v5_12, hv5_12, h⟩ := xl_ex h
  refine s_L_sumOf [(79, .lastore, 0, 0), (80, .iinc 5 1, 0, 0), (83, .goto 42, 0, 125)] (by decide +kernel) (z' := (125, [(5, (vI v5_12)), (0, (vR 3 l0)), (1, (vI l1)), (2, (vI l2)), (3, (vR 26 l3)), (4, (vR 22 l4)), (6, (vI v6))], [], R, M_11, 174)) (cs := [xar 32 1, xidx s1 (xan 32)]) (by subst hM_11; subst hv5_12; rfl) ⟨xar_32, xix_32 c_10, trivial⟩ (Nat.le_refl _) ?_
  refine XR.pick [1, 2, 3, 4, 5, 0, 6] (ls' := [(0, (vR 3 l0)), (1, (vI l1)), (2, (vI l2)), (3, (vR 26 l3)), (4, (vR 22 l4)), (5, (vI v5_12)), (6, (vI v6))]) rfl ?_
  exact o_L_sumOf_J125 hrc hq131 h
set_option maxRecDepth 100000 in
set_option maxHeartbeats 4000000 in
theorem o_L_sumOf_F11 {sc : List Int} {R : xR}   {l0 : Nat} {l1 : Int} {l2 : Int} {l3 : Nat} {l4 : Nat}  {q131 : Int → xM → Option (Int × xM)} (hq131 : ∀ (w5 : Int) (M : xM) (out : Int × xM), q131 w5 M = some out → XR false 1 174 sc y_L_sumOf (131, [(0, (vR 3 l0)), (5, (vI w5))], [], R, M, 174) ((some (vL out.1)), R, out.2)) : ∀ (n : Nat) (v5 : Int) (v6 : Int) (M : xM) (out : Int × xM), L_sumOf_F11 R l0 l1 l2 l3 l4 q131 n v5 v6 M = some out → XR false 1 174 sc y_L_sumOf (11, [(0, (vR 3 l0)), (1, (vI l1)), (2, (vI l2)), (3, (vR 26 l3)), (4, (vR 22 l4)), (5, (vI v5)), (6, (vI v6))], [], R, M, 174) ((some (vL out.1)), R, out.2) := by
  intro n
  induction n with
  | zero => intro v5 v6 M out h; exact (xno h).elim
  | succ n ih =>
    intro v5 v6 M out h
    rw [L_sumOf_F11] at h
    obtain ⟨c_3, h⟩ := xch_ex h
    refine s_L_sumOf [(11, .iload 6, 0, 0), (13, .aload_n 0, 0, 0), (14, .getfield 23, 3, 3), (17, .iload_n 1, 0, 0), (18, .iaload, 0, 0)] (by decide +kernel) (z' := (19, [(0, (vR 3 l0)), (1, (vI l1)), (2, (vI l2)), (3, (vR 26 l3)), (4, (vR 22 l4)), (5, (vI v5)), (6, (vI v6))], [(vI (M (R l0 3) (Int.toNat l1))), (vI v6)], R, M, 174)) (cs := [xar 30 0, xidx l1 (xan 30)]) (by rfl) ⟨xar_30, xix_30 c_3, trivial⟩ (Nat.le_refl _) ?_
    rcases xif_ex h with ⟨c_4, h⟩ | ⟨c_4, h⟩
    · skip
      obtain ⟨c_5, h⟩ := xch_ex h
      obtain ⟨v7_6, hv7_6, h⟩ := xl_ex h
      refine s_L_sumOf [(19, .if_icmp .ge 112, 0, (-1)), (22, .aload_n 0, 0, 0), (23, .getfield 32, 3, 6), (26, .iload 6, 0, 0), (28, .iaload, 0, 0), (29, .istore 7, 0, 0), (31, .iload 7, 0, 0), (33, .sipush 10010, 0, 10010)] (by decide +kernel) (z' := (36, [(7, (vI v7_6)), (0, (vR 3 l0)), (1, (vI l1)), (2, (vI l2)), (3, (vR 26 l3)), (4, (vR 22 l4)), (5, (vI v5)), (6, (vI v6))], [(vI 10010), (vI v7_6)], R, M, 174)) (cs := [¬ (M (R l0 3) (Int.toNat l1) ≤ v6), xar 31 0, xidx v6 (xan 31)]) (by subst hv7_6; rfl) ⟨Int.not_le.mpr c_4, xar_31, xix_31 c_5, trivial⟩ (Nat.le_refl _) ?_
      rcases xif_ex h with ⟨c_7, h⟩ | ⟨c_7, h⟩
      · skip
        refine s_L_sumOf [(36, .if_icmp .ge 50, 0, (-1)), (39, .iload 5, 0, 0), (41, .bipush 32, 0, 32)] (by decide +kernel) (z' := (43, [(7, (vI v7_6)), (0, (vR 3 l0)), (1, (vI l1)), (2, (vI l2)), (3, (vR 26 l3)), (4, (vR 22 l4)), (5, (vI v5)), (6, (vI v6))], [(vI 32), (vI v5)], R, M, 174)) (cs := [¬ (10010 ≤ v7_6)]) (by rfl) ⟨Int.not_le.mpr c_7, trivial⟩ (Nat.le_refl _) ?_
        rcases xif_ex h with ⟨c_8, h⟩ | ⟨c_8, h⟩
        · skip
          refine s_L_sumOf [(43, .if_icmp .ge 82, 0, (-1)), (46, .aload_n 0, 0, 0), (47, .getfield 38, 3, 8), (50, .iload 5, 0, 0), (52, .iload 7, 0, 0), (54, .sipush 10000, 0, 10000)] (by decide +kernel) (z' := (57, [(7, (vI v7_6)), (0, (vR 3 l0)), (1, (vI l1)), (2, (vI l2)), (3, (vR 26 l3)), (4, (vR 22 l4)), (5, (vI v5)), (6, (vI v6))], [(vI 10000), (vI v7_6), (vI v5), (vR 32 (R l0 8))], R, M, 174)) (cs := [¬ (32 ≤ v5)]) (by rfl) ⟨Int.not_le.mpr c_8, trivial⟩ (Nat.le_refl _) ?_
          rcases xif_ex h with ⟨c_9, h⟩ | ⟨c_9, h⟩
          · skip
            refine s_L_sumOf [(57, .if_icmp .ge 9, 0, (-1)), (60, .iload 7, 0, 0), (62, .i2l, 0, 0), (63, .goto 16, 0, 79)] (by decide +kernel) (z' := (79, [(7, (vI v7_6)), (0, (vR 3 l0)), (1, (vI l1)), (2, (vI l2)), (3, (vR 26 l3)), (4, (vR 22 l4)), (5, (vI v5)), (6, (vI v6))], [(vL v7_6), (vI v5), (vR 32 (R l0 8))], R, M, 174)) (cs := [¬ (10000 ≤ v7_6)]) (by rfl) ⟨Int.not_le.mpr c_9, trivial⟩ (Nat.le_refl _) ?_
            refine XR.pick [1, 2, 3, 4, 5, 6, 7] (ls' := [(0, (vR 3 l0)), (1, (vI l1)), (2, (vI l2)), (3, (vR 26 l3)), (4, (vR 22 l4)), (5, (vI v5)), (6, (vI v6))]) rfl ?_
            exact o_L_sumOf_J79 ih hq131 h
          · skip
            refine s_L_sumOf [(57, .if_icmp .ge 9, 0, 66), (66, .iload 7, 0, 0), (68, .sipush 10000, 0, 10000), (71, .isub, 0, 0), (72, .iload_n 2, 0, 0), (73, .aload_n 3, 0, 0), (74, .aload 4, 0, 0)] (by decide +kernel) (z' := (76, [(7, (vI v7_6)), (0, (vR 3 l0)), (1, (vI l1)), (2, (vI l2)), (3, (vR 26 l3)), (4, (vR 22 l4)), (5, (vI v5)), (6, (vI v6))], [(vR 22 l4), (vR 26 l3), (vI l2), (vI (w32 (v7_6 - 10000))), (vI v5), (vR 32 (R l0 8))], R, M, 174)) (cs := [10000 ≤ v7_6]) (by rfl) ⟨Int.not_lt.mp c_9, trivial⟩ (Nat.le_refl _) ?_
            obtain ⟨r_14, e_15, h⟩ := xb1_ex h
            refine XR.callS 3 rfl (rest := [(vI v5), (vR 32 (R l0 8))]) m_L_variable k_3_121 [(vI (w32 (v7_6 - 10000))), (vI l2), (vR 26 l3), (vR 22 l4)] rfl rfl (c_L_variable e_15) (by decide) (Nat.le_of_ble_eq_true rfl) (by decide +kernel) (Nat.le_refl _) (Nat.le_refl _) ?_
            show XR false 1 174 sc y_L_sumOf (79, [(7, (vI v7_6)), (0, (vR 3 l0)), (1, (vI l1)), (2, (vI l2)), (3, (vR 26 l3)), (4, (vR 22 l4)), (5, (vI v5)), (6, (vI v6))], [(vL r_14), (vI v5), (vR 32 (R l0 8))], R, M, 174) _
            refine XR.pick [1, 2, 3, 4, 5, 6, 7] (ls' := [(0, (vR 3 l0)), (1, (vI l1)), (2, (vI l2)), (3, (vR 26 l3)), (4, (vR 22 l4)), (5, (vI v5)), (6, (vI v6))]) rfl ?_
            exact o_L_sumOf_J79 ih hq131 h
        · skip
          refine s_L_sumOf [(43, .if_icmp .ge 82, 0, 125)] (by decide +kernel) (z' := (125, [(7, (vI v7_6)), (0, (vR 3 l0)), (1, (vI l1)), (2, (vI l2)), (3, (vR 26 l3)), (4, (vR 22 l4)), (5, (vI v5)), (6, (vI v6))], [], R, M, 174)) (cs := [32 ≤ v5]) (by rfl) ⟨Int.not_lt.mp c_8, trivial⟩ (Nat.le_refl _) ?_
          refine XR.pick [1, 2, 3, 4, 5, 6, 7] (ls' := [(0, (vR 3 l0)), (1, (vI l1)), (2, (vI l2)), (3, (vR 26 l3)), (4, (vR 22 l4)), (5, (vI v5)), (6, (vI v6))]) rfl ?_
          exact o_L_sumOf_J125 ih hq131 h
      · skip
        refine s_L_sumOf [(36, .if_icmp .ge 50, 0, 86), (86, .iload 5, 0, 0), (88, .iconst 2, 0, 2)] (by decide +kernel) (z' := (89, [(7, (vI v7_6)), (0, (vR 3 l0)), (1, (vI l1)), (2, (vI l2)), (3, (vR 26 l3)), (4, (vR 22 l4)), (5, (vI v5)), (6, (vI v6))], [(vI 2), (vI v5)], R, M, 174)) (cs := [10010 ≤ v7_6]) (by rfl) ⟨Int.not_lt.mp c_7, trivial⟩ (Nat.le_refl _) ?_
        rcases xif_ex h with ⟨c_16, h⟩ | ⟨c_16, h⟩
        · skip
          refine s_L_sumOf [(89, .if_icmp .lt 36, 0, 125)] (by decide +kernel) (z' := (125, [(7, (vI v7_6)), (0, (vR 3 l0)), (1, (vI l1)), (2, (vI l2)), (3, (vR 26 l3)), (4, (vR 22 l4)), (5, (vI v5)), (6, (vI v6))], [], R, M, 174)) (cs := [v5 < 2]) (by rfl) ⟨c_16, trivial⟩ (Nat.le_refl _) ?_
          refine XR.pick [1, 2, 3, 4, 5, 6, 7] (ls' := [(0, (vR 3 l0)), (1, (vI l1)), (2, (vI l2)), (3, (vR 26 l3)), (4, (vR 22 l4)), (5, (vI v5)), (6, (vI v6))]) rfl ?_
          exact o_L_sumOf_J125 ih hq131 h
        · skip
          obtain ⟨v5_17, hv5_17, h⟩ := xl_ex h
          obtain ⟨c_18, h⟩ := xch_ex h
          obtain ⟨c_19, h⟩ := xch_ex h
          refine s_L_sumOf [(89, .if_icmp .lt 36, 0, (-1)), (92, .iinc 5 (-1), 0, 0), (95, .aload_n 0, 0, 0), (96, .getfield 38, 3, 8), (99, .iload 5, 0, 0), (101, .iconst 1, 0, 1), (102, .isub, 0, 0), (103, .iload 7, 0, 0), (105, .aload_n 0, 0, 0), (106, .getfield 38, 3, 8), (109, .iload 5, 0, 0), (111, .iconst 1, 0, 1), (112, .isub, 0, 0), (113, .laload, 0, 0), (114, .aload_n 0, 0, 0), (115, .getfield 38, 3, 8), (118, .iload 5, 0, 0), (120, .laload, 0, 0)] (by decide +kernel) (z' := (121, [(5, (vI v5_17)), (7, (vI v7_6)), (0, (vR 3 l0)), (1, (vI l1)), (2, (vI l2)), (3, (vR 26 l3)), (4, (vR 22 l4)), (6, (vI v6))], [(vL (M (R l0 8) (Int.toNat v5_17))), (vL (M (R l0 8) (Int.toNat (w32 (v5_17 - 1))))), (vI v7_6), (vI (w32 (v5_17 - 1))), (vR 32 (R l0 8))], R, M, 174)) (cs := [¬ (v5 < 2), xar 32 1, xidx (w32 (v5_17 - 1)) (xan 32), xar 32 1, xidx v5_17 (xan 32)]) (by subst hv5_17; rfl) ⟨c_16, xar_32, xix_32 c_18, xar_32, xix_32 c_19, trivial⟩ (Nat.le_refl _) ?_
          obtain ⟨r_20, e_21, h⟩ := xb1_ex h
          refine XR.callS 3 rfl (rest := [(vI (w32 (v5_17 - 1))), (vR 32 (R l0 8))]) m_L_joinSides k_3_124 [(vI v7_6), (vL (M (R l0 8) (Int.toNat (w32 (v5_17 - 1))))), (vL (M (R l0 8) (Int.toNat v5_17)))] rfl rfl (c_L_joinSides e_21) (by decide) (Nat.le_of_ble_eq_true rfl) (by decide +kernel) (Nat.le_refl _) (Nat.le_refl _) ?_
          show XR false 1 174 sc y_L_sumOf (124, [(5, (vI v5_17)), (7, (vI v7_6)), (0, (vR 3 l0)), (1, (vI l1)), (2, (vI l2)), (3, (vR 26 l3)), (4, (vR 22 l4)), (6, (vI v6))], [(vL r_20), (vI (w32 (v5_17 - 1))), (vR 32 (R l0 8))], R, M, 174) _
          obtain ⟨M_22, hM_22, h⟩ := xl_ex h
          refine s_L_sumOf [(124, .lastore, 0, 0)] (by decide +kernel) (z' := (125, [(5, (vI v5_17)), (7, (vI v7_6)), (0, (vR 3 l0)), (1, (vI l1)), (2, (vI l2)), (3, (vR 26 l3)), (4, (vR 22 l4)), (6, (vI v6))], [], R, M_22, 174)) (cs := [xar 32 1, xidx (w32 (v5_17 - 1)) (xan 32)]) (by subst hM_22; rfl) ⟨xar_32, xix_32 c_18, trivial⟩ (Nat.le_refl _) ?_
          refine XR.pick [2, 3, 4, 5, 6, 0, 7] (ls' := [(0, (vR 3 l0)), (1, (vI l1)), (2, (vI l2)), (3, (vR 26 l3)), (4, (vR 22 l4)), (5, (vI v5_17)), (6, (vI v6))]) rfl ?_
          exact o_L_sumOf_J125 ih hq131 h
    · skip
      refine s_L_sumOf [(19, .if_icmp .ge 112, 0, 131)] (by decide +kernel) (z' := (131, [(0, (vR 3 l0)), (1, (vI l1)), (2, (vI l2)), (3, (vR 26 l3)), (4, (vR 22 l4)), (5, (vI v5)), (6, (vI v6))], [], R, M, 174)) (cs := [M (R l0 3) (Int.toNat l1) ≤ v6]) (by rfl) ⟨Int.not_lt.mp c_4, trivial⟩ (Nat.le_refl _) ?_
      refine XR.pick [0, 5] (ls' := [(0, (vR 3 l0)), (5, (vI v5))]) rfl ?_
      exact hq131 v5 M _ h
set_option maxRecDepth 100000 in
set_option maxHeartbeats 4000000 in
theorem o_L_sumOf {sc : List Int} {R : xR} {M : xM} {l0 : Nat} {l1 : Int} {l2 : Int} {l3 : Nat} {l4 : Nat} {out : Int × xM} (h : f_L_sumOf R l0 l1 l2 l3 l4 M = some out) : XR false 1 174 sc y_L_sumOf (0, [(0, (vR 3 l0)), (1, (vI l1)), (2, (vI l2)), (3, (vR 26 l3)), (4, (vR 22 l4))], [], R, M, 174) ((some (vL out.1)), R, out.2) := by
  unfold f_L_sumOf at h
  obtain ⟨c_1, h⟩ := xch_ex h
  obtain ⟨v6_2, hv6_2, h⟩ := xl_ex h
  refine s_L_sumOf [(0, .iconst 0, 0, 0), (1, .istore 5, 0, 0), (3, .aload_n 0, 0, 0), (4, .getfield 19, 3, 2), (7, .iload_n 1, 0, 0), (8, .iaload, 0, 0), (9, .istore 6, 0, 0)] (by decide +kernel) (z' := (11, [(6, (vI v6_2)), (5, (vI 0)), (0, (vR 3 l0)), (1, (vI l1)), (2, (vI l2)), (3, (vR 26 l3)), (4, (vR 22 l4))], [], R, M, 174)) (cs := [xar 30 0, xidx l1 (xan 30)]) (by subst hv6_2; rfl) ⟨xar_30, xix_30 c_1, trivial⟩ (Nat.le_refl _) ?_
  refine XR.pick [2, 3, 4, 5, 6, 1, 0] (ls' := [(0, (vR 3 l0)), (1, (vI l1)), (2, (vI l2)), (3, (vR 26 l3)), (4, (vR 22 l4)), (5, (vI 0)), (6, (vI v6_2))]) rfl ?_
  refine o_L_sumOf_F11 ?_ xfu 0 v6_2 M _ h
  · intro v5_23 M_24 out h
    refine s_L_sumOf [(131, .iload 5, 0, 0)] (by decide +kernel) (z' := (133, [(0, (vR 3 l0)), (5, (vI v5_23))], [(vI v5_23)], R, M_24, 174)) (cs := []) (by rfl) trivial (Nat.le_refl _) ?_
    rcases xif_ex h with ⟨c_25, h⟩ | ⟨c_25, h⟩
    · skip
      refine s_L_sumOf [(133, .ifCond .le 12, 0, (-1)), (136, .aload_n 0, 0, 0), (137, .getfield 38, 3, 8), (140, .iconst 0, 0, 0), (141, .laload, 0, 0), (142, .goto 4, 0, 146)] (by decide +kernel) (z' := (146, [(0, (vR 3 l0)), (5, (vI v5_23))], [(vL (M_24 (R l0 8) (Int.toNat 0)))], R, M_24, 174)) (cs := [¬ (v5_23 ≤ 0), xar 32 1, xidx 0 (xan 32)]) (by rfl) ⟨Int.not_le.mpr c_25, xar_32, xix_32 ⟨by decide, by decide⟩, trivial⟩ (Nat.le_refl _) ?_
      obtain rfl := Option.some.inj h
      exact XR.retL rfl (by decide +kernel)
    · skip
      refine s_L_sumOf [(133, .ifCond .le 12, 0, 145), (145, .lconst 0, 0, 0)] (by decide +kernel) (z' := (146, [(0, (vR 3 l0)), (5, (vI v5_23))], [(vL 0)], R, M_24, 174)) (cs := [v5_23 ≤ 0]) (by rfl) ⟨Int.not_lt.mp c_25, trivial⟩ (Nat.le_refl _) ?_
      obtain rfl := Option.some.inj h
      exact XR.retL rfl (by decide +kernel)
set_option maxRecDepth 100000 in
set_option maxHeartbeats 4000000 in
theorem c_L_sumOf {sc : List Int} {R : xR} {M : xM} {l0 : Nat} {l1 : Int} {l2 : Int} {l3 : Nat} {l4 : Nat} {out : Int × xM} (h : f_L_sumOf R l0 l1 l2 l3 l4 M = some out) : XC false 1 sc y_L_sumOf [(vR 3 l0), (vI l1), (vI l2), (vR 26 l3), (vR 22 l4)] R M 174 174 ((some (vL out.1)), R, out.2) := XC.of (by decide) (Nat.le_of_ble_eq_true rfl) (Nat.le_refl _) (Nat.le_refl _) (o_L_sumOf h)
def f_L_isTooMuch (R : xR) (l0 : Nat) (l1 : Int) (l2 : Int) (M : xM) : Option Int :=
  xch (0 ≤ l1 ∧ l1 < 8) <|
  if l2 < w64 ((M (R l0 5) (Int.toNat l1)) * (M (R l0 4) (Int.toNat l1))) then
    some (0)
  else
    some (1)
set_option maxRecDepth 100000 in
set_option maxHeartbeats 4000000 in
theorem s_L_isTooMuch {d : Nat} {sc : List Int} {z z' : xS} {out : xO} (qs : List xI) {cs : List Prop} (hq : qs.all (xqb 3 false y_L_isTooMuch.2.2.1 y_L_isTooMuch.2.1) = true) (h : xN false sc qs z = some (z', cs)) (hc : xAll cs) (hE : z'.2.2.2.2.2 ≤ 174) (k : XR false d 174 sc y_L_isTooMuch z' out) : XR false d 174 sc y_L_isTooMuch z out := XR.seg 3 false rfl (fun q => by cases q) qs hq h hc hE k
set_option maxRecDepth 100000 in
set_option maxHeartbeats 4000000 in
theorem o_L_isTooMuch {sc : List Int} {R : xR} {M : xM} {l0 : Nat} {l1 : Int} {l2 : Int} {out : Int} (h : f_L_isTooMuch R l0 l1 l2 M = some out) : XR false 0 174 sc y_L_isTooMuch (0, [(0, (vR 3 l0)), (1, (vI l1)), (2, (vL l2))], [], R, M, 174) ((some (vI out)), R, M) := by
  unfold f_L_isTooMuch at h
  obtain ⟨c_1, h⟩ := xch_ex h
  refine s_L_isTooMuch [(0, .lload_n 2, 0, 0), (1, .aload_n 0, 0, 0), (2, .getfield 29, 3, 5), (5, .iload_n 1, 0, 0), (6, .iaload, 0, 0), (7, .i2l, 0, 0), (8, .aload_n 0, 0, 0), (9, .getfield 26, 3, 4), (12, .iload_n 1, 0, 0), (13, .iaload, 0, 0), (14, .i2l, 0, 0), (15, .lmul, 0, 0), (16, .lcmp, 0, 0)] (by decide +kernel) (z' := (17, [(0, (vR 3 l0)), (1, (vI l1)), (2, (vL l2))], [(vI (xcmp l2 (w64 ((M (R l0 5) (Int.toNat l1)) * (M (R l0 4) (Int.toNat l1))))))], R, M, 174)) (cs := [xar 30 0, xidx l1 (xan 30), xar 30 0, xidx l1 (xan 30)]) (by rfl) ⟨xar_30, xix_30 c_1, xar_30, xix_30 c_1, trivial⟩ (Nat.le_refl _) ?_
  rcases xif_ex h with ⟨c_2, h⟩ | ⟨c_2, h⟩
  · skip
    refine s_L_isTooMuch [(17, .ifCond .lt 7, 0, 24), (24, .iconst 0, 0, 0)] (by decide +kernel) (z' := (25, [(0, (vR 3 l0)), (1, (vI l1)), (2, (vL l2))], [(vI 0)], R, M, 174)) (cs := [xcmp l2 (w64 ((M (R l0 5) (Int.toNat l1)) * (M (R l0 4) (Int.toNat l1)))) < 0]) (by rfl) ⟨xcmp_lt.mpr c_2, trivial⟩ (Nat.le_refl _) ?_
    obtain rfl := Option.some.inj h
    exact XR.retI .boolean rfl (xnar_z (by decide)) (by decide +kernel)
  · skip
    refine s_L_isTooMuch [(17, .ifCond .lt 7, 0, (-1)), (20, .iconst 1, 0, 1), (21, .goto 4, 0, 25)] (by decide +kernel) (z' := (25, [(0, (vR 3 l0)), (1, (vI l1)), (2, (vL l2))], [(vI 1)], R, M, 174)) (cs := [¬ (xcmp l2 (w64 ((M (R l0 5) (Int.toNat l1)) * (M (R l0 4) (Int.toNat l1)))) < 0)]) (by rfl) ⟨fun q => c_2 (xcmp_lt.mp q), trivial⟩ (Nat.le_refl _) ?_
    obtain rfl := Option.some.inj h
    exact XR.retI .boolean rfl (xnar_z (by decide)) (by decide +kernel)
set_option maxRecDepth 100000 in
set_option maxHeartbeats 4000000 in
theorem c_L_isTooMuch {sc : List Int} {R : xR} {M : xM} {l0 : Nat} {l1 : Int} {l2 : Int} {out : Int} (h : f_L_isTooMuch R l0 l1 l2 M = some out) : XC false 0 sc y_L_isTooMuch [(vR 3 l0), (vI l1), (vL l2)] R M 174 174 ((some (vI out)), R, M) := XC.of (by decide) (Nat.le_of_ble_eq_true rfl) (Nat.le_refl _) (Nat.le_refl _) (o_L_isTooMuch h)
def L_firstBroken_J79 (R : xR) (l0 : Nat) (l1 : Int) (l2 : Nat) (l3 : Nat) (rc : Int → Int → xM → Option (Int × xM)) (v4 : Int) (v6 : Int) (M : xM) : Option (Int × xM) :=
  xl (w32 (v6 + 1)) fun v6_14 =>
  rc v4 v6_14 M
def L_firstBroken_J61 (R : xR) (l0 : Nat) (l1 : Int) (l2 : Nat) (l3 : Nat) (rc : Int → Int → xM → Option (Int × xM)) (v4 : Int) (v6 : Int) (v7 : Int) (M : xM) : Option (Int × xM) :=
  if v7 < 0 then
    L_firstBroken_J79 R l0 l1 l2 l3 rc v4 v6 M
  else
    xb1 (f_L_isTooMuch R l0 l1 v4 M) fun r_15 =>
    if r_15 = 0 then
      L_firstBroken_J79 R l0 l1 l2 l3 rc v4 v6 M
    else
      some (v6, M)
def L_firstBroken_F6 (R : xR) (l0 : Nat) (l1 : Int) (l2 : Nat) (l3 : Nat) : Nat → Int → Int → xM → Option (Int × xM)
  | 0, _, _, _ => none
  | n + 1, v4, v6, M =>
    if v6 < 48 then
      xb2 (f_L_sumOf R l0 l1 v6 l2 l3 M) fun r_2 M_3 =>
      xl (w64 (v4 + r_2)) fun v4_5 =>
      xch (0 ≤ l1 ∧ l1 < 8) <|
      xl (w32 ((w32 (v6 - (M_3 (R l0 4) (Int.toNat l1)))) + 1)) fun v7_7 =>
      if 0 < v7_7 then
        xb2 (f_L_sumOf R l0 l1 (w32 (v7_7 - 1)) l2 l3 M_3) fun r_9 M_10 =>
        xl (w64 (v4_5 - r_9)) fun v4_12 =>
        L_firstBroken_J61 R l0 l1 l2 l3 (L_firstBroken_F6 R l0 l1 l2 l3  n) v4_12 v6 v7_7 M_10
      else
        L_firstBroken_J61 R l0 l1 l2 l3 (L_firstBroken_F6 R l0 l1 l2 l3  n) v4_5 v6 v7_7 M_3
    else
      some (-1, M)
def f_L_firstBroken (R : xR) (l0 : Nat) (l1 : Int) (l2 : Nat) (l3 : Nat) (M : xM) : Option (Int × xM) :=
  L_firstBroken_F6 R l0 l1 l2 l3
    xfu 0 0 M
set_option maxRecDepth 100000 in
set_option maxHeartbeats 4000000 in
theorem s_L_firstBroken {d : Nat} {sc : List Int} {z z' : xS} {out : xO} (qs : List xI) {cs : List Prop} (hq : qs.all (xqb 3 false y_L_firstBroken.2.2.1 y_L_firstBroken.2.1) = true) (h : xN false sc qs z = some (z', cs)) (hc : xAll cs) (hE : z'.2.2.2.2.2 ≤ 174) (k : XR false d 174 sc y_L_firstBroken z' out) : XR false d 174 sc y_L_firstBroken z out := XR.seg 3 false rfl (fun q => by cases q) qs hq h hc hE k
set_option maxRecDepth 100000 in
set_option maxHeartbeats 4000000 in
theorem o_L_firstBroken_J79 {sc : List Int} {R : xR}   {l0 : Nat} {l1 : Int} {l2 : Nat} {l3 : Nat}  {rc : Int → Int → xM → Option (Int × xM)} (hrc : ∀ (w4 : Int) (w6 : Int) (M : xM) (out : Int × xM), rc w4 w6 M = some out → XR false 2 174 sc y_L_firstBroken (6, [(0, (vR 3 l0)), (1, (vI l1)), (2, (vR 26 l2)), (3, (vR 22 l3)), (4, (vL w4)), (6, (vI w6))], [], R, M, 174) ((some (vI out.1)), R, out.2)) {v4 : Int} {v6 : Int} {M : xM} {out : Int × xM} (h : L_firstBroken_J79 R l0 l1 l2 l3 rc v4 v6 M = some out) : XR false 2 174 sc y_L_firstBroken (79, [(0, (vR 3 l0)), (1, (vI l1)), (2, (vR 26 l2)), (3, (vR 22 l3)), (4, (vL v4)), (6, (vI v6))], [], R, M, 174) ((some (vI out.1)), R, out.2) := by
  unfold L_firstBroken_J79 at h
  obtain ⟨v6_14, hv6_14, h⟩ := xl_ex h
  refine s_L_firstBroken [(79, .iinc 6 1, 0, 0), (82, .goto (-76), 0, 6)] (by decide +kernel) (z' := (6, [(6, (vI v6_14)), (0, (vR 3 l0)), (1, (vI l1)), (2, (vR 26 l2)), (3, (vR 22 l3)), (4, (vL v4))], [], R, M, 174)) (cs := []) (by subst hv6_14; rfl) trivial (Nat.le_refl _) ?_
  refine XR.pick [1, 2, 3, 4, 5, 0] (ls' := [(0, (vR 3 l0)), (1, (vI l1)), (2, (vR 26 l2)), (3, (vR 22 l3)), (4, (vL v4)), (6, (vI v6_14))]) rfl ?_
  exact hrc v4 v6_14 M _ h
set_option maxRecDepth 100000 in
set_option maxHeartbeats 4000000 in
theorem o_L_firstBroken_J61 {sc : List Int} {R : xR}   {l0 : Nat} {l1 : Int} {l2 : Nat} {l3 : Nat}  {rc : Int → Int → xM → Option (Int × xM)} (hrc : ∀ (w4 : Int) (w6 : Int) (M : xM) (out : Int × xM), rc w4 w6 M = some out → XR false 2 174 sc y_L_firstBroken (6, [(0, (vR 3 l0)), (1, (vI l1)), (2, (vR 26 l2)), (3, (vR 22 l3)), (4, (vL w4)), (6, (vI w6))], [], R, M, 174) ((some (vI out.1)), R, out.2)) {v4 : Int} {v6 : Int} {v7 : Int} {M : xM} {out : Int × xM} (h : L_firstBroken_J61 R l0 l1 l2 l3 rc v4 v6 v7 M = some out) : XR false 2 174 sc y_L_firstBroken (61, [(0, (vR 3 l0)), (1, (vI l1)), (2, (vR 26 l2)), (3, (vR 22 l3)), (4, (vL v4)), (6, (vI v6)), (7, (vI v7))], [], R, M, 174) ((some (vI out.1)), R, out.2) := by
  unfold L_firstBroken_J61 at h
  refine s_L_firstBroken [(61, .iload 7, 0, 0)] (by decide +kernel) (z' := (63, [(0, (vR 3 l0)), (1, (vI l1)), (2, (vR 26 l2)), (3, (vR 22 l3)), (4, (vL v4)), (6, (vI v6)), (7, (vI v7))], [(vI v7)], R, M, 174)) (cs := []) (by rfl) trivial (Nat.le_refl _) ?_
  rcases xif_ex h with ⟨c_13, h⟩ | ⟨c_13, h⟩
  · skip
    refine s_L_firstBroken [(63, .ifCond .lt 16, 0, 79)] (by decide +kernel) (z' := (79, [(0, (vR 3 l0)), (1, (vI l1)), (2, (vR 26 l2)), (3, (vR 22 l3)), (4, (vL v4)), (6, (vI v6)), (7, (vI v7))], [], R, M, 174)) (cs := [v7 < 0]) (by rfl) ⟨c_13, trivial⟩ (Nat.le_refl _) ?_
    refine XR.pick [0, 1, 2, 3, 4, 5] (ls' := [(0, (vR 3 l0)), (1, (vI l1)), (2, (vR 26 l2)), (3, (vR 22 l3)), (4, (vL v4)), (6, (vI v6))]) rfl ?_
    exact o_L_firstBroken_J79 hrc h
  · skip
    refine s_L_firstBroken [(63, .ifCond .lt 16, 0, (-1)), (66, .aload_n 0, 0, 0), (67, .iload_n 1, 0, 0), (68, .lload 4, 0, 0)] (by decide +kernel) (z' := (70, [(0, (vR 3 l0)), (1, (vI l1)), (2, (vR 26 l2)), (3, (vR 22 l3)), (4, (vL v4)), (6, (vI v6)), (7, (vI v7))], [(vL v4), (vI l1), (vR 3 l0)], R, M, 174)) (cs := [¬ (v7 < 0)]) (by rfl) ⟨c_13, trivial⟩ (Nat.le_refl _) ?_
    obtain ⟨r_15, e_16, h⟩ := xb1_ex h
    refine XR.callV 3 rfl (rest := []) m_L_isTooMuch k_3_117 3 l0 (Or.inl ⟨by decide, rfl⟩) [(vI l1), (vL v4)] rfl rfl (c_L_isTooMuch e_16) (by decide) (Nat.le_of_ble_eq_true rfl) (by decide +kernel) (Nat.le_refl _) (Nat.le_refl _) ?_
    show XR false 2 174 sc y_L_firstBroken (73, [(0, (vR 3 l0)), (1, (vI l1)), (2, (vR 26 l2)), (3, (vR 22 l3)), (4, (vL v4)), (6, (vI v6)), (7, (vI v7))], [(vI r_15)], R, M, 174) _
    rcases xif_ex h with ⟨c_17, h⟩ | ⟨c_17, h⟩
    · skip
      refine s_L_firstBroken [(73, .ifCond .eq 6, 0, 79)] (by decide +kernel) (z' := (79, [(0, (vR 3 l0)), (1, (vI l1)), (2, (vR 26 l2)), (3, (vR 22 l3)), (4, (vL v4)), (6, (vI v6)), (7, (vI v7))], [], R, M, 174)) (cs := [r_15 = 0]) (by rfl) ⟨c_17, trivial⟩ (Nat.le_refl _) ?_
      refine XR.pick [0, 1, 2, 3, 4, 5] (ls' := [(0, (vR 3 l0)), (1, (vI l1)), (2, (vR 26 l2)), (3, (vR 22 l3)), (4, (vL v4)), (6, (vI v6))]) rfl ?_
      exact o_L_firstBroken_J79 hrc h
    · skip
      refine s_L_firstBroken [(73, .ifCond .eq 6, 0, (-1)), (76, .iload 6, 0, 0)] (by decide +kernel) (z' := (78, [(0, (vR 3 l0)), (1, (vI l1)), (2, (vR 26 l2)), (3, (vR 22 l3)), (4, (vL v4)), (6, (vI v6)), (7, (vI v7))], [(vI v6)], R, M, 174)) (cs := [¬ (r_15 = 0)]) (by rfl) ⟨c_17, trivial⟩ (Nat.le_refl _) ?_
      obtain rfl := Option.some.inj h
      exact XR.retI .int rfl rfl (by decide +kernel)
set_option maxRecDepth 100000 in
set_option maxHeartbeats 4000000 in
theorem o_L_firstBroken_F6 {sc : List Int} {R : xR}   {l0 : Nat} {l1 : Int} {l2 : Nat} {l3 : Nat}  : ∀ (n : Nat) (v4 : Int) (v6 : Int) (M : xM) (out : Int × xM), L_firstBroken_F6 R l0 l1 l2 l3  n v4 v6 M = some out → XR false 2 174 sc y_L_firstBroken (6, [(0, (vR 3 l0)), (1, (vI l1)), (2, (vR 26 l2)), (3, (vR 22 l3)), (4, (vL v4)), (6, (vI v6))], [], R, M, 174) ((some (vI out.1)), R, out.2) := by
  intro n
  induction n with
  | zero => intro v4 v6 M out h; exact (xno h).elim
  | succ n ih =>
    intro v4 v6 M out h
    rw [L_firstBroken_F6] at h
    refine s_L_firstBroken [(6, .iload 6, 0, 0), (8, .bipush 48, 0, 48)] (by decide +kernel) (z' := (10, [(0, (vR 3 l0)), (1, (vI l1)), (2, (vR 26 l2)), (3, (vR 22 l3)), (4, (vL v4)), (6, (vI v6))], [(vI 48), (vI v6)], R, M, 174)) (cs := []) (by rfl) trivial (Nat.le_refl _) ?_
    rcases xif_ex h with ⟨c_1, h⟩ | ⟨c_1, h⟩
    · skip
      refine s_L_firstBroken [(10, .if_icmp .ge 75, 0, (-1)), (13, .lload 4, 0, 0), (15, .aload_n 0, 0, 0), (16, .iload_n 1, 0, 0), (17, .iload 6, 0, 0), (19, .aload_n 2, 0, 0), (20, .aload_n 3, 0, 0)] (by decide +kernel) (z' := (21, [(0, (vR 3 l0)), (1, (vI l1)), (2, (vR 26 l2)), (3, (vR 22 l3)), (4, (vL v4)), (6, (vI v6))], [(vR 22 l3), (vR 26 l2), (vI v6), (vI l1), (vR 3 l0), (vL v4)], R, M, 174)) (cs := [¬ (48 ≤ v6)]) (by rfl) ⟨Int.not_le.mpr c_1, trivial⟩ (Nat.le_refl _) ?_
      obtain ⟨r_2, M_3, e_4, h⟩ := xb2_ex h
      refine XR.callV 3 rfl (rest := [(vL v4)]) m_L_sumOf k_3_113 3 l0 (Or.inl ⟨by decide, rfl⟩) [(vI l1), (vI v6), (vR 26 l2), (vR 22 l3)] rfl rfl (c_L_sumOf e_4) (by decide) (Nat.le_of_ble_eq_true rfl) (by decide +kernel) (Nat.le_refl _) (Nat.le_refl _) ?_
      show XR false 2 174 sc y_L_firstBroken (24, [(0, (vR 3 l0)), (1, (vI l1)), (2, (vR 26 l2)), (3, (vR 22 l3)), (4, (vL v4)), (6, (vI v6))], [(vL r_2), (vL v4)], R, M_3, 174) _
      obtain ⟨v4_5, hv4_5, h⟩ := xl_ex h
      obtain ⟨c_6, h⟩ := xch_ex h
      obtain ⟨v7_7, hv7_7, h⟩ := xl_ex h
      refine s_L_firstBroken [(24, .ladd, 0, 0), (25, .lstore 4, 0, 0), (27, .iload 6, 0, 0), (29, .aload_n 0, 0, 0), (30, .getfield 26, 3, 4), (33, .iload_n 1, 0, 0), (34, .iaload, 0, 0), (35, .isub, 0, 0), (36, .iconst 1, 0, 1), (37, .iadd, 0, 0), (38, .istore 7, 0, 0), (40, .iload 7, 0, 0)] (by decide +kernel) (z' := (42, [(7, (vI v7_7)), (4, (vL v4_5)), (0, (vR 3 l0)), (1, (vI l1)), (2, (vR 26 l2)), (3, (vR 22 l3)), (6, (vI v6))], [(vI v7_7)], R, M_3, 174)) (cs := [xar 30 0, xidx l1 (xan 30)]) (by subst hv4_5; subst hv7_7; rfl) ⟨xar_30, xix_30 c_6, trivial⟩ (Nat.le_refl _) ?_
      rcases xif_ex h with ⟨c_8, h⟩ | ⟨c_8, h⟩
      · skip
        refine s_L_firstBroken [(42, .ifCond .le 19, 0, (-1)), (45, .lload 4, 0, 0), (47, .aload_n 0, 0, 0), (48, .iload_n 1, 0, 0), (49, .iload 7, 0, 0), (51, .iconst 1, 0, 1), (52, .isub, 0, 0), (53, .aload_n 2, 0, 0), (54, .aload_n 3, 0, 0)] (by decide +kernel) (z' := (55, [(7, (vI v7_7)), (4, (vL v4_5)), (0, (vR 3 l0)), (1, (vI l1)), (2, (vR 26 l2)), (3, (vR 22 l3)), (6, (vI v6))], [(vR 22 l3), (vR 26 l2), (vI (w32 (v7_7 - 1))), (vI l1), (vR 3 l0), (vL v4_5)], R, M_3, 174)) (cs := [¬ (v7_7 ≤ 0)]) (by rfl) ⟨Int.not_le.mpr c_8, trivial⟩ (Nat.le_refl _) ?_
        obtain ⟨r_9, M_10, e_11, h⟩ := xb2_ex h
        refine XR.callV 3 rfl (rest := [(vL v4_5)]) m_L_sumOf k_3_113 3 l0 (Or.inl ⟨by decide, rfl⟩) [(vI l1), (vI (w32 (v7_7 - 1))), (vR 26 l2), (vR 22 l3)] rfl rfl (c_L_sumOf e_11) (by decide) (Nat.le_of_ble_eq_true rfl) (by decide +kernel) (Nat.le_refl _) (Nat.le_refl _) ?_
        show XR false 2 174 sc y_L_firstBroken (58, [(7, (vI v7_7)), (4, (vL v4_5)), (0, (vR 3 l0)), (1, (vI l1)), (2, (vR 26 l2)), (3, (vR 22 l3)), (6, (vI v6))], [(vL r_9), (vL v4_5)], R, M_10, 174) _
        obtain ⟨v4_12, hv4_12, h⟩ := xl_ex h
        refine s_L_firstBroken [(58, .lsub, 0, 0), (59, .lstore 4, 0, 0)] (by decide +kernel) (z' := (61, [(4, (vL v4_12)), (7, (vI v7_7)), (0, (vR 3 l0)), (1, (vI l1)), (2, (vR 26 l2)), (3, (vR 22 l3)), (6, (vI v6))], [], R, M_10, 174)) (cs := []) (by subst hv4_12; rfl) trivial (Nat.le_refl _) ?_
        refine XR.pick [2, 3, 4, 5, 0, 6, 1] (ls' := [(0, (vR 3 l0)), (1, (vI l1)), (2, (vR 26 l2)), (3, (vR 22 l3)), (4, (vL v4_12)), (6, (vI v6)), (7, (vI v7_7))]) rfl ?_
        exact o_L_firstBroken_J61 ih h
      · skip
        refine s_L_firstBroken [(42, .ifCond .le 19, 0, 61)] (by decide +kernel) (z' := (61, [(7, (vI v7_7)), (4, (vL v4_5)), (0, (vR 3 l0)), (1, (vI l1)), (2, (vR 26 l2)), (3, (vR 22 l3)), (6, (vI v6))], [], R, M_3, 174)) (cs := [v7_7 ≤ 0]) (by rfl) ⟨Int.not_lt.mp c_8, trivial⟩ (Nat.le_refl _) ?_
        refine XR.pick [2, 3, 4, 5, 1, 6, 0] (ls' := [(0, (vR 3 l0)), (1, (vI l1)), (2, (vR 26 l2)), (3, (vR 22 l3)), (4, (vL v4_5)), (6, (vI v6)), (7, (vI v7_7))]) rfl ?_
        exact o_L_firstBroken_J61 ih h
    · skip
      refine s_L_firstBroken [(10, .if_icmp .ge 75, 0, 85), (85, .iconst (-1), 0, (-1))] (by decide +kernel) (z' := (86, [(0, (vR 3 l0)), (1, (vI l1)), (2, (vR 26 l2)), (3, (vR 22 l3)), (4, (vL v4)), (6, (vI v6))], [(vI (-1))], R, M, 174)) (cs := [48 ≤ v6]) (by rfl) ⟨Int.not_lt.mp c_1, trivial⟩ (Nat.le_refl _) ?_
      obtain rfl := Option.some.inj h
      exact XR.retI .int rfl rfl (by decide +kernel)
set_option maxRecDepth 100000 in
set_option maxHeartbeats 4000000 in
theorem o_L_firstBroken {sc : List Int} {R : xR} {M : xM} {l0 : Nat} {l1 : Int} {l2 : Nat} {l3 : Nat} {out : Int × xM} (h : f_L_firstBroken R l0 l1 l2 l3 M = some out) : XR false 2 174 sc y_L_firstBroken (0, [(0, (vR 3 l0)), (1, (vI l1)), (2, (vR 26 l2)), (3, (vR 22 l3))], [], R, M, 174) ((some (vI out.1)), R, out.2) := by
  unfold f_L_firstBroken at h
  refine s_L_firstBroken [(0, .lconst 0, 0, 0), (1, .lstore 4, 0, 0), (3, .iconst 0, 0, 0), (4, .istore 6, 0, 0)] (by decide +kernel) (z' := (6, [(6, (vI 0)), (4, (vL 0)), (0, (vR 3 l0)), (1, (vI l1)), (2, (vR 26 l2)), (3, (vR 22 l3))], [], R, M, 174)) (cs := []) (by rfl) trivial (Nat.le_refl _) ?_
  refine XR.pick [2, 3, 4, 5, 1, 0] (ls' := [(0, (vR 3 l0)), (1, (vI l1)), (2, (vR 26 l2)), (3, (vR 22 l3)), (4, (vL 0)), (6, (vI 0))]) rfl ?_
  refine o_L_firstBroken_F6  xfu 0 0 M _ h
set_option maxRecDepth 100000 in
set_option maxHeartbeats 4000000 in
theorem c_L_firstBroken {sc : List Int} {R : xR} {M : xM} {l0 : Nat} {l1 : Int} {l2 : Nat} {l3 : Nat} {out : Int × xM} (h : f_L_firstBroken R l0 l1 l2 l3 M = some out) : XC false 2 sc y_L_firstBroken [(vR 3 l0), (vI l1), (vR 26 l2), (vR 22 l3)] R M 174 174 ((some (vI out.1)), R, out.2) := XC.of (by decide) (Nat.le_of_ble_eq_true rfl) (Nat.le_refl _) (Nat.le_refl _) (o_L_firstBroken h)
def L_isBroken_F26 (R : xR) (l0 : Nat) (l1 : Int) (l2 : Int) (l3 : Nat) (l4 : Nat) : Nat → Int → Int → xM → Option (Int × xM)
  | 0, _, _, _ => none
  | n + 1, v6, v8, M =>
    if l2 < v8 then
      xb1 (f_L_isTooMuch R l0 l1 v6 M) fun r_5 =>
      xch (r_5 = 0 ∨ r_5 = 1) <|
      some (r_5, M)
    else
      xb2 (f_L_sumOf R l0 l1 v8 l3 l4 M) fun r_8 M_9 =>
      xl (w64 (v6 + r_8)) fun v6_11 =>
      xl (w32 (v8 + 1)) fun v8_12 =>
      L_isBroken_F26 R l0 l1 l2 l3 l4  n v6_11 v8_12 M_9
def f_L_isBroken (R : xR) (l0 : Nat) (l1 : Int) (l2 : Int) (l3 : Nat) (l4 : Nat) (M : xM) : Option (Int × xM) :=
  xch (0 ≤ l1 ∧ l1 < 8) <|
  xl (w32 ((w32 (l2 - (M (R l0 4) (Int.toNat l1)))) + 1)) fun v5_2 =>
  if v5_2 < 0 then
    some (0, M)
  else
    L_isBroken_F26 R l0 l1 l2 l3 l4
      xfu 0 v5_2 M
set_option maxRecDepth 100000 in
set_option maxHeartbeats 4000000 in
theorem s_L_isBroken {d : Nat} {sc : List Int} {z z' : xS} {out : xO} (qs : List xI) {cs : List Prop} (hq : qs.all (xqb 3 false y_L_isBroken.2.2.1 y_L_isBroken.2.1) = true) (h : xN false sc qs z = some (z', cs)) (hc : xAll cs) (hE : z'.2.2.2.2.2 ≤ 174) (k : XR false d 174 sc y_L_isBroken z' out) : XR false d 174 sc y_L_isBroken z out := XR.seg 3 false rfl (fun q => by cases q) qs hq h hc hE k
set_option maxRecDepth 100000 in
set_option maxHeartbeats 4000000 in
theorem o_L_isBroken_F26 {sc : List Int} {R : xR}   {l0 : Nat} {l1 : Int} {l2 : Int} {l3 : Nat} {l4 : Nat}  : ∀ (n : Nat) (v6 : Int) (v8 : Int) (M : xM) (out : Int × xM), L_isBroken_F26 R l0 l1 l2 l3 l4  n v6 v8 M = some out → XR false 2 174 sc y_L_isBroken (26, [(0, (vR 3 l0)), (1, (vI l1)), (2, (vI l2)), (3, (vR 26 l3)), (4, (vR 22 l4)), (6, (vL v6)), (8, (vI v8))], [], R, M, 174) ((some (vI out.1)), R, out.2) := by
  intro n
  induction n with
  | zero => intro v6 v8 M out h; exact (xno h).elim
  | succ n ih =>
    intro v6 v8 M out h
    rw [L_isBroken_F26] at h
    refine s_L_isBroken [(26, .iload 8, 0, 0), (28, .iload_n 2, 0, 0)] (by decide +kernel) (z' := (29, [(0, (vR 3 l0)), (1, (vI l1)), (2, (vI l2)), (3, (vR 26 l3)), (4, (vR 22 l4)), (6, (vL v6)), (8, (vI v8))], [(vI l2), (vI v8)], R, M, 174)) (cs := []) (by rfl) trivial (Nat.le_refl _) ?_
    rcases xif_ex h with ⟨c_4, h⟩ | ⟨c_4, h⟩
    · skip
      refine s_L_isBroken [(29, .if_icmp .gt 24, 0, 53), (53, .aload_n 0, 0, 0), (54, .iload_n 1, 0, 0), (55, .lload 6, 0, 0)] (by decide +kernel) (z' := (57, [(0, (vR 3 l0)), (1, (vI l1)), (2, (vI l2)), (3, (vR 26 l3)), (4, (vR 22 l4)), (6, (vL v6)), (8, (vI v8))], [(vL v6), (vI l1), (vR 3 l0)], R, M, 174)) (cs := [l2 < v8]) (by rfl) ⟨c_4, trivial⟩ (Nat.le_refl _) ?_
      obtain ⟨r_5, e_6, h⟩ := xb1_ex h
      refine XR.callV 3 rfl (rest := []) m_L_isTooMuch k_3_117 3 l0 (Or.inl ⟨by decide, rfl⟩) [(vI l1), (vL v6)] rfl rfl (c_L_isTooMuch e_6) (by decide) (Nat.le_of_ble_eq_true rfl) (by decide +kernel) (Nat.le_refl _) (Nat.le_refl _) ?_
      show XR false 2 174 sc y_L_isBroken (60, [(0, (vR 3 l0)), (1, (vI l1)), (2, (vI l2)), (3, (vR 26 l3)), (4, (vR 22 l4)), (6, (vL v6)), (8, (vI v8))], [(vI r_5)], R, M, 174) _
      obtain ⟨c_7, h⟩ := xch_ex h
      obtain rfl := Option.some.inj h
      exact XR.retI .boolean rfl (xnar_z c_7) (by decide +kernel)
    · skip
      refine s_L_isBroken [(29, .if_icmp .gt 24, 0, (-1)), (32, .lload 6, 0, 0), (34, .aload_n 0, 0, 0), (35, .iload_n 1, 0, 0), (36, .iload 8, 0, 0), (38, .aload_n 3, 0, 0), (39, .aload 4, 0, 0)] (by decide +kernel) (z' := (41, [(0, (vR 3 l0)), (1, (vI l1)), (2, (vI l2)), (3, (vR 26 l3)), (4, (vR 22 l4)), (6, (vL v6)), (8, (vI v8))], [(vR 22 l4), (vR 26 l3), (vI v8), (vI l1), (vR 3 l0), (vL v6)], R, M, 174)) (cs := [¬ (l2 < v8)]) (by rfl) ⟨c_4, trivial⟩ (Nat.le_refl _) ?_
      obtain ⟨r_8, M_9, e_10, h⟩ := xb2_ex h
      refine XR.callV 3 rfl (rest := [(vL v6)]) m_L_sumOf k_3_113 3 l0 (Or.inl ⟨by decide, rfl⟩) [(vI l1), (vI v8), (vR 26 l3), (vR 22 l4)] rfl rfl (c_L_sumOf e_10) (by decide) (Nat.le_of_ble_eq_true rfl) (by decide +kernel) (Nat.le_refl _) (Nat.le_refl _) ?_
      show XR false 2 174 sc y_L_isBroken (44, [(0, (vR 3 l0)), (1, (vI l1)), (2, (vI l2)), (3, (vR 26 l3)), (4, (vR 22 l4)), (6, (vL v6)), (8, (vI v8))], [(vL r_8), (vL v6)], R, M_9, 174) _
      obtain ⟨v6_11, hv6_11, h⟩ := xl_ex h
      obtain ⟨v8_12, hv8_12, h⟩ := xl_ex h
      refine s_L_isBroken [(44, .ladd, 0, 0), (45, .lstore 6, 0, 0), (47, .iinc 8 1, 0, 0), (50, .goto (-24), 0, 26)] (by decide +kernel) (z' := (26, [(8, (vI v8_12)), (6, (vL v6_11)), (0, (vR 3 l0)), (1, (vI l1)), (2, (vI l2)), (3, (vR 26 l3)), (4, (vR 22 l4))], [], R, M_9, 174)) (cs := []) (by subst hv6_11; subst hv8_12; rfl) trivial (Nat.le_refl _) ?_
      refine XR.pick [2, 3, 4, 5, 6, 1, 0] (ls' := [(0, (vR 3 l0)), (1, (vI l1)), (2, (vI l2)), (3, (vR 26 l3)), (4, (vR 22 l4)), (6, (vL v6_11)), (8, (vI v8_12))]) rfl ?_
      exact ih v6_11 v8_12 M_9 _ h
set_option maxRecDepth 100000 in
set_option maxHeartbeats 4000000 in
theorem o_L_isBroken {sc : List Int} {R : xR} {M : xM} {l0 : Nat} {l1 : Int} {l2 : Int} {l3 : Nat} {l4 : Nat} {out : Int × xM} (h : f_L_isBroken R l0 l1 l2 l3 l4 M = some out) : XR false 2 174 sc y_L_isBroken (0, [(0, (vR 3 l0)), (1, (vI l1)), (2, (vI l2)), (3, (vR 26 l3)), (4, (vR 22 l4))], [], R, M, 174) ((some (vI out.1)), R, out.2) := by
  unfold f_L_isBroken at h
  obtain ⟨c_1, h⟩ := xch_ex h
  obtain ⟨v5_2, hv5_2, h⟩ := xl_ex h
  refine s_L_isBroken [(0, .iload_n 2, 0, 0), (1, .aload_n 0, 0, 0), (2, .getfield 26, 3, 4), (5, .iload_n 1, 0, 0), (6, .iaload, 0, 0), (7, .isub, 0, 0), (8, .iconst 1, 0, 1), (9, .iadd, 0, 0), (10, .istore 5, 0, 0), (12, .iload 5, 0, 0)] (by decide +kernel) (z' := (14, [(5, (vI v5_2)), (0, (vR 3 l0)), (1, (vI l1)), (2, (vI l2)), (3, (vR 26 l3)), (4, (vR 22 l4))], [(vI v5_2)], R, M, 174)) (cs := [xar 30 0, xidx l1 (xan 30)]) (by subst hv5_2; rfl) ⟨xar_30, xix_30 c_1, trivial⟩ (Nat.le_refl _) ?_
  rcases xif_ex h with ⟨c_3, h⟩ | ⟨c_3, h⟩
  · skip
    refine s_L_isBroken [(14, .ifCond .ge 5, 0, (-1)), (17, .iconst 0, 0, 0)] (by decide +kernel) (z' := (18, [(5, (vI v5_2)), (0, (vR 3 l0)), (1, (vI l1)), (2, (vI l2)), (3, (vR 26 l3)), (4, (vR 22 l4))], [(vI 0)], R, M, 174)) (cs := [¬ (0 ≤ v5_2)]) (by rfl) ⟨Int.not_le.mpr c_3, trivial⟩ (Nat.le_refl _) ?_
    obtain rfl := Option.some.inj h
    exact XR.retI .boolean rfl (xnar_z (by decide)) (by decide +kernel)
  · skip
    refine s_L_isBroken [(14, .ifCond .ge 5, 0, 19), (19, .lconst 0, 0, 0), (20, .lstore 6, 0, 0), (22, .iload 5, 0, 0), (24, .istore 8, 0, 0)] (by decide +kernel) (z' := (26, [(8, (vI v5_2)), (6, (vL 0)), (5, (vI v5_2)), (0, (vR 3 l0)), (1, (vI l1)), (2, (vI l2)), (3, (vR 26 l3)), (4, (vR 22 l4))], [], R, M, 174)) (cs := [0 ≤ v5_2]) (by rfl) ⟨Int.not_lt.mp c_3, trivial⟩ (Nat.le_refl _) ?_
    refine XR.pick [3, 4, 5, 6, 7, 1, 0] (ls' := [(0, (vR 3 l0)), (1, (vI l1)), (2, (vI l2)), (3, (vR 26 l3)), (4, (vR 22 l4)), (6, (vL 0)), (8, (vI v5_2))]) rfl ?_
    refine o_L_isBroken_F26  xfu 0 v5_2 M _ h
set_option maxRecDepth 100000 in
set_option maxHeartbeats 4000000 in
theorem c_L_isBroken {sc : List Int} {R : xR} {M : xM} {l0 : Nat} {l1 : Int} {l2 : Int} {l3 : Nat} {l4 : Nat} {out : Int × xM} (h : f_L_isBroken R l0 l1 l2 l3 l4 M = some out) : XC false 2 sc y_L_isBroken [(vR 3 l0), (vI l1), (vI l2), (vR 26 l3), (vR 22 l4)] R M 174 174 ((some (vI out.1)), R, out.2) := XC.of (by decide) (Nat.le_of_ble_eq_true rfl) (Nat.le_refl _) (Nat.le_refl _) (o_L_isBroken h)
def L_isLawName_F2 (R : xR) (M : xM) (l0 : Nat) (l1 : Int) : Nat → Int → Option Int
  | 0, _ => none
  | n + 1, v3 =>
    if v3 < M l0 0 then
      xch (0 ≤ v3 ∧ v3 < 8) <|
      if M (R l0 1) (Int.toNat v3) = l1 then
        some (1)
      else
        xl (w32 (v3 + 1)) fun v3_4 =>
        L_isLawName_F2 R M l0 l1  n v3_4
    else
      some (0)
def f_L_isLawName (R : xR) (l0 : Nat) (l1 : Int) (M : xM) : Option Int :=
  L_isLawName_F2 R M l0 l1
    xfu 0
set_option maxRecDepth 100000 in
set_option maxHeartbeats 4000000 in
theorem s_L_isLawName {d : Nat} {sc : List Int} {z z' : xS} {out : xO} (qs : List xI) {cs : List Prop} (hq : qs.all (xqb 3 false y_L_isLawName.2.2.1 y_L_isLawName.2.1) = true) (h : xN false sc qs z = some (z', cs)) (hc : xAll cs) (hE : z'.2.2.2.2.2 ≤ 174) (k : XR false d 174 sc y_L_isLawName z' out) : XR false d 174 sc y_L_isLawName z out := XR.seg 3 false rfl (fun q => by cases q) qs hq h hc hE k
set_option maxRecDepth 100000 in
set_option maxHeartbeats 4000000 in
theorem o_L_isLawName_F2 {sc : List Int} {R : xR} {M : xM}  {l0 : Nat} {l1 : Int}  : ∀ (n : Nat) (v3 : Int) (out : Int), L_isLawName_F2 R M l0 l1  n v3 = some out → XR false 0 174 sc y_L_isLawName (2, [(0, (vR 3 l0)), (1, (vL l1)), (3, (vI v3))], [], R, M, 174) ((some (vI out)), R, M) := by
  intro n
  induction n with
  | zero => intro v3 out h; exact (xno h).elim
  | succ n ih =>
    intro v3 out h
    rw [L_isLawName_F2] at h
    refine s_L_isLawName [(2, .iload_n 3, 0, 0), (3, .aload_n 0, 0, 0), (4, .getfield 9, 3, 0)] (by decide +kernel) (z' := (7, [(0, (vR 3 l0)), (1, (vL l1)), (3, (vI v3))], [(vI (M l0 0)), (vI v3)], R, M, 174)) (cs := []) (by rfl) trivial (Nat.le_refl _) ?_
    rcases xif_ex h with ⟨c_1, h⟩ | ⟨c_1, h⟩
    · skip
      obtain ⟨c_2, h⟩ := xch_ex h
      refine s_L_isLawName [(7, .if_icmp .ge 22, 0, (-1)), (10, .aload_n 0, 0, 0), (11, .getfield 15, 3, 1), (14, .iload_n 3, 0, 0), (15, .laload, 0, 0), (16, .lload_n 1, 0, 0), (17, .lcmp, 0, 0)] (by decide +kernel) (z' := (18, [(0, (vR 3 l0)), (1, (vL l1)), (3, (vI v3))], [(vI (xcmp (M (R l0 1) (Int.toNat v3)) l1))], R, M, 174)) (cs := [¬ (M l0 0 ≤ v3), xar 24 1, xidx v3 (xan 24)]) (by rfl) ⟨Int.not_le.mpr c_1, xar_24, xix_24 c_2, trivial⟩ (Nat.le_refl _) ?_
      rcases xif_ex h with ⟨c_3, h⟩ | ⟨c_3, h⟩
      · skip
        refine s_L_isLawName [(18, .ifCond .ne 5, 0, (-1)), (21, .iconst 1, 0, 1)] (by decide +kernel) (z' := (22, [(0, (vR 3 l0)), (1, (vL l1)), (3, (vI v3))], [(vI 1)], R, M, 174)) (cs := [¬ (xcmp (M (R l0 1) (Int.toNat v3)) l1 ≠ 0)]) (by rfl) ⟨fun q => q (xcmp_eq.mpr c_3), trivial⟩ (Nat.le_refl _) ?_
        obtain rfl := Option.some.inj h
        exact XR.retI .boolean rfl (xnar_z (by decide)) (by decide +kernel)
      · skip
        obtain ⟨v3_4, hv3_4, h⟩ := xl_ex h
        refine s_L_isLawName [(18, .ifCond .ne 5, 0, 23), (23, .iinc 3 1, 0, 0), (26, .goto (-24), 0, 2)] (by decide +kernel) (z' := (2, [(3, (vI v3_4)), (0, (vR 3 l0)), (1, (vL l1))], [], R, M, 174)) (cs := [xcmp (M (R l0 1) (Int.toNat v3)) l1 ≠ 0]) (by subst hv3_4; rfl) ⟨fun q => c_3 (xcmp_eq.mp q), trivial⟩ (Nat.le_refl _) ?_
        refine XR.pick [1, 2, 0] (ls' := [(0, (vR 3 l0)), (1, (vL l1)), (3, (vI v3_4))]) rfl ?_
        exact ih v3_4 _ h
    · skip
      refine s_L_isLawName [(7, .if_icmp .ge 22, 0, 29), (29, .iconst 0, 0, 0)] (by decide +kernel) (z' := (30, [(0, (vR 3 l0)), (1, (vL l1)), (3, (vI v3))], [(vI 0)], R, M, 174)) (cs := [M l0 0 ≤ v3]) (by rfl) ⟨Int.not_lt.mp c_1, trivial⟩ (Nat.le_refl _) ?_
      obtain rfl := Option.some.inj h
      exact XR.retI .boolean rfl (xnar_z (by decide)) (by decide +kernel)
set_option maxRecDepth 100000 in
set_option maxHeartbeats 4000000 in
theorem o_L_isLawName {sc : List Int} {R : xR} {M : xM} {l0 : Nat} {l1 : Int} {out : Int} (h : f_L_isLawName R l0 l1 M = some out) : XR false 0 174 sc y_L_isLawName (0, [(0, (vR 3 l0)), (1, (vL l1))], [], R, M, 174) ((some (vI out)), R, M) := by
  unfold f_L_isLawName at h
  refine s_L_isLawName [(0, .iconst 0, 0, 0), (1, .istore_n 3, 0, 0)] (by decide +kernel) (z' := (2, [(3, (vI 0)), (0, (vR 3 l0)), (1, (vL l1))], [], R, M, 174)) (cs := []) (by rfl) trivial (Nat.le_refl _) ?_
  refine XR.pick [1, 2, 0] (ls' := [(0, (vR 3 l0)), (1, (vL l1)), (3, (vI 0))]) rfl ?_
  refine o_L_isLawName_F2  xfu 0 _ h
set_option maxRecDepth 100000 in
set_option maxHeartbeats 4000000 in
theorem c_L_isLawName {sc : List Int} {R : xR} {M : xM} {l0 : Nat} {l1 : Int} {out : Int} (h : f_L_isLawName R l0 l1 M = some out) : XC false 0 sc y_L_isLawName [(vR 3 l0), (vL l1)] R M 174 174 ((some (vI out)), R, M) := XC.of (by decide) (Nat.le_of_ble_eq_true rfl) (Nat.le_refl _) (Nat.le_refl _) (o_L_isLawName h)
