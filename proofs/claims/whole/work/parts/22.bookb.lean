def f_Y_hasRun (R : xR) (l0 : Nat) (l1 : Int) (l2 : Int) (l3 : Int) (M : xM) : Option Int :=
  xch (0 ≤ l1 ∧ l1 < 4) <|
  if M (R l0 2) (Int.toNat l1) < w64 (l2 + l3) then
    some (0)
  else
    some (1)
set_option maxRecDepth 100000 in
set_option maxHeartbeats 4000000 in
theorem s_Y_hasRun {d : Nat} {sc : List Int} {z z' : xS} {out : xO} (qs : List xI) {cs : List Prop} (hq : qs.all (xqb 8 false y_Y_hasRun.2.2.1 y_Y_hasRun.2.1) = true) (h : xN false sc qs z = some (z', cs)) (hc : xAll cs) (hE : z'.2.2.2.2.2 ≤ 174) (k : XR false d 174 sc y_Y_hasRun z' out) : XR false d 174 sc y_Y_hasRun z out := XR.seg 8 false rfl (fun q => by cases q) qs hq h hc hE k
set_option maxRecDepth 100000 in
set_option maxHeartbeats 4000000 in
theorem o_Y_hasRun {sc : List Int} {R : xR} {M : xM} {l0 : Nat} {l1 : Int} {l2 : Int} {l3 : Int} {out : Int} (h : f_Y_hasRun R l0 l1 l2 l3 M = some out) : XR false 0 174 sc y_Y_hasRun (0, [(0, (vR 8 l0)), (1, (vI l1)), (2, (vI l2)), (3, (vI l3))], [], R, M, 174) ((some (vI out)), R, M) := by
  unfold f_Y_hasRun at h
  obtain ⟨c_1, h⟩ := xch_ex h
  refine s_Y_hasRun [(0, .iload_n 2, 0, 0), (1, .i2l, 0, 0), (2, .iload_n 3, 0, 0), (3, .i2l, 0, 0), (4, .ladd, 0, 0), (5, .aload_n 0, 0, 0), (6, .getfield 19, 8, 2), (9, .iload_n 1, 0, 0), (10, .iaload, 0, 0), (11, .i2l, 0, 0), (12, .lcmp, 0, 0)] (by decide +kernel) (z' := (13, [(0, (vR 8 l0)), (1, (vI l1)), (2, (vI l2)), (3, (vI l3))], [(vI (xcmp (w64 (l2 + l3)) (M (R l0 2) (Int.toNat l1))))], R, M, 174)) (cs := [xar 34 0, xidx l1 (xan 34)]) (by rfl) ⟨xar_34, xix_34 c_1, trivial⟩ (Nat.le_refl _) ?_
  rcases xif_ex h with ⟨c_2, h⟩ | ⟨c_2, h⟩
  · skip
    refine s_Y_hasRun [(13, .ifCond .gt 7, 0, 20), (20, .iconst 0, 0, 0)] (by decide +kernel) (z' := (21, [(0, (vR 8 l0)), (1, (vI l1)), (2, (vI l2)), (3, (vI l3))], [(vI 0)], R, M, 174)) (cs := [0 < xcmp (w64 (l2 + l3)) (M (R l0 2) (Int.toNat l1))]) (by rfl) ⟨xcmp_gt.mpr c_2, trivial⟩ (Nat.le_refl _) ?_
    obtain rfl := Option.some.inj h
    exact XR.retI .boolean rfl (xnar_z (by decide)) (by decide +kernel)
  · skip
    refine s_Y_hasRun [(13, .ifCond .gt 7, 0, (-1)), (16, .iconst 1, 0, 1), (17, .goto 4, 0, 21)] (by decide +kernel) (z' := (21, [(0, (vR 8 l0)), (1, (vI l1)), (2, (vI l2)), (3, (vI l3))], [(vI 1)], R, M, 174)) (cs := [¬ (0 < xcmp (w64 (l2 + l3)) (M (R l0 2) (Int.toNat l1)))]) (by rfl) ⟨fun q => c_2 (xcmp_gt.mp q), trivial⟩ (Nat.le_refl _) ?_
    obtain rfl := Option.some.inj h
    exact XR.retI .boolean rfl (xnar_z (by decide)) (by decide +kernel)
set_option maxRecDepth 100000 in
set_option maxHeartbeats 4000000 in
theorem c_Y_hasRun {sc : List Int} {R : xR} {M : xM} {l0 : Nat} {l1 : Int} {l2 : Int} {l3 : Int} {out : Int} (h : f_Y_hasRun R l0 l1 l2 l3 M = some out) : XC false 0 sc y_Y_hasRun [(vR 8 l0), (vI l1), (vI l2), (vI l3)] R M 174 174 ((some (vI out)), R, M) := XC.of (by decide) (Nat.le_of_ble_eq_true rfl) (Nat.le_refl _) (Nat.le_refl _) (o_Y_hasRun h)
def Y_hasTwoAlike_F12 (R : xR) (M : xM) (l0 : Nat) (l1 : Int) (l2 : Int) (q43 : Int → Option Int) : Nat → Int → Int → Option Int
  | 0, _, _ => none
  | n + 1, v3, v4 =>
    if v4 < l2 then
      xb1 (f_Y_get R l0 l1 v3 M) fun r_4 =>
      xb1 (f_Y_get R l0 l1 v4 M) fun r_6 =>
      if r_4 = r_6 then
        some (1)
      else
        xl (w32 (v4 + 1)) fun v4_9 =>
        Y_hasTwoAlike_F12 R M l0 l1 l2 q43 n v3 v4_9
    else
      q43 v3
def Y_hasTwoAlike_F2 (R : xR) (M : xM) (l0 : Nat) (l1 : Int) (l2 : Int) : Nat → Int → Option Int
  | 0, _ => none
  | n + 1, v3 =>
    if v3 < l2 then
      xl (w32 (v3 + 1)) fun v4_2 =>
      Y_hasTwoAlike_F12 R M l0 l1 l2
        (fun (v3_10 : Int) =>
          xl (w32 (v3_10 + 1)) fun v3_11 =>
          Y_hasTwoAlike_F2 R M l0 l1 l2  n v3_11)
        xfu v3 v4_2
    else
      some (0)
def f_Y_hasTwoAlike (R : xR) (l0 : Nat) (l1 : Int) (l2 : Int) (M : xM) : Option Int :=
  Y_hasTwoAlike_F2 R M l0 l1 l2
    xfu 0
set_option maxRecDepth 100000 in
set_option maxHeartbeats 4000000 in
theorem s_Y_hasTwoAlike {d : Nat} {sc : List Int} {z z' : xS} {out : xO} (qs : List xI) {cs : List Prop} (hq : qs.all (xqb 8 false y_Y_hasTwoAlike.2.2.1 y_Y_hasTwoAlike.2.1) = true) (h : xN false sc qs z = some (z', cs)) (hc : xAll cs) (hE : z'.2.2.2.2.2 ≤ 174) (k : XR false d 174 sc y_Y_hasTwoAlike z' out) : XR false d 174 sc y_Y_hasTwoAlike z out := XR.seg 8 false rfl (fun q => by cases q) qs hq h hc hE k
set_option maxRecDepth 100000 in
set_option maxHeartbeats 4000000 in
theorem o_Y_hasTwoAlike_F12 {sc : List Int} {R : xR} {M : xM}  {l0 : Nat} {l1 : Int} {l2 : Int}  {q43 : Int → Option Int} (hq43 : ∀ (w3 : Int) (out : Int), q43 w3 = some out → XR false 1 174 sc y_Y_hasTwoAlike (43, [(0, (vR 8 l0)), (1, (vI l1)), (2, (vI l2)), (3, (vI w3))], [], R, M, 174) ((some (vI out)), R, M)) : ∀ (n : Nat) (v3 : Int) (v4 : Int) (out : Int), Y_hasTwoAlike_F12 R M l0 l1 l2 q43 n v3 v4 = some out → XR false 1 174 sc y_Y_hasTwoAlike (12, [(0, (vR 8 l0)), (1, (vI l1)), (2, (vI l2)), (3, (vI v3)), (4, (vI v4))], [], R, M, 174) ((some (vI out)), R, M) := by
  intro n
  induction n with
  | zero => intro v3 v4 out h; exact (xno h).elim
  | succ n ih =>
    intro v3 v4 out h
    rw [Y_hasTwoAlike_F12] at h
    refine s_Y_hasTwoAlike [(12, .iload 4, 0, 0), (14, .iload_n 2, 0, 0)] (by decide +kernel) (z' := (15, [(0, (vR 8 l0)), (1, (vI l1)), (2, (vI l2)), (3, (vI v3)), (4, (vI v4))], [(vI l2), (vI v4)], R, M, 174)) (cs := []) (by rfl) trivial (Nat.le_refl _) ?_
    rcases xif_ex h with ⟨c_3, h⟩ | ⟨c_3, h⟩
    · skip
      refine s_Y_hasTwoAlike [(15, .if_icmp .ge 28, 0, (-1)), (18, .aload_n 0, 0, 0), (19, .iload_n 1, 0, 0), (20, .iload_n 3, 0, 0)] (by decide +kernel) (z' := (21, [(0, (vR 8 l0)), (1, (vI l1)), (2, (vI l2)), (3, (vI v3)), (4, (vI v4))], [(vI v3), (vI l1), (vR 8 l0)], R, M, 174)) (cs := [¬ (l2 ≤ v4)]) (by rfl) ⟨Int.not_le.mpr c_3, trivial⟩ (Nat.le_refl _) ?_
      obtain ⟨r_4, e_5, h⟩ := xb1_ex h
      refine XR.callV 8 rfl (rest := []) m_Y_get k_8_38 8 l0 (Or.inl ⟨by decide, rfl⟩) [(vI l1), (vI v3)] rfl rfl (c_Y_get e_5) (by decide) (Nat.le_of_ble_eq_true rfl) (by decide +kernel) (Nat.le_refl _) (Nat.le_refl _) ?_
      show XR false 1 174 sc y_Y_hasTwoAlike (24, [(0, (vR 8 l0)), (1, (vI l1)), (2, (vI l2)), (3, (vI v3)), (4, (vI v4))], [(vL r_4)], R, M, 174) _
      refine s_Y_hasTwoAlike [(24, .aload_n 0, 0, 0), (25, .iload_n 1, 0, 0), (26, .iload 4, 0, 0)] (by decide +kernel) (z' := (28, [(0, (vR 8 l0)), (1, (vI l1)), (2, (vI l2)), (3, (vI v3)), (4, (vI v4))], [(vI v4), (vI l1), (vR 8 l0), (vL r_4)], R, M, 174)) (cs := []) (by rfl) trivial (Nat.le_refl _) ?_
      obtain ⟨r_6, e_7, h⟩ := xb1_ex h
      refine XR.callV 8 rfl (rest := [(vL r_4)]) m_Y_get k_8_38 8 l0 (Or.inl ⟨by decide, rfl⟩) [(vI l1), (vI v4)] rfl rfl (c_Y_get e_7) (by decide) (Nat.le_of_ble_eq_true rfl) (by decide +kernel) (Nat.le_refl _) (Nat.le_refl _) ?_
      show XR false 1 174 sc y_Y_hasTwoAlike (31, [(0, (vR 8 l0)), (1, (vI l1)), (2, (vI l2)), (3, (vI v3)), (4, (vI v4))], [(vL r_6), (vL r_4)], R, M, 174) _
      refine s_Y_hasTwoAlike [(31, .lcmp, 0, 0)] (by decide +kernel) (z' := (32, [(0, (vR 8 l0)), (1, (vI l1)), (2, (vI l2)), (3, (vI v3)), (4, (vI v4))], [(vI (xcmp r_4 r_6))], R, M, 174)) (cs := []) (by rfl) trivial (Nat.le_refl _) ?_
      rcases xif_ex h with ⟨c_8, h⟩ | ⟨c_8, h⟩
      · skip
        refine s_Y_hasTwoAlike [(32, .ifCond .ne 5, 0, (-1)), (35, .iconst 1, 0, 1)] (by decide +kernel) (z' := (36, [(0, (vR 8 l0)), (1, (vI l1)), (2, (vI l2)), (3, (vI v3)), (4, (vI v4))], [(vI 1)], R, M, 174)) (cs := [¬ (xcmp r_4 r_6 ≠ 0)]) (by rfl) ⟨fun q => q (xcmp_eq.mpr c_8), trivial⟩ (Nat.le_refl _) ?_
        obtain rfl := Option.some.inj h
        exact XR.retI .boolean rfl (xnar_z (by decide)) (by decide +kernel)
      · skip
        obtain ⟨v4_9, hv4_9, h⟩ := xl_ex h
        refine s_Y_hasTwoAlike [(32, .ifCond .ne 5, 0, 37), (37, .iinc 4 1, 0, 0), (40, .goto (-28), 0, 12)] (by decide +kernel) (z' := (12, [(4, (vI v4_9)), (0, (vR 8 l0)), (1, (vI l1)), (2, (vI l2)), (3, (vI v3))], [], R, M, 174)) (cs := [xcmp r_4 r_6 ≠ 0]) (by subst hv4_9; rfl) ⟨fun q => c_8 (xcmp_eq.mp q), trivial⟩ (Nat.le_refl _) ?_
        refine XR.pick [1, 2, 3, 4, 0] (ls' := [(0, (vR 8 l0)), (1, (vI l1)), (2, (vI l2)), (3, (vI v3)), (4, (vI v4_9))]) rfl ?_
        exact ih v3 v4_9 _ h
    · skip
      refine s_Y_hasTwoAlike [(15, .if_icmp .ge 28, 0, 43)] (by decide +kernel) (z' := (43, [(0, (vR 8 l0)), (1, (vI l1)), (2, (vI l2)), (3, (vI v3)), (4, (vI v4))], [], R, M, 174)) (cs := [l2 ≤ v4]) (by rfl) ⟨Int.not_lt.mp c_3, trivial⟩ (Nat.le_refl _) ?_
      refine XR.pick [0, 1, 2, 3] (ls' := [(0, (vR 8 l0)), (1, (vI l1)), (2, (vI l2)), (3, (vI v3))]) rfl ?_
      exact hq43 v3 _ h
set_option maxRecDepth 100000 in
set_option maxHeartbeats 4000000 in
theorem o_Y_hasTwoAlike_F2 {sc : List Int} {R : xR} {M : xM}  {l0 : Nat} {l1 : Int} {l2 : Int}  : ∀ (n : Nat) (v3 : Int) (out : Int), Y_hasTwoAlike_F2 R M l0 l1 l2  n v3 = some out → XR false 1 174 sc y_Y_hasTwoAlike (2, [(0, (vR 8 l0)), (1, (vI l1)), (2, (vI l2)), (3, (vI v3))], [], R, M, 174) ((some (vI out)), R, M) := by
  intro n
  induction n with
  | zero => intro v3 out h; exact (xno h).elim
  | succ n ih =>
    intro v3 out h
    rw [Y_hasTwoAlike_F2] at h
    refine s_Y_hasTwoAlike [(2, .iload_n 3, 0, 0), (3, .iload_n 2, 0, 0)] (by decide +kernel) (z' := (4, [(0, (vR 8 l0)), (1, (vI l1)), (2, (vI l2)), (3, (vI v3))], [(vI l2), (vI v3)], R, M, 174)) (cs := []) (by rfl) trivial (Nat.le_refl _) ?_
    rcases xif_ex h with ⟨c_1, h⟩ | ⟨c_1, h⟩
    · skip
      obtain ⟨v4_2, hv4_2, h⟩ := xl_ex h
      refine s_Y_hasTwoAlike [(4, .if_icmp .ge 45, 0, (-1)), (7, .iload_n 3, 0, 0), (8, .iconst 1, 0, 1), (9, .iadd, 0, 0), (10, .istore 4, 0, 0)] (by decide +kernel) (z' := (12, [(4, (vI v4_2)), (0, (vR 8 l0)), (1, (vI l1)), (2, (vI l2)), (3, (vI v3))], [], R, M, 174)) (cs := [¬ (l2 ≤ v3)]) (by subst hv4_2; rfl) ⟨Int.not_le.mpr c_1, trivial⟩ (Nat.le_refl _) ?_
      refine XR.pick [1, 2, 3, 4, 0] (ls' := [(0, (vR 8 l0)), (1, (vI l1)), (2, (vI l2)), (3, (vI v3)), (4, (vI v4_2))]) rfl ?_
      refine o_Y_hasTwoAlike_F12 ?_ xfu v3 v4_2 _ h
      · intro v3_10 out h
        obtain ⟨v3_11, hv3_11, h⟩ := xl_ex h
        refine s_Y_hasTwoAlike [(43, .iinc 3 1, 0, 0), (46, .goto (-44), 0, 2)] (by decide +kernel) (z' := (2, [(3, (vI v3_11)), (0, (vR 8 l0)), (1, (vI l1)), (2, (vI l2))], [], R, M, 174)) (cs := []) (by subst hv3_11; rfl) trivial (Nat.le_refl _) ?_
        refine XR.pick [1, 2, 3, 0] (ls' := [(0, (vR 8 l0)), (1, (vI l1)), (2, (vI l2)), (3, (vI v3_11))]) rfl ?_
        exact ih v3_11 _ h
    · skip
      refine s_Y_hasTwoAlike [(4, .if_icmp .ge 45, 0, 49), (49, .iconst 0, 0, 0)] (by decide +kernel) (z' := (50, [(0, (vR 8 l0)), (1, (vI l1)), (2, (vI l2)), (3, (vI v3))], [(vI 0)], R, M, 174)) (cs := [l2 ≤ v3]) (by rfl) ⟨Int.not_lt.mp c_1, trivial⟩ (Nat.le_refl _) ?_
      obtain rfl := Option.some.inj h
      exact XR.retI .boolean rfl (xnar_z (by decide)) (by decide +kernel)
set_option maxRecDepth 100000 in
set_option maxHeartbeats 4000000 in
theorem o_Y_hasTwoAlike {sc : List Int} {R : xR} {M : xM} {l0 : Nat} {l1 : Int} {l2 : Int} {out : Int} (h : f_Y_hasTwoAlike R l0 l1 l2 M = some out) : XR false 1 174 sc y_Y_hasTwoAlike (0, [(0, (vR 8 l0)), (1, (vI l1)), (2, (vI l2))], [], R, M, 174) ((some (vI out)), R, M) := by
  unfold f_Y_hasTwoAlike at h
  refine s_Y_hasTwoAlike [(0, .iconst 0, 0, 0), (1, .istore_n 3, 0, 0)] (by decide +kernel) (z' := (2, [(3, (vI 0)), (0, (vR 8 l0)), (1, (vI l1)), (2, (vI l2))], [], R, M, 174)) (cs := []) (by rfl) trivial (Nat.le_refl _) ?_
  refine XR.pick [1, 2, 3, 0] (ls' := [(0, (vR 8 l0)), (1, (vI l1)), (2, (vI l2)), (3, (vI 0))]) rfl ?_
  refine o_Y_hasTwoAlike_F2  xfu 0 _ h
set_option maxRecDepth 100000 in
set_option maxHeartbeats 4000000 in
theorem c_Y_hasTwoAlike {sc : List Int} {R : xR} {M : xM} {l0 : Nat} {l1 : Int} {l2 : Int} {out : Int} (h : f_Y_hasTwoAlike R l0 l1 l2 M = some out) : XC false 1 sc y_Y_hasTwoAlike [(vR 8 l0), (vI l1), (vI l2)] R M 174 174 ((some (vI out)), R, M) := XC.of (by decide) (Nat.le_of_ble_eq_true rfl) (Nat.le_refl _) (Nat.le_refl _) (o_Y_hasTwoAlike h)
def f_Y_isMissing (R : xR) (l0 : Nat) (l1 : Int) (M : xM) : Option Int :=
  xch (0 ≤ l1 ∧ l1 < 4) <|
  if M (R l0 1) (Int.toNat l1) = -1 then
    some (1)
  else
    some (0)
set_option maxRecDepth 100000 in
set_option maxHeartbeats 4000000 in
theorem s_Y_isMissing {d : Nat} {sc : List Int} {z z' : xS} {out : xO} (qs : List xI) {cs : List Prop} (hq : qs.all (xqb 8 false y_Y_isMissing.2.2.1 y_Y_isMissing.2.1) = true) (h : xN false sc qs z = some (z', cs)) (hc : xAll cs) (hE : z'.2.2.2.2.2 ≤ 174) (k : XR false d 174 sc y_Y_isMissing z' out) : XR false d 174 sc y_Y_isMissing z out := XR.seg 8 false rfl (fun q => by cases q) qs hq h hc hE k
set_option maxRecDepth 100000 in
set_option maxHeartbeats 4000000 in
theorem o_Y_isMissing {sc : List Int} {R : xR} {M : xM} {l0 : Nat} {l1 : Int} {out : Int} (h : f_Y_isMissing R l0 l1 M = some out) : XR false 0 174 sc y_Y_isMissing (0, [(0, (vR 8 l0)), (1, (vI l1))], [], R, M, 174) ((some (vI out)), R, M) := by
  unfold f_Y_isMissing at h
  obtain ⟨c_1, h⟩ := xch_ex h
  refine s_Y_isMissing [(0, .aload_n 0, 0, 0), (1, .getfield 15, 8, 1), (4, .iload_n 1, 0, 0), (5, .iaload, 0, 0), (6, .iconst (-1), 0, (-1))] (by decide +kernel) (z' := (7, [(0, (vR 8 l0)), (1, (vI l1))], [(vI (-1)), (vI (M (R l0 1) (Int.toNat l1)))], R, M, 174)) (cs := [xar 34 0, xidx l1 (xan 34)]) (by rfl) ⟨xar_34, xix_34 c_1, trivial⟩ (Nat.le_refl _) ?_
  rcases xif_ex h with ⟨c_2, h⟩ | ⟨c_2, h⟩
  · skip
    refine s_Y_isMissing [(7, .if_icmp .ne 7, 0, (-1)), (10, .iconst 1, 0, 1), (11, .goto 4, 0, 15)] (by decide +kernel) (z' := (15, [(0, (vR 8 l0)), (1, (vI l1))], [(vI 1)], R, M, 174)) (cs := [¬ (M (R l0 1) (Int.toNat l1) ≠ -1)]) (by rfl) ⟨fun q => q c_2, trivial⟩ (Nat.le_refl _) ?_
    obtain rfl := Option.some.inj h
    exact XR.retI .boolean rfl (xnar_z (by decide)) (by decide +kernel)
  · skip
    refine s_Y_isMissing [(7, .if_icmp .ne 7, 0, 14), (14, .iconst 0, 0, 0)] (by decide +kernel) (z' := (15, [(0, (vR 8 l0)), (1, (vI l1))], [(vI 0)], R, M, 174)) (cs := [M (R l0 1) (Int.toNat l1) ≠ -1]) (by rfl) ⟨c_2, trivial⟩ (Nat.le_refl _) ?_
    obtain rfl := Option.some.inj h
    exact XR.retI .boolean rfl (xnar_z (by decide)) (by decide +kernel)
set_option maxRecDepth 100000 in
set_option maxHeartbeats 4000000 in
theorem c_Y_isMissing {sc : List Int} {R : xR} {M : xM} {l0 : Nat} {l1 : Int} {out : Int} (h : f_Y_isMissing R l0 l1 M = some out) : XC false 0 sc y_Y_isMissing [(vR 8 l0), (vI l1)] R M 174 174 ((some (vI out)), R, M) := XC.of (by decide) (Nat.le_of_ble_eq_true rfl) (Nat.le_refl _) (Nat.le_refl _) (o_Y_isMissing h)
def f_Y_lay (R : xR) (l0 : Nat) (l1 : Int) (l2 : Int) (l3 : Int) (M : xM) : Option xM :=
  xch (0 ≤ l1 ∧ l1 < 4) <|
  xl (xu M (R l0 1) (Int.toNat l1) l2) fun M_2 =>
  xl (xu M_2 (R l0 2) (Int.toNat l1) l3) fun M_3 =>
  xb1 (f_J_fill_aJIIJV 40 (R l0 0) (w32 (l1 * 60)) (w32 ((w32 (l1 + 1)) * 60)) 0 M_3) fun M_4 =>
  some (M_4)
set_option maxRecDepth 100000 in
set_option maxHeartbeats 4000000 in
theorem s_Y_lay {d : Nat} {sc : List Int} {z z' : xS} {out : xO} (qs : List xI) {cs : List Prop} (hq : qs.all (xqb 8 false y_Y_lay.2.2.1 y_Y_lay.2.1) = true) (h : xN false sc qs z = some (z', cs)) (hc : xAll cs) (hE : z'.2.2.2.2.2 ≤ 174) (k : XR false d 174 sc y_Y_lay z' out) : XR false d 174 sc y_Y_lay z out := XR.seg 8 false rfl (fun q => by cases q) qs hq h hc hE k
set_option maxRecDepth 100000 in
set_option maxHeartbeats 4000000 in
theorem o_Y_lay {sc : List Int} {R : xR} {M : xM} {l0 : Nat} {l1 : Int} {l2 : Int} {l3 : Int} {out : xM} (h : f_Y_lay R l0 l1 l2 l3 M = some out) : XR false 2 174 sc y_Y_lay (0, [(0, (vR 8 l0)), (1, (vI l1)), (2, (vI l2)), (3, (vI l3))], [], R, M, 174) (none, R, out) := by
  unfold f_Y_lay at h
  obtain ⟨c_1, h⟩ := xch_ex h
  obtain ⟨M_2, hM_2, h⟩ := xl_ex h
  obtain ⟨M_3, hM_3, h⟩ := xl_ex h
  refine s_Y_lay [(0, .aload_n 0, 0, 0), (1, .getfield 15, 8, 1), (4, .iload_n 1, 0, 0), (5, .iload_n 2, 0, 0), (6, .iastore, 0, 0), (7, .aload_n 0, 0, 0), (8, .getfield 19, 8, 2), (11, .iload_n 1, 0, 0), (12, .iload_n 3, 0, 0), (13, .iastore, 0, 0), (14, .aload_n 0, 0, 0), (15, .getfield 9, 8, 0), (18, .iload_n 1, 0, 0), (19, .bipush 60, 0, 60), (21, .imul, 0, 0), (22, .iload_n 1, 0, 0), (23, .iconst 1, 0, 1), (24, .iadd, 0, 0), (25, .bipush 60, 0, 60), (27, .imul, 0, 0), (28, .lconst 0, 0, 0)] (by decide +kernel) (z' := (29, [(0, (vR 8 l0)), (1, (vI l1)), (2, (vI l2)), (3, (vI l3))], [(vL 0), (vI (w32 ((w32 (l1 + 1)) * 60))), (vI (w32 (l1 * 60))), (vR 40 (R l0 0))], R, M_3, 174)) (cs := [xar 34 0, xidx l1 (xan 34), xar 34 0, xidx l1 (xan 34)]) (by subst hM_2; subst hM_3; rfl) ⟨xar_34, xix_34 c_1, xar_34, xix_34 c_1, trivial⟩ (Nat.le_refl _) ?_
  obtain ⟨M_4, e_5, h⟩ := xb1_ex h
  refine XR.callS 8 rfl (rest := []) m_J_fill_aJIIJV k_8_22 [(vR 40 (R l0 0)), (vI (w32 (l1 * 60))), (vI (w32 ((w32 (l1 + 1)) * 60))), (vL 0)] rfl rfl (c_J_fill_aJIIJV (xar_40) e_5) (by decide) (Nat.le_of_ble_eq_true rfl) (by decide +kernel) (Nat.le_refl _) (Nat.le_refl _) ?_
  show XR false 2 174 sc y_Y_lay (32, [(0, (vR 8 l0)), (1, (vI l1)), (2, (vI l2)), (3, (vI l3))], [], R, M_4, 174) _
  obtain rfl := Option.some.inj h
  exact XR.retV rfl (by decide +kernel)
set_option maxRecDepth 100000 in
set_option maxHeartbeats 4000000 in
theorem c_Y_lay {sc : List Int} {R : xR} {M : xM} {l0 : Nat} {l1 : Int} {l2 : Int} {l3 : Int} {out : xM} (h : f_Y_lay R l0 l1 l2 l3 M = some out) : XC false 2 sc y_Y_lay [(vR 8 l0), (vI l1), (vI l2), (vI l3)] R M 174 174 (none, R, out) := XC.of (by decide) (Nat.le_of_ble_eq_true rfl) (Nat.le_refl _) (Nat.le_refl _) (o_Y_lay h)
def f_Y_move (R : xR) (l0 : Nat) (l1 : Int) (l2 : Int) (l3 : Int) (l4 : Int) (l5 : Int) (M : xM) : Option xM :=
  xch ((0 : Int) ≤ w32 ((w32 (l1 * 60)) + l2) ∧ (0 : Int) ≤ w32 ((w32 (l3 * 60)) + l4) ∧ (0 : Int) ≤ l5 ∧ ((w32 ((w32 (l1 * 60)) + l2)) : Int) + l5 ≤ 240 ∧ ((w32 ((w32 (l3 * 60)) + l4)) : Int) + l5 ≤ 240) <|
  xl (xcpy M (R l0 0) (R l0 0) (Int.toNat (w32 ((w32 (l1 * 60)) + l2))) (Int.toNat (w32 ((w32 (l3 * 60)) + l4))) (Int.toNat l5)) fun M_2 =>
  some (M_2)
set_option maxRecDepth 100000 in
set_option maxHeartbeats 4000000 in
theorem s_Y_move {d : Nat} {sc : List Int} {z z' : xS} {out : xO} (qs : List xI) {cs : List Prop} (hq : qs.all (xqb 8 false y_Y_move.2.2.1 y_Y_move.2.1) = true) (h : xN false sc qs z = some (z', cs)) (hc : xAll cs) (hE : z'.2.2.2.2.2 ≤ 174) (k : XR false d 174 sc y_Y_move z' out) : XR false d 174 sc y_Y_move z out := XR.seg 8 false rfl (fun q => by cases q) qs hq h hc hE k
set_option maxRecDepth 100000 in
set_option maxHeartbeats 4000000 in
theorem o_Y_move {sc : List Int} {R : xR} {M : xM} {l0 : Nat} {l1 : Int} {l2 : Int} {l3 : Int} {l4 : Int} {l5 : Int} {out : xM} (h : f_Y_move R l0 l1 l2 l3 l4 l5 M = some out) : XR false 1 174 sc y_Y_move (0, [(0, (vR 8 l0)), (1, (vI l1)), (2, (vI l2)), (3, (vI l3)), (4, (vI l4)), (5, (vI l5))], [], R, M, 174) (none, R, out) := by
  unfold f_Y_move at h
  obtain ⟨c_1, h⟩ := xch_ex h
  refine s_Y_move [(0, .aload_n 0, 0, 0), (1, .getfield 9, 8, 0), (4, .iload_n 1, 0, 0), (5, .bipush 60, 0, 60), (7, .imul, 0, 0), (8, .iload_n 2, 0, 0), (9, .iadd, 0, 0), (10, .aload_n 0, 0, 0), (11, .getfield 9, 8, 0), (14, .iload_n 3, 0, 0), (15, .bipush 60, 0, 60), (17, .imul, 0, 0), (18, .iload 4, 0, 0), (20, .iadd, 0, 0), (21, .iload 5, 0, 0)] (by decide +kernel) (z' := (23, [(0, (vR 8 l0)), (1, (vI l1)), (2, (vI l2)), (3, (vI l3)), (4, (vI l4)), (5, (vI l5))], [(vI l5), (vI (w32 ((w32 (l3 * 60)) + l4))), (vR 40 (R l0 0)), (vI (w32 ((w32 (l1 * 60)) + l2))), (vR 40 (R l0 0))], R, M, 174)) (cs := []) (by rfl) trivial (Nat.le_refl _) ?_
  obtain ⟨M_2, hM_2, h⟩ := xl_ex h
  refine XR.copyL 8 rfl k_8_32 k_acN k_acS k_acI xar_40 xar_40 c_1.1 c_1.2.1 c_1.2.2.1 c_1.2.2.2.1 c_1.2.2.2.2 rfl (by decide) (Nat.le_of_ble_eq_true rfl) (by decide +kernel) ?_
  rw [← hM_2]
  obtain rfl := Option.some.inj h
  exact XR.retV rfl (by decide +kernel)
set_option maxRecDepth 100000 in
set_option maxHeartbeats 4000000 in
theorem c_Y_move {sc : List Int} {R : xR} {M : xM} {l0 : Nat} {l1 : Int} {l2 : Int} {l3 : Int} {l4 : Int} {l5 : Int} {out : xM} (h : f_Y_move R l0 l1 l2 l3 l4 l5 M = some out) : XC false 1 sc y_Y_move [(vR 8 l0), (vI l1), (vI l2), (vI l3), (vI l4), (vI l5)] R M 174 174 (none, R, out) := XC.of (by decide) (Nat.le_of_ble_eq_true rfl) (Nat.le_refl _) (Nat.le_refl _) (o_Y_move h)
def f_Y_put (R : xR) (l0 : Nat) (l1 : Int) (l2 : Int) (l3 : Int) (M : xM) : Option xM :=
  xch (0 ≤ l1 ∧ l1 < 4) <|
  xb1 (f_Y_cut (M (R l0 1) (Int.toNat l1)) l3) fun r_2 =>
  xch (0 ≤ w32 ((w32 (l1 * 60)) + l2) ∧ w32 ((w32 (l1 * 60)) + l2) < 240) <|
  xl (xu M (R l0 0) (Int.toNat (w32 ((w32 (l1 * 60)) + l2))) r_2) fun M_5 =>
  some (M_5)
set_option maxRecDepth 100000 in
set_option maxHeartbeats 4000000 in
theorem s_Y_put {d : Nat} {sc : List Int} {z z' : xS} {out : xO} (qs : List xI) {cs : List Prop} (hq : qs.all (xqb 8 false y_Y_put.2.2.1 y_Y_put.2.1) = true) (h : xN false sc qs z = some (z', cs)) (hc : xAll cs) (hE : z'.2.2.2.2.2 ≤ 174) (k : XR false d 174 sc y_Y_put z' out) : XR false d 174 sc y_Y_put z out := XR.seg 8 false rfl (fun q => by cases q) qs hq h hc hE k
set_option maxRecDepth 100000 in
set_option maxHeartbeats 4000000 in
theorem o_Y_put {sc : List Int} {R : xR} {M : xM} {l0 : Nat} {l1 : Int} {l2 : Int} {l3 : Int} {out : xM} (h : f_Y_put R l0 l1 l2 l3 M = some out) : XR false 1 174 sc y_Y_put (0, [(0, (vR 8 l0)), (1, (vI l1)), (2, (vI l2)), (3, (vL l3))], [], R, M, 174) (none, R, out) := by
  unfold f_Y_put at h
  obtain ⟨c_1, h⟩ := xch_ex h
  refine s_Y_put [(0, .aload_n 0, 0, 0), (1, .getfield 9, 8, 0), (4, .iload_n 1, 0, 0), (5, .bipush 60, 0, 60), (7, .imul, 0, 0), (8, .iload_n 2, 0, 0), (9, .iadd, 0, 0), (10, .aload_n 0, 0, 0), (11, .getfield 15, 8, 1), (14, .iload_n 1, 0, 0), (15, .iaload, 0, 0), (16, .lload_n 3, 0, 0)] (by decide +kernel) (z' := (17, [(0, (vR 8 l0)), (1, (vI l1)), (2, (vI l2)), (3, (vL l3))], [(vL l3), (vI (M (R l0 1) (Int.toNat l1))), (vI (w32 ((w32 (l1 * 60)) + l2))), (vR 40 (R l0 0))], R, M, 174)) (cs := [xar 34 0, xidx l1 (xan 34)]) (by rfl) ⟨xar_34, xix_34 c_1, trivial⟩ (Nat.le_refl _) ?_
  obtain ⟨r_2, e_3, h⟩ := xb1_ex h
  refine XR.callS 8 rfl (rest := [(vI (w32 ((w32 (l1 * 60)) + l2))), (vR 40 (R l0 0))]) m_Y_cut k_8_28 [(vI (M (R l0 1) (Int.toNat l1))), (vL l3)] rfl rfl (c_Y_cut e_3) (by decide) (Nat.le_of_ble_eq_true rfl) (by decide +kernel) (Nat.le_refl _) (Nat.le_refl _) ?_
  show XR false 1 174 sc y_Y_put (20, [(0, (vR 8 l0)), (1, (vI l1)), (2, (vI l2)), (3, (vL l3))], [(vL r_2), (vI (w32 ((w32 (l1 * 60)) + l2))), (vR 40 (R l0 0))], R, M, 174) _
  obtain ⟨c_4, h⟩ := xch_ex h
  obtain ⟨M_5, hM_5, h⟩ := xl_ex h
  refine s_Y_put [(20, .lastore, 0, 0)] (by decide +kernel) (z' := (21, [(0, (vR 8 l0)), (1, (vI l1)), (2, (vI l2)), (3, (vL l3))], [], R, M_5, 174)) (cs := [xar 40 1, xidx (w32 ((w32 (l1 * 60)) + l2)) (xan 40)]) (by subst hM_5; rfl) ⟨xar_40, xix_40 c_4, trivial⟩ (Nat.le_refl _) ?_
  obtain rfl := Option.some.inj h
  exact XR.retV rfl (by decide +kernel)
set_option maxRecDepth 100000 in
set_option maxHeartbeats 4000000 in
theorem c_Y_put {sc : List Int} {R : xR} {M : xM} {l0 : Nat} {l1 : Int} {l2 : Int} {l3 : Int} {out : xM} (h : f_Y_put R l0 l1 l2 l3 M = some out) : XC false 1 sc y_Y_put [(vR 8 l0), (vI l1), (vI l2), (vL l3)] R M 174 174 (none, R, out) := XC.of (by decide) (Nat.le_of_ble_eq_true rfl) (Nat.le_refl _) (Nat.le_refl _) (o_Y_put h)
