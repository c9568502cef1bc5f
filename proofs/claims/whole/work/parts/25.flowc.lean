def H_takeHours_F3 (R : xR) (l0 : Nat) (l1 : Nat) (l2 : Int) (l3 : Int) (q30 : xM → Option xM) : Nat → Int → xM → Option xM
  | 0, _, _ => none
  | n + 1, v4, M =>
    if v4 < l3 then
      xb1 (f_Y_get R l1 l2 v4 M) fun r_2 =>
      xch (0 ≤ v4 ∧ v4 < 6) <|
      xl (xu M (R l0 9) (Int.toNat v4) (w32 r_2)) fun M_5 =>
      xl (w32 (v4 + 1)) fun v4_6 =>
      H_takeHours_F3 R l0 l1 l2 l3 q30 n v4_6 M_5
    else
      q30 M
def f_H_takeHours (R : xR) (l0 : Nat) (l1 : Nat) (l2 : Int) (l3 : Int) (M : xM) : Option xM :=
  H_takeHours_F3 R l0 l1 l2 l3
    (fun (M_7 : xM) =>
      xl (xu M_7 l0 10 l3) fun M_8 =>
      some (M_8))
    xfu 0 M
set_option maxRecDepth 100000 in
set_option maxHeartbeats 4000000 in
theorem s_H_takeHours {d : Nat} {sc : List Int} {z z' : xS} {out : xO} (qs : List xI) {cs : List Prop} (hq : qs.all (xqb 2 false y_H_takeHours.2.2.1 y_H_takeHours.2.1) = true) (h : xN false sc qs z = some (z', cs)) (hc : xAll cs) (hE : z'.2.2.2.2.2 ≤ 174) (k : XR false d 174 sc y_H_takeHours z' out) : XR false d 174 sc y_H_takeHours z out := XR.seg 2 false rfl (fun q => by cases q) qs hq h hc hE k
set_option maxRecDepth 100000 in
set_option maxHeartbeats 4000000 in
theorem o_H_takeHours_F3 {sc : List Int} {R : xR}   {l0 : Nat} {l1 : Nat} {l2 : Int} {l3 : Int}  {q30 : xM → Option xM} (hq30 : ∀ (M : xM) (out : xM), q30 M = some out → XR false 1 174 sc y_H_takeHours (30, [(0, (vR 2 l0)), (3, (vI l3))], [], R, M, 174) (none, R, out)) : ∀ (n : Nat) (v4 : Int) (M : xM) (out : xM), H_takeHours_F3 R l0 l1 l2 l3 q30 n v4 M = some out → XR false 1 174 sc y_H_takeHours (3, [(0, (vR 2 l0)), (1, (vR 8 l1)), (2, (vI l2)), (3, (vI l3)), (4, (vI v4))], [], R, M, 174) (none, R, out) := by
  intro n
  induction n with
  | zero => intro v4 M out h; exact (xno h).elim
  | succ n ih =>
    intro v4 M out h
    rw [H_takeHours_F3] at h
    refine s_H_takeHours [(3, .iload 4, 0, 0), (5, .iload_n 3, 0, 0)] (by decide +kernel) (z' := (6, [(0, (vR 2 l0)), (1, (vR 8 l1)), (2, (vI l2)), (3, (vI l3)), (4, (vI v4))], [(vI l3), (vI v4)], R, M, 174)) (cs := []) (by rfl) trivial (Nat.le_refl _) ?_
    rcases xif_ex h with ⟨c_1, h⟩ | ⟨c_1, h⟩
    · skip
      refine s_H_takeHours [(6, .if_icmp .ge 24, 0, (-1)), (9, .aload_n 0, 0, 0), (10, .getfield 44, 2, 9), (13, .iload 4, 0, 0), (15, .aload_n 1, 0, 0), (16, .iload_n 2, 0, 0), (17, .iload 4, 0, 0)] (by decide +kernel) (z' := (19, [(0, (vR 2 l0)), (1, (vR 8 l1)), (2, (vI l2)), (3, (vI l3)), (4, (vI v4))], [(vI v4), (vI l2), (vR 8 l1), (vI v4), (vR 29 (R l0 9))], R, M, 174)) (cs := [¬ (l3 ≤ v4)]) (by rfl) ⟨Int.not_le.mpr c_1, trivial⟩ (Nat.le_refl _) ?_
      obtain ⟨r_2, e_3, h⟩ := xb1_ex h
      refine XR.callV 2 rfl (rest := [(vI v4), (vR 29 (R l0 9))]) m_Y_get k_2_54 8 l1 (Or.inl ⟨by decide, rfl⟩) [(vI l2), (vI v4)] rfl rfl (c_Y_get e_3) (by decide) (Nat.le_of_ble_eq_true rfl) (by decide +kernel) (Nat.le_refl _) (Nat.le_refl _) ?_
      show XR false 1 174 sc y_H_takeHours (22, [(0, (vR 2 l0)), (1, (vR 8 l1)), (2, (vI l2)), (3, (vI l3)), (4, (vI v4))], [(vL r_2), (vI v4), (vR 29 (R l0 9))], R, M, 174) _
      obtain ⟨c_4, h⟩ := xch_ex h
      obtain ⟨M_5, hM_5, h⟩ := xl_ex h
      obtain ⟨v4_6, hv4_6, h⟩ := xl_ex h
      refine s_H_takeHours [(22, .l2i, 0, 0), (23, .iastore, 0, 0), (24, .iinc 4 1, 0, 0), (27, .goto (-24), 0, 3)] (by decide +kernel) (z' := (3, [(4, (vI v4_6)), (0, (vR 2 l0)), (1, (vR 8 l1)), (2, (vI l2)), (3, (vI l3))], [], R, M_5, 174)) (cs := [xar 29 0, xidx v4 (xan 29)]) (by subst hM_5; subst hv4_6; rfl) ⟨xar_29, xix_29 c_4, trivial⟩ (Nat.le_refl _) ?_
      refine XR.pick [1, 2, 3, 4, 0] (ls' := [(0, (vR 2 l0)), (1, (vR 8 l1)), (2, (vI l2)), (3, (vI l3)), (4, (vI v4_6))]) rfl ?_
      exact ih v4_6 M_5 _ h
    · skip
      refine s_H_takeHours [(6, .if_icmp .ge 24, 0, 30)] (by decide +kernel) (z' := (30, [(0, (vR 2 l0)), (1, (vR 8 l1)), (2, (vI l2)), (3, (vI l3)), (4, (vI v4))], [], R, M, 174)) (cs := [l3 ≤ v4]) (by rfl) ⟨Int.not_lt.mp c_1, trivial⟩ (Nat.le_refl _) ?_
      refine XR.pick [0, 3] (ls' := [(0, (vR 2 l0)), (3, (vI l3))]) rfl ?_
      exact hq30 M _ h
set_option maxRecDepth 100000 in
set_option maxHeartbeats 4000000 in
theorem o_H_takeHours {sc : List Int} {R : xR} {M : xM} {l0 : Nat} {l1 : Nat} {l2 : Int} {l3 : Int} {out : xM} (h : f_H_takeHours R l0 l1 l2 l3 M = some out) : XR false 1 174 sc y_H_takeHours (0, [(0, (vR 2 l0)), (1, (vR 8 l1)), (2, (vI l2)), (3, (vI l3))], [], R, M, 174) (none, R, out) := by
  unfold f_H_takeHours at h
  refine s_H_takeHours [(0, .iconst 0, 0, 0), (1, .istore 4, 0, 0)] (by decide +kernel) (z' := (3, [(4, (vI 0)), (0, (vR 2 l0)), (1, (vR 8 l1)), (2, (vI l2)), (3, (vI l3))], [], R, M, 174)) (cs := []) (by rfl) trivial (Nat.le_refl _) ?_
  refine XR.pick [1, 2, 3, 4, 0] (ls' := [(0, (vR 2 l0)), (1, (vR 8 l1)), (2, (vI l2)), (3, (vI l3)), (4, (vI 0))]) rfl ?_
  refine o_H_takeHours_F3 ?_ xfu 0 M _ h
  · intro M_7 out h
    obtain ⟨M_8, hM_8, h⟩ := xl_ex h
    refine s_H_takeHours [(30, .aload_n 0, 0, 0), (31, .iload_n 3, 0, 0), (32, .putfield 48, 2, 10)] (by decide +kernel) (z' := (35, [(0, (vR 2 l0)), (3, (vI l3))], [], R, M_8, 174)) (cs := []) (by subst hM_8; rfl) trivial (Nat.le_refl _) ?_
    obtain rfl := Option.some.inj h
    exact XR.retV rfl (by decide +kernel)
set_option maxRecDepth 100000 in
set_option maxHeartbeats 4000000 in
theorem c_H_takeHours {sc : List Int} {R : xR} {M : xM} {l0 : Nat} {l1 : Nat} {l2 : Int} {l3 : Int} {out : xM} (h : f_H_takeHours R l0 l1 l2 l3 M = some out) : XC false 1 sc y_H_takeHours [(vR 2 l0), (vR 8 l1), (vI l2), (vI l3)] R M 174 174 (none, R, out) := XC.of (by decide) (Nat.le_of_ble_eq_true rfl) (Nat.le_refl _) (Nat.le_refl _) (o_H_takeHours h)
def H_takeUps_F3 (R : xR) (l0 : Nat) (l1 : Nat) (l2 : Int) (l3 : Int) (l4 : Int) (l5 : Int) (q30 : xM → Option xM) : Nat → Int → xM → Option xM
  | 0, _, _ => none
  | n + 1, v6, M =>
    if v6 < l4 then
      xb1 (f_Y_get R l1 l2 v6 M) fun r_2 =>
      xch (0 ≤ v6 ∧ v6 < 24) <|
      xl (xu M (R l0 1) (Int.toNat v6) r_2) fun M_5 =>
      xl (w32 (v6 + 1)) fun v6_6 =>
      H_takeUps_F3 R l0 l1 l2 l3 l4 l5 q30 n v6_6 M_5
    else
      q30 M
def f_H_takeUps (R : xR) (l0 : Nat) (l1 : Nat) (l2 : Int) (l3 : Int) (l4 : Int) (l5 : Int) (M : xM) : Option xM :=
  H_takeUps_F3 R l0 l1 l2 l3 l4 l5
    (fun (M_7 : xM) =>
      xl (xu M_7 l0 2 l3) fun M_8 =>
      xl (xu M_8 l0 3 (w32 ((w32 (l3 + l4)) - 1))) fun M_9 =>
      xl (xu M_9 l0 4 l5) fun M_10 =>
      some (M_10))
    xfu 0 M
set_option maxRecDepth 100000 in
set_option maxHeartbeats 4000000 in
theorem s_H_takeUps {d : Nat} {sc : List Int} {z z' : xS} {out : xO} (qs : List xI) {cs : List Prop} (hq : qs.all (xqb 2 false y_H_takeUps.2.2.1 y_H_takeUps.2.1) = true) (h : xN false sc qs z = some (z', cs)) (hc : xAll cs) (hE : z'.2.2.2.2.2 ≤ 174) (k : XR false d 174 sc y_H_takeUps z' out) : XR false d 174 sc y_H_takeUps z out := XR.seg 2 false rfl (fun q => by cases q) qs hq h hc hE k
set_option maxRecDepth 100000 in
set_option maxHeartbeats 4000000 in
theorem o_H_takeUps_F3 {sc : List Int} {R : xR}   {l0 : Nat} {l1 : Nat} {l2 : Int} {l3 : Int} {l4 : Int} {l5 : Int}  {q30 : xM → Option xM} (hq30 : ∀ (M : xM) (out : xM), q30 M = some out → XR false 1 174 sc y_H_takeUps (30, [(0, (vR 2 l0)), (3, (vI l3)), (4, (vI l4)), (5, (vI l5))], [], R, M, 174) (none, R, out)) : ∀ (n : Nat) (v6 : Int) (M : xM) (out : xM), H_takeUps_F3 R l0 l1 l2 l3 l4 l5 q30 n v6 M = some out → XR false 1 174 sc y_H_takeUps (3, [(0, (vR 2 l0)), (1, (vR 8 l1)), (2, (vI l2)), (3, (vI l3)), (4, (vI l4)), (5, (vI l5)), (6, (vI v6))], [], R, M, 174) (none, R, out) := by
  intro n
  induction n with
  | zero => intro v6 M out h; exact (xno h).elim
  | succ n ih =>
    intro v6 M out h
    rw [H_takeUps_F3] at h
    refine s_H_takeUps [(3, .iload 6, 0, 0), (5, .iload 4, 0, 0)] (by decide +kernel) (z' := (7, [(0, (vR 2 l0)), (1, (vR 8 l1)), (2, (vI l2)), (3, (vI l3)), (4, (vI l4)), (5, (vI l5)), (6, (vI v6))], [(vI l4), (vI v6)], R, M, 174)) (cs := []) (by rfl) trivial (Nat.le_refl _) ?_
    rcases xif_ex h with ⟨c_1, h⟩ | ⟨c_1, h⟩
    · skip
      refine s_H_takeUps [(7, .if_icmp .ge 23, 0, (-1)), (10, .aload_n 0, 0, 0), (11, .getfield 18, 2, 1), (14, .iload 6, 0, 0), (16, .aload_n 1, 0, 0), (17, .iload_n 2, 0, 0), (18, .iload 6, 0, 0)] (by decide +kernel) (z' := (20, [(0, (vR 2 l0)), (1, (vR 8 l1)), (2, (vI l2)), (3, (vI l3)), (4, (vI l4)), (5, (vI l5)), (6, (vI v6))], [(vI v6), (vI l2), (vR 8 l1), (vI v6), (vR 28 (R l0 1))], R, M, 174)) (cs := [¬ (l4 ≤ v6)]) (by rfl) ⟨Int.not_le.mpr c_1, trivial⟩ (Nat.le_refl _) ?_
      obtain ⟨r_2, e_3, h⟩ := xb1_ex h
      refine XR.callV 2 rfl (rest := [(vI v6), (vR 28 (R l0 1))]) m_Y_get k_2_54 8 l1 (Or.inl ⟨by decide, rfl⟩) [(vI l2), (vI v6)] rfl rfl (c_Y_get e_3) (by decide) (Nat.le_of_ble_eq_true rfl) (by decide +kernel) (Nat.le_refl _) (Nat.le_refl _) ?_
      show XR false 1 174 sc y_H_takeUps (23, [(0, (vR 2 l0)), (1, (vR 8 l1)), (2, (vI l2)), (3, (vI l3)), (4, (vI l4)), (5, (vI l5)), (6, (vI v6))], [(vL r_2), (vI v6), (vR 28 (R l0 1))], R, M, 174) _
      obtain ⟨c_4, h⟩ := xch_ex h
      obtain ⟨M_5, hM_5, h⟩ := xl_ex h
      obtain ⟨v6_6, hv6_6, h⟩ := xl_ex h
      refine s_H_takeUps [(23, .lastore, 0, 0), (24, .iinc 6 1, 0, 0), (27, .goto (-24), 0, 3)] (by decide +kernel) (z' := (3, [(6, (vI v6_6)), (0, (vR 2 l0)), (1, (vR 8 l1)), (2, (vI l2)), (3, (vI l3)), (4, (vI l4)), (5, (vI l5))], [], R, M_5, 174)) (cs := [xar 28 1, xidx v6 (xan 28)]) (by subst hM_5; subst hv6_6; rfl) ⟨xar_28, xix_28 c_4, trivial⟩ (Nat.le_refl _) ?_
      refine XR.pick [1, 2, 3, 4, 5, 6, 0] (ls' := [(0, (vR 2 l0)), (1, (vR 8 l1)), (2, (vI l2)), (3, (vI l3)), (4, (vI l4)), (5, (vI l5)), (6, (vI v6_6))]) rfl ?_
      exact ih v6_6 M_5 _ h
    · skip
      refine s_H_takeUps [(7, .if_icmp .ge 23, 0, 30)] (by decide +kernel) (z' := (30, [(0, (vR 2 l0)), (1, (vR 8 l1)), (2, (vI l2)), (3, (vI l3)), (4, (vI l4)), (5, (vI l5)), (6, (vI v6))], [], R, M, 174)) (cs := [l4 ≤ v6]) (by rfl) ⟨Int.not_lt.mp c_1, trivial⟩ (Nat.le_refl _) ?_
      refine XR.pick [0, 3, 4, 5] (ls' := [(0, (vR 2 l0)), (3, (vI l3)), (4, (vI l4)), (5, (vI l5))]) rfl ?_
      exact hq30 M _ h
set_option maxRecDepth 100000 in
set_option maxHeartbeats 4000000 in
theorem o_H_takeUps {sc : List Int} {R : xR} {M : xM} {l0 : Nat} {l1 : Nat} {l2 : Int} {l3 : Int} {l4 : Int} {l5 : Int} {out : xM} (h : f_H_takeUps R l0 l1 l2 l3 l4 l5 M = some out) : XR false 1 174 sc y_H_takeUps (0, [(0, (vR 2 l0)), (1, (vR 8 l1)), (2, (vI l2)), (3, (vI l3)), (4, (vI l4)), (5, (vI l5))], [], R, M, 174) (none, R, out) := by
  unfold f_H_takeUps at h
  refine s_H_takeUps [(0, .iconst 0, 0, 0), (1, .istore 6, 0, 0)] (by decide +kernel) (z' := (3, [(6, (vI 0)), (0, (vR 2 l0)), (1, (vR 8 l1)), (2, (vI l2)), (3, (vI l3)), (4, (vI l4)), (5, (vI l5))], [], R, M, 174)) (cs := []) (by rfl) trivial (Nat.le_refl _) ?_
  refine XR.pick [1, 2, 3, 4, 5, 6, 0] (ls' := [(0, (vR 2 l0)), (1, (vR 8 l1)), (2, (vI l2)), (3, (vI l3)), (4, (vI l4)), (5, (vI l5)), (6, (vI 0))]) rfl ?_
  refine o_H_takeUps_F3 ?_ xfu 0 M _ h
  · intro M_7 out h
    obtain ⟨M_8, hM_8, h⟩ := xl_ex h
    obtain ⟨M_9, hM_9, h⟩ := xl_ex h
    obtain ⟨M_10, hM_10, h⟩ := xl_ex h
    refine s_H_takeUps [(30, .aload_n 0, 0, 0), (31, .iload_n 3, 0, 0), (32, .putfield 22, 2, 2), (35, .aload_n 0, 0, 0), (36, .iload_n 3, 0, 0), (37, .iload 4, 0, 0), (39, .iadd, 0, 0), (40, .iconst 1, 0, 1), (41, .isub, 0, 0), (42, .putfield 26, 2, 3), (45, .aload_n 0, 0, 0), (46, .iload 5, 0, 0), (48, .putfield 29, 2, 4)] (by decide +kernel) (z' := (51, [(0, (vR 2 l0)), (3, (vI l3)), (4, (vI l4)), (5, (vI l5))], [], R, M_10, 174)) (cs := []) (by subst hM_8; subst hM_9; subst hM_10; rfl) trivial (Nat.le_refl _) ?_
    obtain rfl := Option.some.inj h
    exact XR.retV rfl (by decide +kernel)
set_option maxRecDepth 100000 in
set_option maxHeartbeats 4000000 in
theorem c_H_takeUps {sc : List Int} {R : xR} {M : xM} {l0 : Nat} {l1 : Nat} {l2 : Int} {l3 : Int} {l4 : Int} {l5 : Int} {out : xM} (h : f_H_takeUps R l0 l1 l2 l3 l4 l5 M = some out) : XC false 1 sc y_H_takeUps [(vR 2 l0), (vR 8 l1), (vI l2), (vI l3), (vI l4), (vI l5)] R M 174 174 (none, R, out) := XC.of (by decide) (Nat.le_of_ble_eq_true rfl) (Nat.le_refl _) (Nat.le_refl _) (o_H_takeUps h)
def P_spellRow_F17 (R : xR) (l0 : Nat) (l3 : Int) : Nat → Int → Int → Int → xM → Option (Int × xM)
  | 0, _, _, _, _ => none
  | n + 1, v4, v5, v6, M =>
    if v6 < 0 then
      some (1, M)
    else
      xch (l3 ≠ 0) <|
      xl (Int.tmod v4 l3) fun v7_5 =>
      xl (w32 (Int.tdiv v4 l3)) fun v4_6 =>
      if xand (xshr v5 v7_5) 1 = 0 then
        xl (xior v5 (xshl 1 v7_5)) fun v5_8 =>
        xch (0 ≤ v6 ∧ v6 < 4) <|
        xl (xu M (R l0 3) (Int.toNat v6) v7_5) fun M_10 =>
        xl (w32 (v6 + (-1))) fun v6_11 =>
        P_spellRow_F17 R l0 l3  n v4_6 v5_8 v6_11 M_10
      else
        some (0, M)
def f_P_spellRow (R : xR) (l0 : Nat) (l1 : Int) (l2 : Int) (l3 : Int) (M : xM) : Option (Int × xM) :=
  if 0 < l3 then
    xl (w32 (l2 - 1)) fun v6_2 =>
    P_spellRow_F17 R l0 l3
      xfu l1 0 v6_2 M
  else
    some (0, M)
set_option maxRecDepth 100000 in
set_option maxHeartbeats 4000000 in
theorem s_P_spellRow {d : Nat} {sc : List Int} {z z' : xS} {out : xO} (qs : List xI) {cs : List Prop} (hq : qs.all (xqb 4 false y_P_spellRow.2.2.1 y_P_spellRow.2.1) = true) (h : xN false sc qs z = some (z', cs)) (hc : xAll cs) (hE : z'.2.2.2.2.2 ≤ 174) (k : XR false d 174 sc y_P_spellRow z' out) : XR false d 174 sc y_P_spellRow z out := XR.seg 4 false rfl (fun q => by cases q) qs hq h hc hE k
set_option maxRecDepth 100000 in
set_option maxHeartbeats 4000000 in
theorem o_P_spellRow_F17 {sc : List Int} {R : xR}   {l0 : Nat} {l3 : Int}  : ∀ (n : Nat) (v4 : Int) (v5 : Int) (v6 : Int) (M : xM) (out : Int × xM), P_spellRow_F17 R l0 l3  n v4 v5 v6 M = some out → XR false 0 174 sc y_P_spellRow (17, [(0, (vR 4 l0)), (3, (vI l3)), (4, (vI v4)), (5, (vI v5)), (6, (vI v6))], [], R, M, 174) ((some (vI out.1)), R, out.2) := by
  intro n
  induction n with
  | zero => intro v4 v5 v6 M out h; exact (xno h).elim
  | succ n ih =>
    intro v4 v5 v6 M out h
    rw [P_spellRow_F17] at h
    refine s_P_spellRow [(17, .iload 6, 0, 0)] (by decide +kernel) (z' := (19, [(0, (vR 4 l0)), (3, (vI l3)), (4, (vI v4)), (5, (vI v5)), (6, (vI v6))], [(vI v6)], R, M, 174)) (cs := []) (by rfl) trivial (Nat.le_refl _) ?_
    rcases xif_ex h with ⟨c_3, h⟩ | ⟨c_3, h⟩
    · skip
      refine s_P_spellRow [(19, .ifCond .lt 51, 0, 70), (70, .iconst 1, 0, 1)] (by decide +kernel) (z' := (71, [(0, (vR 4 l0)), (3, (vI l3)), (4, (vI v4)), (5, (vI v5)), (6, (vI v6))], [(vI 1)], R, M, 174)) (cs := [v6 < 0]) (by rfl) ⟨c_3, trivial⟩ (Nat.le_refl _) ?_
      obtain rfl := Option.some.inj h
      exact XR.retI .boolean rfl (xnar_z (by decide)) (by decide +kernel)
    · skip
      obtain ⟨c_4, h⟩ := xch_ex h
      obtain ⟨v7_5, hv7_5, h⟩ := xl_ex h
      obtain ⟨v4_6, hv4_6, h⟩ := xl_ex h
      refine s_P_spellRow [(19, .ifCond .lt 51, 0, (-1)), (22, .iload 4, 0, 0), (24, .iload_n 3, 0, 0), (25, .irem, 0, 0), (26, .istore 7, 0, 0), (28, .iload 4, 0, 0), (30, .iload_n 3, 0, 0), (31, .idiv, 0, 0), (32, .istore 4, 0, 0), (34, .iload 5, 0, 0), (36, .iload 7, 0, 0), (38, .ishr, 0, 0), (39, .iconst 1, 0, 1), (40, .iand, 0, 0)] (by decide +kernel) (z' := (41, [(4, (vI v4_6)), (7, (vI v7_5)), (0, (vR 4 l0)), (3, (vI l3)), (5, (vI v5)), (6, (vI v6))], [(vI (xand (xshr v5 v7_5) 1))], R, M, 174)) (cs := [¬ (v6 < 0), l3 ≠ 0, l3 ≠ 0]) (by subst hv7_5; subst hv4_6; rfl) ⟨c_3, c_4, c_4, trivial⟩ (Nat.le_refl _) ?_
      rcases xif_ex h with ⟨c_7, h⟩ | ⟨c_7, h⟩
      · skip
        obtain ⟨v5_8, hv5_8, h⟩ := xl_ex h
        obtain ⟨c_9, h⟩ := xch_ex h
        obtain ⟨M_10, hM_10, h⟩ := xl_ex h
        obtain ⟨v6_11, hv6_11, h⟩ := xl_ex h
        refine s_P_spellRow [(41, .ifCond .eq 5, 0, 46), (46, .iload 5, 0, 0), (48, .iconst 1, 0, 1), (49, .iload 7, 0, 0), (51, .ishl, 0, 0), (52, .ior, 0, 0), (53, .istore 5, 0, 0), (55, .aload_n 0, 0, 0), (56, .getfield 21, 4, 3), (59, .iload 6, 0, 0), (61, .iload 7, 0, 0), (63, .iastore, 0, 0), (64, .iinc 6 (-1), 0, 0), (67, .goto (-50), 0, 17)] (by decide +kernel) (z' := (17, [(6, (vI v6_11)), (5, (vI v5_8)), (4, (vI v4_6)), (7, (vI v7_5)), (0, (vR 4 l0)), (3, (vI l3))], [], R, M_10, 174)) (cs := [xand (xshr v5 v7_5) 1 = 0, xar 34 0, xidx v6 (xan 34)]) (by subst hv5_8; subst hM_10; subst hv6_11; rfl) ⟨c_7, xar_34, xix_34 c_9, trivial⟩ (Nat.le_refl _) ?_
        refine XR.pick [4, 5, 2, 1, 0] (ls' := [(0, (vR 4 l0)), (3, (vI l3)), (4, (vI v4_6)), (5, (vI v5_8)), (6, (vI v6_11))]) rfl ?_
        exact ih v4_6 v5_8 v6_11 M_10 _ h
      · skip
        refine s_P_spellRow [(41, .ifCond .eq 5, 0, (-1)), (44, .iconst 0, 0, 0)] (by decide +kernel) (z' := (45, [(4, (vI v4_6)), (7, (vI v7_5)), (0, (vR 4 l0)), (3, (vI l3)), (5, (vI v5)), (6, (vI v6))], [(vI 0)], R, M, 174)) (cs := [¬ (xand (xshr v5 v7_5) 1 = 0)]) (by rfl) ⟨c_7, trivial⟩ (Nat.le_refl _) ?_
        obtain rfl := Option.some.inj h
        exact XR.retI .boolean rfl (xnar_z (by decide)) (by decide +kernel)
set_option maxRecDepth 100000 in
set_option maxHeartbeats 4000000 in
theorem o_P_spellRow {sc : List Int} {R : xR} {M : xM} {l0 : Nat} {l1 : Int} {l2 : Int} {l3 : Int} {out : Int × xM} (h : f_P_spellRow R l0 l1 l2 l3 M = some out) : XR false 0 174 sc y_P_spellRow (0, [(0, (vR 4 l0)), (1, (vI l1)), (2, (vI l2)), (3, (vI l3))], [], R, M, 174) ((some (vI out.1)), R, out.2) := by
  unfold f_P_spellRow at h
  refine s_P_spellRow [(0, .iload_n 3, 0, 0)] (by decide +kernel) (z' := (1, [(0, (vR 4 l0)), (1, (vI l1)), (2, (vI l2)), (3, (vI l3))], [(vI l3)], R, M, 174)) (cs := []) (by rfl) trivial (Nat.le_refl _) ?_
  rcases xif_ex h with ⟨c_1, h⟩ | ⟨c_1, h⟩
  · skip
    obtain ⟨v6_2, hv6_2, h⟩ := xl_ex h
    refine s_P_spellRow [(1, .ifCond .gt 5, 0, 6), (6, .iload_n 1, 0, 0), (7, .istore 4, 0, 0), (9, .iconst 0, 0, 0), (10, .istore 5, 0, 0), (12, .iload_n 2, 0, 0), (13, .iconst 1, 0, 1), (14, .isub, 0, 0), (15, .istore 6, 0, 0)] (by decide +kernel) (z' := (17, [(6, (vI v6_2)), (5, (vI 0)), (4, (vI l1)), (0, (vR 4 l0)), (1, (vI l1)), (2, (vI l2)), (3, (vI l3))], [], R, M, 174)) (cs := [0 < l3]) (by subst hv6_2; rfl) ⟨c_1, trivial⟩ (Nat.le_refl _) ?_
    refine XR.pick [3, 6, 2, 1, 0] (ls' := [(0, (vR 4 l0)), (3, (vI l3)), (4, (vI l1)), (5, (vI 0)), (6, (vI v6_2))]) rfl ?_
    refine o_P_spellRow_F17  xfu l1 0 v6_2 M _ h
  · skip
    refine s_P_spellRow [(1, .ifCond .gt 5, 0, (-1)), (4, .iconst 0, 0, 0)] (by decide +kernel) (z' := (5, [(0, (vR 4 l0)), (1, (vI l1)), (2, (vI l2)), (3, (vI l3))], [(vI 0)], R, M, 174)) (cs := [¬ (0 < l3)]) (by rfl) ⟨c_1, trivial⟩ (Nat.le_refl _) ?_
    obtain rfl := Option.some.inj h
    exact XR.retI .boolean rfl (xnar_z (by decide)) (by decide +kernel)
set_option maxRecDepth 100000 in
set_option maxHeartbeats 4000000 in
theorem c_P_spellRow {sc : List Int} {R : xR} {M : xM} {l0 : Nat} {l1 : Int} {l2 : Int} {l3 : Int} {out : Int × xM} (h : f_P_spellRow R l0 l1 l2 l3 M = some out) : XC false 0 sc y_P_spellRow [(vR 4 l0), (vI l1), (vI l2), (vI l3)] R M 174 174 ((some (vI out.1)), R, out.2) := XC.of (by decide) (Nat.le_of_ble_eq_true rfl) (Nat.le_refl _) (Nat.le_refl _) (o_P_spellRow h)
def P_costOf_F4 (R : xR) (M : xM) (l0 : Nat) (l1 : Int) : Nat → Int → Int → Option Int
  | 0, _, _ => none
  | n + 1, v2, v3 =>
    if v3 < l1 then
      xch (0 ≤ v3 ∧ v3 < 4) <|
      xch (0 ≤ w32 ((w32 ((M (R l0 3) (Int.toNat v3)) * 5)) + 4) ∧ w32 ((w32 ((M (R l0 3) (Int.toNat v3)) * 5)) + 4) < 35) <|
      xl (w32 (v2 + (M (R l0 0) (Int.toNat (w32 ((w32 ((M (R l0 3) (Int.toNat v3)) * 5)) + 4)))))) fun v2_4 =>
      xl (w32 (v3 + 1)) fun v3_5 =>
      P_costOf_F4 R M l0 l1  n v2_4 v3_5
    else
      some (v2)
def f_P_costOf (R : xR) (l0 : Nat) (l1 : Int) (M : xM) : Option Int :=
  P_costOf_F4 R M l0 l1
    xfu 0 0
set_option maxRecDepth 100000 in
set_option maxHeartbeats 4000000 in
theorem s_P_costOf {d : Nat} {sc : List Int} {z z' : xS} {out : xO} (qs : List xI) {cs : List Prop} (hq : qs.all (xqb 4 false y_P_costOf.2.2.1 y_P_costOf.2.1) = true) (h : xN false sc qs z = some (z', cs)) (hc : xAll cs) (hE : z'.2.2.2.2.2 ≤ 174) (k : XR false d 174 sc y_P_costOf z' out) : XR false d 174 sc y_P_costOf z out := XR.seg 4 false rfl (fun q => by cases q) qs hq h hc hE k
set_option maxRecDepth 100000 in
set_option maxHeartbeats 4000000 in
theorem o_P_costOf_F4 {sc : List Int} {R : xR} {M : xM}  {l0 : Nat} {l1 : Int}  : ∀ (n : Nat) (v2 : Int) (v3 : Int) (out : Int), P_costOf_F4 R M l0 l1  n v2 v3 = some out → XR false 0 174 sc y_P_costOf (4, [(0, (vR 4 l0)), (1, (vI l1)), (2, (vI v2)), (3, (vI v3))], [], R, M, 174) ((some (vI out)), R, M) := by
  intro n
  induction n with
  | zero => intro v2 v3 out h; exact (xno h).elim
  | succ n ih =>
    intro v2 v3 out h
    rw [P_costOf_F4] at h
    refine s_P_costOf [(4, .iload_n 3, 0, 0), (5, .iload_n 1, 0, 0)] (by decide +kernel) (z' := (6, [(0, (vR 4 l0)), (1, (vI l1)), (2, (vI v2)), (3, (vI v3))], [(vI l1), (vI v3)], R, M, 174)) (cs := []) (by rfl) trivial (Nat.le_refl _) ?_
    rcases xif_ex h with ⟨c_1, h⟩ | ⟨c_1, h⟩
    · skip
      obtain ⟨c_2, h⟩ := xch_ex h
      obtain ⟨c_3, h⟩ := xch_ex h
      obtain ⟨v2_4, hv2_4, h⟩ := xl_ex h
      obtain ⟨v3_5, hv3_5, h⟩ := xl_ex h
      refine s_P_costOf [(6, .if_icmp .ge 27, 0, (-1)), (9, .iload_n 2, 0, 0), (10, .aload_n 0, 0, 0), (11, .getfield 9, 4, 0), (14, .aload_n 0, 0, 0), (15, .getfield 21, 4, 3), (18, .iload_n 3, 0, 0), (19, .iaload, 0, 0), (20, .iconst 5, 0, 5), (21, .imul, 0, 0), (22, .iconst 4, 0, 4), (23, .iadd, 0, 0), (24, .iaload, 0, 0), (25, .iadd, 0, 0), (26, .istore_n 2, 0, 0), (27, .iinc 3 1, 0, 0), (30, .goto (-26), 0, 4)] (by decide +kernel) (z' := (4, [(3, (vI v3_5)), (2, (vI v2_4)), (0, (vR 4 l0)), (1, (vI l1))], [], R, M, 174)) (cs := [¬ (l1 ≤ v3), xar 34 0, xidx v3 (xan 34), xar 33 0, xidx (w32 ((w32 ((M (R l0 3) (Int.toNat v3)) * 5)) + 4)) (xan 33)]) (by subst hv2_4; subst hv3_5; rfl) ⟨Int.not_le.mpr c_1, xar_34, xix_34 c_2, xar_33, xix_33 c_3, trivial⟩ (Nat.le_refl _) ?_
      refine XR.pick [2, 3, 1, 0] (ls' := [(0, (vR 4 l0)), (1, (vI l1)), (2, (vI v2_4)), (3, (vI v3_5))]) rfl ?_
      exact ih v2_4 v3_5 _ h
    · skip
      refine s_P_costOf [(6, .if_icmp .ge 27, 0, 33), (33, .iload_n 2, 0, 0)] (by decide +kernel) (z' := (34, [(0, (vR 4 l0)), (1, (vI l1)), (2, (vI v2)), (3, (vI v3))], [(vI v2)], R, M, 174)) (cs := [l1 ≤ v3]) (by rfl) ⟨Int.not_lt.mp c_1, trivial⟩ (Nat.le_refl _) ?_
      obtain rfl := Option.some.inj h
      exact XR.retI .int rfl rfl (by decide +kernel)
set_option maxRecDepth 100000 in
set_option maxHeartbeats 4000000 in
theorem o_P_costOf {sc : List Int} {R : xR} {M : xM} {l0 : Nat} {l1 : Int} {out : Int} (h : f_P_costOf R l0 l1 M = some out) : XR false 0 174 sc y_P_costOf (0, [(0, (vR 4 l0)), (1, (vI l1))], [], R, M, 174) ((some (vI out)), R, M) := by
  unfold f_P_costOf at h
  refine s_P_costOf [(0, .iconst 0, 0, 0), (1, .istore_n 2, 0, 0), (2, .iconst 0, 0, 0), (3, .istore_n 3, 0, 0)] (by decide +kernel) (z' := (4, [(3, (vI 0)), (2, (vI 0)), (0, (vR 4 l0)), (1, (vI l1))], [], R, M, 174)) (cs := []) (by rfl) trivial (Nat.le_refl _) ?_
  refine XR.pick [2, 3, 1, 0] (ls' := [(0, (vR 4 l0)), (1, (vI l1)), (2, (vI 0)), (3, (vI 0))]) rfl ?_
  refine o_P_costOf_F4  xfu 0 0 _ h
set_option maxRecDepth 100000 in
set_option maxHeartbeats 4000000 in
theorem c_P_costOf {sc : List Int} {R : xR} {M : xM} {l0 : Nat} {l1 : Int} {out : Int} (h : f_P_costOf R l0 l1 M = some out) : XC false 0 sc y_P_costOf [(vR 4 l0), (vI l1)] R M 174 174 ((some (vI out)), R, M) := XC.of (by decide) (Nat.le_of_ble_eq_true rfl) (Nat.le_refl _) (Nat.le_refl _) (o_P_costOf h)
def P_passesOf_F24 (R : xR) (l0 : Nat) (l1 : Int) (q71 : Int → Int → xM → Option (Int × xM)) : Nat → Int → Int → Int → xM → Option (Int × xM)
  | 0, _, _, _, _ => none
  | n + 1, v2, v3, v4, M =>
    if v4 < l1 then
      xch (0 ≤ v3 ∧ v3 < 4) <|
      xch (0 ≤ v4 ∧ v4 < 4) <|
      xch (0 ≤ w32 ((w32 ((M (R l0 3) (Int.toNat v4)) * 5)) + v3) ∧ w32 ((w32 ((M (R l0 3) (Int.toNat v4)) * 5)) + v3) < 35) <|
      xl (xu M (R l0 2) (Int.toNat v3) (w32 ((M (R l0 2) (Int.toNat v3)) - (w32 (Int.tdiv (w32 ((M (R l0 2) (Int.toNat v3)) * (M (R l0 0) (Int.toNat (w32 ((w32 ((M (R l0 3) (Int.toNat v4)) * 5)) + v3)))))) 100))))) fun M_8 =>
      xl (w32 (v4 + 1)) fun v4_9 =>
      P_passesOf_F24 R l0 l1 q71 n v2 v3 v4_9 M_8
    else
      q71 v2 v3 M
def P_passesOf_F4 (R : xR) (l0 : Nat) (l1 : Int) : Nat → Int → Int → xM → Option (Int × xM)
  | 0, _, _, _ => none
  | n + 1, v2, v3, M =>
    if v3 < 4 then
      xch (0 ≤ v3 ∧ v3 < 4) <|
      xl (xu M (R l0 2) (Int.toNat v3) (M (R l0 1) (Int.toNat v3))) fun M_3 =>
      P_passesOf_F24 R l0 l1
        (fun (v2_10 : Int) (v3_11 : Int) (M_12 : xM) =>
          xch (0 ≤ v3_11 ∧ v3_11 < 4) <|
          xl (w32 (v2_10 + (M_12 (R l0 2) (Int.toNat v3_11)))) fun v2_14 =>
          xl (w32 (v3_11 + 1)) fun v3_15 =>
          P_passesOf_F4 R l0 l1  n v2_14 v3_15 M_12)
        xfu v2 v3 0 M_3
    else
      some (v2, M)
def f_P_passesOf (R : xR) (l0 : Nat) (l1 : Int) (M : xM) : Option (Int × xM) :=
  P_passesOf_F4 R l0 l1
    xfu 0 0 M
set_option maxRecDepth 100000 in
set_option maxHeartbeats 4000000 in
theorem s_P_passesOf {d : Nat} {sc : List Int} {z z' : xS} {out : xO} (qs : List xI) {cs : List Prop} (hq : qs.all (xqb 4 false y_P_passesOf.2.2.1 y_P_passesOf.2.1) = true) (h : xN false sc qs z = some (z', cs)) (hc : xAll cs) (hE : z'.2.2.2.2.2 ≤ 174) (k : XR false d 174 sc y_P_passesOf z' out) : XR false d 174 sc y_P_passesOf z out := XR.seg 4 false rfl (fun q => by cases q) qs hq h hc hE k
set_option maxRecDepth 100000 in
set_option maxHeartbeats 4000000 in
theorem o_P_passesOf_F24 {sc : List Int} {R : xR}   {l0 : Nat} {l1 : Int}  {q71 : Int → Int → xM → Option (Int × xM)} (hq71 : ∀ (w2 : Int) (w3 : Int) (M : xM) (out : Int × xM), q71 w2 w3 M = some out → XR false 0 174 sc y_P_passesOf (71, [(0, (vR 4 l0)), (1, (vI l1)), (2, (vI w2)), (3, (vI w3))], [], R, M, 174) ((some (vI out.1)), R, out.2)) : ∀ (n : Nat) (v2 : Int) (v3 : Int) (v4 : Int) (M : xM) (out : Int × xM), P_passesOf_F24 R l0 l1 q71 n v2 v3 v4 M = some out → XR false 0 174 sc y_P_passesOf (24, [(0, (vR 4 l0)), (1, (vI l1)), (2, (vI v2)), (3, (vI v3)), (4, (vI v4))], [], R, M, 174) ((some (vI out.1)), R, out.2) := by
  intro n
  induction n with
  | zero => intro v2 v3 v4 M out h; exact (xno h).elim
  | succ n ih =>
    intro v2 v3 v4 M out h
    rw [P_passesOf_F24] at h
    refine s_P_passesOf [(24, .iload 4, 0, 0), (26, .iload_n 1, 0, 0)] (by decide +kernel) (z' := (27, [(0, (vR 4 l0)), (1, (vI l1)), (2, (vI v2)), (3, (vI v3)), (4, (vI v4))], [(vI l1), (vI v4)], R, M, 174)) (cs := []) (by rfl) trivial (Nat.le_refl _) ?_
    rcases xif_ex h with ⟨c_4, h⟩ | ⟨c_4, h⟩
    · skip
      obtain ⟨c_5, h⟩ := xch_ex h
      obtain ⟨c_6, h⟩ := xch_ex h
      obtain ⟨c_7, h⟩ := xch_ex h
      obtain ⟨M_8, hM_8, h⟩ := xl_ex h
      obtain ⟨v4_9, hv4_9, h⟩ := xl_ex h
      refine s_P_passesOf [(27, .if_icmp .ge 44, 0, (-1)), (30, .aload_n 0, 0, 0), (31, .getfield 18, 4, 2), (34, .iload_n 3, 0, 0), (35, .dup2, 0, 0), (36, .iaload, 0, 0), (37, .aload_n 0, 0, 0), (38, .getfield 18, 4, 2), (41, .iload_n 3, 0, 0), (42, .iaload, 0, 0), (43, .aload_n 0, 0, 0), (44, .getfield 9, 4, 0), (47, .aload_n 0, 0, 0), (48, .getfield 21, 4, 3), (51, .iload 4, 0, 0), (53, .iaload, 0, 0), (54, .iconst 5, 0, 5), (55, .imul, 0, 0), (56, .iload_n 3, 0, 0), (57, .iadd, 0, 0), (58, .iaload, 0, 0), (59, .imul, 0, 0), (60, .bipush 100, 0, 100), (62, .idiv, 0, 0), (63, .isub, 0, 0), (64, .iastore, 0, 0), (65, .iinc 4 1, 0, 0), (68, .goto (-44), 0, 24)] (by decide +kernel) (z' := (24, [(4, (vI v4_9)), (0, (vR 4 l0)), (1, (vI l1)), (2, (vI v2)), (3, (vI v3))], [], R, M_8, 174)) (cs := [¬ (l1 ≤ v4), xar 34 0, xidx v3 (xan 34), xar 34 0, xidx v3 (xan 34), xar 34 0, xidx v4 (xan 34), xar 33 0, xidx (w32 ((w32 ((M (R l0 3) (Int.toNat v4)) * 5)) + v3)) (xan 33), (100 : Int) ≠ 0, xar 34 0, xidx v3 (xan 34)]) (by subst hM_8; subst hv4_9; rfl) ⟨Int.not_le.mpr c_4, xar_34, xix_34 c_5, xar_34, xix_34 c_5, xar_34, xix_34 c_6, xar_33, xix_33 c_7, by decide, xar_34, xix_34 c_5, trivial⟩ (Nat.le_refl _) ?_
      refine XR.pick [1, 2, 3, 4, 0] (ls' := [(0, (vR 4 l0)), (1, (vI l1)), (2, (vI v2)), (3, (vI v3)), (4, (vI v4_9))]) rfl ?_
      exact ih v2 v3 v4_9 M_8 _ h
    · skip
      refine s_P_passesOf [(27, .if_icmp .ge 44, 0, 71)] (by decide +kernel) (z' := (71, [(0, (vR 4 l0)), (1, (vI l1)), (2, (vI v2)), (3, (vI v3)), (4, (vI v4))], [], R, M, 174)) (cs := [l1 ≤ v4]) (by rfl) ⟨Int.not_lt.mp c_4, trivial⟩ (Nat.le_refl _) ?_
      refine XR.pick [0, 1, 2, 3] (ls' := [(0, (vR 4 l0)), (1, (vI l1)), (2, (vI v2)), (3, (vI v3))]) rfl ?_
      exact hq71 v2 v3 M _ h
set_option maxRecDepth 100000 in
set_option maxHeartbeats 4000000 in
theorem o_P_passesOf_F4 {sc : List Int} {R : xR}   {l0 : Nat} {l1 : Int}  : ∀ (n : Nat) (v2 : Int) (v3 : Int) (M : xM) (out : Int × xM), P_passesOf_F4 R l0 l1  n v2 v3 M = some out → XR false 0 174 sc y_P_passesOf (4, [(0, (vR 4 l0)), (1, (vI l1)), (2, (vI v2)), (3, (vI v3))], [], R, M, 174) ((some (vI out.1)), R, out.2) := by
  intro n
  induction n with
  | zero => intro v2 v3 M out h; exact (xno h).elim
  | succ n ih =>
    intro v2 v3 M out h
    rw [P_passesOf_F4] at h
    refine s_P_passesOf [(4, .iload_n 3, 0, 0), (5, .iconst 4, 0, 4)] (by decide +kernel) (z' := (6, [(0, (vR 4 l0)), (1, (vI l1)), (2, (vI v2)), (3, (vI v3))], [(vI 4), (vI v3)], R, M, 174)) (cs := []) (by rfl) trivial (Nat.le_refl _) ?_
    rcases xif_ex h with ⟨c_1, h⟩ | ⟨c_1, h⟩
    · skip
      obtain ⟨c_2, h⟩ := xch_ex h
      obtain ⟨M_3, hM_3, h⟩ := xl_ex h
      refine s_P_passesOf [(6, .if_icmp .ge 80, 0, (-1)), (9, .aload_n 0, 0, 0), (10, .getfield 18, 4, 2), (13, .iload_n 3, 0, 0), (14, .aload_n 0, 0, 0), (15, .getfield 15, 4, 1), (18, .iload_n 3, 0, 0), (19, .iaload, 0, 0), (20, .iastore, 0, 0), (21, .iconst 0, 0, 0), (22, .istore 4, 0, 0)] (by decide +kernel) (z' := (24, [(4, (vI 0)), (0, (vR 4 l0)), (1, (vI l1)), (2, (vI v2)), (3, (vI v3))], [], R, M_3, 174)) (cs := [¬ (4 ≤ v3), xar 34 0, xidx v3 (xan 34), xar 34 0, xidx v3 (xan 34)]) (by subst hM_3; rfl) ⟨Int.not_le.mpr c_1, xar_34, xix_34 c_2, xar_34, xix_34 c_2, trivial⟩ (Nat.le_refl _) ?_
      refine XR.pick [1, 2, 3, 4, 0] (ls' := [(0, (vR 4 l0)), (1, (vI l1)), (2, (vI v2)), (3, (vI v3)), (4, (vI 0))]) rfl ?_
      refine o_P_passesOf_F24 ?_ xfu v2 v3 0 M_3 _ h
      · intro v2_10 v3_11 M_12 out h
        obtain ⟨c_13, h⟩ := xch_ex h
        obtain ⟨v2_14, hv2_14, h⟩ := xl_ex h
        obtain ⟨v3_15, hv3_15, h⟩ := xl_ex h
        refine s_P_passesOf [(71, .iload_n 2, 0, 0), (72, .aload_n 0, 0, 0), (73, .getfield 18, 4, 2), (76, .iload_n 3, 0, 0), (77, .iaload, 0, 0), (78, .iadd, 0, 0), (79, .istore_n 2, 0, 0), (80, .iinc 3 1, 0, 0), (83, .goto (-79), 0, 4)] (by decide +kernel) (z' := (4, [(3, (vI v3_15)), (2, (vI v2_14)), (0, (vR 4 l0)), (1, (vI l1))], [], R, M_12, 174)) (cs := [xar 34 0, xidx v3_11 (xan 34)]) (by subst hv2_14; subst hv3_15; rfl) ⟨xar_34, xix_34 c_13, trivial⟩ (Nat.le_refl _) ?_
        refine XR.pick [2, 3, 1, 0] (ls' := [(0, (vR 4 l0)), (1, (vI l1)), (2, (vI v2_14)), (3, (vI v3_15))]) rfl ?_
        exact ih v2_14 v3_15 M_12 _ h
    · skip
      refine s_P_passesOf [(6, .if_icmp .ge 80, 0, 86), (86, .iload_n 2, 0, 0)] (by decide +kernel) (z' := (87, [(0, (vR 4 l0)), (1, (vI l1)), (2, (vI v2)), (3, (vI v3))], [(vI v2)], R, M, 174)) (cs := [4 ≤ v3]) (by rfl) ⟨Int.not_lt.mp c_1, trivial⟩ (Nat.le_refl _) ?_
      obtain rfl := Option.some.inj h
      exact XR.retI .int rfl rfl (by decide +kernel)
set_option maxRecDepth 100000 in
set_option maxHeartbeats 4000000 in
theorem o_P_passesOf {sc : List Int} {R : xR} {M : xM} {l0 : Nat} {l1 : Int} {out : Int × xM} (h : f_P_passesOf R l0 l1 M = some out) : XR false 0 174 sc y_P_passesOf (0, [(0, (vR 4 l0)), (1, (vI l1))], [], R, M, 174) ((some (vI out.1)), R, out.2) := by
  unfold f_P_passesOf at h
  refine s_P_passesOf [(0, .iconst 0, 0, 0), (1, .istore_n 2, 0, 0), (2, .iconst 0, 0, 0), (3, .istore_n 3, 0, 0)] (by decide +kernel) (z' := (4, [(3, (vI 0)), (2, (vI 0)), (0, (vR 4 l0)), (1, (vI l1))], [], R, M, 174)) (cs := []) (by rfl) trivial (Nat.le_refl _) ?_
  refine XR.pick [2, 3, 1, 0] (ls' := [(0, (vR 4 l0)), (1, (vI l1)), (2, (vI 0)), (3, (vI 0))]) rfl ?_
  refine o_P_passesOf_F4  xfu 0 0 M _ h
set_option maxRecDepth 100000 in
set_option maxHeartbeats 4000000 in
theorem c_P_passesOf {sc : List Int} {R : xR} {M : xM} {l0 : Nat} {l1 : Int} {out : Int × xM} (h : f_P_passesOf R l0 l1 M = some out) : XC false 0 sc y_P_passesOf [(vR 4 l0), (vI l1)] R M 174 174 ((some (vI out.1)), R, out.2) := XC.of (by decide) (Nat.le_of_ble_eq_true rfl) (Nat.le_refl _) (Nat.le_refl _) (o_P_passesOf h)
def P_cheapest_J96 (R : xR) (l0 : Nat) (l1 : Int) (l2 : Int) (rc : Int → Int → Int → Int → Int → xM → Option (Int × xM)) (q102 : Int → Int → Int → Int → xM → Option (Int × xM)) (v3 : Int) (v4 : Int) (v5 : Int) (v6 : Int) (v7 : Int) (M : xM) : Option (Int × xM) :=
  xl (w32 (v7 + 1)) fun v7_8 =>
  rc v3 v4 v5 v6 v7_8 M
def P_cheapest_J64 (R : xR) (l0 : Nat) (l1 : Int) (l2 : Int) (rc : Int → Int → Int → Int → Int → xM → Option (Int × xM)) (q102 : Int → Int → Int → Int → xM → Option (Int × xM)) (v3 : Int) (v4 : Int) (v5 : Int) (v6 : Int) (v7 : Int) (v8 : Int) (M : xM) : Option (Int × xM) :=
  xb2 (f_P_passesOf R l0 v6 M) fun r_12 M_13 =>
  if l2 < r_12 then
    P_cheapest_J96 R l0 l1 l2 rc q102 v3 v4 v5 v6 v7 M_13
  else
    xch ((0 : Int) ≤ 0 ∧ (0 : Int) ≤ 0 ∧ (0 : Int) ≤ v6 ∧ (0 : Int) + v6 ≤ 4 ∧ (0 : Int) + v6 ≤ 4) <|
    xl (xcpy M_13 (R l0 3) (R l0 4) (Int.toNat 0) (Int.toNat 0) (Int.toNat v6)) fun M_17 =>
    P_cheapest_J96 R l0 l1 l2 rc q102 v8 v6 v5 v6 v7 M_17
def P_cheapest_F26 (R : xR) (l0 : Nat) (l1 : Int) (l2 : Int) (q102 : Int → Int → Int → Int → xM → Option (Int × xM)) : Nat → Int → Int → Int → Int → Int → xM → Option (Int × xM)
  | 0, _, _, _, _, _, _ => none
  | n + 1, v3, v4, v5, v6, v7, M =>
    if v7 < v5 then
      xb2 (f_P_spellRow R l0 v7 v6 l1 M) fun r_4 M_5 =>
      if r_4 = 0 then
        P_cheapest_J96 R l0 l1 l2 (P_cheapest_F26 R l0 l1 l2 q102 n) q102 v3 v4 v5 v6 v7 M_5
      else
        xb1 (f_P_costOf R l0 v6 M_5) fun r_9 =>
        if v3 = -1 then
          P_cheapest_J64 R l0 l1 l2 (P_cheapest_F26 R l0 l1 l2 q102 n) q102 v3 v4 v5 v6 v7 r_9 M_5
        else
          if r_9 < v3 then
            P_cheapest_J64 R l0 l1 l2 (P_cheapest_F26 R l0 l1 l2 q102 n) q102 v3 v4 v5 v6 v7 r_9 M_5
          else
            P_cheapest_J96 R l0 l1 l2 (P_cheapest_F26 R l0 l1 l2 q102 n) q102 v3 v4 v5 v6 v7 M_5
    else
      q102 v3 v4 v5 v6 M
def P_cheapest_F11 (R : xR) (l0 : Nat) (l1 : Int) (l2 : Int) (q114 : Int → Int → xM → Option (Int × xM)) : Nat → Int → Int → Int → Int → xM → Option (Int × xM)
  | 0, _, _, _, _, _ => none
  | n + 1, v3, v4, v5, v6, M =>
    if 4 < v6 then
      q114 v3 v4 M
    else
      if l1 < v6 then
        q114 v3 v4 M
      else
        P_cheapest_F26 R l0 l1 l2
          (fun (v3_19 : Int) (v4_20 : Int) (v5_21 : Int) (v6_22 : Int) (M_23 : xM) =>
            xl (w32 (v5_21 * l1)) fun v5_24 =>
            xl (w32 (v6_22 + 1)) fun v6_25 =>
            P_cheapest_F11 R l0 l1 l2 q114 n v3_19 v4_20 v5_24 v6_25 M_23)
          xfu v3 v4 v5 v6 0 M
def P_cheapest_J114 (R : xR) (l0 : Nat) (v3 : Int) (v4 : Int) (M : xM) : Option (Int × xM) :=
  if v3 = -1 then
    some (v3, M)
  else
    xl (xu M l0 6 v4) fun M_30 =>
    xch ((0 : Int) ≤ 0 ∧ (0 : Int) ≤ 0 ∧ (0 : Int) ≤ v4 ∧ (0 : Int) + v4 ≤ 4 ∧ (0 : Int) + v4 ≤ 4) <|
    xl (xcpy M_30 (R l0 4) (R l0 5) (Int.toNat 0) (Int.toNat 0) (Int.toNat v4)) fun M_32 =>
    some (v3, M_32)
def f_P_cheapest (R : xR) (l0 : Nat) (l1 : Int) (l2 : Int) (M : xM) : Option (Int × xM) :=
  P_cheapest_F11 R l0 l1 l2
    (fun (v3_26 : Int) (v4_27 : Int) (M_28 : xM) =>
      P_cheapest_J114 R l0 v3_26 v4_27 M_28)
    xfu (-1) 0 1 0 M
set_option maxRecDepth 100000 in
set_option maxHeartbeats 4000000 in
theorem s_P_cheapest {d : Nat} {sc : List Int} {z z' : xS} {out : xO} (qs : List xI) {cs : List Prop} (hq : qs.all (xqb 4 false y_P_cheapest.2.2.1 y_P_cheapest.2.1) = true) (h : xN false sc qs z = some (z', cs)) (hc : xAll cs) (hE : z'.2.2.2.2.2 ≤ 174) (k : XR false d 174 sc y_P_cheapest z' out) : XR false d 174 sc y_P_cheapest z out := XR.seg 4 false rfl (fun q => by cases q) qs hq h hc hE k
set_option maxRecDepth 100000 in
set_option maxHeartbeats 4000000 in
theorem o_P_cheapest_J96 {sc : List Int} {R : xR}   {l0 : Nat} {l1 : Int} {l2 : Int}  {rc : Int → Int → Int → Int → Int → xM → Option (Int × xM)} {q102 : Int → Int → Int → Int → xM → Option (Int × xM)} (hrc : ∀ (w3 : Int) (w4 : Int) (w5 : Int) (w6 : Int) (w7 : Int) (M : xM) (out : Int × xM), rc w3 w4 w5 w6 w7 M = some out → XR false 1 174 sc y_P_cheapest (26, [(0, (vR 4 l0)), (1, (vI l1)), (2, (vI l2)), (3, (vI w3)), (4, (vI w4)), (5, (vI w5)), (6, (vI w6)), (7, (vI w7))], [], R, M, 174) ((some (vI out.1)), R, out.2)) (hq102 : ∀ (w3 : Int) (w4 : Int) (w5 : Int) (w6 : Int) (M : xM) (out : Int × xM), q102 w3 w4 w5 w6 M = some out → XR false 1 174 sc y_P_cheapest (102, [(0, (vR 4 l0)), (1, (vI l1)), (2, (vI l2)), (3, (vI w3)), (4, (vI w4)), (5, (vI w5)), (6, (vI w6))], [], R, M, 174) ((some (vI out.1)), R, out.2)) {v3 : Int} {v4 : Int} {v5 : Int} {v6 : Int} {v7 : Int} {M : xM} {out : Int × xM} (h : P_cheapest_J96 R l0 l1 l2 rc q102 v3 v4 v5 v6 v7 M = some out) : XR false 1 174 sc y_P_cheapest (96, [(0, (vR 4 l0)), (1, (vI l1)), (2, (vI l2)), (3, (vI v3)), (4, (vI v4)), (5, (vI v5)), (6, (vI v6)), (7, (vI v7))], [], R, M, 174) ((some (vI out.1)), R, out.2) := by
  unfold P_cheapest_J96 at h
  obtain ⟨v7_8, hv7_8, h⟩ := xl_ex h
  refine s_P_cheapest [(96, .iinc 7 1, 0, 0), (99, .goto (-73), 0, 26)] (by decide +kernel) (z' := (26, [(7, (vI v7_8)), (0, (vR 4 l0)), (1, (vI l1)), (2, (vI l2)), (3, (vI v3)), (4, (vI v4)), (5, (vI v5)), (6, (vI v6))], [], R, M, 174)) (cs := []) (by subst hv7_8; rfl) trivial (Nat.le_refl _) ?_
  refine XR.pick [1, 2, 3, 4, 5, 6, 7, 0] (ls' := [(0, (vR 4 l0)), (1, (vI l1)), (2, (vI l2)), (3, (vI v3)), (4, (vI v4)), (5, (vI v5)), (6, (vI v6)), (7, (vI v7_8))]) rfl ?_
  exact hrc v3 v4 v5 v6 v7_8 M _ h
set_option maxRecDepth 100000 in
set_option maxHeartbeats 4000000 in
theorem o_P_cheapest_J64 {sc : List Int} {R : xR}   {l0 : Nat} {l1 : Int} {l2 : Int}  {rc : Int → Int → Int → Int → Int → xM → Option (Int × xM)} {q102 : Int → Int → Int → Int → xM → Option (Int × xM)} (hrc : ∀ (w3 : Int) (w4 : Int) (w5 : Int) (w6 : Int) (w7 : Int) (M : xM) (out : Int × xM), rc w3 w4 w5 w6 w7 M = some out → XR false 1 174 sc y_P_cheapest (26, [(0, (vR 4 l0)), (1, (vI l1)), (2, (vI l2)), (3, (vI w3)), (4, (vI w4)), (5, (vI w5)), (6, (vI w6)), (7, (vI w7))], [], R, M, 174) ((some (vI out.1)), R, out.2)) (hq102 : ∀ (w3 : Int) (w4 : Int) (w5 : Int) (w6 : Int) (M : xM) (out : Int × xM), q102 w3 w4 w5 w6 M = some out → XR false 1 174 sc y_P_cheapest (102, [(0, (vR 4 l0)), (1, (vI l1)), (2, (vI l2)), (3, (vI w3)), (4, (vI w4)), (5, (vI w5)), (6, (vI w6))], [], R, M, 174) ((some (vI out.1)), R, out.2)) {v3 : Int} {v4 : Int} {v5 : Int} {v6 : Int} {v7 : Int} {v8 : Int} {M : xM} {out : Int × xM} (h : P_cheapest_J64 R l0 l1 l2 rc q102 v3 v4 v5 v6 v7 v8 M = some out) : XR false 1 174 sc y_P_cheapest (64, [(0, (vR 4 l0)), (1, (vI l1)), (2, (vI l2)), (3, (vI v3)), (4, (vI v4)), (5, (vI v5)), (6, (vI v6)), (7, (vI v7)), (8, (vI v8))], [], R, M, 174) ((some (vI out.1)), R, out.2) := by
  unfold P_cheapest_J64 at h
  refine s_P_cheapest [(64, .aload_n 0, 0, 0), (65, .iload 6, 0, 0)] (by decide +kernel) (z' := (67, [(0, (vR 4 l0)), (1, (vI l1)), (2, (vI l2)), (3, (vI v3)), (4, (vI v4)), (5, (vI v5)), (6, (vI v6)), (7, (vI v7)), (8, (vI v8))], [(vI v6), (vR 4 l0)], R, M, 174)) (cs := []) (by rfl) trivial (Nat.le_refl _) ?_
  obtain ⟨r_12, M_13, e_14, h⟩ := xb2_ex h
  refine XR.callV 4 rfl (rest := []) m_P_passesOf k_4_70 4 l0 (Or.inl ⟨by decide, rfl⟩) [(vI v6)] rfl rfl (c_P_passesOf e_14) (by decide) (Nat.le_of_ble_eq_true rfl) (by decide +kernel) (Nat.le_refl _) (Nat.le_refl _) ?_
  show XR false 1 174 sc y_P_cheapest (70, [(0, (vR 4 l0)), (1, (vI l1)), (2, (vI l2)), (3, (vI v3)), (4, (vI v4)), (5, (vI v5)), (6, (vI v6)), (7, (vI v7)), (8, (vI v8))], [(vI r_12)], R, M_13, 174) _
  refine s_P_cheapest [(70, .iload_n 2, 0, 0)] (by decide +kernel) (z' := (71, [(0, (vR 4 l0)), (1, (vI l1)), (2, (vI l2)), (3, (vI v3)), (4, (vI v4)), (5, (vI v5)), (6, (vI v6)), (7, (vI v7)), (8, (vI v8))], [(vI l2), (vI r_12)], R, M_13, 174)) (cs := []) (by rfl) trivial (Nat.le_refl _) ?_
  rcases xif_ex h with ⟨c_15, h⟩ | ⟨c_15, h⟩
  · skip
    refine s_P_cheapest [(71, .if_icmp .gt 25, 0, 96)] (by decide +kernel) (z' := (96, [(0, (vR 4 l0)), (1, (vI l1)), (2, (vI l2)), (3, (vI v3)), (4, (vI v4)), (5, (vI v5)), (6, (vI v6)), (7, (vI v7)), (8, (vI v8))], [], R, M_13, 174)) (cs := [l2 < r_12]) (by rfl) ⟨c_15, trivial⟩ (Nat.le_refl _) ?_
    refine XR.pick [0, 1, 2, 3, 4, 5, 6, 7] (ls' := [(0, (vR 4 l0)), (1, (vI l1)), (2, (vI l2)), (3, (vI v3)), (4, (vI v4)), (5, (vI v5)), (6, (vI v6)), (7, (vI v7))]) rfl ?_
    exact o_P_cheapest_J96 hrc hq102 h
  · skip
    obtain ⟨c_16, h⟩ := xch_ex h
    refine s_P_cheapest [(71, .if_icmp .gt 25, 0, (-1)), (74, .iload 8, 0, 0), (76, .istore_n 3, 0, 0), (77, .iload 6, 0, 0), (79, .istore 4, 0, 0), (81, .aload_n 0, 0, 0), (82, .getfield 21, 4, 3), (85, .iconst 0, 0, 0), (86, .aload_n 0, 0, 0), (87, .getfield 24, 4, 4), (90, .iconst 0, 0, 0), (91, .iload 6, 0, 0)] (by decide +kernel) (z' := (93, [(4, (vI v6)), (3, (vI v8)), (0, (vR 4 l0)), (1, (vI l1)), (2, (vI l2)), (5, (vI v5)), (6, (vI v6)), (7, (vI v7)), (8, (vI v8))], [(vI v6), (vI 0), (vR 34 (R l0 4)), (vI 0), (vR 34 (R l0 3))], R, M_13, 174)) (cs := [¬ (l2 < r_12)]) (by rfl) ⟨c_15, trivial⟩ (Nat.le_refl _) ?_
    obtain ⟨M_17, hM_17, h⟩ := xl_ex h
    refine XR.copyI 4 rfl k_4_73 k_acN k_acS k_acI xar_34 xar_34 c_16.1 c_16.2.1 c_16.2.2.1 c_16.2.2.2.1 c_16.2.2.2.2 rfl (by decide) (Nat.le_of_ble_eq_true rfl) (by decide +kernel) ?_
    rw [← hM_17]
    refine XR.pick [2, 3, 4, 1, 0, 5, 6, 7] (ls' := [(0, (vR 4 l0)), (1, (vI l1)), (2, (vI l2)), (3, (vI v8)), (4, (vI v6)), (5, (vI v5)), (6, (vI v6)), (7, (vI v7))]) rfl ?_
    exact o_P_cheapest_J96 hrc hq102 h
set_option maxRecDepth 100000 in
set_option maxHeartbeats 4000000 in
theorem o_P_cheapest_F26 {sc : List Int} {R : xR}   {l0 : Nat} {l1 : Int} {l2 : Int}  {q102 : Int → Int → Int → Int → xM → Option (Int × xM)} (hq102 : ∀ (w3 : Int) (w4 : Int) (w5 : Int) (w6 : Int) (M : xM) (out : Int × xM), q102 w3 w4 w5 w6 M = some out → XR false 1 174 sc y_P_cheapest (102, [(0, (vR 4 l0)), (1, (vI l1)), (2, (vI l2)), (3, (vI w3)), (4, (vI w4)), (5, (vI w5)), (6, (vI w6))], [], R, M, 174) ((some (vI out.1)), R, out.2)) : ∀ (n : Nat) (v3 : Int) (v4 : Int) (v5 : Int) (v6 : Int) (v7 : Int) (M : xM) (out : Int × xM), P_cheapest_F26 R l0 l1 l2 q102 n v3 v4 v5 v6 v7 M = some out → XR false 1 174 sc y_P_cheapest (26, [(0, (vR 4 l0)), (1, (vI l1)), (2, (vI l2)), (3, (vI v3)), (4, (vI v4)), (5, (vI v5)), (6, (vI v6)), (7, (vI v7))], [], R, M, 174) ((some (vI out.1)), R, out.2) := by
  intro n
  induction n with
  | zero => intro v3 v4 v5 v6 v7 M out h; exact (xno h).elim
  | succ n ih =>
    intro v3 v4 v5 v6 v7 M out h
    rw [P_cheapest_F26] at h
    refine s_P_cheapest [(26, .iload 7, 0, 0), (28, .iload 5, 0, 0)] (by decide +kernel) (z' := (30, [(0, (vR 4 l0)), (1, (vI l1)), (2, (vI l2)), (3, (vI v3)), (4, (vI v4)), (5, (vI v5)), (6, (vI v6)), (7, (vI v7))], [(vI v5), (vI v7)], R, M, 174)) (cs := []) (by rfl) trivial (Nat.le_refl _) ?_
    rcases xif_ex h with ⟨c_3, h⟩ | ⟨c_3, h⟩
    · skip
      refine s_P_cheapest [(30, .if_icmp .ge 72, 0, (-1)), (33, .aload_n 0, 0, 0), (34, .iload 7, 0, 0), (36, .iload 6, 0, 0), (38, .iload_n 1, 0, 0)] (by decide +kernel) (z' := (39, [(0, (vR 4 l0)), (1, (vI l1)), (2, (vI l2)), (3, (vI v3)), (4, (vI v4)), (5, (vI v5)), (6, (vI v6)), (7, (vI v7))], [(vI l1), (vI v6), (vI v7), (vR 4 l0)], R, M, 174)) (cs := [¬ (v5 ≤ v7)]) (by rfl) ⟨Int.not_le.mpr c_3, trivial⟩ (Nat.le_refl _) ?_
      obtain ⟨r_4, M_5, e_6, h⟩ := xb2_ex h
      refine XR.callV 4 rfl (rest := []) m_P_spellRow k_4_62 4 l0 (Or.inl ⟨by decide, rfl⟩) [(vI v7), (vI v6), (vI l1)] rfl rfl (c_P_spellRow e_6) (by decide) (Nat.le_of_ble_eq_true rfl) (by decide +kernel) (Nat.le_refl _) (Nat.le_refl _) ?_
      show XR false 1 174 sc y_P_cheapest (42, [(0, (vR 4 l0)), (1, (vI l1)), (2, (vI l2)), (3, (vI v3)), (4, (vI v4)), (5, (vI v5)), (6, (vI v6)), (7, (vI v7))], [(vI r_4)], R, M_5, 174) _
      rcases xif_ex h with ⟨c_7, h⟩ | ⟨c_7, h⟩
      · skip
        refine s_P_cheapest [(42, .ifCond .eq 54, 0, 96)] (by decide +kernel) (z' := (96, [(0, (vR 4 l0)), (1, (vI l1)), (2, (vI l2)), (3, (vI v3)), (4, (vI v4)), (5, (vI v5)), (6, (vI v6)), (7, (vI v7))], [], R, M_5, 174)) (cs := [r_4 = 0]) (by rfl) ⟨c_7, trivial⟩ (Nat.le_refl _) ?_
        exact o_P_cheapest_J96 ih hq102 h
      · skip
        refine s_P_cheapest [(42, .ifCond .eq 54, 0, (-1)), (45, .aload_n 0, 0, 0), (46, .iload 6, 0, 0)] (by decide +kernel) (z' := (48, [(0, (vR 4 l0)), (1, (vI l1)), (2, (vI l2)), (3, (vI v3)), (4, (vI v4)), (5, (vI v5)), (6, (vI v6)), (7, (vI v7))], [(vI v6), (vR 4 l0)], R, M_5, 174)) (cs := [¬ (r_4 = 0)]) (by rfl) ⟨c_7, trivial⟩ (Nat.le_refl _) ?_
        obtain ⟨r_9, e_10, h⟩ := xb1_ex h
        refine XR.callV 4 rfl (rest := []) m_P_costOf k_4_66 4 l0 (Or.inl ⟨by decide, rfl⟩) [(vI v6)] rfl rfl (c_P_costOf e_10) (by decide) (Nat.le_of_ble_eq_true rfl) (by decide +kernel) (Nat.le_refl _) (Nat.le_refl _) ?_
        show XR false 1 174 sc y_P_cheapest (51, [(0, (vR 4 l0)), (1, (vI l1)), (2, (vI l2)), (3, (vI v3)), (4, (vI v4)), (5, (vI v5)), (6, (vI v6)), (7, (vI v7))], [(vI r_9)], R, M_5, 174) _
        refine s_P_cheapest [(51, .istore 8, 0, 0), (53, .iload_n 3, 0, 0), (54, .iconst (-1), 0, (-1))] (by decide +kernel) (z' := (55, [(8, (vI r_9)), (0, (vR 4 l0)), (1, (vI l1)), (2, (vI l2)), (3, (vI v3)), (4, (vI v4)), (5, (vI v5)), (6, (vI v6)), (7, (vI v7))], [(vI (-1)), (vI v3)], R, M_5, 174)) (cs := []) (by rfl) trivial (Nat.le_refl _) ?_
        rcases xif_ex h with ⟨c_11, h⟩ | ⟨c_11, h⟩
        · skip
          refine s_P_cheapest [(55, .if_icmp .eq 9, 0, 64)] (by decide +kernel) (z' := (64, [(8, (vI r_9)), (0, (vR 4 l0)), (1, (vI l1)), (2, (vI l2)), (3, (vI v3)), (4, (vI v4)), (5, (vI v5)), (6, (vI v6)), (7, (vI v7))], [], R, M_5, 174)) (cs := [v3 = -1]) (by rfl) ⟨c_11, trivial⟩ (Nat.le_refl _) ?_
          refine XR.pick [1, 2, 3, 4, 5, 6, 7, 8, 0] (ls' := [(0, (vR 4 l0)), (1, (vI l1)), (2, (vI l2)), (3, (vI v3)), (4, (vI v4)), (5, (vI v5)), (6, (vI v6)), (7, (vI v7)), (8, (vI r_9))]) rfl ?_
          exact o_P_cheapest_J64 ih hq102 h
        · skip
          refine s_P_cheapest [(55, .if_icmp .eq 9, 0, (-1)), (58, .iload 8, 0, 0), (60, .iload_n 3, 0, 0)] (by decide +kernel) (z' := (61, [(8, (vI r_9)), (0, (vR 4 l0)), (1, (vI l1)), (2, (vI l2)), (3, (vI v3)), (4, (vI v4)), (5, (vI v5)), (6, (vI v6)), (7, (vI v7))], [(vI v3), (vI r_9)], R, M_5, 174)) (cs := [¬ (v3 = -1)]) (by rfl) ⟨c_11, trivial⟩ (Nat.le_refl _) ?_
          rcases xif_ex h with ⟨c_18, h⟩ | ⟨c_18, h⟩
          · skip
            refine s_P_cheapest [(61, .if_icmp .ge 35, 0, (-1))] (by decide +kernel) (z' := (64, [(8, (vI r_9)), (0, (vR 4 l0)), (1, (vI l1)), (2, (vI l2)), (3, (vI v3)), (4, (vI v4)), (5, (vI v5)), (6, (vI v6)), (7, (vI v7))], [], R, M_5, 174)) (cs := [¬ (v3 ≤ r_9)]) (by rfl) ⟨Int.not_le.mpr c_18, trivial⟩ (Nat.le_refl _) ?_
            refine XR.pick [1, 2, 3, 4, 5, 6, 7, 8, 0] (ls' := [(0, (vR 4 l0)), (1, (vI l1)), (2, (vI l2)), (3, (vI v3)), (4, (vI v4)), (5, (vI v5)), (6, (vI v6)), (7, (vI v7)), (8, (vI r_9))]) rfl ?_
            exact o_P_cheapest_J64 ih hq102 h
          · skip
            refine s_P_cheapest [(61, .if_icmp .ge 35, 0, 96)] (by decide +kernel) (z' := (96, [(8, (vI r_9)), (0, (vR 4 l0)), (1, (vI l1)), (2, (vI l2)), (3, (vI v3)), (4, (vI v4)), (5, (vI v5)), (6, (vI v6)), (7, (vI v7))], [], R, M_5, 174)) (cs := [v3 ≤ r_9]) (by rfl) ⟨Int.not_lt.mp c_18, trivial⟩ (Nat.le_refl _) ?_
            refine XR.pick [1, 2, 3, 4, 5, 6, 7, 8] (ls' := [(0, (vR 4 l0)), (1, (vI l1)), (2, (vI l2)), (3, (vI v3)), (4, (vI v4)), (5, (vI v5)), (6, (vI v6)), (7, (vI v7))]) rfl ?_
            exact o_P_cheapest_J96 ih hq102 h
    · skip
      refine s_P_cheapest [(30, .if_icmp .ge 72, 0, 102)] (by decide +kernel) (z' := (102, [(0, (vR 4 l0)), (1, (vI l1)), (2, (vI l2)), (3, (vI v3)), (4, (vI v4)), (5, (vI v5)), (6, (vI v6)), (7, (vI v7))], [], R, M, 174)) (cs := [v5 ≤ v7]) (by rfl) ⟨Int.not_lt.mp c_3, trivial⟩ (Nat.le_refl _) ?_
      refine XR.pick [0, 1, 2, 3, 4, 5, 6] (ls' := [(0, (vR 4 l0)), (1, (vI l1)), (2, (vI l2)), (3, (vI v3)), (4, (vI v4)), (5, (vI v5)), (6, (vI v6))]) rfl ?_
      exact hq102 v3 v4 v5 v6 M _ h
set_option maxRecDepth 100000 in
set_option maxHeartbeats 4000000 in
theorem o_P_cheapest_F11 {sc : List Int} {R : xR}   {l0 : Nat} {l1 : Int} {l2 : Int}  {q114 : Int → Int → xM → Option (Int × xM)} (hq114 : ∀ (w3 : Int) (w4 : Int) (M : xM) (out : Int × xM), q114 w3 w4 M = some out → XR false 1 174 sc y_P_cheapest (114, [(0, (vR 4 l0)), (3, (vI w3)), (4, (vI w4))], [], R, M, 174) ((some (vI out.1)), R, out.2)) : ∀ (n : Nat) (v3 : Int) (v4 : Int) (v5 : Int) (v6 : Int) (M : xM) (out : Int × xM), P_cheapest_F11 R l0 l1 l2 q114 n v3 v4 v5 v6 M = some out → XR false 1 174 sc y_P_cheapest (11, [(0, (vR 4 l0)), (1, (vI l1)), (2, (vI l2)), (3, (vI v3)), (4, (vI v4)), (5, (vI v5)), (6, (vI v6))], [], R, M, 174) ((some (vI out.1)), R, out.2) := by
  intro n
  induction n with
  | zero => intro v3 v4 v5 v6 M out h; exact (xno h).elim
  | succ n ih =>
    intro v3 v4 v5 v6 M out h
    rw [P_cheapest_F11] at h
    refine s_P_cheapest [(11, .iload 6, 0, 0), (13, .iconst 4, 0, 4)] (by decide +kernel) (z' := (14, [(0, (vR 4 l0)), (1, (vI l1)), (2, (vI l2)), (3, (vI v3)), (4, (vI v4)), (5, (vI v5)), (6, (vI v6))], [(vI 4), (vI v6)], R, M, 174)) (cs := []) (by rfl) trivial (Nat.le_refl _) ?_
    rcases xif_ex h with ⟨c_1, h⟩ | ⟨c_1, h⟩
    · skip
      refine s_P_cheapest [(14, .if_icmp .gt 100, 0, 114)] (by decide +kernel) (z' := (114, [(0, (vR 4 l0)), (1, (vI l1)), (2, (vI l2)), (3, (vI v3)), (4, (vI v4)), (5, (vI v5)), (6, (vI v6))], [], R, M, 174)) (cs := [4 < v6]) (by rfl) ⟨c_1, trivial⟩ (Nat.le_refl _) ?_
      refine XR.pick [0, 3, 4] (ls' := [(0, (vR 4 l0)), (3, (vI v3)), (4, (vI v4))]) rfl ?_
      exact hq114 v3 v4 M _ h
    · skip
      refine s_P_cheapest [(14, .if_icmp .gt 100, 0, (-1)), (17, .iload 6, 0, 0), (19, .iload_n 1, 0, 0)] (by decide +kernel) (z' := (20, [(0, (vR 4 l0)), (1, (vI l1)), (2, (vI l2)), (3, (vI v3)), (4, (vI v4)), (5, (vI v5)), (6, (vI v6))], [(vI l1), (vI v6)], R, M, 174)) (cs := [¬ (4 < v6)]) (by rfl) ⟨c_1, trivial⟩ (Nat.le_refl _) ?_
      rcases xif_ex h with ⟨c_2, h⟩ | ⟨c_2, h⟩
      · skip
        refine s_P_cheapest [(20, .if_icmp .gt 94, 0, 114)] (by decide +kernel) (z' := (114, [(0, (vR 4 l0)), (1, (vI l1)), (2, (vI l2)), (3, (vI v3)), (4, (vI v4)), (5, (vI v5)), (6, (vI v6))], [], R, M, 174)) (cs := [l1 < v6]) (by rfl) ⟨c_2, trivial⟩ (Nat.le_refl _) ?_
        refine XR.pick [0, 3, 4] (ls' := [(0, (vR 4 l0)), (3, (vI v3)), (4, (vI v4))]) rfl ?_
        exact hq114 v3 v4 M _ h
      · skip
        refine s_P_cheapest [(20, .if_icmp .gt 94, 0, (-1)), (23, .iconst 0, 0, 0), (24, .istore 7, 0, 0)] (by decide +kernel) (z' := (26, [(7, (vI 0)), (0, (vR 4 l0)), (1, (vI l1)), (2, (vI l2)), (3, (vI v3)), (4, (vI v4)), (5, (vI v5)), (6, (vI v6))], [], R, M, 174)) (cs := [¬ (l1 < v6)]) (by rfl) ⟨c_2, trivial⟩ (Nat.le_refl _) ?_
        refine XR.pick [1, 2, 3, 4, 5, 6, 7, 0] (ls' := [(0, (vR 4 l0)), (1, (vI l1)), (2, (vI l2)), (3, (vI v3)), (4, (vI v4)), (5, (vI v5)), (6, (vI v6)), (7, (vI 0))]) rfl ?_
        refine o_P_cheapest_F26 ?_ xfu v3 v4 v5 v6 0 M _ h
        · intro v3_19 v4_20 v5_21 v6_22 M_23 out h
          obtain ⟨v5_24, hv5_24, h⟩ := xl_ex h
          obtain ⟨v6_25, hv6_25, h⟩ := xl_ex h
          refine s_P_cheapest [(102, .iload 5, 0, 0), (104, .iload_n 1, 0, 0), (105, .imul, 0, 0), (106, .istore 5, 0, 0), (108, .iinc 6 1, 0, 0), (111, .goto (-100), 0, 11)] (by decide +kernel) (z' := (11, [(6, (vI v6_25)), (5, (vI v5_24)), (0, (vR 4 l0)), (1, (vI l1)), (2, (vI l2)), (3, (vI v3_19)), (4, (vI v4_20))], [], R, M_23, 174)) (cs := []) (by subst hv5_24; subst hv6_25; rfl) trivial (Nat.le_refl _) ?_
          refine XR.pick [2, 3, 4, 5, 6, 1, 0] (ls' := [(0, (vR 4 l0)), (1, (vI l1)), (2, (vI l2)), (3, (vI v3_19)), (4, (vI v4_20)), (5, (vI v5_24)), (6, (vI v6_25))]) rfl ?_
          exact ih v3_19 v4_20 v5_24 v6_25 M_23 _ h
set_option maxRecDepth 100000 in
set_option maxHeartbeats 4000000 in
theorem o_P_cheapest_J114 {sc : List Int} {R : xR}   {l0 : Nat}  {v3 : Int} {v4 : Int} {M : xM} {out : Int × xM} (h : P_cheapest_J114 R l0  v3 v4 M = some out) : XR false 1 174 sc y_P_cheapest (114, [(0, (vR 4 l0)), (3, (vI v3)), (4, (vI v4))], [], R, M, 174) ((some (vI out.1)), R, out.2) := by
  unfold P_cheapest_J114 at h
  refine s_P_cheapest [(114, .iload_n 3, 0, 0), (115, .iconst (-1), 0, (-1))] (by decide +kernel) (z' := (116, [(0, (vR 4 l0)), (3, (vI v3)), (4, (vI v4))], [(vI (-1)), (vI v3)], R, M, 174)) (cs := []) (by rfl) trivial (Nat.le_refl _) ?_
  rcases xif_ex h with ⟨c_29, h⟩ | ⟨c_29, h⟩
  · skip
    refine s_P_cheapest [(116, .if_icmp .eq 24, 0, 140), (140, .iload_n 3, 0, 0)] (by decide +kernel) (z' := (141, [(0, (vR 4 l0)), (3, (vI v3)), (4, (vI v4))], [(vI v3)], R, M, 174)) (cs := [v3 = -1]) (by rfl) ⟨c_29, trivial⟩ (Nat.le_refl _) ?_
    obtain rfl := Option.some.inj h
    exact XR.retI .int rfl rfl (by decide +kernel)
  · skip
    obtain ⟨M_30, hM_30, h⟩ := xl_ex h
    obtain ⟨c_31, h⟩ := xch_ex h
    refine s_P_cheapest [(116, .if_icmp .eq 24, 0, (-1)), (119, .aload_n 0, 0, 0), (120, .iload 4, 0, 0), (122, .putfield 30, 4, 6), (125, .aload_n 0, 0, 0), (126, .getfield 24, 4, 4), (129, .iconst 0, 0, 0), (130, .aload_n 0, 0, 0), (131, .getfield 27, 4, 5), (134, .iconst 0, 0, 0), (135, .iload 4, 0, 0)] (by decide +kernel) (z' := (137, [(0, (vR 4 l0)), (3, (vI v3)), (4, (vI v4))], [(vI v4), (vI 0), (vR 34 (R l0 5)), (vI 0), (vR 34 (R l0 4))], R, M_30, 174)) (cs := [¬ (v3 = -1)]) (by subst hM_30; rfl) ⟨c_29, trivial⟩ (Nat.le_refl _) ?_
    obtain ⟨M_32, hM_32, h⟩ := xl_ex h
    refine XR.copyI 4 rfl k_4_73 k_acN k_acS k_acI xar_34 xar_34 c_31.1 c_31.2.1 c_31.2.2.1 c_31.2.2.2.1 c_31.2.2.2.2 rfl (by decide) (Nat.le_of_ble_eq_true rfl) (by decide +kernel) ?_
    rw [← hM_32]
    refine s_P_cheapest [(140, .iload_n 3, 0, 0)] (by decide +kernel) (z' := (141, [(0, (vR 4 l0)), (3, (vI v3)), (4, (vI v4))], [(vI v3)], R, M_32, 174)) (cs := []) (by rfl) trivial (Nat.le_refl _) ?_
    obtain rfl := Option.some.inj h
    exact XR.retI .int rfl rfl (by decide +kernel)
set_option maxRecDepth 100000 in
set_option maxHeartbeats 4000000 in
theorem o_P_cheapest {sc : List Int} {R : xR} {M : xM} {l0 : Nat} {l1 : Int} {l2 : Int} {out : Int × xM} (h : f_P_cheapest R l0 l1 l2 M = some out) : XR false 1 174 sc y_P_cheapest (0, [(0, (vR 4 l0)), (1, (vI l1)), (2, (vI l2))], [], R, M, 174) ((some (vI out.1)), R, out.2) := by
  unfold f_P_cheapest at h
  refine s_P_cheapest [(0, .iconst (-1), 0, (-1)), (1, .istore_n 3, 0, 0), (2, .iconst 0, 0, 0), (3, .istore 4, 0, 0), (5, .iconst 1, 0, 1), (6, .istore 5, 0, 0), (8, .iconst 0, 0, 0), (9, .istore 6, 0, 0)] (by decide +kernel) (z' := (11, [(6, (vI 0)), (5, (vI 1)), (4, (vI 0)), (3, (vI (-1))), (0, (vR 4 l0)), (1, (vI l1)), (2, (vI l2))], [], R, M, 174)) (cs := []) (by rfl) trivial (Nat.le_refl _) ?_
  refine XR.pick [4, 5, 6, 3, 2, 1, 0] (ls' := [(0, (vR 4 l0)), (1, (vI l1)), (2, (vI l2)), (3, (vI (-1))), (4, (vI 0)), (5, (vI 1)), (6, (vI 0))]) rfl ?_
  refine o_P_cheapest_F11 ?_ xfu (-1) 0 1 0 M _ h
  · intro v3_26 v4_27 M_28 out h
    exact o_P_cheapest_J114  h
set_option maxRecDepth 100000 in
set_option maxHeartbeats 4000000 in
theorem c_P_cheapest {sc : List Int} {R : xR} {M : xM} {l0 : Nat} {l1 : Int} {l2 : Int} {out : Int × xM} (h : f_P_cheapest R l0 l1 l2 M = some out) : XC false 1 sc y_P_cheapest [(vR 4 l0), (vI l1), (vI l2)] R M 174 174 ((some (vI out.1)), R, out.2) := XC.of (by decide) (Nat.le_of_ble_eq_true rfl) (Nat.le_refl _) (Nat.le_refl _) (o_P_cheapest h)
def f_P_clearLines (R : xR) (l0 : Nat) (M : xM) : Option xM :=
  xl (xu M l0 11 1) fun M_1 =>
  xb1 (f_J_fill_aIIV 35 (R l0 9) 0 M_1) fun M_2 =>
  xb1 (f_J_fill_aIIV 35 (R l0 10) 999 M_2) fun M_4 =>
  some (M_4)
set_option maxRecDepth 100000 in
set_option maxHeartbeats 4000000 in
theorem s_P_clearLines {d : Nat} {sc : List Int} {z z' : xS} {out : xO} (qs : List xI) {cs : List Prop} (hq : qs.all (xqb 4 false y_P_clearLines.2.2.1 y_P_clearLines.2.1) = true) (h : xN false sc qs z = some (z', cs)) (hc : xAll cs) (hE : z'.2.2.2.2.2 ≤ 174) (k : XR false d 174 sc y_P_clearLines z' out) : XR false d 174 sc y_P_clearLines z out := XR.seg 4 false rfl (fun q => by cases q) qs hq h hc hE k
set_option maxRecDepth 100000 in
set_option maxHeartbeats 4000000 in
theorem o_P_clearLines {sc : List Int} {R : xR} {M : xM} {l0 : Nat} {out : xM} (h : f_P_clearLines R l0 M = some out) : XR false 1 174 sc y_P_clearLines (0, [(0, (vR 4 l0))], [], R, M, 174) (none, R, out) := by
  unfold f_P_clearLines at h
  obtain ⟨M_1, hM_1, h⟩ := xl_ex h
  refine s_P_clearLines [(0, .aload_n 0, 0, 0), (1, .iconst 1, 0, 1), (2, .putfield 46, 4, 11), (5, .aload_n 0, 0, 0), (6, .getfield 40, 4, 9), (9, .iconst 0, 0, 0)] (by decide +kernel) (z' := (10, [(0, (vR 4 l0))], [(vI 0), (vR 35 (R l0 9))], R, M_1, 174)) (cs := [(1 : Int) = 0 ∨ (1 : Int) = 1]) (by subst hM_1; rfl) ⟨by decide, trivial⟩ (Nat.le_refl _) ?_
  obtain ⟨M_2, e_3, h⟩ := xb1_ex h
  refine XR.callS 4 rfl (rest := []) m_J_fill_aIIV k_4_81 [(vR 35 (R l0 9)), (vI 0)] rfl rfl (c_J_fill_aIIV (xar_35) e_3) (by decide) (Nat.le_of_ble_eq_true rfl) (by decide +kernel) (Nat.le_refl _) (Nat.le_refl _) ?_
  show XR false 1 174 sc y_P_clearLines (13, [(0, (vR 4 l0))], [], R, M_2, 174) _
  refine s_P_clearLines [(13, .aload_n 0, 0, 0), (14, .getfield 43, 4, 10), (17, .sipush 999, 0, 999)] (by decide +kernel) (z' := (20, [(0, (vR 4 l0))], [(vI 999), (vR 35 (R l0 10))], R, M_2, 174)) (cs := []) (by rfl) trivial (Nat.le_refl _) ?_
  obtain ⟨M_4, e_5, h⟩ := xb1_ex h
  refine XR.callS 4 rfl (rest := []) m_J_fill_aIIV k_4_81 [(vR 35 (R l0 10)), (vI 999)] rfl rfl (c_J_fill_aIIV (xar_35) e_5) (by decide) (Nat.le_of_ble_eq_true rfl) (by decide +kernel) (Nat.le_refl _) (Nat.le_refl _) ?_
  show XR false 1 174 sc y_P_clearLines (23, [(0, (vR 4 l0))], [], R, M_4, 174) _
  obtain rfl := Option.some.inj h
  exact XR.retV rfl (by decide +kernel)
set_option maxRecDepth 100000 in
set_option maxHeartbeats 4000000 in
theorem c_P_clearLines {sc : List Int} {R : xR} {M : xM} {l0 : Nat} {out : xM} (h : f_P_clearLines R l0 M = some out) : XC false 1 sc y_P_clearLines [(vR 4 l0)] R M 174 174 (none, R, out) := XC.of (by decide) (Nat.le_of_ble_eq_true rfl) (Nat.le_refl _) (Nat.le_refl _) (o_P_clearLines h)
def f_P_fits (R : xR) (l0 : Nat) (l1 : Int) (M : xM) : Option Int :=
  if M l0 11 = 0 then
    some (0)
  else
    xch (0 ≤ l1 ∧ l1 < 100) <|
    if M (R l0 10) (Int.toNat l1) < M (R l0 9) (Int.toNat l1) then
      some (0)
    else
      some (1)
set_option maxRecDepth 100000 in
set_option maxHeartbeats 4000000 in
theorem s_P_fits {d : Nat} {sc : List Int} {z z' : xS} {out : xO} (qs : List xI) {cs : List Prop} (hq : qs.all (xqb 4 false y_P_fits.2.2.1 y_P_fits.2.1) = true) (h : xN false sc qs z = some (z', cs)) (hc : xAll cs) (hE : z'.2.2.2.2.2 ≤ 174) (k : XR false d 174 sc y_P_fits z' out) : XR false d 174 sc y_P_fits z out := XR.seg 4 false rfl (fun q => by cases q) qs hq h hc hE k
set_option maxRecDepth 100000 in
set_option maxHeartbeats 4000000 in
theorem o_P_fits {sc : List Int} {R : xR} {M : xM} {l0 : Nat} {l1 : Int} {out : Int} (h : f_P_fits R l0 l1 M = some out) : XR false 0 174 sc y_P_fits (0, [(0, (vR 4 l0)), (1, (vI l1))], [], R, M, 174) ((some (vI out)), R, M) := by
  unfold f_P_fits at h
  refine s_P_fits [(0, .aload_n 0, 0, 0), (1, .getfield 46, 4, 11)] (by decide +kernel) (z' := (4, [(0, (vR 4 l0)), (1, (vI l1))], [(vI (M l0 11))], R, M, 174)) (cs := []) (by rfl) trivial (Nat.le_refl _) ?_
  rcases xif_ex h with ⟨c_1, h⟩ | ⟨c_1, h⟩
  · skip
    refine s_P_fits [(4, .ifCond .eq 22, 0, 26), (26, .iconst 0, 0, 0)] (by decide +kernel) (z' := (27, [(0, (vR 4 l0)), (1, (vI l1))], [(vI 0)], R, M, 174)) (cs := [M l0 11 = 0]) (by rfl) ⟨c_1, trivial⟩ (Nat.le_refl _) ?_
    obtain rfl := Option.some.inj h
    exact XR.retI .boolean rfl (xnar_z (by decide)) (by decide +kernel)
  · skip
    obtain ⟨c_2, h⟩ := xch_ex h
    refine s_P_fits [(4, .ifCond .eq 22, 0, (-1)), (7, .aload_n 0, 0, 0), (8, .getfield 40, 4, 9), (11, .iload_n 1, 0, 0), (12, .iaload, 0, 0), (13, .aload_n 0, 0, 0), (14, .getfield 43, 4, 10), (17, .iload_n 1, 0, 0), (18, .iaload, 0, 0)] (by decide +kernel) (z' := (19, [(0, (vR 4 l0)), (1, (vI l1))], [(vI (M (R l0 10) (Int.toNat l1))), (vI (M (R l0 9) (Int.toNat l1)))], R, M, 174)) (cs := [¬ (M l0 11 = 0), xar 35 0, xidx l1 (xan 35), xar 35 0, xidx l1 (xan 35)]) (by rfl) ⟨c_1, xar_35, xix_35 c_2, xar_35, xix_35 c_2, trivial⟩ (Nat.le_refl _) ?_
    rcases xif_ex h with ⟨c_3, h⟩ | ⟨c_3, h⟩
    · skip
      refine s_P_fits [(19, .if_icmp .gt 7, 0, 26), (26, .iconst 0, 0, 0)] (by decide +kernel) (z' := (27, [(0, (vR 4 l0)), (1, (vI l1))], [(vI 0)], R, M, 174)) (cs := [M (R l0 10) (Int.toNat l1) < M (R l0 9) (Int.toNat l1)]) (by rfl) ⟨c_3, trivial⟩ (Nat.le_refl _) ?_
      obtain rfl := Option.some.inj h
      exact XR.retI .boolean rfl (xnar_z (by decide)) (by decide +kernel)
    · skip
      refine s_P_fits [(19, .if_icmp .gt 7, 0, (-1)), (22, .iconst 1, 0, 1), (23, .goto 4, 0, 27)] (by decide +kernel) (z' := (27, [(0, (vR 4 l0)), (1, (vI l1))], [(vI 1)], R, M, 174)) (cs := [¬ (M (R l0 10) (Int.toNat l1) < M (R l0 9) (Int.toNat l1))]) (by rfl) ⟨c_3, trivial⟩ (Nat.le_refl _) ?_
      obtain rfl := Option.some.inj h
      exact XR.retI .boolean rfl (xnar_z (by decide)) (by decide +kernel)
set_option maxRecDepth 100000 in
set_option maxHeartbeats 4000000 in
theorem c_P_fits {sc : List Int} {R : xR} {M : xM} {l0 : Nat} {l1 : Int} {out : Int} (h : f_P_fits R l0 l1 M = some out) : XC false 0 sc y_P_fits [(vR 4 l0), (vI l1)] R M 174 174 ((some (vI out)), R, M) := XC.of (by decide) (Nat.le_of_ble_eq_true rfl) (Nat.le_refl _) (Nat.le_refl _) (o_P_fits h)
def P_countLines_J36 (R : xR) (M : xM) (l0 : Nat) (rc : Int → Int → Option Int) (v1 : Int) (v2 : Int) : Option Int :=
  xl (w32 (v2 + 1)) fun v2_5 =>
  rc v1 v2_5
def P_countLines_F4 (R : xR) (M : xM) (l0 : Nat) : Nat → Int → Int → Option Int
  | 0, _, _ => none
  | n + 1, v1, v2 =>
    if v2 < 100 then
      xb1 (f_P_fits R l0 v2 M) fun r_2 =>
      if r_2 = 0 then
        P_countLines_J36 R M l0 (P_countLines_F4 R M l0  n) v1 v2
      else
        xch (0 ≤ v2 ∧ v2 < 100) <|
        xl (w32 (v1 + (w32 ((w32 ((M (R l0 10) (Int.toNat v2)) - (M (R l0 9) (Int.toNat v2)))) + 1)))) fun v1_7 =>
        P_countLines_J36 R M l0 (P_countLines_F4 R M l0  n) v1_7 v2
    else
      some (v1)
def f_P_countLines (R : xR) (l0 : Nat) (M : xM) : Option Int :=
  P_countLines_F4 R M l0
    xfu 0 0
set_option maxRecDepth 100000 in
set_option maxHeartbeats 4000000 in
theorem s_P_countLines {d : Nat} {sc : List Int} {z z' : xS} {out : xO} (qs : List xI) {cs : List Prop} (hq : qs.all (xqb 4 false y_P_countLines.2.2.1 y_P_countLines.2.1) = true) (h : xN false sc qs z = some (z', cs)) (hc : xAll cs) (hE : z'.2.2.2.2.2 ≤ 174) (k : XR false d 174 sc y_P_countLines z' out) : XR false d 174 sc y_P_countLines z out := XR.seg 4 false rfl (fun q => by cases q) qs hq h hc hE k
set_option maxRecDepth 100000 in
set_option maxHeartbeats 4000000 in
theorem o_P_countLines_J36 {sc : List Int} {R : xR} {M : xM}  {l0 : Nat}  {rc : Int → Int → Option Int} (hrc : ∀ (w1 : Int) (w2 : Int) (out : Int), rc w1 w2 = some out → XR false 1 174 sc y_P_countLines (4, [(0, (vR 4 l0)), (1, (vI w1)), (2, (vI w2))], [], R, M, 174) ((some (vI out)), R, M)) {v1 : Int} {v2 : Int} {out : Int} (h : P_countLines_J36 R M l0 rc v1 v2 = some out) : XR false 1 174 sc y_P_countLines (36, [(0, (vR 4 l0)), (1, (vI v1)), (2, (vI v2))], [], R, M, 174) ((some (vI out)), R, M) := by
  unfold P_countLines_J36 at h
  obtain ⟨v2_5, hv2_5, h⟩ := xl_ex h
  refine s_P_countLines [(36, .iinc 2 1, 0, 0), (39, .goto (-35), 0, 4)] (by decide +kernel) (z' := (4, [(2, (vI v2_5)), (0, (vR 4 l0)), (1, (vI v1))], [], R, M, 174)) (cs := []) (by subst hv2_5; rfl) trivial (Nat.le_refl _) ?_
  refine XR.pick [1, 2, 0] (ls' := [(0, (vR 4 l0)), (1, (vI v1)), (2, (vI v2_5))]) rfl ?_
  exact hrc v1 v2_5 _ h
set_option maxRecDepth 100000 in
set_option maxHeartbeats 4000000 in
theorem o_P_countLines_F4 {sc : List Int} {R : xR} {M : xM}  {l0 : Nat}  : ∀ (n : Nat) (v1 : Int) (v2 : Int) (out : Int), P_countLines_F4 R M l0  n v1 v2 = some out → XR false 1 174 sc y_P_countLines (4, [(0, (vR 4 l0)), (1, (vI v1)), (2, (vI v2))], [], R, M, 174) ((some (vI out)), R, M) := by
  intro n
  induction n with
  | zero => intro v1 v2 out h; exact (xno h).elim
  | succ n ih =>
    intro v1 v2 out h
    rw [P_countLines_F4] at h
    refine s_P_countLines [(4, .iload_n 2, 0, 0), (5, .bipush 100, 0, 100)] (by decide +kernel) (z' := (7, [(0, (vR 4 l0)), (1, (vI v1)), (2, (vI v2))], [(vI 100), (vI v2)], R, M, 174)) (cs := []) (by rfl) trivial (Nat.le_refl _) ?_
    rcases xif_ex h with ⟨c_1, h⟩ | ⟨c_1, h⟩
    · skip
      refine s_P_countLines [(7, .if_icmp .ge 35, 0, (-1)), (10, .aload_n 0, 0, 0), (11, .iload_n 2, 0, 0)] (by decide +kernel) (z' := (12, [(0, (vR 4 l0)), (1, (vI v1)), (2, (vI v2))], [(vI v2), (vR 4 l0)], R, M, 174)) (cs := [¬ (100 ≤ v2)]) (by rfl) ⟨Int.not_le.mpr c_1, trivial⟩ (Nat.le_refl _) ?_
      obtain ⟨r_2, e_3, h⟩ := xb1_ex h
      refine XR.callV 4 rfl (rest := []) m_P_fits k_4_99 4 l0 (Or.inl ⟨by decide, rfl⟩) [(vI v2)] rfl rfl (c_P_fits e_3) (by decide) (Nat.le_of_ble_eq_true rfl) (by decide +kernel) (Nat.le_refl _) (Nat.le_refl _) ?_
      show XR false 1 174 sc y_P_countLines (15, [(0, (vR 4 l0)), (1, (vI v1)), (2, (vI v2))], [(vI r_2)], R, M, 174) _
      rcases xif_ex h with ⟨c_4, h⟩ | ⟨c_4, h⟩
      · skip
        refine s_P_countLines [(15, .ifCond .eq 21, 0, 36)] (by decide +kernel) (z' := (36, [(0, (vR 4 l0)), (1, (vI v1)), (2, (vI v2))], [], R, M, 174)) (cs := [r_2 = 0]) (by rfl) ⟨c_4, trivial⟩ (Nat.le_refl _) ?_
        exact o_P_countLines_J36 ih h
      · skip
        obtain ⟨c_6, h⟩ := xch_ex h
        obtain ⟨v1_7, hv1_7, h⟩ := xl_ex h
        refine s_P_countLines [(15, .ifCond .eq 21, 0, (-1)), (18, .iload_n 1, 0, 0), (19, .aload_n 0, 0, 0), (20, .getfield 43, 4, 10), (23, .iload_n 2, 0, 0), (24, .iaload, 0, 0), (25, .aload_n 0, 0, 0), (26, .getfield 40, 4, 9), (29, .iload_n 2, 0, 0), (30, .iaload, 0, 0), (31, .isub, 0, 0), (32, .iconst 1, 0, 1), (33, .iadd, 0, 0), (34, .iadd, 0, 0), (35, .istore_n 1, 0, 0)] (by decide +kernel) (z' := (36, [(1, (vI v1_7)), (0, (vR 4 l0)), (2, (vI v2))], [], R, M, 174)) (cs := [¬ (r_2 = 0), xar 35 0, xidx v2 (xan 35), xar 35 0, xidx v2 (xan 35)]) (by subst hv1_7; rfl) ⟨c_4, xar_35, xix_35 c_6, xar_35, xix_35 c_6, trivial⟩ (Nat.le_refl _) ?_
        refine XR.pick [1, 0, 2] (ls' := [(0, (vR 4 l0)), (1, (vI v1_7)), (2, (vI v2))]) rfl ?_
        exact o_P_countLines_J36 ih h
    · skip
      refine s_P_countLines [(7, .if_icmp .ge 35, 0, 42), (42, .iload_n 1, 0, 0)] (by decide +kernel) (z' := (43, [(0, (vR 4 l0)), (1, (vI v1)), (2, (vI v2))], [(vI v1)], R, M, 174)) (cs := [100 ≤ v2]) (by rfl) ⟨Int.not_lt.mp c_1, trivial⟩ (Nat.le_refl _) ?_
      obtain rfl := Option.some.inj h
      exact XR.retI .int rfl rfl (by decide +kernel)
set_option maxRecDepth 100000 in
set_option maxHeartbeats 4000000 in
theorem o_P_countLines {sc : List Int} {R : xR} {M : xM} {l0 : Nat} {out : Int} (h : f_P_countLines R l0 M = some out) : XR false 1 174 sc y_P_countLines (0, [(0, (vR 4 l0))], [], R, M, 174) ((some (vI out)), R, M) := by
  unfold f_P_countLines at h
  refine s_P_countLines [(0, .iconst 0, 0, 0), (1, .istore_n 1, 0, 0), (2, .iconst 0, 0, 0), (3, .istore_n 2, 0, 0)] (by decide +kernel) (z' := (4, [(2, (vI 0)), (1, (vI 0)), (0, (vR 4 l0))], [], R, M, 174)) (cs := []) (by rfl) trivial (Nat.le_refl _) ?_
  refine XR.pick [2, 1, 0] (ls' := [(0, (vR 4 l0)), (1, (vI 0)), (2, (vI 0))]) rfl ?_
  refine o_P_countLines_F4  xfu 0 0 _ h
set_option maxRecDepth 100000 in
set_option maxHeartbeats 4000000 in
theorem c_P_countLines {sc : List Int} {R : xR} {M : xM} {l0 : Nat} {out : Int} (h : f_P_countLines R l0 M = some out) : XC false 1 sc y_P_countLines [(vR 4 l0)] R M 174 174 ((some (vI out)), R, M) := XC.of (by decide) (Nat.le_of_ble_eq_true rfl) (Nat.le_refl _) (Nat.le_refl _) (o_P_countLines h)
def f_P_hindranceWithOneMore (R : xR) (l0 : Nat) (l1 : Int) (M : xM) : Option Int :=
  xch (0 ≤ l1 ∧ l1 < 8) <|
  xl (w32 ((M (R l0 8) (Int.toNat l1)) + 1)) fun v2_2 =>
  some (w32 ((w32 ((M (R l0 7) (Int.toNat l1)) * v2_2)) * v2_2))
set_option maxRecDepth 100000 in
set_option maxHeartbeats 4000000 in
theorem s_P_hindranceWithOneMore {d : Nat} {sc : List Int} {z z' : xS} {out : xO} (qs : List xI) {cs : List Prop} (hq : qs.all (xqb 4 false y_P_hindranceWithOneMore.2.2.1 y_P_hindranceWithOneMore.2.1) = true) (h : xN false sc qs z = some (z', cs)) (hc : xAll cs) (hE : z'.2.2.2.2.2 ≤ 174) (k : XR false d 174 sc y_P_hindranceWithOneMore z' out) : XR false d 174 sc y_P_hindranceWithOneMore z out := XR.seg 4 false rfl (fun q => by cases q) qs hq h hc hE k
set_option maxRecDepth 100000 in
set_option maxHeartbeats 4000000 in
theorem o_P_hindranceWithOneMore {sc : List Int} {R : xR} {M : xM} {l0 : Nat} {l1 : Int} {out : Int} (h : f_P_hindranceWithOneMore R l0 l1 M = some out) : XR false 0 174 sc y_P_hindranceWithOneMore (0, [(0, (vR 4 l0)), (1, (vI l1))], [], R, M, 174) ((some (vI out)), R, M) := by
  unfold f_P_hindranceWithOneMore at h
  obtain ⟨c_1, h⟩ := xch_ex h
  obtain ⟨v2_2, hv2_2, h⟩ := xl_ex h
  refine s_P_hindranceWithOneMore [(0, .aload_n 0, 0, 0), (1, .getfield 37, 4, 8), (4, .iload_n 1, 0, 0), (5, .iaload, 0, 0), (6, .iconst 1, 0, 1), (7, .iadd, 0, 0), (8, .istore_n 2, 0, 0), (9, .aload_n 0, 0, 0), (10, .getfield 34, 4, 7), (13, .iload_n 1, 0, 0), (14, .iaload, 0, 0), (15, .iload_n 2, 0, 0), (16, .imul, 0, 0), (17, .iload_n 2, 0, 0), (18, .imul, 0, 0)] (by decide +kernel) (z' := (19, [(2, (vI v2_2)), (0, (vR 4 l0)), (1, (vI l1))], [(vI (w32 ((w32 ((M (R l0 7) (Int.toNat l1)) * v2_2)) * v2_2)))], R, M, 174)) (cs := [xar 30 0, xidx l1 (xan 30), xar 30 0, xidx l1 (xan 30)]) (by subst hv2_2; rfl) ⟨xar_30, xix_30 c_1, xar_30, xix_30 c_1, trivial⟩ (Nat.le_refl _) ?_
  obtain rfl := Option.some.inj h
  exact XR.retI .int rfl rfl (by decide +kernel)
set_option maxRecDepth 100000 in
set_option maxHeartbeats 4000000 in
theorem c_P_hindranceWithOneMore {sc : List Int} {R : xR} {M : xM} {l0 : Nat} {l1 : Int} {out : Int} (h : f_P_hindranceWithOneMore R l0 l1 M = some out) : XC false 0 sc y_P_hindranceWithOneMore [(vR 4 l0), (vI l1)] R M 174 174 ((some (vI out)), R, M) := XC.of (by decide) (Nat.le_of_ble_eq_true rfl) (Nat.le_refl _) (Nat.le_refl _) (o_P_hindranceWithOneMore h)
def P_leastTold_J44 (R : xR) (M : xM) (l0 : Nat) (l1 : Int) (rc : Int → Int → Option Int) (v2 : Int) (v3 : Int) : Option Int :=
  xl (w32 (v3 + 1)) fun v3_7 =>
  rc v2 v3_7
def P_leastTold_J41 (R : xR) (M : xM) (l0 : Nat) (l1 : Int) (rc : Int → Int → Option Int) (v3 : Int) (v4 : Int) : Option Int :=
  P_leastTold_J44 R M l0 l1 rc v4 v3
def P_leastTold_F4 (R : xR) (M : xM) (l0 : Nat) (l1 : Int) : Nat → Int → Int → Option Int
  | 0, _, _ => none
  | n + 1, v2, v3 =>
    if v3 < 100 then
      xch (0 ≤ v3 ∧ v3 < 100) <|
      xl (w32 ((w32 (v3 * l1)) + (M (R l0 9) (Int.toNat v3)))) fun v4_3 =>
      xb1 (f_P_fits R l0 v3 M) fun r_4 =>
      if r_4 = 0 then
        P_leastTold_J44 R M l0 l1 (P_leastTold_F4 R M l0 l1  n) v2 v3
      else
        if v2 = -1 then
          P_leastTold_J41 R M l0 l1 (P_leastTold_F4 R M l0 l1  n) v3 v4_3
        else
          if v4_3 < v2 then
            P_leastTold_J41 R M l0 l1 (P_leastTold_F4 R M l0 l1  n) v3 v4_3
          else
            P_leastTold_J44 R M l0 l1 (P_leastTold_F4 R M l0 l1  n) v2 v3
    else
      some (v2)
def f_P_leastTold (R : xR) (l0 : Nat) (l1 : Int) (M : xM) : Option Int :=
  P_leastTold_F4 R M l0 l1
    xfu (-1) 0
set_option maxRecDepth 100000 in
set_option maxHeartbeats 4000000 in
theorem s_P_leastTold {d : Nat} {sc : List Int} {z z' : xS} {out : xO} (qs : List xI) {cs : List Prop} (hq : qs.all (xqb 4 false y_P_leastTold.2.2.1 y_P_leastTold.2.1) = true) (h : xN false sc qs z = some (z', cs)) (hc : xAll cs) (hE : z'.2.2.2.2.2 ≤ 174) (k : XR false d 174 sc y_P_leastTold z' out) : XR false d 174 sc y_P_leastTold z out := XR.seg 4 false rfl (fun q => by cases q) qs hq h hc hE k
set_option maxRecDepth 100000 in
set_option maxHeartbeats 4000000 in
theorem o_P_leastTold_J44 {sc : List Int} {R : xR} {M : xM}  {l0 : Nat} {l1 : Int}  {rc : Int → Int → Option Int} (hrc : ∀ (w2 : Int) (w3 : Int) (out : Int), rc w2 w3 = some out → XR false 1 174 sc y_P_leastTold (4, [(0, (vR 4 l0)), (1, (vI l1)), (2, (vI w2)), (3, (vI w3))], [], R, M, 174) ((some (vI out)), R, M)) {v2 : Int} {v3 : Int} {out : Int} (h : P_leastTold_J44 R M l0 l1 rc v2 v3 = some out) : XR false 1 174 sc y_P_leastTold (44, [(0, (vR 4 l0)), (1, (vI l1)), (2, (vI v2)), (3, (vI v3))], [], R, M, 174) ((some (vI out)), R, M) := by
  unfold P_leastTold_J44 at h
  obtain ⟨v3_7, hv3_7, h⟩ := xl_ex h
  refine s_P_leastTold [(44, .iinc 3 1, 0, 0), (47, .goto (-43), 0, 4)] (by decide +kernel) (z' := (4, [(3, (vI v3_7)), (0, (vR 4 l0)), (1, (vI l1)), (2, (vI v2))], [], R, M, 174)) (cs := []) (by subst hv3_7; rfl) trivial (Nat.le_refl _) ?_
  refine XR.pick [1, 2, 3, 0] (ls' := [(0, (vR 4 l0)), (1, (vI l1)), (2, (vI v2)), (3, (vI v3_7))]) rfl ?_
  exact hrc v2 v3_7 _ h
set_option maxRecDepth 100000 in
set_option maxHeartbeats 4000000 in
theorem o_P_leastTold_J41 {sc : List Int} {R : xR} {M : xM}  {l0 : Nat} {l1 : Int}  {rc : Int → Int → Option Int} (hrc : ∀ (w2 : Int) (w3 : Int) (out : Int), rc w2 w3 = some out → XR false 1 174 sc y_P_leastTold (4, [(0, (vR 4 l0)), (1, (vI l1)), (2, (vI w2)), (3, (vI w3))], [], R, M, 174) ((some (vI out)), R, M)) {v3 : Int} {v4 : Int} {out : Int} (h : P_leastTold_J41 R M l0 l1 rc v3 v4 = some out) : XR false 1 174 sc y_P_leastTold (41, [(0, (vR 4 l0)), (1, (vI l1)), (3, (vI v3)), (4, (vI v4))], [], R, M, 174) ((some (vI out)), R, M) := by
  unfold P_leastTold_J41 at h
  refine s_P_leastTold [(41, .iload 4, 0, 0), (43, .istore_n 2, 0, 0)] (by decide +kernel) (z' := (44, [(2, (vI v4)), (0, (vR 4 l0)), (1, (vI l1)), (3, (vI v3)), (4, (vI v4))], [], R, M, 174)) (cs := []) (by rfl) trivial (Nat.le_refl _) ?_
  refine XR.pick [1, 2, 0, 3] (ls' := [(0, (vR 4 l0)), (1, (vI l1)), (2, (vI v4)), (3, (vI v3))]) rfl ?_
  exact o_P_leastTold_J44 hrc h
set_option maxRecDepth 100000 in
set_option maxHeartbeats 4000000 in
theorem o_P_leastTold_F4 {sc : List Int} {R : xR} {M : xM}  {l0 : Nat} {l1 : Int}  : ∀ (n : Nat) (v2 : Int) (v3 : Int) (out : Int), P_leastTold_F4 R M l0 l1  n v2 v3 = some out → XR false 1 174 sc y_P_leastTold (4, [(0, (vR 4 l0)), (1, (vI l1)), (2, (vI v2)), (3, (vI v3))], [], R, M, 174) ((some (vI out)), R, M) := by
  intro n
  induction n with
  | zero => intro v2 v3 out h; exact (xno h).elim
  | succ n ih =>
    intro v2 v3 out h
    rw [P_leastTold_F4] at h
    refine s_P_leastTold [(4, .iload_n 3, 0, 0), (5, .bipush 100, 0, 100)] (by decide +kernel) (z' := (7, [(0, (vR 4 l0)), (1, (vI l1)), (2, (vI v2)), (3, (vI v3))], [(vI 100), (vI v3)], R, M, 174)) (cs := []) (by rfl) trivial (Nat.le_refl _) ?_
    rcases xif_ex h with ⟨c_1, h⟩ | ⟨c_1, h⟩
    · skip
      obtain ⟨c_2, h⟩ := xch_ex h
      obtain ⟨v4_3, hv4_3, h⟩ := xl_ex h
      refine s_P_leastTold [(7, .if_icmp .ge 43, 0, (-1)), (10, .iload_n 3, 0, 0), (11, .iload_n 1, 0, 0), (12, .imul, 0, 0), (13, .aload_n 0, 0, 0), (14, .getfield 40, 4, 9), (17, .iload_n 3, 0, 0), (18, .iaload, 0, 0), (19, .iadd, 0, 0), (20, .istore 4, 0, 0), (22, .aload_n 0, 0, 0), (23, .iload_n 3, 0, 0)] (by decide +kernel) (z' := (24, [(4, (vI v4_3)), (0, (vR 4 l0)), (1, (vI l1)), (2, (vI v2)), (3, (vI v3))], [(vI v3), (vR 4 l0)], R, M, 174)) (cs := [¬ (100 ≤ v3), xar 35 0, xidx v3 (xan 35)]) (by subst hv4_3; rfl) ⟨Int.not_le.mpr c_1, xar_35, xix_35 c_2, trivial⟩ (Nat.le_refl _) ?_
      obtain ⟨r_4, e_5, h⟩ := xb1_ex h
      refine XR.callV 4 rfl (rest := []) m_P_fits k_4_99 4 l0 (Or.inl ⟨by decide, rfl⟩) [(vI v3)] rfl rfl (c_P_fits e_5) (by decide) (Nat.le_of_ble_eq_true rfl) (by decide +kernel) (Nat.le_refl _) (Nat.le_refl _) ?_
      show XR false 1 174 sc y_P_leastTold (27, [(4, (vI v4_3)), (0, (vR 4 l0)), (1, (vI l1)), (2, (vI v2)), (3, (vI v3))], [(vI r_4)], R, M, 174) _
      rcases xif_ex h with ⟨c_6, h⟩ | ⟨c_6, h⟩
      · skip
        refine s_P_leastTold [(27, .ifCond .eq 17, 0, 44)] (by decide +kernel) (z' := (44, [(4, (vI v4_3)), (0, (vR 4 l0)), (1, (vI l1)), (2, (vI v2)), (3, (vI v3))], [], R, M, 174)) (cs := [r_4 = 0]) (by rfl) ⟨c_6, trivial⟩ (Nat.le_refl _) ?_
        refine XR.pick [1, 2, 3, 4] (ls' := [(0, (vR 4 l0)), (1, (vI l1)), (2, (vI v2)), (3, (vI v3))]) rfl ?_
        exact o_P_leastTold_J44 ih h
      · skip
        refine s_P_leastTold [(27, .ifCond .eq 17, 0, (-1)), (30, .iload_n 2, 0, 0), (31, .iconst (-1), 0, (-1))] (by decide +kernel) (z' := (32, [(4, (vI v4_3)), (0, (vR 4 l0)), (1, (vI l1)), (2, (vI v2)), (3, (vI v3))], [(vI (-1)), (vI v2)], R, M, 174)) (cs := [¬ (r_4 = 0)]) (by rfl) ⟨c_6, trivial⟩ (Nat.le_refl _) ?_
        rcases xif_ex h with ⟨c_8, h⟩ | ⟨c_8, h⟩
        · skip
          refine s_P_leastTold [(32, .if_icmp .eq 9, 0, 41)] (by decide +kernel) (z' := (41, [(4, (vI v4_3)), (0, (vR 4 l0)), (1, (vI l1)), (2, (vI v2)), (3, (vI v3))], [], R, M, 174)) (cs := [v2 = -1]) (by rfl) ⟨c_8, trivial⟩ (Nat.le_refl _) ?_
          refine XR.pick [1, 2, 4, 0] (ls' := [(0, (vR 4 l0)), (1, (vI l1)), (3, (vI v3)), (4, (vI v4_3))]) rfl ?_
          exact o_P_leastTold_J41 ih h
        · skip
          refine s_P_leastTold [(32, .if_icmp .eq 9, 0, (-1)), (35, .iload 4, 0, 0), (37, .iload_n 2, 0, 0)] (by decide +kernel) (z' := (38, [(4, (vI v4_3)), (0, (vR 4 l0)), (1, (vI l1)), (2, (vI v2)), (3, (vI v3))], [(vI v2), (vI v4_3)], R, M, 174)) (cs := [¬ (v2 = -1)]) (by rfl) ⟨c_8, trivial⟩ (Nat.le_refl _) ?_
          rcases xif_ex h with ⟨c_9, h⟩ | ⟨c_9, h⟩
          · skip
            refine s_P_leastTold [(38, .if_icmp .ge 6, 0, (-1))] (by decide +kernel) (z' := (41, [(4, (vI v4_3)), (0, (vR 4 l0)), (1, (vI l1)), (2, (vI v2)), (3, (vI v3))], [], R, M, 174)) (cs := [¬ (v2 ≤ v4_3)]) (by rfl) ⟨Int.not_le.mpr c_9, trivial⟩ (Nat.le_refl _) ?_
            refine XR.pick [1, 2, 4, 0] (ls' := [(0, (vR 4 l0)), (1, (vI l1)), (3, (vI v3)), (4, (vI v4_3))]) rfl ?_
            exact o_P_leastTold_J41 ih h
          · skip
            refine s_P_leastTold [(38, .if_icmp .ge 6, 0, 44)] (by decide +kernel) (z' := (44, [(4, (vI v4_3)), (0, (vR 4 l0)), (1, (vI l1)), (2, (vI v2)), (3, (vI v3))], [], R, M, 174)) (cs := [v2 ≤ v4_3]) (by rfl) ⟨Int.not_lt.mp c_9, trivial⟩ (Nat.le_refl _) ?_
            refine XR.pick [1, 2, 3, 4] (ls' := [(0, (vR 4 l0)), (1, (vI l1)), (2, (vI v2)), (3, (vI v3))]) rfl ?_
            exact o_P_leastTold_J44 ih h
    · skip
      refine s_P_leastTold [(7, .if_icmp .ge 43, 0, 50), (50, .iload_n 2, 0, 0)] (by decide +kernel) (z' := (51, [(0, (vR 4 l0)), (1, (vI l1)), (2, (vI v2)), (3, (vI v3))], [(vI v2)], R, M, 174)) (cs := [100 ≤ v3]) (by rfl) ⟨Int.not_lt.mp c_1, trivial⟩ (Nat.le_refl _) ?_
      obtain rfl := Option.some.inj h
      exact XR.retI .int rfl rfl (by decide +kernel)
set_option maxRecDepth 100000 in
set_option maxHeartbeats 4000000 in
theorem o_P_leastTold {sc : List Int} {R : xR} {M : xM} {l0 : Nat} {l1 : Int} {out : Int} (h : f_P_leastTold R l0 l1 M = some out) : XR false 1 174 sc y_P_leastTold (0, [(0, (vR 4 l0)), (1, (vI l1))], [], R, M, 174) ((some (vI out)), R, M) := by
  unfold f_P_leastTold at h
  refine s_P_leastTold [(0, .iconst (-1), 0, (-1)), (1, .istore_n 2, 0, 0), (2, .iconst 0, 0, 0), (3, .istore_n 3, 0, 0)] (by decide +kernel) (z' := (4, [(3, (vI 0)), (2, (vI (-1))), (0, (vR 4 l0)), (1, (vI l1))], [], R, M, 174)) (cs := []) (by rfl) trivial (Nat.le_refl _) ?_
  refine XR.pick [2, 3, 1, 0] (ls' := [(0, (vR 4 l0)), (1, (vI l1)), (2, (vI (-1))), (3, (vI 0))]) rfl ?_
  refine o_P_leastTold_F4  xfu (-1) 0 _ h
set_option maxRecDepth 100000 in
set_option maxHeartbeats 4000000 in
theorem c_P_leastTold {sc : List Int} {R : xR} {M : xM} {l0 : Nat} {l1 : Int} {out : Int} (h : f_P_leastTold R l0 l1 M = some out) : XC false 1 sc y_P_leastTold [(vR 4 l0), (vI l1)] R M 174 174 ((some (vI out)), R, M) := XC.of (by decide) (Nat.le_of_ble_eq_true rfl) (Nat.le_refl _) (Nat.le_refl _) (o_P_leastTold h)
def P_mostTold_J39 (R : xR) (M : xM) (l0 : Nat) (l1 : Int) (rc : Int → Int → Option Int) (v2 : Int) (v3 : Int) : Option Int :=
  xl (w32 (v3 + 1)) fun v3_7 =>
  rc v2 v3_7
def P_mostTold_F4 (R : xR) (M : xM) (l0 : Nat) (l1 : Int) : Nat → Int → Int → Option Int
  | 0, _, _ => none
  | n + 1, v2, v3 =>
    if v3 < 100 then
      xch (0 ≤ v3 ∧ v3 < 100) <|
      xl (w32 ((w32 (v3 * l1)) + (M (R l0 10) (Int.toNat v3)))) fun v4_3 =>
      xb1 (f_P_fits R l0 v3 M) fun r_4 =>
      if r_4 = 0 then
        P_mostTold_J39 R M l0 l1 (P_mostTold_F4 R M l0 l1  n) v2 v3
      else
        if v2 < v4_3 then
          P_mostTold_J39 R M l0 l1 (P_mostTold_F4 R M l0 l1  n) v4_3 v3
        else
          P_mostTold_J39 R M l0 l1 (P_mostTold_F4 R M l0 l1  n) v2 v3
    else
      some (v2)
def f_P_mostTold (R : xR) (l0 : Nat) (l1 : Int) (M : xM) : Option Int :=
  P_mostTold_F4 R M l0 l1
    xfu (-1) 0
set_option maxRecDepth 100000 in
set_option maxHeartbeats 4000000 in
theorem s_P_mostTold {d : Nat} {sc : List Int} {z z' : xS} {out : xO} (qs : List xI) {cs : List Prop} (hq : qs.all (xqb 4 false y_P_mostTold.2.2.1 y_P_mostTold.2.1) = true) (h : xN false sc qs z = some (z', cs)) (hc : xAll cs) (hE : z'.2.2.2.2.2 ≤ 174) (k : XR false d 174 sc y_P_mostTold z' out) : XR false d 174 sc y_P_mostTold z out := XR.seg 4 false rfl (fun q => by cases q) qs hq h hc hE k
set_option maxRecDepth 100000 in
set_option maxHeartbeats 4000000 in
theorem o_P_mostTold_J39 {sc : List Int} {R : xR} {M : xM}  {l0 : Nat} {l1 : Int}  {rc : Int → Int → Option Int} (hrc : ∀ (w2 : Int) (w3 : Int) (out : Int), rc w2 w3 = some out → XR false 1 174 sc y_P_mostTold (4, [(0, (vR 4 l0)), (1, (vI l1)), (2, (vI w2)), (3, (vI w3))], [], R, M, 174) ((some (vI out)), R, M)) {v2 : Int} {v3 : Int} {out : Int} (h : P_mostTold_J39 R M l0 l1 rc v2 v3 = some out) : XR false 1 174 sc y_P_mostTold (39, [(0, (vR 4 l0)), (1, (vI l1)), (2, (vI v2)), (3, (vI v3))], [], R, M, 174) ((some (vI out)), R, M) := by
  unfold P_mostTold_J39 at h
  obtain ⟨v3_7, hv3_7, h⟩ := xl_ex h
  refine s_P_mostTold [(39, .iinc 3 1, 0, 0), (42, .goto (-38), 0, 4)] (by decide +kernel) (z' := (4, [(3, (vI v3_7)), (0, (vR 4 l0)), (1, (vI l1)), (2, (vI v2))], [], R, M, 174)) (cs := []) (by subst hv3_7; rfl) trivial (Nat.le_refl _) ?_
  refine XR.pick [1, 2, 3, 0] (ls' := [(0, (vR 4 l0)), (1, (vI l1)), (2, (vI v2)), (3, (vI v3_7))]) rfl ?_
  exact hrc v2 v3_7 _ h
set_option maxRecDepth 100000 in
set_option maxHeartbeats 4000000 in
theorem o_P_mostTold_F4 {sc : List Int} {R : xR} {M : xM}  {l0 : Nat} {l1 : Int}  : ∀ (n : Nat) (v2 : Int) (v3 : Int) (out : Int), P_mostTold_F4 R M l0 l1  n v2 v3 = some out → XR false 1 174 sc y_P_mostTold (4, [(0, (vR 4 l0)), (1, (vI l1)), (2, (vI v2)), (3, (vI v3))], [], R, M, 174) ((some (vI out)), R, M) := by
  intro n
  induction n with
  | zero => intro v2 v3 out h; exact (xno h).elim
  | succ n ih =>
    intro v2 v3 out h
    rw [P_mostTold_F4] at h
    refine s_P_mostTold [(4, .iload_n 3, 0, 0), (5, .bipush 100, 0, 100)] (by decide +kernel) (z' := (7, [(0, (vR 4 l0)), (1, (vI l1)), (2, (vI v2)), (3, (vI v3))], [(vI 100), (vI v3)], R, M, 174)) (cs := []) (by rfl) trivial (Nat.le_refl _) ?_
    rcases xif_ex h with ⟨c_1, h⟩ | ⟨c_1, h⟩
    · skip
      obtain ⟨c_2, h⟩ := xch_ex h
      obtain ⟨v4_3, hv4_3, h⟩ := xl_ex h
      refine s_P_mostTold [(7, .if_icmp .ge 38, 0, (-1)), (10, .iload_n 3, 0, 0), (11, .iload_n 1, 0, 0), (12, .imul, 0, 0), (13, .aload_n 0, 0, 0), (14, .getfield 43, 4, 10), (17, .iload_n 3, 0, 0), (18, .iaload, 0, 0), (19, .iadd, 0, 0), (20, .istore 4, 0, 0), (22, .aload_n 0, 0, 0), (23, .iload_n 3, 0, 0)] (by decide +kernel) (z' := (24, [(4, (vI v4_3)), (0, (vR 4 l0)), (1, (vI l1)), (2, (vI v2)), (3, (vI v3))], [(vI v3), (vR 4 l0)], R, M, 174)) (cs := [¬ (100 ≤ v3), xar 35 0, xidx v3 (xan 35)]) (by subst hv4_3; rfl) ⟨Int.not_le.mpr c_1, xar_35, xix_35 c_2, trivial⟩ (Nat.le_refl _) ?_
      obtain ⟨r_4, e_5, h⟩ := xb1_ex h
      refine XR.callV 4 rfl (rest := []) m_P_fits k_4_99 4 l0 (Or.inl ⟨by decide, rfl⟩) [(vI v3)] rfl rfl (c_P_fits e_5) (by decide) (Nat.le_of_ble_eq_true rfl) (by decide +kernel) (Nat.le_refl _) (Nat.le_refl _) ?_
      show XR false 1 174 sc y_P_mostTold (27, [(4, (vI v4_3)), (0, (vR 4 l0)), (1, (vI l1)), (2, (vI v2)), (3, (vI v3))], [(vI r_4)], R, M, 174) _
      rcases xif_ex h with ⟨c_6, h⟩ | ⟨c_6, h⟩
      · skip
        refine s_P_mostTold [(27, .ifCond .eq 12, 0, 39)] (by decide +kernel) (z' := (39, [(4, (vI v4_3)), (0, (vR 4 l0)), (1, (vI l1)), (2, (vI v2)), (3, (vI v3))], [], R, M, 174)) (cs := [r_4 = 0]) (by rfl) ⟨c_6, trivial⟩ (Nat.le_refl _) ?_
        refine XR.pick [1, 2, 3, 4] (ls' := [(0, (vR 4 l0)), (1, (vI l1)), (2, (vI v2)), (3, (vI v3))]) rfl ?_
        exact o_P_mostTold_J39 ih h
      · skip
        refine s_P_mostTold [(27, .ifCond .eq 12, 0, (-1)), (30, .iload 4, 0, 0), (32, .iload_n 2, 0, 0)] (by decide +kernel) (z' := (33, [(4, (vI v4_3)), (0, (vR 4 l0)), (1, (vI l1)), (2, (vI v2)), (3, (vI v3))], [(vI v2), (vI v4_3)], R, M, 174)) (cs := [¬ (r_4 = 0)]) (by rfl) ⟨c_6, trivial⟩ (Nat.le_refl _) ?_
        rcases xif_ex h with ⟨c_8, h⟩ | ⟨c_8, h⟩
        · skip
          refine s_P_mostTold [(33, .if_icmp .le 6, 0, (-1)), (36, .iload 4, 0, 0), (38, .istore_n 2, 0, 0)] (by decide +kernel) (z' := (39, [(2, (vI v4_3)), (4, (vI v4_3)), (0, (vR 4 l0)), (1, (vI l1)), (3, (vI v3))], [], R, M, 174)) (cs := [¬ (v4_3 ≤ v2)]) (by rfl) ⟨Int.not_le.mpr c_8, trivial⟩ (Nat.le_refl _) ?_
          refine XR.pick [2, 3, 0, 4] (ls' := [(0, (vR 4 l0)), (1, (vI l1)), (2, (vI v4_3)), (3, (vI v3))]) rfl ?_
          exact o_P_mostTold_J39 ih h
        · skip
          refine s_P_mostTold [(33, .if_icmp .le 6, 0, 39)] (by decide +kernel) (z' := (39, [(4, (vI v4_3)), (0, (vR 4 l0)), (1, (vI l1)), (2, (vI v2)), (3, (vI v3))], [], R, M, 174)) (cs := [v4_3 ≤ v2]) (by rfl) ⟨Int.not_lt.mp c_8, trivial⟩ (Nat.le_refl _) ?_
          refine XR.pick [1, 2, 3, 4] (ls' := [(0, (vR 4 l0)), (1, (vI l1)), (2, (vI v2)), (3, (vI v3))]) rfl ?_
          exact o_P_mostTold_J39 ih h
    · skip
      refine s_P_mostTold [(7, .if_icmp .ge 38, 0, 45), (45, .iload_n 2, 0, 0)] (by decide +kernel) (z' := (46, [(0, (vR 4 l0)), (1, (vI l1)), (2, (vI v2)), (3, (vI v3))], [(vI v2)], R, M, 174)) (cs := [100 ≤ v3]) (by rfl) ⟨Int.not_lt.mp c_1, trivial⟩ (Nat.le_refl _) ?_
      obtain rfl := Option.some.inj h
      exact XR.retI .int rfl rfl (by decide +kernel)
set_option maxRecDepth 100000 in
set_option maxHeartbeats 4000000 in
theorem o_P_mostTold {sc : List Int} {R : xR} {M : xM} {l0 : Nat} {l1 : Int} {out : Int} (h : f_P_mostTold R l0 l1 M = some out) : XR false 1 174 sc y_P_mostTold (0, [(0, (vR 4 l0)), (1, (vI l1))], [], R, M, 174) ((some (vI out)), R, M) := by
  unfold f_P_mostTold at h
  refine s_P_mostTold [(0, .iconst (-1), 0, (-1)), (1, .istore_n 2, 0, 0), (2, .iconst 0, 0, 0), (3, .istore_n 3, 0, 0)] (by decide +kernel) (z' := (4, [(3, (vI 0)), (2, (vI (-1))), (0, (vR 4 l0)), (1, (vI l1))], [], R, M, 174)) (cs := []) (by rfl) trivial (Nat.le_refl _) ?_
  refine XR.pick [2, 3, 1, 0] (ls' := [(0, (vR 4 l0)), (1, (vI l1)), (2, (vI (-1))), (3, (vI 0))]) rfl ?_
  refine o_P_mostTold_F4  xfu (-1) 0 _ h
set_option maxRecDepth 100000 in
set_option maxHeartbeats 4000000 in
theorem c_P_mostTold {sc : List Int} {R : xR} {M : xM} {l0 : Nat} {l1 : Int} {out : Int} (h : f_P_mostTold R l0 l1 M = some out) : XC false 1 sc y_P_mostTold [(vR 4 l0), (vI l1)] R M 174 174 ((some (vI out)), R, M) := XC.of (by decide) (Nat.le_of_ble_eq_true rfl) (Nat.le_refl _) (Nat.le_refl _) (o_P_mostTold h)
def P_narrowLines_F3 (R : xR) (l0 : Nat) (l1 : Int) (l2 : Int) (l3 : Int) : Nat → Int → xM → Option xM
  | 0, _, _ => none
  | n + 1, v4, M =>
    if v4 < 100 then
      xl (w32 (l2 - (w32 (v4 * l1)))) fun v5_2 =>
      xch (0 ≤ v4 ∧ v4 < 100) <|
      xl (xu M (R l0 9) (Int.toNat v4) (xmax (M (R l0 9) (Int.toNat v4)) (w32 (v5_2 - l3)))) fun M_4 =>
      xl (xu M_4 (R l0 10) (Int.toNat v4) (xmin (M_4 (R l0 10) (Int.toNat v4)) (w32 (v5_2 + l3)))) fun M_5 =>
      xl (w32 (v4 + 1)) fun v4_6 =>
      P_narrowLines_F3 R l0 l1 l2 l3  n v4_6 M_5
    else
      some (M)
def f_P_narrowLines (R : xR) (l0 : Nat) (l1 : Int) (l2 : Int) (l3 : Int) (M : xM) : Option xM :=
  P_narrowLines_F3 R l0 l1 l2 l3
    xfu 0 M
set_option maxRecDepth 100000 in
set_option maxHeartbeats 4000000 in
theorem s_P_narrowLines {d : Nat} {sc : List Int} {z z' : xS} {out : xO} (qs : List xI) {cs : List Prop} (hq : qs.all (xqb 4 false y_P_narrowLines.2.2.1 y_P_narrowLines.2.1) = true) (h : xN false sc qs z = some (z', cs)) (hc : xAll cs) (hE : z'.2.2.2.2.2 ≤ 174) (k : XR false d 174 sc y_P_narrowLines z' out) : XR false d 174 sc y_P_narrowLines z out := XR.seg 4 false rfl (fun q => by cases q) qs hq h hc hE k
set_option maxRecDepth 100000 in
set_option maxHeartbeats 4000000 in
theorem o_P_narrowLines_F3 {sc : List Int} {R : xR}   {l0 : Nat} {l1 : Int} {l2 : Int} {l3 : Int}  : ∀ (n : Nat) (v4 : Int) (M : xM) (out : xM), P_narrowLines_F3 R l0 l1 l2 l3  n v4 M = some out → XR false 1 174 sc y_P_narrowLines (3, [(0, (vR 4 l0)), (1, (vI l1)), (2, (vI l2)), (3, (vI l3)), (4, (vI v4))], [], R, M, 174) (none, R, out) := by
  intro n
  induction n with
  | zero => intro v4 M out h; exact (xno h).elim
  | succ n ih =>
    intro v4 M out h
    rw [P_narrowLines_F3] at h
    refine s_P_narrowLines [(3, .iload 4, 0, 0), (5, .bipush 100, 0, 100)] (by decide +kernel) (z' := (7, [(0, (vR 4 l0)), (1, (vI l1)), (2, (vI l2)), (3, (vI l3)), (4, (vI v4))], [(vI 100), (vI v4)], R, M, 174)) (cs := []) (by rfl) trivial (Nat.le_refl _) ?_
    rcases xif_ex h with ⟨c_1, h⟩ | ⟨c_1, h⟩
    · skip
      obtain ⟨v5_2, hv5_2, h⟩ := xl_ex h
      obtain ⟨c_3, h⟩ := xch_ex h
      refine s_P_narrowLines [(7, .if_icmp .ge 59, 0, (-1)), (10, .iload_n 2, 0, 0), (11, .iload 4, 0, 0), (13, .iload_n 1, 0, 0), (14, .imul, 0, 0), (15, .isub, 0, 0), (16, .istore 5, 0, 0), (18, .aload_n 0, 0, 0), (19, .getfield 40, 4, 9), (22, .iload 4, 0, 0), (24, .aload_n 0, 0, 0), (25, .getfield 40, 4, 9), (28, .iload 4, 0, 0), (30, .iaload, 0, 0), (31, .iload 5, 0, 0), (33, .iload_n 3, 0, 0), (34, .isub, 0, 0)] (by decide +kernel) (z' := (35, [(5, (vI v5_2)), (0, (vR 4 l0)), (1, (vI l1)), (2, (vI l2)), (3, (vI l3)), (4, (vI v4))], [(vI (w32 (v5_2 - l3))), (vI (M (R l0 9) (Int.toNat v4))), (vI v4), (vR 35 (R l0 9))], R, M, 174)) (cs := [¬ (100 ≤ v4), xar 35 0, xidx v4 (xan 35)]) (by subst hv5_2; rfl) ⟨Int.not_le.mpr c_1, xar_35, xix_35 c_3, trivial⟩ (Nat.le_refl _) ?_
      refine XR.mmax 4 rfl (rest := [(vI v4), (vR 35 (R l0 9))]) k_4_90 k_mmaxS k_mini k_mmaxC (Nat.le_refl _) (by decide) (Nat.le_of_ble_eq_true rfl) (by decide +kernel) ?_
      obtain ⟨M_4, hM_4, h⟩ := xl_ex h
      refine s_P_narrowLines [(38, .iastore, 0, 0), (39, .aload_n 0, 0, 0), (40, .getfield 43, 4, 10), (43, .iload 4, 0, 0), (45, .aload_n 0, 0, 0), (46, .getfield 43, 4, 10), (49, .iload 4, 0, 0), (51, .iaload, 0, 0), (52, .iload 5, 0, 0), (54, .iload_n 3, 0, 0), (55, .iadd, 0, 0)] (by decide +kernel) (z' := (56, [(5, (vI v5_2)), (0, (vR 4 l0)), (1, (vI l1)), (2, (vI l2)), (3, (vI l3)), (4, (vI v4))], [(vI (w32 (v5_2 + l3))), (vI (M_4 (R l0 10) (Int.toNat v4))), (vI v4), (vR 35 (R l0 10))], R, M_4, 174)) (cs := [xar 35 0, xidx v4 (xan 35), xar 35 0, xidx v4 (xan 35)]) (by subst hM_4; rfl) ⟨xar_35, xix_35 c_3, xar_35, xix_35 c_3, trivial⟩ (Nat.le_refl _) ?_
      refine XR.mmin 4 rfl (rest := [(vI v4), (vR 35 (R l0 10))]) k_4_96 k_mminS k_mini k_mminC (Nat.le_refl _) (by decide) (Nat.le_of_ble_eq_true rfl) (by decide +kernel) ?_
      obtain ⟨M_5, hM_5, h⟩ := xl_ex h
      obtain ⟨v4_6, hv4_6, h⟩ := xl_ex h
      refine s_P_narrowLines [(59, .iastore, 0, 0), (60, .iinc 4 1, 0, 0), (63, .goto (-60), 0, 3)] (by decide +kernel) (z' := (3, [(4, (vI v4_6)), (5, (vI v5_2)), (0, (vR 4 l0)), (1, (vI l1)), (2, (vI l2)), (3, (vI l3))], [], R, M_5, 174)) (cs := [xar 35 0, xidx v4 (xan 35)]) (by subst hM_5; subst hv4_6; rfl) ⟨xar_35, xix_35 c_3, trivial⟩ (Nat.le_refl _) ?_
      refine XR.pick [2, 3, 4, 5, 0] (ls' := [(0, (vR 4 l0)), (1, (vI l1)), (2, (vI l2)), (3, (vI l3)), (4, (vI v4_6))]) rfl ?_
      exact ih v4_6 M_5 _ h
    · skip
      refine s_P_narrowLines [(7, .if_icmp .ge 59, 0, 66)] (by decide +kernel) (z' := (66, [(0, (vR 4 l0)), (1, (vI l1)), (2, (vI l2)), (3, (vI l3)), (4, (vI v4))], [], R, M, 174)) (cs := [100 ≤ v4]) (by rfl) ⟨Int.not_lt.mp c_1, trivial⟩ (Nat.le_refl _) ?_
      obtain rfl := Option.some.inj h
      exact XR.retV rfl (by decide +kernel)
set_option maxRecDepth 100000 in
set_option maxHeartbeats 4000000 in
theorem o_P_narrowLines {sc : List Int} {R : xR} {M : xM} {l0 : Nat} {l1 : Int} {l2 : Int} {l3 : Int} {out : xM} (h : f_P_narrowLines R l0 l1 l2 l3 M = some out) : XR false 1 174 sc y_P_narrowLines (0, [(0, (vR 4 l0)), (1, (vI l1)), (2, (vI l2)), (3, (vI l3))], [], R, M, 174) (none, R, out) := by
  unfold f_P_narrowLines at h
  refine s_P_narrowLines [(0, .iconst 0, 0, 0), (1, .istore 4, 0, 0)] (by decide +kernel) (z' := (3, [(4, (vI 0)), (0, (vR 4 l0)), (1, (vI l1)), (2, (vI l2)), (3, (vI l3))], [], R, M, 174)) (cs := []) (by rfl) trivial (Nat.le_refl _) ?_
  refine XR.pick [1, 2, 3, 4, 0] (ls' := [(0, (vR 4 l0)), (1, (vI l1)), (2, (vI l2)), (3, (vI l3)), (4, (vI 0))]) rfl ?_
  refine o_P_narrowLines_F3  xfu 0 M _ h
set_option maxRecDepth 100000 in
set_option maxHeartbeats 4000000 in
theorem c_P_narrowLines {sc : List Int} {R : xR} {M : xM} {l0 : Nat} {l1 : Int} {l2 : Int} {l3 : Int} {out : xM} (h : f_P_narrowLines R l0 l1 l2 l3 M = some out) : XC false 1 sc y_P_narrowLines [(vR 4 l0), (vI l1), (vI l2), (vI l3)] R M 174 174 (none, R, out) := XC.of (by decide) (Nat.le_of_ble_eq_true rfl) (Nat.le_refl _) (Nat.le_refl _) (o_P_narrowLines h)
