def P_partAir_J46 (R : xR) (l0 : Nat) (l1 : Int) (l2 : Int) (rc : Int → Int → Int → xM → Option xM) (q52 : Int → Int → xM → Option xM) (v3 : Int) (v4 : Int) (v5 : Int) (M : xM) : Option xM :=
  xl (w32 (v5 + 1)) fun v5_10 =>
  rc v3 v4 v5_10 M
def P_partAir_F21 (R : xR) (l0 : Nat) (l1 : Int) (l2 : Int) (q52 : Int → Int → xM → Option xM) : Nat → Int → Int → Int → xM → Option xM
  | 0, _, _, _, _ => none
  | n + 1, v3, v4, v5, M =>
    if v5 < l1 then
      xb1 (f_P_hindranceWithOneMore R l0 v5 M) fun r_5 =>
      xb1 (f_P_hindranceWithOneMore R l0 v4 M) fun r_7 =>
      if r_5 < r_7 then
        P_partAir_J46 R l0 l1 l2 (P_partAir_F21 R l0 l1 l2 q52 n) q52 v3 v5 v5 M
      else
        P_partAir_J46 R l0 l1 l2 (P_partAir_F21 R l0 l1 l2 q52 n) q52 v3 v4 v5 M
    else
      q52 v3 v4 M
def P_partAir_F10 (R : xR) (l0 : Nat) (l1 : Int) (l2 : Int) : Nat → Int → xM → Option xM
  | 0, _, _ => none
  | n + 1, v3, M =>
    if v3 < l2 then
      P_partAir_F21 R l0 l1 l2
        (fun (v3_11 : Int) (v4_12 : Int) (M_13 : xM) =>
          xch (0 ≤ v4_12 ∧ v4_12 < 8) <|
          xl (xu M_13 (R l0 8) (Int.toNat v4_12) (w32 ((M_13 (R l0 8) (Int.toNat v4_12)) + 1))) fun M_15 =>
          xl (w32 (v3_11 + 1)) fun v3_16 =>
          P_partAir_F10 R l0 l1 l2  n v3_16 M_15)
        xfu v3 0 1 M
    else
      some (M)
def f_P_partAir (R : xR) (l0 : Nat) (l1 : Int) (l2 : Int) (M : xM) : Option xM :=
  xb1 (f_J_fill_aIIV 30 (R l0 8) 0 M) fun M_1 =>
  P_partAir_F10 R l0 l1 l2
    xfu 0 M_1
set_option maxRecDepth 100000 in
set_option maxHeartbeats 4000000 in
theorem s_P_partAir {d : Nat} {sc : List Int} {z z' : xS} {out : xO} (qs : List xI) {cs : List Prop} (hq : qs.all (xqb 4 false y_P_partAir.2.2.1 y_P_partAir.2.1) = true) (h : xN false sc qs z = some (z', cs)) (hc : xAll cs) (hE : z'.2.2.2.2.2 ≤ 174) (k : XR false d 174 sc y_P_partAir z' out) : XR false d 174 sc y_P_partAir z out := XR.seg 4 false rfl (fun q => by cases q) qs hq h hc hE k
set_option maxRecDepth 100000 in
set_option maxHeartbeats 4000000 in
theorem o_P_partAir_J46 {sc : List Int} {R : xR}   {l0 : Nat} {l1 : Int} {l2 : Int}  {rc : Int → Int → Int → xM → Option xM} {q52 : Int → Int → xM → Option xM} (hrc : ∀ (w3 : Int) (w4 : Int) (w5 : Int) (M : xM) (out : xM), rc w3 w4 w5 M = some out → XR false 1 174 sc y_P_partAir (21, [(0, (vR 4 l0)), (1, (vI l1)), (2, (vI l2)), (3, (vI w3)), (4, (vI w4)), (5, (vI w5))], [], R, M, 174) (none, R, out)) (hq52 : ∀ (w3 : Int) (w4 : Int) (M : xM) (out : xM), q52 w3 w4 M = some out → XR false 1 174 sc y_P_partAir (52, [(0, (vR 4 l0)), (1, (vI l1)), (2, (vI l2)), (3, (vI w3)), (4, (vI w4))], [], R, M, 174) (none, R, out)) {v3 : Int} {v4 : Int} {v5 : Int} {M : xM} {out : xM} (h : P_partAir_J46 R l0 l1 l2 rc q52 v3 v4 v5 M = some out) : XR false 1 174 sc y_P_partAir (46, [(0, (vR 4 l0)), (1, (vI l1)), (2, (vI l2)), (3, (vI v3)), (4, (vI v4)), (5, (vI v5))], [], R, M, 174) (none, R, out) := by
  unfold P_partAir_J46 at h
  obtain ⟨v5_10, hv5_10, h⟩ := xl_ex h
  refine s_P_partAir [(46, .iinc 5 1, 0, 0), (49, .goto (-28), 0, 21)] (by decide +kernel) (z' := (21, [(5, (vI v5_10)), (0, (vR 4 l0)), (1, (vI l1)), (2, (vI l2)), (3, (vI v3)), (4, (vI v4))], [], R, M, 174)) (cs := []) (by subst hv5_10; rfl) trivial (Nat.le_refl _) ?_
  refine XR.pick [1, 2, 3, 4, 5, 0] (ls' := [(0, (vR 4 l0)), (1, (vI l1)), (2, (vI l2)), (3, (vI v3)), (4, (vI v4)), (5, (vI v5_10))]) rfl ?_
  exact hrc v3 v4 v5_10 M _ h
set_option maxRecDepth 100000 in
set_option maxHeartbeats 4000000 in
theorem o_P_partAir_F21 {sc : List Int} {R : xR}   {l0 : Nat} {l1 : Int} {l2 : Int}  {q52 : Int → Int → xM → Option xM} (hq52 : ∀ (w3 : Int) (w4 : Int) (M : xM) (out : xM), q52 w3 w4 M = some out → XR false 1 174 sc y_P_partAir (52, [(0, (vR 4 l0)), (1, (vI l1)), (2, (vI l2)), (3, (vI w3)), (4, (vI w4))], [], R, M, 174) (none, R, out)) : ∀ (n : Nat) (v3 : Int) (v4 : Int) (v5 : Int) (M : xM) (out : xM), P_partAir_F21 R l0 l1 l2 q52 n v3 v4 v5 M = some out → XR false 1 174 sc y_P_partAir (21, [(0, (vR 4 l0)), (1, (vI l1)), (2, (vI l2)), (3, (vI v3)), (4, (vI v4)), (5, (vI v5))], [], R, M, 174) (none, R, out) := by
  intro n
  induction n with
  | zero => intro v3 v4 v5 M out h; exact (xno h).elim
  | succ n ih =>
    intro v3 v4 v5 M out h
    rw [P_partAir_F21] at h
    refine s_P_partAir [(21, .iload 5, 0, 0), (23, .iload_n 1, 0, 0)] (by decide +kernel) (z' := (24, [(0, (vR 4 l0)), (1, (vI l1)), (2, (vI l2)), (3, (vI v3)), (4, (vI v4)), (5, (vI v5))], [(vI l1), (vI v5)], R, M, 174)) (cs := []) (by rfl) trivial (Nat.le_refl _) ?_
    rcases xif_ex h with ⟨c_4, h⟩ | ⟨c_4, h⟩
    · skip
      refine s_P_partAir [(24, .if_icmp .ge 28, 0, (-1)), (27, .aload_n 0, 0, 0), (28, .iload 5, 0, 0)] (by decide +kernel) (z' := (30, [(0, (vR 4 l0)), (1, (vI l1)), (2, (vI l2)), (3, (vI v3)), (4, (vI v4)), (5, (vI v5))], [(vI v5), (vR 4 l0)], R, M, 174)) (cs := [¬ (l1 ≤ v5)]) (by rfl) ⟨Int.not_le.mpr c_4, trivial⟩ (Nat.le_refl _) ?_
      obtain ⟨r_5, e_6, h⟩ := xb1_ex h
      refine XR.callV 4 rfl (rest := []) m_P_hindranceWithOneMore k_4_87 4 l0 (Or.inl ⟨by decide, rfl⟩) [(vI v5)] rfl rfl (c_P_hindranceWithOneMore e_6) (by decide) (Nat.le_of_ble_eq_true rfl) (by decide +kernel) (Nat.le_refl _) (Nat.le_refl _) ?_
      show XR false 1 174 sc y_P_partAir (33, [(0, (vR 4 l0)), (1, (vI l1)), (2, (vI l2)), (3, (vI v3)), (4, (vI v4)), (5, (vI v5))], [(vI r_5)], R, M, 174) _
      refine s_P_partAir [(33, .aload_n 0, 0, 0), (34, .iload 4, 0, 0)] (by decide +kernel) (z' := (36, [(0, (vR 4 l0)), (1, (vI l1)), (2, (vI l2)), (3, (vI v3)), (4, (vI v4)), (5, (vI v5))], [(vI v4), (vR 4 l0), (vI r_5)], R, M, 174)) (cs := []) (by rfl) trivial (Nat.le_refl _) ?_
      obtain ⟨r_7, e_8, h⟩ := xb1_ex h
      refine XR.callV 4 rfl (rest := [(vI r_5)]) m_P_hindranceWithOneMore k_4_87 4 l0 (Or.inl ⟨by decide, rfl⟩) [(vI v4)] rfl rfl (c_P_hindranceWithOneMore e_8) (by decide) (Nat.le_of_ble_eq_true rfl) (by decide +kernel) (Nat.le_refl _) (Nat.le_refl _) ?_
      show XR false 1 174 sc y_P_partAir (39, [(0, (vR 4 l0)), (1, (vI l1)), (2, (vI l2)), (3, (vI v3)), (4, (vI v4)), (5, (vI v5))], [(vI r_7), (vI r_5)], R, M, 174) _
      rcases xif_ex h with ⟨c_9, h⟩ | ⟨c_9, h⟩
      · skip
        refine s_P_partAir [(39, .if_icmp .ge 7, 0, (-1)), (42, .iload 5, 0, 0), (44, .istore 4, 0, 0)] (by decide +kernel) (z' := (46, [(4, (vI v5)), (0, (vR 4 l0)), (1, (vI l1)), (2, (vI l2)), (3, (vI v3)), (5, (vI v5))], [], R, M, 174)) (cs := [¬ (r_7 ≤ r_5)]) (by rfl) ⟨Int.not_le.mpr c_9, trivial⟩ (Nat.le_refl _) ?_
        refine XR.pick [1, 2, 3, 4, 0, 5] (ls' := [(0, (vR 4 l0)), (1, (vI l1)), (2, (vI l2)), (3, (vI v3)), (4, (vI v5)), (5, (vI v5))]) rfl ?_
        exact o_P_partAir_J46 ih hq52 h
      · skip
        refine s_P_partAir [(39, .if_icmp .ge 7, 0, 46)] (by decide +kernel) (z' := (46, [(0, (vR 4 l0)), (1, (vI l1)), (2, (vI l2)), (3, (vI v3)), (4, (vI v4)), (5, (vI v5))], [], R, M, 174)) (cs := [r_7 ≤ r_5]) (by rfl) ⟨Int.not_lt.mp c_9, trivial⟩ (Nat.le_refl _) ?_
        exact o_P_partAir_J46 ih hq52 h
    · skip
      refine s_P_partAir [(24, .if_icmp .ge 28, 0, 52)] (by decide +kernel) (z' := (52, [(0, (vR 4 l0)), (1, (vI l1)), (2, (vI l2)), (3, (vI v3)), (4, (vI v4)), (5, (vI v5))], [], R, M, 174)) (cs := [l1 ≤ v5]) (by rfl) ⟨Int.not_lt.mp c_4, trivial⟩ (Nat.le_refl _) ?_
      refine XR.pick [0, 1, 2, 3, 4] (ls' := [(0, (vR 4 l0)), (1, (vI l1)), (2, (vI l2)), (3, (vI v3)), (4, (vI v4))]) rfl ?_
      exact hq52 v3 v4 M _ h
set_option maxRecDepth 100000 in
set_option maxHeartbeats 4000000 in
theorem o_P_partAir_F10 {sc : List Int} {R : xR}   {l0 : Nat} {l1 : Int} {l2 : Int}  : ∀ (n : Nat) (v3 : Int) (M : xM) (out : xM), P_partAir_F10 R l0 l1 l2  n v3 M = some out → XR false 1 174 sc y_P_partAir (10, [(0, (vR 4 l0)), (1, (vI l1)), (2, (vI l2)), (3, (vI v3))], [], R, M, 174) (none, R, out) := by
  intro n
  induction n with
  | zero => intro v3 M out h; exact (xno h).elim
  | succ n ih =>
    intro v3 M out h
    rw [P_partAir_F10] at h
    refine s_P_partAir [(10, .iload_n 3, 0, 0), (11, .iload_n 2, 0, 0)] (by decide +kernel) (z' := (12, [(0, (vR 4 l0)), (1, (vI l1)), (2, (vI l2)), (3, (vI v3))], [(vI l2), (vI v3)], R, M, 174)) (cs := []) (by rfl) trivial (Nat.le_refl _) ?_
    rcases xif_ex h with ⟨c_3, h⟩ | ⟨c_3, h⟩
    · skip
      refine s_P_partAir [(12, .if_icmp .ge 57, 0, (-1)), (15, .iconst 0, 0, 0), (16, .istore 4, 0, 0), (18, .iconst 1, 0, 1), (19, .istore 5, 0, 0)] (by decide +kernel) (z' := (21, [(5, (vI 1)), (4, (vI 0)), (0, (vR 4 l0)), (1, (vI l1)), (2, (vI l2)), (3, (vI v3))], [], R, M, 174)) (cs := [¬ (l2 ≤ v3)]) (by rfl) ⟨Int.not_le.mpr c_3, trivial⟩ (Nat.le_refl _) ?_
      refine XR.pick [2, 3, 4, 5, 1, 0] (ls' := [(0, (vR 4 l0)), (1, (vI l1)), (2, (vI l2)), (3, (vI v3)), (4, (vI 0)), (5, (vI 1))]) rfl ?_
      refine o_P_partAir_F21 ?_ xfu v3 0 1 M _ h
      · intro v3_11 v4_12 M_13 out h
        obtain ⟨c_14, h⟩ := xch_ex h
        obtain ⟨M_15, hM_15, h⟩ := xl_ex h
        obtain ⟨v3_16, hv3_16, h⟩ := xl_ex h
        refine s_P_partAir [(52, .aload_n 0, 0, 0), (53, .getfield 37, 4, 8), (56, .iload 4, 0, 0), (58, .dup2, 0, 0), (59, .iaload, 0, 0), (60, .iconst 1, 0, 1), (61, .iadd, 0, 0), (62, .iastore, 0, 0), (63, .iinc 3 1, 0, 0), (66, .goto (-56), 0, 10)] (by decide +kernel) (z' := (10, [(3, (vI v3_16)), (0, (vR 4 l0)), (1, (vI l1)), (2, (vI l2)), (4, (vI v4_12))], [], R, M_15, 174)) (cs := [xar 30 0, xidx v4_12 (xan 30), xar 30 0, xidx v4_12 (xan 30)]) (by subst hM_15; subst hv3_16; rfl) ⟨xar_30, xix_30 c_14, xar_30, xix_30 c_14, trivial⟩ (Nat.le_refl _) ?_
        refine XR.pick [1, 2, 3, 0] (ls' := [(0, (vR 4 l0)), (1, (vI l1)), (2, (vI l2)), (3, (vI v3_16))]) rfl ?_
        exact ih v3_16 M_15 _ h
    · skip
      refine s_P_partAir [(12, .if_icmp .ge 57, 0, 69)] (by decide +kernel) (z' := (69, [(0, (vR 4 l0)), (1, (vI l1)), (2, (vI l2)), (3, (vI v3))], [], R, M, 174)) (cs := [l2 ≤ v3]) (by rfl) ⟨Int.not_lt.mp c_3, trivial⟩ (Nat.le_refl _) ?_
      obtain rfl := Option.some.inj h
      exact XR.retV rfl (by decide +kernel)
set_option maxRecDepth 100000 in
set_option maxHeartbeats 4000000 in
theorem o_P_partAir {sc : List Int} {R : xR} {M : xM} {l0 : Nat} {l1 : Int} {l2 : Int} {out : xM} (h : f_P_partAir R l0 l1 l2 M = some out) : XR false 1 174 sc y_P_partAir (0, [(0, (vR 4 l0)), (1, (vI l1)), (2, (vI l2))], [], R, M, 174) (none, R, out) := by
  unfold f_P_partAir at h
  refine s_P_partAir [(0, .aload_n 0, 0, 0), (1, .getfield 37, 4, 8), (4, .iconst 0, 0, 0)] (by decide +kernel) (z' := (5, [(0, (vR 4 l0)), (1, (vI l1)), (2, (vI l2))], [(vI 0), (vR 30 (R l0 8))], R, M, 174)) (cs := []) (by rfl) trivial (Nat.le_refl _) ?_
  obtain ⟨M_1, e_2, h⟩ := xb1_ex h
  refine XR.callS 4 rfl (rest := []) m_J_fill_aIIV k_4_81 [(vR 30 (R l0 8)), (vI 0)] rfl rfl (c_J_fill_aIIV (xar_30) e_2) (by decide) (Nat.le_of_ble_eq_true rfl) (by decide +kernel) (Nat.le_refl _) (Nat.le_refl _) ?_
  show XR false 1 174 sc y_P_partAir (8, [(0, (vR 4 l0)), (1, (vI l1)), (2, (vI l2))], [], R, M_1, 174) _
  refine s_P_partAir [(8, .iconst 0, 0, 0), (9, .istore_n 3, 0, 0)] (by decide +kernel) (z' := (10, [(3, (vI 0)), (0, (vR 4 l0)), (1, (vI l1)), (2, (vI l2))], [], R, M_1, 174)) (cs := []) (by rfl) trivial (Nat.le_refl _) ?_
  refine XR.pick [1, 2, 3, 0] (ls' := [(0, (vR 4 l0)), (1, (vI l1)), (2, (vI l2)), (3, (vI 0))]) rfl ?_
  refine o_P_partAir_F10  xfu 0 M_1 _ h
set_option maxRecDepth 100000 in
set_option maxHeartbeats 4000000 in
theorem c_P_partAir {sc : List Int} {R : xR} {M : xM} {l0 : Nat} {l1 : Int} {l2 : Int} {out : xM} (h : f_P_partAir R l0 l1 l2 M = some out) : XC false 1 sc y_P_partAir [(vR 4 l0), (vI l1), (vI l2)] R M 174 174 (none, R, out) := XC.of (by decide) (Nat.le_of_ble_eq_true rfl) (Nat.le_refl _) (Nat.le_refl _) (o_P_partAir h)
def P_takeCleaners_J27 (R : xR) (l0 : Nat) (l1 : Nat) (l2 : Int) (l3 : Int) (rc : Int → xM → Option (Int × xM)) (v4 : Int) (s0 : Int) (M : xM) : Option (Int × xM) :=
  xb1 (f_Y_get R l1 l2 v4 M) fun r_3 =>
  if r_3 < 0 then
    some (0, M)
  else
    if s0 < r_3 then
      some (0, M)
    else
      xch (0 ≤ v4 ∧ v4 < 35) <|
      xl (xu M (R l0 0) (Int.toNat v4) (w32 r_3)) fun M_8 =>
      xl (w32 (v4 + 1)) fun v4_9 =>
      rc v4_9 M_8
def P_takeCleaners_F3 (R : xR) (l0 : Nat) (l1 : Nat) (l2 : Int) (l3 : Int) : Nat → Int → xM → Option (Int × xM)
  | 0, _, _ => none
  | n + 1, v4, M =>
    if v4 < w32 (l3 * 5) then
      if Int.tmod v4 5 = 4 then
        P_takeCleaners_J27 R l0 l1 l2 l3 (P_takeCleaners_F3 R l0 l1 l2 l3  n) v4 1000 M
      else
        P_takeCleaners_J27 R l0 l1 l2 l3 (P_takeCleaners_F3 R l0 l1 l2 l3  n) v4 100 M
    else
      some (1, M)
def f_P_takeCleaners (R : xR) (l0 : Nat) (l1 : Nat) (l2 : Int) (l3 : Int) (M : xM) : Option (Int × xM) :=
  P_takeCleaners_F3 R l0 l1 l2 l3
    xfu 0 M
set_option maxRecDepth 100000 in
set_option maxHeartbeats 4000000 in
theorem s_P_takeCleaners {d : Nat} {sc : List Int} {z z' : xS} {out : xO} (qs : List xI) {cs : List Prop} (hq : qs.all (xqb 4 false y_P_takeCleaners.2.2.1 y_P_takeCleaners.2.1) = true) (h : xN false sc qs z = some (z', cs)) (hc : xAll cs) (hE : z'.2.2.2.2.2 ≤ 174) (k : XR false d 174 sc y_P_takeCleaners z' out) : XR false d 174 sc y_P_takeCleaners z out := XR.seg 4 false rfl (fun q => by cases q) qs hq h hc hE k
set_option maxRecDepth 100000 in
set_option maxHeartbeats 4000000 in
theorem o_P_takeCleaners_J27 {sc : List Int} {R : xR}   {l0 : Nat} {l1 : Nat} {l2 : Int} {l3 : Int}  {rc : Int → xM → Option (Int × xM)} (hrc : ∀ (w4 : Int) (M : xM) (out : Int × xM), rc w4 M = some out → XR false 1 174 sc y_P_takeCleaners (3, [(0, (vR 4 l0)), (1, (vR 8 l1)), (2, (vI l2)), (3, (vI l3)), (4, (vI w4))], [], R, M, 174) ((some (vI out.1)), R, out.2)) {v4 : Int} {s0 : Int} {M : xM} {out : Int × xM} (h : P_takeCleaners_J27 R l0 l1 l2 l3 rc v4 s0 M = some out) : XR false 1 174 sc y_P_takeCleaners (27, [(0, (vR 4 l0)), (1, (vR 8 l1)), (2, (vI l2)), (3, (vI l3)), (4, (vI v4))], [(vI s0)], R, M, 174) ((some (vI out.1)), R, out.2) := by
  unfold P_takeCleaners_J27 at h
  refine s_P_takeCleaners [(27, .istore 5, 0, 0), (29, .aload_n 1, 0, 0), (30, .iload_n 2, 0, 0), (31, .iload 4, 0, 0)] (by decide +kernel) (z' := (33, [(5, (vI s0)), (0, (vR 4 l0)), (1, (vR 8 l1)), (2, (vI l2)), (3, (vI l3)), (4, (vI v4))], [(vI v4), (vI l2), (vR 8 l1)], R, M, 174)) (cs := []) (by rfl) trivial (Nat.le_refl _) ?_
  obtain ⟨r_3, e_4, h⟩ := xb1_ex h
  refine XR.callV 4 rfl (rest := []) m_Y_get k_4_50 8 l1 (Or.inl ⟨by decide, rfl⟩) [(vI l2), (vI v4)] rfl rfl (c_Y_get e_4) (by decide) (Nat.le_of_ble_eq_true rfl) (by decide +kernel) (Nat.le_refl _) (Nat.le_refl _) ?_
  show XR false 1 174 sc y_P_takeCleaners (36, [(5, (vI s0)), (0, (vR 4 l0)), (1, (vR 8 l1)), (2, (vI l2)), (3, (vI l3)), (4, (vI v4))], [(vL r_3)], R, M, 174) _
  refine s_P_takeCleaners [(36, .lstore 6, 0, 0), (38, .lload 6, 0, 0), (40, .lconst 0, 0, 0), (41, .lcmp, 0, 0)] (by decide +kernel) (z' := (42, [(6, (vL r_3)), (5, (vI s0)), (0, (vR 4 l0)), (1, (vR 8 l1)), (2, (vI l2)), (3, (vI l3)), (4, (vI v4))], [(vI (xcmp r_3 0))], R, M, 174)) (cs := []) (by rfl) trivial (Nat.le_refl _) ?_
  rcases xif_ex h with ⟨c_5, h⟩ | ⟨c_5, h⟩
  · skip
    refine s_P_takeCleaners [(42, .ifCond .lt 12, 0, 54), (54, .iconst 0, 0, 0)] (by decide +kernel) (z' := (55, [(6, (vL r_3)), (5, (vI s0)), (0, (vR 4 l0)), (1, (vR 8 l1)), (2, (vI l2)), (3, (vI l3)), (4, (vI v4))], [(vI 0)], R, M, 174)) (cs := [xcmp r_3 0 < 0]) (by rfl) ⟨xcmp_lt.mpr c_5, trivial⟩ (Nat.le_refl _) ?_
    obtain rfl := Option.some.inj h
    exact XR.retI .boolean rfl (xnar_z (by decide)) (by decide +kernel)
  · skip
    refine s_P_takeCleaners [(42, .ifCond .lt 12, 0, (-1)), (45, .lload 6, 0, 0), (47, .iload 5, 0, 0), (49, .i2l, 0, 0), (50, .lcmp, 0, 0)] (by decide +kernel) (z' := (51, [(6, (vL r_3)), (5, (vI s0)), (0, (vR 4 l0)), (1, (vR 8 l1)), (2, (vI l2)), (3, (vI l3)), (4, (vI v4))], [(vI (xcmp r_3 s0))], R, M, 174)) (cs := [¬ (xcmp r_3 0 < 0)]) (by rfl) ⟨fun q => c_5 (xcmp_lt.mp q), trivial⟩ (Nat.le_refl _) ?_
    rcases xif_ex h with ⟨c_6, h⟩ | ⟨c_6, h⟩
    · skip
      refine s_P_takeCleaners [(51, .ifCond .le 5, 0, (-1)), (54, .iconst 0, 0, 0)] (by decide +kernel) (z' := (55, [(6, (vL r_3)), (5, (vI s0)), (0, (vR 4 l0)), (1, (vR 8 l1)), (2, (vI l2)), (3, (vI l3)), (4, (vI v4))], [(vI 0)], R, M, 174)) (cs := [¬ (xcmp r_3 s0 ≤ 0)]) (by rfl) ⟨fun q => xcmp_le.mp q c_6, trivial⟩ (Nat.le_refl _) ?_
      obtain rfl := Option.some.inj h
      exact XR.retI .boolean rfl (xnar_z (by decide)) (by decide +kernel)
    · skip
      obtain ⟨c_7, h⟩ := xch_ex h
      obtain ⟨M_8, hM_8, h⟩ := xl_ex h
      obtain ⟨v4_9, hv4_9, h⟩ := xl_ex h
      refine s_P_takeCleaners [(51, .ifCond .le 5, 0, 56), (56, .aload_n 0, 0, 0), (57, .getfield 9, 4, 0), (60, .iload 4, 0, 0), (62, .lload 6, 0, 0), (64, .l2i, 0, 0), (65, .iastore, 0, 0), (66, .iinc 4 1, 0, 0), (69, .goto (-66), 0, 3)] (by decide +kernel) (z' := (3, [(4, (vI v4_9)), (6, (vL r_3)), (5, (vI s0)), (0, (vR 4 l0)), (1, (vR 8 l1)), (2, (vI l2)), (3, (vI l3))], [], R, M_8, 174)) (cs := [xcmp r_3 s0 ≤ 0, xar 33 0, xidx v4 (xan 33)]) (by subst hM_8; subst hv4_9; rfl) ⟨xcmp_le.mpr c_6, xar_33, xix_33 c_7, trivial⟩ (Nat.le_refl _) ?_
      refine XR.pick [3, 4, 5, 6, 0] (ls' := [(0, (vR 4 l0)), (1, (vR 8 l1)), (2, (vI l2)), (3, (vI l3)), (4, (vI v4_9))]) rfl ?_
      exact hrc v4_9 M_8 _ h
set_option maxRecDepth 100000 in
set_option maxHeartbeats 4000000 in
theorem o_P_takeCleaners_F3 {sc : List Int} {R : xR}   {l0 : Nat} {l1 : Nat} {l2 : Int} {l3 : Int}  : ∀ (n : Nat) (v4 : Int) (M : xM) (out : Int × xM), P_takeCleaners_F3 R l0 l1 l2 l3  n v4 M = some out → XR false 1 174 sc y_P_takeCleaners (3, [(0, (vR 4 l0)), (1, (vR 8 l1)), (2, (vI l2)), (3, (vI l3)), (4, (vI v4))], [], R, M, 174) ((some (vI out.1)), R, out.2) := by
  intro n
  induction n with
  | zero => intro v4 M out h; exact (xno h).elim
  | succ n ih =>
    intro v4 M out h
    rw [P_takeCleaners_F3] at h
    refine s_P_takeCleaners [(3, .iload 4, 0, 0), (5, .iload_n 3, 0, 0), (6, .iconst 5, 0, 5), (7, .imul, 0, 0)] (by decide +kernel) (z' := (8, [(0, (vR 4 l0)), (1, (vR 8 l1)), (2, (vI l2)), (3, (vI l3)), (4, (vI v4))], [(vI (w32 (l3 * 5))), (vI v4)], R, M, 174)) (cs := []) (by rfl) trivial (Nat.le_refl _) ?_
    rcases xif_ex h with ⟨c_1, h⟩ | ⟨c_1, h⟩
    · skip
      refine s_P_takeCleaners [(8, .if_icmp .ge 64, 0, (-1)), (11, .iload 4, 0, 0), (13, .iconst 5, 0, 5), (14, .irem, 0, 0), (15, .iconst 4, 0, 4)] (by decide +kernel) (z' := (16, [(0, (vR 4 l0)), (1, (vR 8 l1)), (2, (vI l2)), (3, (vI l3)), (4, (vI v4))], [(vI 4), (vI (Int.tmod v4 5))], R, M, 174)) (cs := [¬ (w32 (l3 * 5) ≤ v4), (5 : Int) ≠ 0]) (by rfl) ⟨Int.not_le.mpr c_1, by decide, trivial⟩ (Nat.le_refl _) ?_
      rcases xif_ex h with ⟨c_2, h⟩ | ⟨c_2, h⟩
      · skip
        refine s_P_takeCleaners [(16, .if_icmp .ne 9, 0, (-1)), (19, .sipush 1000, 0, 1000), (22, .goto 5, 0, 27)] (by decide +kernel) (z' := (27, [(0, (vR 4 l0)), (1, (vR 8 l1)), (2, (vI l2)), (3, (vI l3)), (4, (vI v4))], [(vI 1000)], R, M, 174)) (cs := [¬ (Int.tmod v4 5 ≠ 4)]) (by rfl) ⟨fun q => q c_2, trivial⟩ (Nat.le_refl _) ?_
        exact o_P_takeCleaners_J27 ih h
      · skip
        refine s_P_takeCleaners [(16, .if_icmp .ne 9, 0, 25), (25, .bipush 100, 0, 100)] (by decide +kernel) (z' := (27, [(0, (vR 4 l0)), (1, (vR 8 l1)), (2, (vI l2)), (3, (vI l3)), (4, (vI v4))], [(vI 100)], R, M, 174)) (cs := [Int.tmod v4 5 ≠ 4]) (by rfl) ⟨c_2, trivial⟩ (Nat.le_refl _) ?_
        exact o_P_takeCleaners_J27 ih h
    · skip
      refine s_P_takeCleaners [(8, .if_icmp .ge 64, 0, 72), (72, .iconst 1, 0, 1)] (by decide +kernel) (z' := (73, [(0, (vR 4 l0)), (1, (vR 8 l1)), (2, (vI l2)), (3, (vI l3)), (4, (vI v4))], [(vI 1)], R, M, 174)) (cs := [w32 (l3 * 5) ≤ v4]) (by rfl) ⟨Int.not_lt.mp c_1, trivial⟩ (Nat.le_refl _) ?_
      obtain rfl := Option.some.inj h
      exact XR.retI .boolean rfl (xnar_z (by decide)) (by decide +kernel)
set_option maxRecDepth 100000 in
set_option maxHeartbeats 4000000 in
theorem o_P_takeCleaners {sc : List Int} {R : xR} {M : xM} {l0 : Nat} {l1 : Nat} {l2 : Int} {l3 : Int} {out : Int × xM} (h : f_P_takeCleaners R l0 l1 l2 l3 M = some out) : XR false 1 174 sc y_P_takeCleaners (0, [(0, (vR 4 l0)), (1, (vR 8 l1)), (2, (vI l2)), (3, (vI l3))], [], R, M, 174) ((some (vI out.1)), R, out.2) := by
  unfold f_P_takeCleaners at h
  refine s_P_takeCleaners [(0, .iconst 0, 0, 0), (1, .istore 4, 0, 0)] (by decide +kernel) (z' := (3, [(4, (vI 0)), (0, (vR 4 l0)), (1, (vR 8 l1)), (2, (vI l2)), (3, (vI l3))], [], R, M, 174)) (cs := []) (by rfl) trivial (Nat.le_refl _) ?_
  refine XR.pick [1, 2, 3, 4, 0] (ls' := [(0, (vR 4 l0)), (1, (vR 8 l1)), (2, (vI l2)), (3, (vI l3)), (4, (vI 0))]) rfl ?_
  refine o_P_takeCleaners_F3  xfu 0 M _ h
set_option maxRecDepth 100000 in
set_option maxHeartbeats 4000000 in
theorem c_P_takeCleaners {sc : List Int} {R : xR} {M : xM} {l0 : Nat} {l1 : Nat} {l2 : Int} {l3 : Int} {out : Int × xM} (h : f_P_takeCleaners R l0 l1 l2 l3 M = some out) : XC false 1 sc y_P_takeCleaners [(vR 4 l0), (vR 8 l1), (vI l2), (vI l3)] R M 174 174 ((some (vI out.1)), R, out.2) := XC.of (by decide) (Nat.le_of_ble_eq_true rfl) (Nat.le_refl _) (Nat.le_refl _) (o_P_takeCleaners h)
def P_takeHindrances_F3 (R : xR) (l0 : Nat) (l1 : Nat) (l2 : Int) (l3 : Int) : Nat → Int → xM → Option (Int × xM)
  | 0, _, _ => none
  | n + 1, v4, M =>
    if v4 < l3 then
      xb1 (f_Y_get R l1 l2 v4 M) fun r_2 =>
      if r_2 < 1 then
        some (0, M)
      else
        if 100 < r_2 then
          some (0, M)
        else
          xch (0 ≤ v4 ∧ v4 < 8) <|
          xl (xu M (R l0 7) (Int.toNat v4) (w32 r_2)) fun M_7 =>
          xl (w32 (v4 + 1)) fun v4_8 =>
          P_takeHindrances_F3 R l0 l1 l2 l3  n v4_8 M_7
    else
      some (1, M)
def f_P_takeHindrances (R : xR) (l0 : Nat) (l1 : Nat) (l2 : Int) (l3 : Int) (M : xM) : Option (Int × xM) :=
  P_takeHindrances_F3 R l0 l1 l2 l3
    xfu 0 M
set_option maxRecDepth 100000 in
set_option maxHeartbeats 4000000 in
theorem s_P_takeHindrances {d : Nat} {sc : List Int} {z z' : xS} {out : xO} (qs : List xI) {cs : List Prop} (hq : qs.all (xqb 4 false y_P_takeHindrances.2.2.1 y_P_takeHindrances.2.1) = true) (h : xN false sc qs z = some (z', cs)) (hc : xAll cs) (hE : z'.2.2.2.2.2 ≤ 174) (k : XR false d 174 sc y_P_takeHindrances z' out) : XR false d 174 sc y_P_takeHindrances z out := XR.seg 4 false rfl (fun q => by cases q) qs hq h hc hE k
set_option maxRecDepth 100000 in
set_option maxHeartbeats 4000000 in
theorem o_P_takeHindrances_F3 {sc : List Int} {R : xR}   {l0 : Nat} {l1 : Nat} {l2 : Int} {l3 : Int}  : ∀ (n : Nat) (v4 : Int) (M : xM) (out : Int × xM), P_takeHindrances_F3 R l0 l1 l2 l3  n v4 M = some out → XR false 1 174 sc y_P_takeHindrances (3, [(0, (vR 4 l0)), (1, (vR 8 l1)), (2, (vI l2)), (3, (vI l3)), (4, (vI v4))], [], R, M, 174) ((some (vI out.1)), R, out.2) := by
  intro n
  induction n with
  | zero => intro v4 M out h; exact (xno h).elim
  | succ n ih =>
    intro v4 M out h
    rw [P_takeHindrances_F3] at h
    refine s_P_takeHindrances [(3, .iload 4, 0, 0), (5, .iload_n 3, 0, 0)] (by decide +kernel) (z' := (6, [(0, (vR 4 l0)), (1, (vR 8 l1)), (2, (vI l2)), (3, (vI l3)), (4, (vI v4))], [(vI l3), (vI v4)], R, M, 174)) (cs := []) (by rfl) trivial (Nat.le_refl _) ?_
    rcases xif_ex h with ⟨c_1, h⟩ | ⟨c_1, h⟩
    · skip
      refine s_P_takeHindrances [(6, .if_icmp .ge 46, 0, (-1)), (9, .aload_n 1, 0, 0), (10, .iload_n 2, 0, 0), (11, .iload 4, 0, 0)] (by decide +kernel) (z' := (13, [(0, (vR 4 l0)), (1, (vR 8 l1)), (2, (vI l2)), (3, (vI l3)), (4, (vI v4))], [(vI v4), (vI l2), (vR 8 l1)], R, M, 174)) (cs := [¬ (l3 ≤ v4)]) (by rfl) ⟨Int.not_le.mpr c_1, trivial⟩ (Nat.le_refl _) ?_
      obtain ⟨r_2, e_3, h⟩ := xb1_ex h
      refine XR.callV 4 rfl (rest := []) m_Y_get k_4_50 8 l1 (Or.inl ⟨by decide, rfl⟩) [(vI l2), (vI v4)] rfl rfl (c_Y_get e_3) (by decide) (Nat.le_of_ble_eq_true rfl) (by decide +kernel) (Nat.le_refl _) (Nat.le_refl _) ?_
      show XR false 1 174 sc y_P_takeHindrances (16, [(0, (vR 4 l0)), (1, (vR 8 l1)), (2, (vI l2)), (3, (vI l3)), (4, (vI v4))], [(vL r_2)], R, M, 174) _
      refine s_P_takeHindrances [(16, .lstore 5, 0, 0), (18, .lload 5, 0, 0), (20, .lconst 1, 0, 1), (21, .lcmp, 0, 0)] (by decide +kernel) (z' := (22, [(5, (vL r_2)), (0, (vR 4 l0)), (1, (vR 8 l1)), (2, (vI l2)), (3, (vI l3)), (4, (vI v4))], [(vI (xcmp r_2 1))], R, M, 174)) (cs := []) (by rfl) trivial (Nat.le_refl _) ?_
      rcases xif_ex h with ⟨c_4, h⟩ | ⟨c_4, h⟩
      · skip
        refine s_P_takeHindrances [(22, .ifCond .lt 12, 0, 34), (34, .iconst 0, 0, 0)] (by decide +kernel) (z' := (35, [(5, (vL r_2)), (0, (vR 4 l0)), (1, (vR 8 l1)), (2, (vI l2)), (3, (vI l3)), (4, (vI v4))], [(vI 0)], R, M, 174)) (cs := [xcmp r_2 1 < 0]) (by rfl) ⟨xcmp_lt.mpr c_4, trivial⟩ (Nat.le_refl _) ?_
        obtain rfl := Option.some.inj h
        exact XR.retI .boolean rfl (xnar_z (by decide)) (by decide +kernel)
      · skip
        refine s_P_takeHindrances [(22, .ifCond .lt 12, 0, (-1)), (25, .lload 5, 0, 0), (27, .ldc2_w 79, 0, 100), (30, .lcmp, 0, 0)] (by decide +kernel) (z' := (31, [(5, (vL r_2)), (0, (vR 4 l0)), (1, (vR 8 l1)), (2, (vI l2)), (3, (vI l3)), (4, (vI v4))], [(vI (xcmp r_2 100))], R, M, 174)) (cs := [¬ (xcmp r_2 1 < 0)]) (by rfl) ⟨fun q => c_4 (xcmp_lt.mp q), trivial⟩ (Nat.le_refl _) ?_
        rcases xif_ex h with ⟨c_5, h⟩ | ⟨c_5, h⟩
        · skip
          refine s_P_takeHindrances [(31, .ifCond .le 5, 0, (-1)), (34, .iconst 0, 0, 0)] (by decide +kernel) (z' := (35, [(5, (vL r_2)), (0, (vR 4 l0)), (1, (vR 8 l1)), (2, (vI l2)), (3, (vI l3)), (4, (vI v4))], [(vI 0)], R, M, 174)) (cs := [¬ (xcmp r_2 100 ≤ 0)]) (by rfl) ⟨fun q => xcmp_le.mp q c_5, trivial⟩ (Nat.le_refl _) ?_
          obtain rfl := Option.some.inj h
          exact XR.retI .boolean rfl (xnar_z (by decide)) (by decide +kernel)
        · skip
          obtain ⟨c_6, h⟩ := xch_ex h
          obtain ⟨M_7, hM_7, h⟩ := xl_ex h
          obtain ⟨v4_8, hv4_8, h⟩ := xl_ex h
          refine s_P_takeHindrances [(31, .ifCond .le 5, 0, 36), (36, .aload_n 0, 0, 0), (37, .getfield 34, 4, 7), (40, .iload 4, 0, 0), (42, .lload 5, 0, 0), (44, .l2i, 0, 0), (45, .iastore, 0, 0), (46, .iinc 4 1, 0, 0), (49, .goto (-46), 0, 3)] (by decide +kernel) (z' := (3, [(4, (vI v4_8)), (5, (vL r_2)), (0, (vR 4 l0)), (1, (vR 8 l1)), (2, (vI l2)), (3, (vI l3))], [], R, M_7, 174)) (cs := [xcmp r_2 100 ≤ 0, xar 30 0, xidx v4 (xan 30)]) (by subst hM_7; subst hv4_8; rfl) ⟨xcmp_le.mpr c_5, xar_30, xix_30 c_6, trivial⟩ (Nat.le_refl _) ?_
          refine XR.pick [2, 3, 4, 5, 0] (ls' := [(0, (vR 4 l0)), (1, (vR 8 l1)), (2, (vI l2)), (3, (vI l3)), (4, (vI v4_8))]) rfl ?_
          exact ih v4_8 M_7 _ h
    · skip
      refine s_P_takeHindrances [(6, .if_icmp .ge 46, 0, 52), (52, .iconst 1, 0, 1)] (by decide +kernel) (z' := (53, [(0, (vR 4 l0)), (1, (vR 8 l1)), (2, (vI l2)), (3, (vI l3)), (4, (vI v4))], [(vI 1)], R, M, 174)) (cs := [l3 ≤ v4]) (by rfl) ⟨Int.not_lt.mp c_1, trivial⟩ (Nat.le_refl _) ?_
      obtain rfl := Option.some.inj h
      exact XR.retI .boolean rfl (xnar_z (by decide)) (by decide +kernel)
set_option maxRecDepth 100000 in
set_option maxHeartbeats 4000000 in
theorem o_P_takeHindrances {sc : List Int} {R : xR} {M : xM} {l0 : Nat} {l1 : Nat} {l2 : Int} {l3 : Int} {out : Int × xM} (h : f_P_takeHindrances R l0 l1 l2 l3 M = some out) : XR false 1 174 sc y_P_takeHindrances (0, [(0, (vR 4 l0)), (1, (vR 8 l1)), (2, (vI l2)), (3, (vI l3))], [], R, M, 174) ((some (vI out.1)), R, out.2) := by
  unfold f_P_takeHindrances at h
  refine s_P_takeHindrances [(0, .iconst 0, 0, 0), (1, .istore 4, 0, 0)] (by decide +kernel) (z' := (3, [(4, (vI 0)), (0, (vR 4 l0)), (1, (vR 8 l1)), (2, (vI l2)), (3, (vI l3))], [], R, M, 174)) (cs := []) (by rfl) trivial (Nat.le_refl _) ?_
  refine XR.pick [1, 2, 3, 4, 0] (ls' := [(0, (vR 4 l0)), (1, (vR 8 l1)), (2, (vI l2)), (3, (vI l3)), (4, (vI 0))]) rfl ?_
  refine o_P_takeHindrances_F3  xfu 0 M _ h
set_option maxRecDepth 100000 in
set_option maxHeartbeats 4000000 in
theorem c_P_takeHindrances {sc : List Int} {R : xR} {M : xM} {l0 : Nat} {l1 : Nat} {l2 : Int} {l3 : Int} {out : Int × xM} (h : f_P_takeHindrances R l0 l1 l2 l3 M = some out) : XC false 1 sc y_P_takeHindrances [(vR 4 l0), (vR 8 l1), (vI l2), (vI l3)] R M 174 174 ((some (vI out.1)), R, out.2) := XC.of (by decide) (Nat.le_of_ble_eq_true rfl) (Nat.le_refl _) (Nat.le_refl _) (o_P_takeHindrances h)
def P_takePortions_F16 (R : xR) (l0 : Nat) (l1 : Nat) (l2 : Int) : Nat → Int → xM → Option (Int × xM)
  | 0, _, _ => none
  | n + 1, v3, M =>
    if v3 < 4 then
      xb1 (f_Y_get R l1 l2 v3 M) fun r_5 =>
      xch (0 ≤ v3 ∧ v3 < 4) <|
      xl (xu M (R l0 1) (Int.toNat v3) (w32 r_5)) fun M_8 =>
      xl (w32 (v3 + 1)) fun v3_9 =>
      P_takePortions_F16 R l0 l1 l2  n v3_9 M_8
    else
      some (1, M)
def f_P_takePortions (R : xR) (l0 : Nat) (l1 : Nat) (l2 : Int) (M : xM) : Option (Int × xM) :=
  xb1 (f_Y_areWithin R l1 l2 4 9999 M) fun r_1 =>
  if r_1 = 0 then
    some (0, M)
  else
    P_takePortions_F16 R l0 l1 l2
      xfu 0 M
set_option maxRecDepth 100000 in
set_option maxHeartbeats 4000000 in
theorem s_P_takePortions {d : Nat} {sc : List Int} {z z' : xS} {out : xO} (qs : List xI) {cs : List Prop} (hq : qs.all (xqb 4 false y_P_takePortions.2.2.1 y_P_takePortions.2.1) = true) (h : xN false sc qs z = some (z', cs)) (hc : xAll cs) (hE : z'.2.2.2.2.2 ≤ 174) (k : XR false d 174 sc y_P_takePortions z' out) : XR false d 174 sc y_P_takePortions z out := XR.seg 4 false rfl (fun q => by cases q) qs hq h hc hE k
set_option maxRecDepth 100000 in
set_option maxHeartbeats 4000000 in
theorem o_P_takePortions_F16 {sc : List Int} {R : xR}   {l0 : Nat} {l1 : Nat} {l2 : Int}  : ∀ (n : Nat) (v3 : Int) (M : xM) (out : Int × xM), P_takePortions_F16 R l0 l1 l2  n v3 M = some out → XR false 2 174 sc y_P_takePortions (16, [(0, (vR 4 l0)), (1, (vR 8 l1)), (2, (vI l2)), (3, (vI v3))], [], R, M, 174) ((some (vI out.1)), R, out.2) := by
  intro n
  induction n with
  | zero => intro v3 M out h; exact (xno h).elim
  | succ n ih =>
    intro v3 M out h
    rw [P_takePortions_F16] at h
    refine s_P_takePortions [(16, .iload_n 3, 0, 0), (17, .iconst 4, 0, 4)] (by decide +kernel) (z' := (18, [(0, (vR 4 l0)), (1, (vR 8 l1)), (2, (vI l2)), (3, (vI v3))], [(vI 4), (vI v3)], R, M, 174)) (cs := []) (by rfl) trivial (Nat.le_refl _) ?_
    rcases xif_ex h with ⟨c_4, h⟩ | ⟨c_4, h⟩
    · skip
      refine s_P_takePortions [(18, .if_icmp .ge 22, 0, (-1)), (21, .aload_n 0, 0, 0), (22, .getfield 15, 4, 1), (25, .iload_n 3, 0, 0), (26, .aload_n 1, 0, 0), (27, .iload_n 2, 0, 0), (28, .iload_n 3, 0, 0)] (by decide +kernel) (z' := (29, [(0, (vR 4 l0)), (1, (vR 8 l1)), (2, (vI l2)), (3, (vI v3))], [(vI v3), (vI l2), (vR 8 l1), (vI v3), (vR 34 (R l0 1))], R, M, 174)) (cs := [¬ (4 ≤ v3)]) (by rfl) ⟨Int.not_le.mpr c_4, trivial⟩ (Nat.le_refl _) ?_
      obtain ⟨r_5, e_6, h⟩ := xb1_ex h
      refine XR.callV 4 rfl (rest := [(vI v3), (vR 34 (R l0 1))]) m_Y_get k_4_50 8 l1 (Or.inl ⟨by decide, rfl⟩) [(vI l2), (vI v3)] rfl rfl (c_Y_get e_6) (by decide) (Nat.le_of_ble_eq_true rfl) (by decide +kernel) (Nat.le_refl _) (Nat.le_refl _) ?_
      show XR false 2 174 sc y_P_takePortions (32, [(0, (vR 4 l0)), (1, (vR 8 l1)), (2, (vI l2)), (3, (vI v3))], [(vL r_5), (vI v3), (vR 34 (R l0 1))], R, M, 174) _
      obtain ⟨c_7, h⟩ := xch_ex h
      obtain ⟨M_8, hM_8, h⟩ := xl_ex h
      obtain ⟨v3_9, hv3_9, h⟩ := xl_ex h
      refine s_P_takePortions [(32, .l2i, 0, 0), (33, .iastore, 0, 0), (34, .iinc 3 1, 0, 0), (37, .goto (-21), 0, 16)] (by decide +kernel) (z' := (16, [(3, (vI v3_9)), (0, (vR 4 l0)), (1, (vR 8 l1)), (2, (vI l2))], [], R, M_8, 174)) (cs := [xar 34 0, xidx v3 (xan 34)]) (by subst hM_8; subst hv3_9; rfl) ⟨xar_34, xix_34 c_7, trivial⟩ (Nat.le_refl _) ?_
      refine XR.pick [1, 2, 3, 0] (ls' := [(0, (vR 4 l0)), (1, (vR 8 l1)), (2, (vI l2)), (3, (vI v3_9))]) rfl ?_
      exact ih v3_9 M_8 _ h
    · skip
      refine s_P_takePortions [(18, .if_icmp .ge 22, 0, 40), (40, .iconst 1, 0, 1)] (by decide +kernel) (z' := (41, [(0, (vR 4 l0)), (1, (vR 8 l1)), (2, (vI l2)), (3, (vI v3))], [(vI 1)], R, M, 174)) (cs := [4 ≤ v3]) (by rfl) ⟨Int.not_lt.mp c_4, trivial⟩ (Nat.le_refl _) ?_
      obtain rfl := Option.some.inj h
      exact XR.retI .boolean rfl (xnar_z (by decide)) (by decide +kernel)
set_option maxRecDepth 100000 in
set_option maxHeartbeats 4000000 in
theorem o_P_takePortions {sc : List Int} {R : xR} {M : xM} {l0 : Nat} {l1 : Nat} {l2 : Int} {out : Int × xM} (h : f_P_takePortions R l0 l1 l2 M = some out) : XR false 2 174 sc y_P_takePortions (0, [(0, (vR 4 l0)), (1, (vR 8 l1)), (2, (vI l2))], [], R, M, 174) ((some (vI out.1)), R, out.2) := by
  unfold f_P_takePortions at h
  refine s_P_takePortions [(0, .aload_n 1, 0, 0), (1, .iload_n 2, 0, 0), (2, .iconst 4, 0, 4), (3, .ldc2_w 56, 0, 9999)] (by decide +kernel) (z' := (6, [(0, (vR 4 l0)), (1, (vR 8 l1)), (2, (vI l2))], [(vL 9999), (vI 4), (vI l2), (vR 8 l1)], R, M, 174)) (cs := []) (by rfl) trivial (Nat.le_refl _) ?_
  obtain ⟨r_1, e_2, h⟩ := xb1_ex h
  refine XR.callV 4 rfl (rest := []) m_Y_areWithin k_4_58 8 l1 (Or.inl ⟨by decide, rfl⟩) [(vI l2), (vI 4), (vL 9999)] rfl rfl (c_Y_areWithin e_2) (by decide) (Nat.le_of_ble_eq_true rfl) (by decide +kernel) (Nat.le_refl _) (Nat.le_refl _) ?_
  show XR false 2 174 sc y_P_takePortions (9, [(0, (vR 4 l0)), (1, (vR 8 l1)), (2, (vI l2))], [(vI r_1)], R, M, 174) _
  rcases xif_ex h with ⟨c_3, h⟩ | ⟨c_3, h⟩
  · skip
    refine s_P_takePortions [(9, .ifCond .ne 5, 0, (-1)), (12, .iconst 0, 0, 0)] (by decide +kernel) (z' := (13, [(0, (vR 4 l0)), (1, (vR 8 l1)), (2, (vI l2))], [(vI 0)], R, M, 174)) (cs := [¬ (r_1 ≠ 0)]) (by rfl) ⟨fun q => q c_3, trivial⟩ (Nat.le_refl _) ?_
    obtain rfl := Option.some.inj h
    exact XR.retI .boolean rfl (xnar_z (by decide)) (by decide +kernel)
  · skip
    refine s_P_takePortions [(9, .ifCond .ne 5, 0, 14), (14, .iconst 0, 0, 0), (15, .istore_n 3, 0, 0)] (by decide +kernel) (z' := (16, [(3, (vI 0)), (0, (vR 4 l0)), (1, (vR 8 l1)), (2, (vI l2))], [], R, M, 174)) (cs := [r_1 ≠ 0]) (by rfl) ⟨c_3, trivial⟩ (Nat.le_refl _) ?_
    refine XR.pick [1, 2, 3, 0] (ls' := [(0, (vR 4 l0)), (1, (vR 8 l1)), (2, (vI l2)), (3, (vI 0))]) rfl ?_
    refine o_P_takePortions_F16  xfu 0 M _ h
set_option maxRecDepth 100000 in
set_option maxHeartbeats 4000000 in
theorem c_P_takePortions {sc : List Int} {R : xR} {M : xM} {l0 : Nat} {l1 : Nat} {l2 : Int} {out : Int × xM} (h : f_P_takePortions R l0 l1 l2 M = some out) : XC false 2 sc y_P_takePortions [(vR 4 l0), (vR 8 l1), (vI l2)] R M 174 174 ((some (vI out.1)), R, out.2) := XC.of (by decide) (Nat.le_of_ble_eq_true rfl) (Nat.le_refl _) (Nat.le_refl _) (o_P_takePortions h)
