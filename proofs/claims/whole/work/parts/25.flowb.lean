def F_shake_F4 (R : xR) (l0 : Nat) (l1 : Nat) (l2 : Int) : Nat → Int → xM → Option xM
  | 0, _, _ => none
  | n + 1, v3, M =>
    if v3 < w32 ((w32 (l2 + 1)) * 4) then
      xch (0 ≤ v3 ∧ v3 < 32) <|
      xch (0 ≤ l2 ∧ l2 < 8) <|
      xl (xu M (R l0 4) (Int.toNat v3) (w32 (Int.tdiv (w32 ((M (R l0 5) (Int.toNat v3)) * (M (R l1 7) (Int.toNat l2)))) 100))) fun M_5 =>
      xl (xu M_5 (R l0 6) (Int.toNat v3) (w32 ((M_5 (R l0 6) (Int.toNat v3)) + (w32 ((M_5 (R l0 5) (Int.toNat v3)) - (M_5 (R l0 4) (Int.toNat v3))))))) fun M_6 =>
      xl (xu M_6 (R l0 5) (Int.toNat v3) 0) fun M_7 =>
      xl (w32 (v3 + 1)) fun v3_8 =>
      F_shake_F4 R l0 l1 l2  n v3_8 M_7
    else
      some (M)
def f_F_shake (R : xR) (l0 : Nat) (l1 : Nat) (l2 : Int) (M : xM) : Option xM :=
  xl (w32 (l2 * 4)) fun v3_1 =>
  F_shake_F4 R l0 l1 l2
    xfu v3_1 M
set_option maxRecDepth 100000 in
set_option maxHeartbeats 4000000 in
theorem s_F_shake {d : Nat} {sc : List Int} {z z' : xS} {out : xO} (qs : List xI) {cs : List Prop} (hq : qs.all (xqb 1 false y_F_shake.2.2.1 y_F_shake.2.1) = true) (h : xN false sc qs z = some (z', cs)) (hc : xAll cs) (hE : z'.2.2.2.2.2 ≤ 174) (k : XR false d 174 sc y_F_shake z' out) : XR false d 174 sc y_F_shake z out := XR.seg 1 false rfl (fun q => by cases q) qs hq h hc hE k
set_option maxRecDepth 100000 in
set_option maxHeartbeats 4000000 in
theorem o_F_shake_F4 {sc : List Int} {R : xR}   {l0 : Nat} {l1 : Nat} {l2 : Int}  : ∀ (n : Nat) (v3 : Int) (M : xM) (out : xM), F_shake_F4 R l0 l1 l2  n v3 M = some out → XR false 0 174 sc y_F_shake (4, [(0, (vR 1 l0)), (1, (vR 6 l1)), (2, (vI l2)), (3, (vI v3))], [], R, M, 174) (none, R, out) := by
  intro n
  induction n with
  | zero => intro v3 M out h; exact (xno h).elim
  | succ n ih =>
    intro v3 M out h
    rw [F_shake_F4] at h
    refine s_F_shake [(4, .iload_n 3, 0, 0), (5, .iload_n 2, 0, 0), (6, .iconst 1, 0, 1), (7, .iadd, 0, 0), (8, .iconst 4, 0, 4), (9, .imul, 0, 0)] (by decide +kernel) (z' := (10, [(0, (vR 1 l0)), (1, (vR 6 l1)), (2, (vI l2)), (3, (vI v3))], [(vI (w32 ((w32 (l2 + 1)) * 4))), (vI v3)], R, M, 174)) (cs := []) (by rfl) trivial (Nat.le_refl _) ?_
    rcases xif_ex h with ⟨c_2, h⟩ | ⟨c_2, h⟩
    · skip
      obtain ⟨c_3, h⟩ := xch_ex h
      obtain ⟨c_4, h⟩ := xch_ex h
      obtain ⟨M_5, hM_5, h⟩ := xl_ex h
      obtain ⟨M_6, hM_6, h⟩ := xl_ex h
      obtain ⟨M_7, hM_7, h⟩ := xl_ex h
      obtain ⟨v3_8, hv3_8, h⟩ := xl_ex h
      refine s_F_shake [(10, .if_icmp .ge 60, 0, (-1)), (13, .aload_n 0, 0, 0), (14, .getfield 25, 1, 4), (17, .iload_n 3, 0, 0), (18, .aload_n 0, 0, 0), (19, .getfield 28, 1, 5), (22, .iload_n 3, 0, 0), (23, .iaload, 0, 0), (24, .aload_n 1, 0, 0), (25, .getfield 112, 6, 7), (28, .iload_n 2, 0, 0), (29, .iaload, 0, 0), (30, .imul, 0, 0), (31, .bipush 100, 0, 100), (33, .idiv, 0, 0), (34, .iastore, 0, 0), (35, .aload_n 0, 0, 0), (36, .getfield 31, 1, 6), (39, .iload_n 3, 0, 0), (40, .dup2, 0, 0), (41, .iaload, 0, 0), (42, .aload_n 0, 0, 0), (43, .getfield 28, 1, 5), (46, .iload_n 3, 0, 0), (47, .iaload, 0, 0), (48, .aload_n 0, 0, 0), (49, .getfield 25, 1, 4), (52, .iload_n 3, 0, 0), (53, .iaload, 0, 0), (54, .isub, 0, 0), (55, .iadd, 0, 0), (56, .iastore, 0, 0), (57, .aload_n 0, 0, 0), (58, .getfield 28, 1, 5), (61, .iload_n 3, 0, 0), (62, .iconst 0, 0, 0), (63, .iastore, 0, 0), (64, .iinc 3 1, 0, 0), (67, .goto (-63), 0, 4)] (by decide +kernel) (z' := (4, [(3, (vI v3_8)), (0, (vR 1 l0)), (1, (vR 6 l1)), (2, (vI l2))], [], R, M_7, 174)) (cs := [¬ (w32 ((w32 (l2 + 1)) * 4) ≤ v3), xar 27 0, xidx v3 (xan 27), xar 30 0, xidx l2 (xan 30), (100 : Int) ≠ 0, xar 27 0, xidx v3 (xan 27), xar 27 0, xidx v3 (xan 27), xar 27 0, xidx v3 (xan 27), xar 27 0, xidx v3 (xan 27), xar 27 0, xidx v3 (xan 27), xar 27 0, xidx v3 (xan 27)]) (by subst hM_5; subst hM_6; subst hM_7; subst hv3_8; rfl) ⟨Int.not_le.mpr c_2, xar_27, xix_27 c_3, xar_30, xix_30 c_4, by decide, xar_27, xix_27 c_3, xar_27, xix_27 c_3, xar_27, xix_27 c_3, xar_27, xix_27 c_3, xar_27, xix_27 c_3, xar_27, xix_27 c_3, trivial⟩ (Nat.le_refl _) ?_
      refine XR.pick [1, 2, 3, 0] (ls' := [(0, (vR 1 l0)), (1, (vR 6 l1)), (2, (vI l2)), (3, (vI v3_8))]) rfl ?_
      exact ih v3_8 M_7 _ h
    · skip
      refine s_F_shake [(10, .if_icmp .ge 60, 0, 70)] (by decide +kernel) (z' := (70, [(0, (vR 1 l0)), (1, (vR 6 l1)), (2, (vI l2)), (3, (vI v3))], [], R, M, 174)) (cs := [w32 ((w32 (l2 + 1)) * 4) ≤ v3]) (by rfl) ⟨Int.not_lt.mp c_2, trivial⟩ (Nat.le_refl _) ?_
      obtain rfl := Option.some.inj h
      exact XR.retV rfl (by decide +kernel)
set_option maxRecDepth 100000 in
set_option maxHeartbeats 4000000 in
theorem o_F_shake {sc : List Int} {R : xR} {M : xM} {l0 : Nat} {l1 : Nat} {l2 : Int} {out : xM} (h : f_F_shake R l0 l1 l2 M = some out) : XR false 0 174 sc y_F_shake (0, [(0, (vR 1 l0)), (1, (vR 6 l1)), (2, (vI l2))], [], R, M, 174) (none, R, out) := by
  unfold f_F_shake at h
  obtain ⟨v3_1, hv3_1, h⟩ := xl_ex h
  refine s_F_shake [(0, .iload_n 2, 0, 0), (1, .iconst 4, 0, 4), (2, .imul, 0, 0), (3, .istore_n 3, 0, 0)] (by decide +kernel) (z' := (4, [(3, (vI v3_1)), (0, (vR 1 l0)), (1, (vR 6 l1)), (2, (vI l2))], [], R, M, 174)) (cs := []) (by subst hv3_1; rfl) trivial (Nat.le_refl _) ?_
  refine XR.pick [1, 2, 3, 0] (ls' := [(0, (vR 1 l0)), (1, (vR 6 l1)), (2, (vI l2)), (3, (vI v3_1))]) rfl ?_
  refine o_F_shake_F4  xfu v3_1 M _ h
set_option maxRecDepth 100000 in
set_option maxHeartbeats 4000000 in
theorem c_F_shake {sc : List Int} {R : xR} {M : xM} {l0 : Nat} {l1 : Nat} {l2 : Int} {out : xM} (h : f_F_shake R l0 l1 l2 M = some out) : XC false 0 sc y_F_shake [(vR 1 l0), (vR 6 l1), (vI l2)] R M 174 174 (none, R, out) := XC.of (by decide) (Nat.le_of_ble_eq_true rfl) (Nat.le_refl _) (Nat.le_refl _) (o_F_shake h)
def F_step_F106 (R : xR) (l0 : Nat) (l1 : Nat) (l2 : Nat) (q128 : Int → Int → xM → Option xM) : Nat → Int → Int → Int → xM → Option xM
  | 0, _, _, _, _ => none
  | n + 1, v3, v4, v5, M =>
    if v5 < 4 then
      xb1 (f_F_pass R l0 l1 v4 v5 v3 M) fun M_19 =>
      xl (w32 (v5 + 1)) fun v5_21 =>
      F_step_F106 R l0 l1 l2 q128 n v3 v4 v5_21 M_19
    else
      q128 v3 v4 M
def F_step_J94 (R : xR) (l0 : Nat) (l1 : Nat) (l2 : Nat) (rc : Int → Int → xM → Option xM) (v3 : Int) (v4 : Int) (M : xM) : Option xM :=
  xb1 (f_F_clean R l0 l1 l2 v4 v3 M) fun M_16 =>
  F_step_F106 R l0 l1 l2
    (fun (v3_22 : Int) (v4_23 : Int) (M_24 : xM) =>
      xl (w32 (v4_23 + 1)) fun v4_25 =>
      rc v3_22 v4_25 M_24)
    xfu v3 v4 0 M_16
def F_step_F67 (R : xR) (l0 : Nat) (l1 : Nat) (l2 : Nat) : Nat → Int → Int → xM → Option xM
  | 0, _, _, _ => none
  | n + 1, v3, v4, M =>
    if v4 < M l1 0 then
      xb1 (f_F_isKnocked R l0 l2 v4 v3 M) fun r_13 =>
      if r_13 = 0 then
        F_step_J94 R l0 l1 l2 (F_step_F67 R l0 l1 l2  n) v3 v4 M
      else
        xb1 (f_F_shake R l0 l1 v4 M) fun M_26 =>
        F_step_J94 R l0 l1 l2 (F_step_F67 R l0 l1 l2  n) v3 v4 M_26
    else
      some (M)
def f_F_step (R : xR) (l0 : Nat) (l1 : Nat) (l2 : Nat) (M : xM) : Option xM :=
  if M l0 0 < 48 then
    xl (M l0 0) fun v3_2 =>
    xl (xu M l0 0 (w32 ((M l0 0) + 1))) fun M_3 =>
    xb1 (f_J_fill_aIIV 27 (R l0 2) 0 M_3) fun M_4 =>
    xb1 (f_J_fill_aIIV 27 (R l0 4) 0 M_4) fun M_6 =>
    xb1 (f_J_fill_aIIIIV 26 (R l0 1) (w32 (v3_2 * 4)) (w32 ((w32 (v3_2 + 1)) * 4)) 0 M_6) fun M_8 =>
    xb1 (f_F_bringDust R l0 l1 l2 v3_2 M_8) fun M_10 =>
    F_step_F67 R l0 l1 l2
      xfu v3_2 0 M_10
  else
    some (M)
set_option maxRecDepth 100000 in
set_option maxHeartbeats 4000000 in
theorem s_F_step {d : Nat} {sc : List Int} {z z' : xS} {out : xO} (qs : List xI) {cs : List Prop} (hq : qs.all (xqb 1 false y_F_step.2.2.1 y_F_step.2.1) = true) (h : xN false sc qs z = some (z', cs)) (hc : xAll cs) (hE : z'.2.2.2.2.2 ≤ 174) (k : XR false d 174 sc y_F_step z' out) : XR false d 174 sc y_F_step z out := XR.seg 1 false rfl (fun q => by cases q) qs hq h hc hE k
set_option maxRecDepth 100000 in
set_option maxHeartbeats 4000000 in
theorem o_F_step_F106 {sc : List Int} {R : xR}   {l0 : Nat} {l1 : Nat} {l2 : Nat}  {q128 : Int → Int → xM → Option xM} (hq128 : ∀ (w3 : Int) (w4 : Int) (M : xM) (out : xM), q128 w3 w4 M = some out → XR false 3 174 sc y_F_step (128, [(0, (vR 1 l0)), (1, (vR 6 l1)), (2, (vR 0 l2)), (3, (vI w3)), (4, (vI w4))], [], R, M, 174) (none, R, out)) : ∀ (n : Nat) (v3 : Int) (v4 : Int) (v5 : Int) (M : xM) (out : xM), F_step_F106 R l0 l1 l2 q128 n v3 v4 v5 M = some out → XR false 3 174 sc y_F_step (106, [(0, (vR 1 l0)), (1, (vR 6 l1)), (2, (vR 0 l2)), (3, (vI v3)), (4, (vI v4)), (5, (vI v5))], [], R, M, 174) (none, R, out) := by
  intro n
  induction n with
  | zero => intro v3 v4 v5 M out h; exact (xno h).elim
  | succ n ih =>
    intro v3 v4 v5 M out h
    rw [F_step_F106] at h
    refine s_F_step [(106, .iload 5, 0, 0), (108, .iconst 4, 0, 4)] (by decide +kernel) (z' := (109, [(0, (vR 1 l0)), (1, (vR 6 l1)), (2, (vR 0 l2)), (3, (vI v3)), (4, (vI v4)), (5, (vI v5))], [(vI 4), (vI v5)], R, M, 174)) (cs := []) (by rfl) trivial (Nat.le_refl _) ?_
    rcases xif_ex h with ⟨c_18, h⟩ | ⟨c_18, h⟩
    · skip
      refine s_F_step [(109, .if_icmp .ge 19, 0, (-1)), (112, .aload_n 0, 0, 0), (113, .aload_n 1, 0, 0), (114, .iload 4, 0, 0), (116, .iload 5, 0, 0), (118, .iload_n 3, 0, 0)] (by decide +kernel) (z' := (119, [(0, (vR 1 l0)), (1, (vR 6 l1)), (2, (vR 0 l2)), (3, (vI v3)), (4, (vI v4)), (5, (vI v5))], [(vI v3), (vI v5), (vI v4), (vR 6 l1), (vR 1 l0)], R, M, 174)) (cs := [¬ (4 ≤ v5)]) (by rfl) ⟨Int.not_le.mpr c_18, trivial⟩ (Nat.le_refl _) ?_
      obtain ⟨M_19, e_20, h⟩ := xb1_ex h
      refine XR.callV 1 rfl (rest := []) m_F_pass k_1_90 1 l0 (Or.inl ⟨by decide, rfl⟩) [(vR 6 l1), (vI v4), (vI v5), (vI v3)] rfl rfl (c_F_pass e_20) (by decide) (Nat.le_of_ble_eq_true rfl) (by decide +kernel) (Nat.le_refl _) (Nat.le_refl _) ?_
      show XR false 3 174 sc y_F_step (122, [(0, (vR 1 l0)), (1, (vR 6 l1)), (2, (vR 0 l2)), (3, (vI v3)), (4, (vI v4)), (5, (vI v5))], [], R, M_19, 174) _
      obtain ⟨v5_21, hv5_21, h⟩ := xl_ex h
      refine s_F_step [(122, .iinc 5 1, 0, 0), (125, .goto (-19), 0, 106)] (by decide +kernel) (z' := (106, [(5, (vI v5_21)), (0, (vR 1 l0)), (1, (vR 6 l1)), (2, (vR 0 l2)), (3, (vI v3)), (4, (vI v4))], [], R, M_19, 174)) (cs := []) (by subst hv5_21; rfl) trivial (Nat.le_refl _) ?_
      refine XR.pick [1, 2, 3, 4, 5, 0] (ls' := [(0, (vR 1 l0)), (1, (vR 6 l1)), (2, (vR 0 l2)), (3, (vI v3)), (4, (vI v4)), (5, (vI v5_21))]) rfl ?_
      exact ih v3 v4 v5_21 M_19 _ h
    · skip
      refine s_F_step [(109, .if_icmp .ge 19, 0, 128)] (by decide +kernel) (z' := (128, [(0, (vR 1 l0)), (1, (vR 6 l1)), (2, (vR 0 l2)), (3, (vI v3)), (4, (vI v4)), (5, (vI v5))], [], R, M, 174)) (cs := [4 ≤ v5]) (by rfl) ⟨Int.not_lt.mp c_18, trivial⟩ (Nat.le_refl _) ?_
      refine XR.pick [0, 1, 2, 3, 4] (ls' := [(0, (vR 1 l0)), (1, (vR 6 l1)), (2, (vR 0 l2)), (3, (vI v3)), (4, (vI v4))]) rfl ?_
      exact hq128 v3 v4 M _ h
set_option maxRecDepth 100000 in
set_option maxHeartbeats 4000000 in
theorem o_F_step_J94 {sc : List Int} {R : xR}   {l0 : Nat} {l1 : Nat} {l2 : Nat}  {rc : Int → Int → xM → Option xM} (hrc : ∀ (w3 : Int) (w4 : Int) (M : xM) (out : xM), rc w3 w4 M = some out → XR false 3 174 sc y_F_step (67, [(0, (vR 1 l0)), (1, (vR 6 l1)), (2, (vR 0 l2)), (3, (vI w3)), (4, (vI w4))], [], R, M, 174) (none, R, out)) {v3 : Int} {v4 : Int} {M : xM} {out : xM} (h : F_step_J94 R l0 l1 l2 rc v3 v4 M = some out) : XR false 3 174 sc y_F_step (94, [(0, (vR 1 l0)), (1, (vR 6 l1)), (2, (vR 0 l2)), (3, (vI v3)), (4, (vI v4))], [], R, M, 174) (none, R, out) := by
  unfold F_step_J94 at h
  refine s_F_step [(94, .aload_n 0, 0, 0), (95, .aload_n 1, 0, 0), (96, .aload_n 2, 0, 0), (97, .iload 4, 0, 0), (99, .iload_n 3, 0, 0)] (by decide +kernel) (z' := (100, [(0, (vR 1 l0)), (1, (vR 6 l1)), (2, (vR 0 l2)), (3, (vI v3)), (4, (vI v4))], [(vI v3), (vI v4), (vR 0 l2), (vR 6 l1), (vR 1 l0)], R, M, 174)) (cs := []) (by rfl) trivial (Nat.le_refl _) ?_
  obtain ⟨M_16, e_17, h⟩ := xb1_ex h
  refine XR.callV 1 rfl (rest := []) m_F_clean k_1_86 1 l0 (Or.inl ⟨by decide, rfl⟩) [(vR 6 l1), (vR 0 l2), (vI v4), (vI v3)] rfl rfl (c_F_clean e_17) (by decide) (Nat.le_of_ble_eq_true rfl) (by decide +kernel) (Nat.le_refl _) (Nat.le_refl _) ?_
  show XR false 3 174 sc y_F_step (103, [(0, (vR 1 l0)), (1, (vR 6 l1)), (2, (vR 0 l2)), (3, (vI v3)), (4, (vI v4))], [], R, M_16, 174) _
  refine s_F_step [(103, .iconst 0, 0, 0), (104, .istore 5, 0, 0)] (by decide +kernel) (z' := (106, [(5, (vI 0)), (0, (vR 1 l0)), (1, (vR 6 l1)), (2, (vR 0 l2)), (3, (vI v3)), (4, (vI v4))], [], R, M_16, 174)) (cs := []) (by rfl) trivial (Nat.le_refl _) ?_
  refine XR.pick [1, 2, 3, 4, 5, 0] (ls' := [(0, (vR 1 l0)), (1, (vR 6 l1)), (2, (vR 0 l2)), (3, (vI v3)), (4, (vI v4)), (5, (vI 0))]) rfl ?_
  refine o_F_step_F106 ?_ xfu v3 v4 0 M_16 _ h
  · intro v3_22 v4_23 M_24 out h
    obtain ⟨v4_25, hv4_25, h⟩ := xl_ex h
    refine s_F_step [(128, .iinc 4 1, 0, 0), (131, .goto (-64), 0, 67)] (by decide +kernel) (z' := (67, [(4, (vI v4_25)), (0, (vR 1 l0)), (1, (vR 6 l1)), (2, (vR 0 l2)), (3, (vI v3_22))], [], R, M_24, 174)) (cs := []) (by subst hv4_25; rfl) trivial (Nat.le_refl _) ?_
    refine XR.pick [1, 2, 3, 4, 0] (ls' := [(0, (vR 1 l0)), (1, (vR 6 l1)), (2, (vR 0 l2)), (3, (vI v3_22)), (4, (vI v4_25))]) rfl ?_
    exact hrc v3_22 v4_25 M_24 _ h
set_option maxRecDepth 100000 in
set_option maxHeartbeats 4000000 in
theorem o_F_step_F67 {sc : List Int} {R : xR}   {l0 : Nat} {l1 : Nat} {l2 : Nat}  : ∀ (n : Nat) (v3 : Int) (v4 : Int) (M : xM) (out : xM), F_step_F67 R l0 l1 l2  n v3 v4 M = some out → XR false 3 174 sc y_F_step (67, [(0, (vR 1 l0)), (1, (vR 6 l1)), (2, (vR 0 l2)), (3, (vI v3)), (4, (vI v4))], [], R, M, 174) (none, R, out) := by
  intro n
  induction n with
  | zero => intro v3 v4 M out h; exact (xno h).elim
  | succ n ih =>
    intro v3 v4 M out h
    rw [F_step_F67] at h
    refine s_F_step [(67, .iload 4, 0, 0), (69, .aload_n 1, 0, 0), (70, .getfield 73, 6, 0)] (by decide +kernel) (z' := (73, [(0, (vR 1 l0)), (1, (vR 6 l1)), (2, (vR 0 l2)), (3, (vI v3)), (4, (vI v4))], [(vI (M l1 0)), (vI v4)], R, M, 174)) (cs := []) (by rfl) trivial (Nat.le_refl _) ?_
    rcases xif_ex h with ⟨c_12, h⟩ | ⟨c_12, h⟩
    · skip
      refine s_F_step [(73, .if_icmp .ge 61, 0, (-1)), (76, .aload_n 0, 0, 0), (77, .aload_n 2, 0, 0), (78, .iload 4, 0, 0), (80, .iload_n 3, 0, 0)] (by decide +kernel) (z' := (81, [(0, (vR 1 l0)), (1, (vR 6 l1)), (2, (vR 0 l2)), (3, (vI v3)), (4, (vI v4))], [(vI v3), (vI v4), (vR 0 l2), (vR 1 l0)], R, M, 174)) (cs := [¬ (M l1 0 ≤ v4)]) (by rfl) ⟨Int.not_le.mpr c_12, trivial⟩ (Nat.le_refl _) ?_
      obtain ⟨r_13, e_14, h⟩ := xb1_ex h
      refine XR.callV 1 rfl (rest := []) m_F_isKnocked k_1_78 1 l0 (Or.inl ⟨by decide, rfl⟩) [(vR 0 l2), (vI v4), (vI v3)] rfl rfl (c_F_isKnocked e_14) (by decide) (Nat.le_of_ble_eq_true rfl) (by decide +kernel) (Nat.le_refl _) (Nat.le_refl _) ?_
      show XR false 3 174 sc y_F_step (84, [(0, (vR 1 l0)), (1, (vR 6 l1)), (2, (vR 0 l2)), (3, (vI v3)), (4, (vI v4))], [(vI r_13)], R, M, 174) _
      rcases xif_ex h with ⟨c_15, h⟩ | ⟨c_15, h⟩
      · skip
        refine s_F_step [(84, .ifCond .eq 10, 0, 94)] (by decide +kernel) (z' := (94, [(0, (vR 1 l0)), (1, (vR 6 l1)), (2, (vR 0 l2)), (3, (vI v3)), (4, (vI v4))], [], R, M, 174)) (cs := [r_13 = 0]) (by rfl) ⟨c_15, trivial⟩ (Nat.le_refl _) ?_
        exact o_F_step_J94 ih h
      · skip
        refine s_F_step [(84, .ifCond .eq 10, 0, (-1)), (87, .aload_n 0, 0, 0), (88, .aload_n 1, 0, 0), (89, .iload 4, 0, 0)] (by decide +kernel) (z' := (91, [(0, (vR 1 l0)), (1, (vR 6 l1)), (2, (vR 0 l2)), (3, (vI v3)), (4, (vI v4))], [(vI v4), (vR 6 l1), (vR 1 l0)], R, M, 174)) (cs := [¬ (r_13 = 0)]) (by rfl) ⟨c_15, trivial⟩ (Nat.le_refl _) ?_
        obtain ⟨M_26, e_27, h⟩ := xb1_ex h
        refine XR.callV 1 rfl (rest := []) m_F_shake k_1_82 1 l0 (Or.inl ⟨by decide, rfl⟩) [(vR 6 l1), (vI v4)] rfl rfl (c_F_shake e_27) (by decide) (Nat.le_of_ble_eq_true rfl) (by decide +kernel) (Nat.le_refl _) (Nat.le_refl _) ?_
        show XR false 3 174 sc y_F_step (94, [(0, (vR 1 l0)), (1, (vR 6 l1)), (2, (vR 0 l2)), (3, (vI v3)), (4, (vI v4))], [], R, M_26, 174) _
        exact o_F_step_J94 ih h
    · skip
      refine s_F_step [(73, .if_icmp .ge 61, 0, 134)] (by decide +kernel) (z' := (134, [(0, (vR 1 l0)), (1, (vR 6 l1)), (2, (vR 0 l2)), (3, (vI v3)), (4, (vI v4))], [], R, M, 174)) (cs := [M l1 0 ≤ v4]) (by rfl) ⟨Int.not_lt.mp c_12, trivial⟩ (Nat.le_refl _) ?_
      obtain rfl := Option.some.inj h
      exact XR.retV rfl (by decide +kernel)
set_option maxRecDepth 100000 in
set_option maxHeartbeats 4000000 in
theorem o_F_step {sc : List Int} {R : xR} {M : xM} {l0 : Nat} {l1 : Nat} {l2 : Nat} {out : xM} (h : f_F_step R l0 l1 l2 M = some out) : XR false 3 174 sc y_F_step (0, [(0, (vR 1 l0)), (1, (vR 6 l1)), (2, (vR 0 l2))], [], R, M, 174) (none, R, out) := by
  unfold f_F_step at h
  refine s_F_step [(0, .aload_n 0, 0, 0), (1, .getfield 9, 1, 0), (4, .bipush 48, 0, 48)] (by decide +kernel) (z' := (6, [(0, (vR 1 l0)), (1, (vR 6 l1)), (2, (vR 0 l2))], [(vI 48), (vI (M l0 0))], R, M, 174)) (cs := []) (by rfl) trivial (Nat.le_refl _) ?_
  rcases xif_ex h with ⟨c_1, h⟩ | ⟨c_1, h⟩
  · skip
    obtain ⟨v3_2, hv3_2, h⟩ := xl_ex h
    obtain ⟨M_3, hM_3, h⟩ := xl_ex h
    refine s_F_step [(6, .if_icmp .lt 4, 0, 10), (10, .aload_n 0, 0, 0), (11, .getfield 9, 1, 0), (14, .istore_n 3, 0, 0), (15, .aload_n 0, 0, 0), (16, .dup, 0, 0), (17, .getfield 9, 1, 0), (20, .iconst 1, 0, 1), (21, .iadd, 0, 0), (22, .putfield 9, 1, 0), (25, .aload_n 0, 0, 0), (26, .getfield 19, 1, 2), (29, .iconst 0, 0, 0)] (by decide +kernel) (z' := (30, [(3, (vI v3_2)), (0, (vR 1 l0)), (1, (vR 6 l1)), (2, (vR 0 l2))], [(vI 0), (vR 27 (R l0 2))], R, M_3, 174)) (cs := [M l0 0 < 48]) (by subst hv3_2; subst hM_3; rfl) ⟨c_1, trivial⟩ (Nat.le_refl _) ?_
    obtain ⟨M_4, e_5, h⟩ := xb1_ex h
    refine XR.callS 1 rfl (rest := []) m_J_fill_aIIV k_1_54 [(vR 27 (R l0 2)), (vI 0)] rfl rfl (c_J_fill_aIIV (xar_27) e_5) (by decide) (Nat.le_of_ble_eq_true rfl) (by decide +kernel) (Nat.le_refl _) (Nat.le_refl _) ?_
    show XR false 3 174 sc y_F_step (33, [(3, (vI v3_2)), (0, (vR 1 l0)), (1, (vR 6 l1)), (2, (vR 0 l2))], [], R, M_4, 174) _
    refine s_F_step [(33, .aload_n 0, 0, 0), (34, .getfield 25, 1, 4), (37, .iconst 0, 0, 0)] (by decide +kernel) (z' := (38, [(3, (vI v3_2)), (0, (vR 1 l0)), (1, (vR 6 l1)), (2, (vR 0 l2))], [(vI 0), (vR 27 (R l0 4))], R, M_4, 174)) (cs := []) (by rfl) trivial (Nat.le_refl _) ?_
    obtain ⟨M_6, e_7, h⟩ := xb1_ex h
    refine XR.callS 1 rfl (rest := []) m_J_fill_aIIV k_1_54 [(vR 27 (R l0 4)), (vI 0)] rfl rfl (c_J_fill_aIIV (xar_27) e_7) (by decide) (Nat.le_of_ble_eq_true rfl) (by decide +kernel) (Nat.le_refl _) (Nat.le_refl _) ?_
    show XR false 3 174 sc y_F_step (41, [(3, (vI v3_2)), (0, (vR 1 l0)), (1, (vR 6 l1)), (2, (vR 0 l2))], [], R, M_6, 174) _
    refine s_F_step [(41, .aload_n 0, 0, 0), (42, .getfield 15, 1, 1), (45, .iload_n 3, 0, 0), (46, .iconst 4, 0, 4), (47, .imul, 0, 0), (48, .iload_n 3, 0, 0), (49, .iconst 1, 0, 1), (50, .iadd, 0, 0), (51, .iconst 4, 0, 4), (52, .imul, 0, 0), (53, .iconst 0, 0, 0)] (by decide +kernel) (z' := (54, [(3, (vI v3_2)), (0, (vR 1 l0)), (1, (vR 6 l1)), (2, (vR 0 l2))], [(vI 0), (vI (w32 ((w32 (v3_2 + 1)) * 4))), (vI (w32 (v3_2 * 4))), (vR 26 (R l0 1))], R, M_6, 174)) (cs := []) (by rfl) trivial (Nat.le_refl _) ?_
    obtain ⟨M_8, e_9, h⟩ := xb1_ex h
    refine XR.callS 1 rfl (rest := []) m_J_fill_aIIIIV k_1_66 [(vR 26 (R l0 1)), (vI (w32 (v3_2 * 4))), (vI (w32 ((w32 (v3_2 + 1)) * 4))), (vI 0)] rfl rfl (c_J_fill_aIIIIV (xar_26) e_9) (by decide) (Nat.le_of_ble_eq_true rfl) (by decide +kernel) (Nat.le_refl _) (Nat.le_refl _) ?_
    show XR false 3 174 sc y_F_step (57, [(3, (vI v3_2)), (0, (vR 1 l0)), (1, (vR 6 l1)), (2, (vR 0 l2))], [], R, M_8, 174) _
    refine s_F_step [(57, .aload_n 0, 0, 0), (58, .aload_n 1, 0, 0), (59, .aload_n 2, 0, 0), (60, .iload_n 3, 0, 0)] (by decide +kernel) (z' := (61, [(3, (vI v3_2)), (0, (vR 1 l0)), (1, (vR 6 l1)), (2, (vR 0 l2))], [(vI v3_2), (vR 0 l2), (vR 6 l1), (vR 1 l0)], R, M_8, 174)) (cs := []) (by rfl) trivial (Nat.le_refl _) ?_
    obtain ⟨M_10, e_11, h⟩ := xb1_ex h
    refine XR.callV 1 rfl (rest := []) m_F_bringDust k_1_69 1 l0 (Or.inl ⟨by decide, rfl⟩) [(vR 6 l1), (vR 0 l2), (vI v3_2)] rfl rfl (c_F_bringDust e_11) (by decide) (Nat.le_of_ble_eq_true rfl) (by decide +kernel) (Nat.le_refl _) (Nat.le_refl _) ?_
    show XR false 3 174 sc y_F_step (64, [(3, (vI v3_2)), (0, (vR 1 l0)), (1, (vR 6 l1)), (2, (vR 0 l2))], [], R, M_10, 174) _
    refine s_F_step [(64, .iconst 0, 0, 0), (65, .istore 4, 0, 0)] (by decide +kernel) (z' := (67, [(4, (vI 0)), (3, (vI v3_2)), (0, (vR 1 l0)), (1, (vR 6 l1)), (2, (vR 0 l2))], [], R, M_10, 174)) (cs := []) (by rfl) trivial (Nat.le_refl _) ?_
    refine XR.pick [2, 3, 4, 1, 0] (ls' := [(0, (vR 1 l0)), (1, (vR 6 l1)), (2, (vR 0 l2)), (3, (vI v3_2)), (4, (vI 0))]) rfl ?_
    refine o_F_step_F67  xfu v3_2 0 M_10 _ h
  · skip
    refine s_F_step [(6, .if_icmp .lt 4, 0, (-1))] (by decide +kernel) (z' := (9, [(0, (vR 1 l0)), (1, (vR 6 l1)), (2, (vR 0 l2))], [], R, M, 174)) (cs := [¬ (M l0 0 < 48)]) (by rfl) ⟨c_1, trivial⟩ (Nat.le_refl _) ?_
    obtain rfl := Option.some.inj h
    exact XR.retV rfl (by decide +kernel)
set_option maxRecDepth 100000 in
set_option maxHeartbeats 4000000 in
theorem c_F_step {sc : List Int} {R : xR} {M : xM} {l0 : Nat} {l1 : Nat} {l2 : Nat} {out : xM} (h : f_F_step R l0 l1 l2 M = some out) : XC false 3 sc y_F_step [(vR 1 l0), (vR 6 l1), (vR 0 l2)] R M 174 174 (none, R, out) := XC.of (by decide) (Nat.le_of_ble_eq_true rfl) (Nat.le_refl _) (Nat.le_refl _) (o_F_step h)
def f_F_supposeHole (l0 : Nat) (l1 : Int) (l2 : Int) (M : xM) : Option xM :=
  xl (xu M l0 9 l1) fun M_1 =>
  xl (xu M_1 l0 10 0) fun M_2 =>
  xl (xu M_2 l0 11 l2) fun M_3 =>
  some (M_3)
set_option maxRecDepth 100000 in
set_option maxHeartbeats 4000000 in
theorem s_F_supposeHole {d : Nat} {sc : List Int} {z z' : xS} {out : xO} (qs : List xI) {cs : List Prop} (hq : qs.all (xqb 1 false y_F_supposeHole.2.2.1 y_F_supposeHole.2.1) = true) (h : xN false sc qs z = some (z', cs)) (hc : xAll cs) (hE : z'.2.2.2.2.2 ≤ 174) (k : XR false d 174 sc y_F_supposeHole z' out) : XR false d 174 sc y_F_supposeHole z out := XR.seg 1 false rfl (fun q => by cases q) qs hq h hc hE k
set_option maxRecDepth 100000 in
set_option maxHeartbeats 4000000 in
theorem o_F_supposeHole {sc : List Int} {R : xR} {M : xM} {l0 : Nat} {l1 : Int} {l2 : Int} {out : xM} (h : f_F_supposeHole l0 l1 l2 M = some out) : XR false 0 174 sc y_F_supposeHole (0, [(0, (vR 1 l0)), (1, (vI l1)), (2, (vI l2))], [], R, M, 174) (none, R, out) := by
  unfold f_F_supposeHole at h
  obtain ⟨M_1, hM_1, h⟩ := xl_ex h
  obtain ⟨M_2, hM_2, h⟩ := xl_ex h
  obtain ⟨M_3, hM_3, h⟩ := xl_ex h
  refine s_F_supposeHole [(0, .aload_n 0, 0, 0), (1, .iload_n 1, 0, 0), (2, .putfield 44, 1, 9), (5, .aload_n 0, 0, 0), (6, .lconst 0, 0, 0), (7, .putfield 47, 1, 10), (10, .aload_n 0, 0, 0), (11, .iload_n 2, 0, 0), (12, .putfield 51, 1, 11)] (by decide +kernel) (z' := (15, [(0, (vR 1 l0)), (1, (vI l1)), (2, (vI l2))], [], R, M_3, 174)) (cs := []) (by subst hM_1; subst hM_2; subst hM_3; rfl) trivial (Nat.le_refl _) ?_
  obtain rfl := Option.some.inj h
  exact XR.retV rfl (by decide +kernel)
set_option maxRecDepth 100000 in
set_option maxHeartbeats 4000000 in
theorem c_F_supposeHole {sc : List Int} {R : xR} {M : xM} {l0 : Nat} {l1 : Int} {l2 : Int} {out : xM} (h : f_F_supposeHole l0 l1 l2 M = some out) : XC false 0 sc y_F_supposeHole [(vR 1 l0), (vI l1), (vI l2)] R M 174 174 (none, R, out) := XC.of (by decide) (Nat.le_of_ble_eq_true rfl) (Nat.le_refl _) (Nat.le_refl _) (o_F_supposeHole h)
def f_F_supposeKnocks (l0 : Nat) (l1 : Int) (l2 : Int) (M : xM) : Option xM :=
  xl (xu M l0 9 l1) fun M_1 =>
  xl (xu M_1 l0 10 l2) fun M_2 =>
  xl (xu M_2 l0 11 0) fun M_3 =>
  some (M_3)
set_option maxRecDepth 100000 in
set_option maxHeartbeats 4000000 in
theorem s_F_supposeKnocks {d : Nat} {sc : List Int} {z z' : xS} {out : xO} (qs : List xI) {cs : List Prop} (hq : qs.all (xqb 1 false y_F_supposeKnocks.2.2.1 y_F_supposeKnocks.2.1) = true) (h : xN false sc qs z = some (z', cs)) (hc : xAll cs) (hE : z'.2.2.2.2.2 ≤ 174) (k : XR false d 174 sc y_F_supposeKnocks z' out) : XR false d 174 sc y_F_supposeKnocks z out := XR.seg 1 false rfl (fun q => by cases q) qs hq h hc hE k
set_option maxRecDepth 100000 in
set_option maxHeartbeats 4000000 in
theorem o_F_supposeKnocks {sc : List Int} {R : xR} {M : xM} {l0 : Nat} {l1 : Int} {l2 : Int} {out : xM} (h : f_F_supposeKnocks l0 l1 l2 M = some out) : XR false 0 174 sc y_F_supposeKnocks (0, [(0, (vR 1 l0)), (1, (vI l1)), (2, (vL l2))], [], R, M, 174) (none, R, out) := by
  unfold f_F_supposeKnocks at h
  obtain ⟨M_1, hM_1, h⟩ := xl_ex h
  obtain ⟨M_2, hM_2, h⟩ := xl_ex h
  obtain ⟨M_3, hM_3, h⟩ := xl_ex h
  refine s_F_supposeKnocks [(0, .aload_n 0, 0, 0), (1, .iload_n 1, 0, 0), (2, .putfield 44, 1, 9), (5, .aload_n 0, 0, 0), (6, .lload_n 2, 0, 0), (7, .putfield 47, 1, 10), (10, .aload_n 0, 0, 0), (11, .iconst 0, 0, 0), (12, .putfield 51, 1, 11)] (by decide +kernel) (z' := (15, [(0, (vR 1 l0)), (1, (vI l1)), (2, (vL l2))], [], R, M_3, 174)) (cs := []) (by subst hM_1; subst hM_2; subst hM_3; rfl) trivial (Nat.le_refl _) ?_
  obtain rfl := Option.some.inj h
  exact XR.retV rfl (by decide +kernel)
set_option maxRecDepth 100000 in
set_option maxHeartbeats 4000000 in
theorem c_F_supposeKnocks {sc : List Int} {R : xR} {M : xM} {l0 : Nat} {l1 : Int} {l2 : Int} {out : xM} (h : f_F_supposeKnocks l0 l1 l2 M = some out) : XC false 0 sc y_F_supposeKnocks [(vR 1 l0), (vI l1), (vL l2)] R M 174 174 (none, R, out) := XC.of (by decide) (Nat.le_of_ble_eq_true rfl) (Nat.le_refl _) (Nat.le_refl _) (o_F_supposeKnocks h)
def f_F_upOf (R : xR) (l0 : Nat) (l1 : Int) (l2 : Int) (M : xM) : Option Int :=
  if l2 = -1 then
    xb1 (f_F_sumOf 26 (R l0 1) (w32 (l1 * 4)) M) fun r_2 =>
    some (r_2)
  else
    xch (0 ≤ w32 ((w32 (l1 * 4)) + l2) ∧ w32 ((w32 (l1 * 4)) + l2) < 192) <|
    some (M (R l0 1) (Int.toNat (w32 ((w32 (l1 * 4)) + l2))))
set_option maxRecDepth 100000 in
set_option maxHeartbeats 4000000 in
theorem s_F_upOf {d : Nat} {sc : List Int} {z z' : xS} {out : xO} (qs : List xI) {cs : List Prop} (hq : qs.all (xqb 1 false y_F_upOf.2.2.1 y_F_upOf.2.1) = true) (h : xN false sc qs z = some (z', cs)) (hc : xAll cs) (hE : z'.2.2.2.2.2 ≤ 174) (k : XR false d 174 sc y_F_upOf z' out) : XR false d 174 sc y_F_upOf z out := XR.seg 1 false rfl (fun q => by cases q) qs hq h hc hE k
set_option maxRecDepth 100000 in
set_option maxHeartbeats 4000000 in
theorem o_F_upOf {sc : List Int} {R : xR} {M : xM} {l0 : Nat} {l1 : Int} {l2 : Int} {out : Int} (h : f_F_upOf R l0 l1 l2 M = some out) : XR false 1 174 sc y_F_upOf (0, [(0, (vR 1 l0)), (1, (vI l1)), (2, (vI l2))], [], R, M, 174) ((some (vI out)), R, M) := by
  unfold f_F_upOf at h
  refine s_F_upOf [(0, .iload_n 2, 0, 0), (1, .iconst (-1), 0, (-1))] (by decide +kernel) (z' := (2, [(0, (vR 1 l0)), (1, (vI l1)), (2, (vI l2))], [(vI (-1)), (vI l2)], R, M, 174)) (cs := []) (by rfl) trivial (Nat.le_refl _) ?_
  rcases xif_ex h with ⟨c_1, h⟩ | ⟨c_1, h⟩
  · skip
    refine s_F_upOf [(2, .if_icmp .ne 16, 0, (-1)), (5, .aload_n 0, 0, 0), (6, .getfield 15, 1, 1), (9, .iload_n 1, 0, 0), (10, .iconst 4, 0, 4), (11, .imul, 0, 0)] (by decide +kernel) (z' := (12, [(0, (vR 1 l0)), (1, (vI l1)), (2, (vI l2))], [(vI (w32 (l1 * 4))), (vR 26 (R l0 1))], R, M, 174)) (cs := [¬ (l2 ≠ -1)]) (by rfl) ⟨fun q => q c_1, trivial⟩ (Nat.le_refl _) ?_
    obtain ⟨r_2, e_3, h⟩ := xb1_ex h
    refine XR.callS 1 rfl (rest := []) m_F_sumOf k_1_118 [(vR 26 (R l0 1)), (vI (w32 (l1 * 4)))] rfl rfl (c_F_sumOf (xar_26) e_3) (by decide) (Nat.le_of_ble_eq_true rfl) (by decide +kernel) (Nat.le_refl _) (Nat.le_refl _) ?_
    show XR false 1 174 sc y_F_upOf (15, [(0, (vR 1 l0)), (1, (vI l1)), (2, (vI l2))], [(vI r_2)], R, M, 174) _
    refine s_F_upOf [(15, .goto 13, 0, 28)] (by decide +kernel) (z' := (28, [(0, (vR 1 l0)), (1, (vI l1)), (2, (vI l2))], [(vI r_2)], R, M, 174)) (cs := []) (by rfl) trivial (Nat.le_refl _) ?_
    obtain rfl := Option.some.inj h
    exact XR.retI .int rfl rfl (by decide +kernel)
  · skip
    obtain ⟨c_4, h⟩ := xch_ex h
    refine s_F_upOf [(2, .if_icmp .ne 16, 0, 18), (18, .aload_n 0, 0, 0), (19, .getfield 15, 1, 1), (22, .iload_n 1, 0, 0), (23, .iconst 4, 0, 4), (24, .imul, 0, 0), (25, .iload_n 2, 0, 0), (26, .iadd, 0, 0), (27, .iaload, 0, 0)] (by decide +kernel) (z' := (28, [(0, (vR 1 l0)), (1, (vI l1)), (2, (vI l2))], [(vI (M (R l0 1) (Int.toNat (w32 ((w32 (l1 * 4)) + l2)))))], R, M, 174)) (cs := [l2 ≠ -1, xar 26 0, xidx (w32 ((w32 (l1 * 4)) + l2)) (xan 26)]) (by rfl) ⟨c_1, xar_26, xix_26 c_4, trivial⟩ (Nat.le_refl _) ?_
    obtain rfl := Option.some.inj h
    exact XR.retI .int rfl rfl (by decide +kernel)
set_option maxRecDepth 100000 in
set_option maxHeartbeats 4000000 in
theorem c_F_upOf {sc : List Int} {R : xR} {M : xM} {l0 : Nat} {l1 : Int} {l2 : Int} {out : Int} (h : f_F_upOf R l0 l1 l2 M = some out) : XC false 1 sc y_F_upOf [(vR 1 l0), (vI l1), (vI l2)] R M 174 174 ((some (vI out)), R, M) := XC.of (by decide) (Nat.le_of_ble_eq_true rfl) (Nat.le_refl _) (Nat.le_refl _) (o_F_upOf h)
def f_H_isNear (R : xR) (l0 : Nat) (l1 : Nat) (l2 : Int) (M : xM) : Option Int :=
  if l2 < M l0 2 then
    some (1)
  else
    xch (0 ≤ w32 (l2 - (M l0 2)) ∧ w32 (l2 - (M l0 2)) < 24) <|
    xl (M (R l0 1) (Int.toNat (w32 (l2 - (M l0 2))))) fun v3_3 =>
    xb1 (f_F_upOf R l1 l2 (-1) M) fun r_4 =>
    if v3_3 < w64 (r_4 - (M l0 4)) then
      some (0)
    else
      if w64 (r_4 + (M l0 4)) < v3_3 then
        some (0)
      else
        some (1)
set_option maxRecDepth 100000 in
set_option maxHeartbeats 4000000 in
theorem s_H_isNear {d : Nat} {sc : List Int} {z z' : xS} {out : xO} (qs : List xI) {cs : List Prop} (hq : qs.all (xqb 2 false y_H_isNear.2.2.1 y_H_isNear.2.1) = true) (h : xN false sc qs z = some (z', cs)) (hc : xAll cs) (hE : z'.2.2.2.2.2 ≤ 174) (k : XR false d 174 sc y_H_isNear z' out) : XR false d 174 sc y_H_isNear z out := XR.seg 2 false rfl (fun q => by cases q) qs hq h hc hE k
set_option maxRecDepth 100000 in
set_option maxHeartbeats 4000000 in
theorem o_H_isNear {sc : List Int} {R : xR} {M : xM} {l0 : Nat} {l1 : Nat} {l2 : Int} {out : Int} (h : f_H_isNear R l0 l1 l2 M = some out) : XR false 2 174 sc y_H_isNear (0, [(0, (vR 2 l0)), (1, (vR 1 l1)), (2, (vI l2))], [], R, M, 174) ((some (vI out)), R, M) := by
  unfold f_H_isNear at h
  refine s_H_isNear [(0, .iload_n 2, 0, 0), (1, .aload_n 0, 0, 0), (2, .getfield 22, 2, 2)] (by decide +kernel) (z' := (5, [(0, (vR 2 l0)), (1, (vR 1 l1)), (2, (vI l2))], [(vI (M l0 2)), (vI l2)], R, M, 174)) (cs := []) (by rfl) trivial (Nat.le_refl _) ?_
  rcases xif_ex h with ⟨c_1, h⟩ | ⟨c_1, h⟩
  · skip
    refine s_H_isNear [(5, .if_icmp .ge 5, 0, (-1)), (8, .iconst 1, 0, 1)] (by decide +kernel) (z' := (9, [(0, (vR 2 l0)), (1, (vR 1 l1)), (2, (vI l2))], [(vI 1)], R, M, 174)) (cs := [¬ (M l0 2 ≤ l2)]) (by rfl) ⟨Int.not_le.mpr c_1, trivial⟩ (Nat.le_refl _) ?_
    obtain rfl := Option.some.inj h
    exact XR.retI .boolean rfl (xnar_z (by decide)) (by decide +kernel)
  · skip
    obtain ⟨c_2, h⟩ := xch_ex h
    obtain ⟨v3_3, hv3_3, h⟩ := xl_ex h
    refine s_H_isNear [(5, .if_icmp .ge 5, 0, 10), (10, .aload_n 0, 0, 0), (11, .getfield 18, 2, 1), (14, .iload_n 2, 0, 0), (15, .aload_n 0, 0, 0), (16, .getfield 22, 2, 2), (19, .isub, 0, 0), (20, .laload, 0, 0), (21, .lstore_n 3, 0, 0), (22, .aload_n 1, 0, 0), (23, .iload_n 2, 0, 0), (24, .iconst (-1), 0, (-1))] (by decide +kernel) (z' := (25, [(3, (vL v3_3)), (0, (vR 2 l0)), (1, (vR 1 l1)), (2, (vI l2))], [(vI (-1)), (vI l2), (vR 1 l1)], R, M, 174)) (cs := [M l0 2 ≤ l2, xar 28 1, xidx (w32 (l2 - (M l0 2))) (xan 28)]) (by subst hv3_3; rfl) ⟨Int.not_lt.mp c_1, xar_28, xix_28 c_2, trivial⟩ (Nat.le_refl _) ?_
    obtain ⟨r_4, e_5, h⟩ := xb1_ex h
    refine XR.callV 2 rfl (rest := []) m_F_upOf k_2_95 1 l1 (Or.inl ⟨by decide, rfl⟩) [(vI l2), (vI (-1))] rfl rfl (c_F_upOf e_5) (by decide) (Nat.le_of_ble_eq_true rfl) (by decide +kernel) (Nat.le_refl _) (Nat.le_refl _) ?_
    show XR false 2 174 sc y_H_isNear (28, [(3, (vL v3_3)), (0, (vR 2 l0)), (1, (vR 1 l1)), (2, (vI l2))], [(vI r_4)], R, M, 174) _
    refine s_H_isNear [(28, .i2l, 0, 0), (29, .lstore 5, 0, 0), (31, .lload_n 3, 0, 0), (32, .lload 5, 0, 0), (34, .aload_n 0, 0, 0), (35, .getfield 29, 2, 4), (38, .i2l, 0, 0), (39, .lsub, 0, 0), (40, .lcmp, 0, 0)] (by decide +kernel) (z' := (41, [(5, (vL r_4)), (3, (vL v3_3)), (0, (vR 2 l0)), (1, (vR 1 l1)), (2, (vI l2))], [(vI (xcmp v3_3 (w64 (r_4 - (M l0 4)))))], R, M, 174)) (cs := []) (by rfl) trivial (Nat.le_refl _) ?_
    rcases xif_ex h with ⟨c_6, h⟩ | ⟨c_6, h⟩
    · skip
      refine s_H_isNear [(41, .ifCond .lt 20, 0, 61), (61, .iconst 0, 0, 0)] (by decide +kernel) (z' := (62, [(5, (vL r_4)), (3, (vL v3_3)), (0, (vR 2 l0)), (1, (vR 1 l1)), (2, (vI l2))], [(vI 0)], R, M, 174)) (cs := [xcmp v3_3 (w64 (r_4 - (M l0 4))) < 0]) (by rfl) ⟨xcmp_lt.mpr c_6, trivial⟩ (Nat.le_refl _) ?_
      obtain rfl := Option.some.inj h
      exact XR.retI .boolean rfl (xnar_z (by decide)) (by decide +kernel)
    · skip
      refine s_H_isNear [(41, .ifCond .lt 20, 0, (-1)), (44, .lload_n 3, 0, 0), (45, .lload 5, 0, 0), (47, .aload_n 0, 0, 0), (48, .getfield 29, 2, 4), (51, .i2l, 0, 0), (52, .ladd, 0, 0), (53, .lcmp, 0, 0)] (by decide +kernel) (z' := (54, [(5, (vL r_4)), (3, (vL v3_3)), (0, (vR 2 l0)), (1, (vR 1 l1)), (2, (vI l2))], [(vI (xcmp v3_3 (w64 (r_4 + (M l0 4)))))], R, M, 174)) (cs := [¬ (xcmp v3_3 (w64 (r_4 - (M l0 4))) < 0)]) (by rfl) ⟨fun q => c_6 (xcmp_lt.mp q), trivial⟩ (Nat.le_refl _) ?_
      rcases xif_ex h with ⟨c_7, h⟩ | ⟨c_7, h⟩
      · skip
        refine s_H_isNear [(54, .ifCond .gt 7, 0, 61), (61, .iconst 0, 0, 0)] (by decide +kernel) (z' := (62, [(5, (vL r_4)), (3, (vL v3_3)), (0, (vR 2 l0)), (1, (vR 1 l1)), (2, (vI l2))], [(vI 0)], R, M, 174)) (cs := [0 < xcmp v3_3 (w64 (r_4 + (M l0 4)))]) (by rfl) ⟨xcmp_gt.mpr c_7, trivial⟩ (Nat.le_refl _) ?_
        obtain rfl := Option.some.inj h
        exact XR.retI .boolean rfl (xnar_z (by decide)) (by decide +kernel)
      · skip
        refine s_H_isNear [(54, .ifCond .gt 7, 0, (-1)), (57, .iconst 1, 0, 1), (58, .goto 4, 0, 62)] (by decide +kernel) (z' := (62, [(5, (vL r_4)), (3, (vL v3_3)), (0, (vR 2 l0)), (1, (vR 1 l1)), (2, (vI l2))], [(vI 1)], R, M, 174)) (cs := [¬ (0 < xcmp v3_3 (w64 (r_4 + (M l0 4))))]) (by rfl) ⟨fun q => c_7 (xcmp_gt.mp q), trivial⟩ (Nat.le_refl _) ?_
        obtain rfl := Option.some.inj h
        exact XR.retI .boolean rfl (xnar_z (by decide)) (by decide +kernel)
set_option maxRecDepth 100000 in
set_option maxHeartbeats 4000000 in
theorem c_H_isNear {sc : List Int} {R : xR} {M : xM} {l0 : Nat} {l1 : Nat} {l2 : Int} {out : Int} (h : f_H_isNear R l0 l1 l2 M = some out) : XC false 2 sc y_H_isNear [(vR 2 l0), (vR 1 l1), (vI l2)] R M 174 174 ((some (vI out)), R, M) := XC.of (by decide) (Nat.le_of_ble_eq_true rfl) (Nat.le_refl _) (Nat.le_refl _) (o_H_isNear h)
def H_explains_F6 (R : xR) (l0 : Nat) (l1 : Nat) (l2 : Nat) : Nat → Int → Int → xM → Option (Int × xM)
  | 0, _, _, _ => none
  | n + 1, v4, v5, M =>
    if v4 = 0 then
      xch (v4 = 0 ∨ v4 = 1) <|
      some (v4, M)
    else
      if M l0 3 < v5 then
        xch (v4 = 0 ∨ v4 = 1) <|
        some (v4, M)
      else
        xb1 (f_F_step R (R l0 0) l1 l2 M) fun M_5 =>
        xb1 (f_H_isNear R l0 (R l0 0) v5 M_5) fun r_7 =>
        xl (w32 (v5 + 1)) fun v5_9 =>
        H_explains_F6 R l0 l1 l2  n r_7 v5_9 M_5
def f_H_explains (R : xR) (l0 : Nat) (l1 : Nat) (l2 : Nat) (l3 : Int) (M : xM) : Option (Int × xM) :=
  H_explains_F6 R l0 l1 l2
    xfu 1 l3 M
set_option maxRecDepth 100000 in
set_option maxHeartbeats 4000000 in
theorem s_H_explains {d : Nat} {sc : List Int} {z z' : xS} {out : xO} (qs : List xI) {cs : List Prop} (hq : qs.all (xqb 2 false y_H_explains.2.2.1 y_H_explains.2.1) = true) (h : xN false sc qs z = some (z', cs)) (hc : xAll cs) (hE : z'.2.2.2.2.2 ≤ 174) (k : XR false d 174 sc y_H_explains z' out) : XR false d 174 sc y_H_explains z out := XR.seg 2 false rfl (fun q => by cases q) qs hq h hc hE k
set_option maxRecDepth 100000 in
set_option maxHeartbeats 4000000 in
theorem o_H_explains_F6 {sc : List Int} {R : xR}   {l0 : Nat} {l1 : Nat} {l2 : Nat}  : ∀ (n : Nat) (v4 : Int) (v5 : Int) (M : xM) (out : Int × xM), H_explains_F6 R l0 l1 l2  n v4 v5 M = some out → XR false 4 174 sc y_H_explains (6, [(0, (vR 2 l0)), (1, (vR 6 l1)), (2, (vR 0 l2)), (4, (vI v4)), (5, (vI v5))], [], R, M, 174) ((some (vI out.1)), R, out.2) := by
  intro n
  induction n with
  | zero => intro v4 v5 M out h; exact (xno h).elim
  | succ n ih =>
    intro v4 v5 M out h
    rw [H_explains_F6] at h
    refine s_H_explains [(6, .iload 4, 0, 0)] (by decide +kernel) (z' := (8, [(0, (vR 2 l0)), (1, (vR 6 l1)), (2, (vR 0 l2)), (4, (vI v4)), (5, (vI v5))], [(vI v4)], R, M, 174)) (cs := []) (by rfl) trivial (Nat.le_refl _) ?_
    rcases xif_ex h with ⟨c_1, h⟩ | ⟨c_1, h⟩
    · skip
      obtain ⟨c_2, h⟩ := xch_ex h
      refine s_H_explains [(8, .ifCond .eq 39, 0, 47), (47, .iload 4, 0, 0)] (by decide +kernel) (z' := (49, [(0, (vR 2 l0)), (1, (vR 6 l1)), (2, (vR 0 l2)), (4, (vI v4)), (5, (vI v5))], [(vI v4)], R, M, 174)) (cs := [v4 = 0]) (by rfl) ⟨c_1, trivial⟩ (Nat.le_refl _) ?_
      obtain rfl := Option.some.inj h
      exact XR.retI .boolean rfl (xnar_z c_2) (by decide +kernel)
    · skip
      refine s_H_explains [(8, .ifCond .eq 39, 0, (-1)), (11, .iload 5, 0, 0), (13, .aload_n 0, 0, 0), (14, .getfield 26, 2, 3)] (by decide +kernel) (z' := (17, [(0, (vR 2 l0)), (1, (vR 6 l1)), (2, (vR 0 l2)), (4, (vI v4)), (5, (vI v5))], [(vI (M l0 3)), (vI v5)], R, M, 174)) (cs := [¬ (v4 = 0)]) (by rfl) ⟨c_1, trivial⟩ (Nat.le_refl _) ?_
      rcases xif_ex h with ⟨c_3, h⟩ | ⟨c_3, h⟩
      · skip
        obtain ⟨c_4, h⟩ := xch_ex h
        refine s_H_explains [(17, .if_icmp .gt 30, 0, 47), (47, .iload 4, 0, 0)] (by decide +kernel) (z' := (49, [(0, (vR 2 l0)), (1, (vR 6 l1)), (2, (vR 0 l2)), (4, (vI v4)), (5, (vI v5))], [(vI v4)], R, M, 174)) (cs := [M l0 3 < v5]) (by rfl) ⟨c_3, trivial⟩ (Nat.le_refl _) ?_
        obtain rfl := Option.some.inj h
        exact XR.retI .boolean rfl (xnar_z c_4) (by decide +kernel)
      · skip
        refine s_H_explains [(17, .if_icmp .gt 30, 0, (-1)), (20, .aload_n 0, 0, 0), (21, .getfield 12, 2, 0), (24, .aload_n 1, 0, 0), (25, .aload_n 2, 0, 0)] (by decide +kernel) (z' := (26, [(0, (vR 2 l0)), (1, (vR 6 l1)), (2, (vR 0 l2)), (4, (vI v4)), (5, (vI v5))], [(vR 0 l2), (vR 6 l1), (vR 1 (R l0 0))], R, M, 174)) (cs := [¬ (M l0 3 < v5)]) (by rfl) ⟨c_3, trivial⟩ (Nat.le_refl _) ?_
        obtain ⟨M_5, e_6, h⟩ := xb1_ex h
        refine XR.callV 2 rfl (rest := []) m_F_step k_2_75 1 (R l0 0) (Or.inl ⟨by decide, rfl⟩) [(vR 6 l1), (vR 0 l2)] rfl rfl (c_F_step e_6) (by decide) (Nat.le_of_ble_eq_true rfl) (by decide +kernel) (Nat.le_refl _) (Nat.le_refl _) ?_
        show XR false 4 174 sc y_H_explains (29, [(0, (vR 2 l0)), (1, (vR 6 l1)), (2, (vR 0 l2)), (4, (vI v4)), (5, (vI v5))], [], R, M_5, 174) _
        refine s_H_explains [(29, .aload_n 0, 0, 0), (30, .aload_n 0, 0, 0), (31, .getfield 12, 2, 0), (34, .iload 5, 0, 0)] (by decide +kernel) (z' := (36, [(0, (vR 2 l0)), (1, (vR 6 l1)), (2, (vR 0 l2)), (4, (vI v4)), (5, (vI v5))], [(vI v5), (vR 1 (R l0 0)), (vR 2 l0)], R, M_5, 174)) (cs := []) (by rfl) trivial (Nat.le_refl _) ?_
        obtain ⟨r_7, e_8, h⟩ := xb1_ex h
        refine XR.callV 2 rfl (rest := []) m_H_isNear k_2_79 2 l0 (Or.inl ⟨by decide, rfl⟩) [(vR 1 (R l0 0)), (vI v5)] rfl rfl (c_H_isNear e_8) (by decide) (Nat.le_of_ble_eq_true rfl) (by decide +kernel) (Nat.le_refl _) (Nat.le_refl _) ?_
        show XR false 4 174 sc y_H_explains (39, [(0, (vR 2 l0)), (1, (vR 6 l1)), (2, (vR 0 l2)), (4, (vI v4)), (5, (vI v5))], [(vI r_7)], R, M_5, 174) _
        obtain ⟨v5_9, hv5_9, h⟩ := xl_ex h
        refine s_H_explains [(39, .istore 4, 0, 0), (41, .iinc 5 1, 0, 0), (44, .goto (-38), 0, 6)] (by decide +kernel) (z' := (6, [(5, (vI v5_9)), (4, (vI r_7)), (0, (vR 2 l0)), (1, (vR 6 l1)), (2, (vR 0 l2))], [], R, M_5, 174)) (cs := []) (by subst hv5_9; rfl) trivial (Nat.le_refl _) ?_
        refine XR.pick [2, 3, 4, 1, 0] (ls' := [(0, (vR 2 l0)), (1, (vR 6 l1)), (2, (vR 0 l2)), (4, (vI r_7)), (5, (vI v5_9))]) rfl ?_
        exact ih r_7 v5_9 M_5 _ h
set_option maxRecDepth 100000 in
set_option maxHeartbeats 4000000 in
theorem o_H_explains {sc : List Int} {R : xR} {M : xM} {l0 : Nat} {l1 : Nat} {l2 : Nat} {l3 : Int} {out : Int × xM} (h : f_H_explains R l0 l1 l2 l3 M = some out) : XR false 4 174 sc y_H_explains (0, [(0, (vR 2 l0)), (1, (vR 6 l1)), (2, (vR 0 l2)), (3, (vI l3))], [], R, M, 174) ((some (vI out.1)), R, out.2) := by
  unfold f_H_explains at h
  refine s_H_explains [(0, .iconst 1, 0, 1), (1, .istore 4, 0, 0), (3, .iload_n 3, 0, 0), (4, .istore 5, 0, 0)] (by decide +kernel) (z' := (6, [(5, (vI l3)), (4, (vI 1)), (0, (vR 2 l0)), (1, (vR 6 l1)), (2, (vR 0 l2)), (3, (vI l3))], [], R, M, 174)) (cs := []) (by rfl) trivial (Nat.le_refl _) ?_
  refine XR.pick [2, 3, 4, 1, 0] (ls' := [(0, (vR 2 l0)), (1, (vR 6 l1)), (2, (vR 0 l2)), (4, (vI 1)), (5, (vI l3))]) rfl ?_
  refine o_H_explains_F6  xfu 1 l3 M _ h
set_option maxRecDepth 100000 in
set_option maxHeartbeats 4000000 in
theorem c_H_explains {sc : List Int} {R : xR} {M : xM} {l0 : Nat} {l1 : Nat} {l2 : Nat} {l3 : Int} {out : Int × xM} (h : f_H_explains R l0 l1 l2 l3 M = some out) : XC false 4 sc y_H_explains [(vR 2 l0), (vR 6 l1), (vR 0 l2), (vI l3)] R M 174 174 ((some (vI out.1)), R, out.2) := XC.of (by decide) (Nat.le_of_ble_eq_true rfl) (Nat.le_refl _) (Nat.le_refl _) (o_H_explains h)
def H_tryHoles_J86 (R : xR) (l0 : Nat) (l1 : Nat) (l2 : Nat) (l3 : Nat) (l4 : Int) (l5 : Int) (rc : Int → xM → Option xM) (v6 : Int) (M : xM) : Option xM :=
  xl (w32 (v6 + 10)) fun v6_10 =>
  rc v6_10 M
def H_tryHoles_J68 (R : xR) (l0 : Nat) (l1 : Nat) (l2 : Nat) (l3 : Nat) (l4 : Int) (l5 : Int) (rc : Int → xM → Option xM) (v6 : Int) (M : xM) : Option xM :=
  xl (xu M l0 6 l4) fun M_13 =>
  xl (xu M_13 l0 7 l5) fun M_14 =>
  xl (xu M_14 l0 8 v6) fun M_15 =>
  H_tryHoles_J86 R l0 l1 l2 l3 l4 l5 rc v6 M_15
def H_tryHoles_F4 (R : xR) (l0 : Nat) (l1 : Nat) (l2 : Nat) (l3 : Nat) (l4 : Int) (l5 : Int) : Nat → Int → xM → Option xM
  | 0, _, _ => none
  | n + 1, v6, M =>
    if 100 < v6 then
      some (M)
    else
      xb1 (f_F_goOnFrom R (R l0 0) l1 M) fun M_2 =>
      xb1 (f_F_supposeHole (R l0 0) l4 v6 M_2) fun M_4 =>
      xb2 (f_H_explains R l0 l2 l3 l5 M_4) fun r_6 M_7 =>
      if r_6 = 0 then
        H_tryHoles_J86 R l0 l1 l2 l3 l4 l5 (H_tryHoles_F4 R l0 l1 l2 l3 l4 l5  n) v6 M_7
      else
        xl (xu M_7 l0 5 (w32 ((M_7 l0 5) + 1))) fun M_11 =>
        if M_11 l0 6 = -1 then
          H_tryHoles_J68 R l0 l1 l2 l3 l4 l5 (H_tryHoles_F4 R l0 l1 l2 l3 l4 l5  n) v6 M_11
        else
          if l4 < M_11 l0 6 then
            H_tryHoles_J68 R l0 l1 l2 l3 l4 l5 (H_tryHoles_F4 R l0 l1 l2 l3 l4 l5  n) v6 M_11
          else
            H_tryHoles_J86 R l0 l1 l2 l3 l4 l5 (H_tryHoles_F4 R l0 l1 l2 l3 l4 l5  n) v6 M_11
def f_H_tryHoles (R : xR) (l0 : Nat) (l1 : Nat) (l2 : Nat) (l3 : Nat) (l4 : Int) (l5 : Int) (M : xM) : Option xM :=
  H_tryHoles_F4 R l0 l1 l2 l3 l4 l5
    xfu 10 M
set_option maxRecDepth 100000 in
set_option maxHeartbeats 4000000 in
theorem s_H_tryHoles {d : Nat} {sc : List Int} {z z' : xS} {out : xO} (qs : List xI) {cs : List Prop} (hq : qs.all (xqb 2 false y_H_tryHoles.2.2.1 y_H_tryHoles.2.1) = true) (h : xN false sc qs z = some (z', cs)) (hc : xAll cs) (hE : z'.2.2.2.2.2 ≤ 174) (k : XR false d 174 sc y_H_tryHoles z' out) : XR false d 174 sc y_H_tryHoles z out := XR.seg 2 false rfl (fun q => by cases q) qs hq h hc hE k
set_option maxRecDepth 100000 in
set_option maxHeartbeats 4000000 in
theorem o_H_tryHoles_J86 {sc : List Int} {R : xR}   {l0 : Nat} {l1 : Nat} {l2 : Nat} {l3 : Nat} {l4 : Int} {l5 : Int}  {rc : Int → xM → Option xM} (hrc : ∀ (w6 : Int) (M : xM) (out : xM), rc w6 M = some out → XR false 5 174 sc y_H_tryHoles (4, [(0, (vR 2 l0)), (1, (vR 1 l1)), (2, (vR 6 l2)), (3, (vR 0 l3)), (4, (vI l4)), (5, (vI l5)), (6, (vI w6))], [], R, M, 174) (none, R, out)) {v6 : Int} {M : xM} {out : xM} (h : H_tryHoles_J86 R l0 l1 l2 l3 l4 l5 rc v6 M = some out) : XR false 5 174 sc y_H_tryHoles (86, [(0, (vR 2 l0)), (1, (vR 1 l1)), (2, (vR 6 l2)), (3, (vR 0 l3)), (4, (vI l4)), (5, (vI l5)), (6, (vI v6))], [], R, M, 174) (none, R, out) := by
  unfold H_tryHoles_J86 at h
  obtain ⟨v6_10, hv6_10, h⟩ := xl_ex h
  refine s_H_tryHoles [(86, .iinc 6 10, 0, 0), (89, .goto (-85), 0, 4)] (by decide +kernel) (z' := (4, [(6, (vI v6_10)), (0, (vR 2 l0)), (1, (vR 1 l1)), (2, (vR 6 l2)), (3, (vR 0 l3)), (4, (vI l4)), (5, (vI l5))], [], R, M, 174)) (cs := []) (by subst hv6_10; rfl) trivial (Nat.le_refl _) ?_
  refine XR.pick [1, 2, 3, 4, 5, 6, 0] (ls' := [(0, (vR 2 l0)), (1, (vR 1 l1)), (2, (vR 6 l2)), (3, (vR 0 l3)), (4, (vI l4)), (5, (vI l5)), (6, (vI v6_10))]) rfl ?_
  exact hrc v6_10 M _ h
set_option maxRecDepth 100000 in
set_option maxHeartbeats 4000000 in
theorem o_H_tryHoles_J68 {sc : List Int} {R : xR}   {l0 : Nat} {l1 : Nat} {l2 : Nat} {l3 : Nat} {l4 : Int} {l5 : Int}  {rc : Int → xM → Option xM} (hrc : ∀ (w6 : Int) (M : xM) (out : xM), rc w6 M = some out → XR false 5 174 sc y_H_tryHoles (4, [(0, (vR 2 l0)), (1, (vR 1 l1)), (2, (vR 6 l2)), (3, (vR 0 l3)), (4, (vI l4)), (5, (vI l5)), (6, (vI w6))], [], R, M, 174) (none, R, out)) {v6 : Int} {M : xM} {out : xM} (h : H_tryHoles_J68 R l0 l1 l2 l3 l4 l5 rc v6 M = some out) : XR false 5 174 sc y_H_tryHoles (68, [(0, (vR 2 l0)), (1, (vR 1 l1)), (2, (vR 6 l2)), (3, (vR 0 l3)), (4, (vI l4)), (5, (vI l5)), (6, (vI v6))], [], R, M, 174) (none, R, out) := by
  unfold H_tryHoles_J68 at h
  obtain ⟨M_13, hM_13, h⟩ := xl_ex h
  obtain ⟨M_14, hM_14, h⟩ := xl_ex h
  obtain ⟨M_15, hM_15, h⟩ := xl_ex h
  refine s_H_tryHoles [(68, .aload_n 0, 0, 0), (69, .iload 4, 0, 0), (71, .putfield 35, 2, 6), (74, .aload_n 0, 0, 0), (75, .iload 5, 0, 0), (77, .putfield 38, 2, 7), (80, .aload_n 0, 0, 0), (81, .iload 6, 0, 0), (83, .putfield 41, 2, 8)] (by decide +kernel) (z' := (86, [(0, (vR 2 l0)), (1, (vR 1 l1)), (2, (vR 6 l2)), (3, (vR 0 l3)), (4, (vI l4)), (5, (vI l5)), (6, (vI v6))], [], R, M_15, 174)) (cs := []) (by subst hM_13; subst hM_14; subst hM_15; rfl) trivial (Nat.le_refl _) ?_
  exact o_H_tryHoles_J86 hrc h
set_option maxRecDepth 100000 in
set_option maxHeartbeats 4000000 in
theorem o_H_tryHoles_F4 {sc : List Int} {R : xR}   {l0 : Nat} {l1 : Nat} {l2 : Nat} {l3 : Nat} {l4 : Int} {l5 : Int}  : ∀ (n : Nat) (v6 : Int) (M : xM) (out : xM), H_tryHoles_F4 R l0 l1 l2 l3 l4 l5  n v6 M = some out → XR false 5 174 sc y_H_tryHoles (4, [(0, (vR 2 l0)), (1, (vR 1 l1)), (2, (vR 6 l2)), (3, (vR 0 l3)), (4, (vI l4)), (5, (vI l5)), (6, (vI v6))], [], R, M, 174) (none, R, out) := by
  intro n
  induction n with
  | zero => intro v6 M out h; exact (xno h).elim
  | succ n ih =>
    intro v6 M out h
    rw [H_tryHoles_F4] at h
    refine s_H_tryHoles [(4, .iload 6, 0, 0), (6, .bipush 100, 0, 100)] (by decide +kernel) (z' := (8, [(0, (vR 2 l0)), (1, (vR 1 l1)), (2, (vR 6 l2)), (3, (vR 0 l3)), (4, (vI l4)), (5, (vI l5)), (6, (vI v6))], [(vI 100), (vI v6)], R, M, 174)) (cs := []) (by rfl) trivial (Nat.le_refl _) ?_
    rcases xif_ex h with ⟨c_1, h⟩ | ⟨c_1, h⟩
    · skip
      refine s_H_tryHoles [(8, .if_icmp .gt 84, 0, 92)] (by decide +kernel) (z' := (92, [(0, (vR 2 l0)), (1, (vR 1 l1)), (2, (vR 6 l2)), (3, (vR 0 l3)), (4, (vI l4)), (5, (vI l5)), (6, (vI v6))], [], R, M, 174)) (cs := [100 < v6]) (by rfl) ⟨c_1, trivial⟩ (Nat.le_refl _) ?_
      obtain rfl := Option.some.inj h
      exact XR.retV rfl (by decide +kernel)
    · skip
      refine s_H_tryHoles [(8, .if_icmp .gt 84, 0, (-1)), (11, .aload_n 0, 0, 0), (12, .getfield 12, 2, 0), (15, .aload_n 1, 0, 0)] (by decide +kernel) (z' := (16, [(0, (vR 2 l0)), (1, (vR 1 l1)), (2, (vR 6 l2)), (3, (vR 0 l3)), (4, (vI l4)), (5, (vI l5)), (6, (vI v6))], [(vR 1 l1), (vR 1 (R l0 0))], R, M, 174)) (cs := [¬ (100 < v6)]) (by rfl) ⟨c_1, trivial⟩ (Nat.le_refl _) ?_
      obtain ⟨M_2, e_3, h⟩ := xb1_ex h
      refine XR.callV 2 rfl (rest := []) m_F_goOnFrom k_2_83 1 (R l0 0) (Or.inl ⟨by decide, rfl⟩) [(vR 1 l1)] rfl rfl (c_F_goOnFrom e_3) (by decide) (Nat.le_of_ble_eq_true rfl) (by decide +kernel) (Nat.le_refl _) (Nat.le_refl _) ?_
      show XR false 5 174 sc y_H_tryHoles (19, [(0, (vR 2 l0)), (1, (vR 1 l1)), (2, (vR 6 l2)), (3, (vR 0 l3)), (4, (vI l4)), (5, (vI l5)), (6, (vI v6))], [], R, M_2, 174) _
      refine s_H_tryHoles [(19, .aload_n 0, 0, 0), (20, .getfield 12, 2, 0), (23, .iload 4, 0, 0), (25, .iload 6, 0, 0)] (by decide +kernel) (z' := (27, [(0, (vR 2 l0)), (1, (vR 1 l1)), (2, (vR 6 l2)), (3, (vR 0 l3)), (4, (vI l4)), (5, (vI l5)), (6, (vI v6))], [(vI v6), (vI l4), (vR 1 (R l0 0))], R, M_2, 174)) (cs := []) (by rfl) trivial (Nat.le_refl _) ?_
      obtain ⟨M_4, e_5, h⟩ := xb1_ex h
      refine XR.callV 2 rfl (rest := []) m_F_supposeHole k_2_87 1 (R l0 0) (Or.inl ⟨by decide, rfl⟩) [(vI l4), (vI v6)] rfl rfl (c_F_supposeHole e_5) (by decide) (Nat.le_of_ble_eq_true rfl) (by decide +kernel) (Nat.le_refl _) (Nat.le_refl _) ?_
      show XR false 5 174 sc y_H_tryHoles (30, [(0, (vR 2 l0)), (1, (vR 1 l1)), (2, (vR 6 l2)), (3, (vR 0 l3)), (4, (vI l4)), (5, (vI l5)), (6, (vI v6))], [], R, M_4, 174) _
      refine s_H_tryHoles [(30, .aload_n 0, 0, 0), (31, .aload_n 2, 0, 0), (32, .aload_n 3, 0, 0), (33, .iload 5, 0, 0)] (by decide +kernel) (z' := (35, [(0, (vR 2 l0)), (1, (vR 1 l1)), (2, (vR 6 l2)), (3, (vR 0 l3)), (4, (vI l4)), (5, (vI l5)), (6, (vI v6))], [(vI l5), (vR 0 l3), (vR 6 l2), (vR 2 l0)], R, M_4, 174)) (cs := []) (by rfl) trivial (Nat.le_refl _) ?_
      obtain ⟨r_6, M_7, e_8, h⟩ := xb2_ex h
      refine XR.callV 2 rfl (rest := []) m_H_explains k_2_91 2 l0 (Or.inl ⟨by decide, rfl⟩) [(vR 6 l2), (vR 0 l3), (vI l5)] rfl rfl (c_H_explains e_8) (by decide) (Nat.le_of_ble_eq_true rfl) (by decide +kernel) (Nat.le_refl _) (Nat.le_refl _) ?_
      show XR false 5 174 sc y_H_tryHoles (38, [(0, (vR 2 l0)), (1, (vR 1 l1)), (2, (vR 6 l2)), (3, (vR 0 l3)), (4, (vI l4)), (5, (vI l5)), (6, (vI v6))], [(vI r_6)], R, M_7, 174) _
      rcases xif_ex h with ⟨c_9, h⟩ | ⟨c_9, h⟩
      · skip
        refine s_H_tryHoles [(38, .ifCond .eq 48, 0, 86)] (by decide +kernel) (z' := (86, [(0, (vR 2 l0)), (1, (vR 1 l1)), (2, (vR 6 l2)), (3, (vR 0 l3)), (4, (vI l4)), (5, (vI l5)), (6, (vI v6))], [], R, M_7, 174)) (cs := [r_6 = 0]) (by rfl) ⟨c_9, trivial⟩ (Nat.le_refl _) ?_
        exact o_H_tryHoles_J86 ih h
      · skip
        obtain ⟨M_11, hM_11, h⟩ := xl_ex h
        refine s_H_tryHoles [(38, .ifCond .eq 48, 0, (-1)), (41, .aload_n 0, 0, 0), (42, .dup, 0, 0), (43, .getfield 32, 2, 5), (46, .iconst 1, 0, 1), (47, .iadd, 0, 0), (48, .putfield 32, 2, 5), (51, .aload_n 0, 0, 0), (52, .getfield 35, 2, 6), (55, .iconst (-1), 0, (-1))] (by decide +kernel) (z' := (56, [(0, (vR 2 l0)), (1, (vR 1 l1)), (2, (vR 6 l2)), (3, (vR 0 l3)), (4, (vI l4)), (5, (vI l5)), (6, (vI v6))], [(vI (-1)), (vI (M_11 l0 6))], R, M_11, 174)) (cs := [¬ (r_6 = 0)]) (by subst hM_11; rfl) ⟨c_9, trivial⟩ (Nat.le_refl _) ?_
        rcases xif_ex h with ⟨c_12, h⟩ | ⟨c_12, h⟩
        · skip
          refine s_H_tryHoles [(56, .if_icmp .eq 12, 0, 68)] (by decide +kernel) (z' := (68, [(0, (vR 2 l0)), (1, (vR 1 l1)), (2, (vR 6 l2)), (3, (vR 0 l3)), (4, (vI l4)), (5, (vI l5)), (6, (vI v6))], [], R, M_11, 174)) (cs := [M_11 l0 6 = -1]) (by rfl) ⟨c_12, trivial⟩ (Nat.le_refl _) ?_
          exact o_H_tryHoles_J68 ih h
        · skip
          refine s_H_tryHoles [(56, .if_icmp .eq 12, 0, (-1)), (59, .iload 4, 0, 0), (61, .aload_n 0, 0, 0), (62, .getfield 35, 2, 6)] (by decide +kernel) (z' := (65, [(0, (vR 2 l0)), (1, (vR 1 l1)), (2, (vR 6 l2)), (3, (vR 0 l3)), (4, (vI l4)), (5, (vI l5)), (6, (vI v6))], [(vI (M_11 l0 6)), (vI l4)], R, M_11, 174)) (cs := [¬ (M_11 l0 6 = -1)]) (by rfl) ⟨c_12, trivial⟩ (Nat.le_refl _) ?_
          rcases xif_ex h with ⟨c_16, h⟩ | ⟨c_16, h⟩
          · skip
            refine s_H_tryHoles [(65, .if_icmp .ge 21, 0, (-1))] (by decide +kernel) (z' := (68, [(0, (vR 2 l0)), (1, (vR 1 l1)), (2, (vR 6 l2)), (3, (vR 0 l3)), (4, (vI l4)), (5, (vI l5)), (6, (vI v6))], [], R, M_11, 174)) (cs := [¬ (M_11 l0 6 ≤ l4)]) (by rfl) ⟨Int.not_le.mpr c_16, trivial⟩ (Nat.le_refl _) ?_
            exact o_H_tryHoles_J68 ih h
          · skip
            refine s_H_tryHoles [(65, .if_icmp .ge 21, 0, 86)] (by decide +kernel) (z' := (86, [(0, (vR 2 l0)), (1, (vR 1 l1)), (2, (vR 6 l2)), (3, (vR 0 l3)), (4, (vI l4)), (5, (vI l5)), (6, (vI v6))], [], R, M_11, 174)) (cs := [M_11 l0 6 ≤ l4]) (by rfl) ⟨Int.not_lt.mp c_16, trivial⟩ (Nat.le_refl _) ?_
            exact o_H_tryHoles_J86 ih h
set_option maxRecDepth 100000 in
set_option maxHeartbeats 4000000 in
theorem o_H_tryHoles {sc : List Int} {R : xR} {M : xM} {l0 : Nat} {l1 : Nat} {l2 : Nat} {l3 : Nat} {l4 : Int} {l5 : Int} {out : xM} (h : f_H_tryHoles R l0 l1 l2 l3 l4 l5 M = some out) : XR false 5 174 sc y_H_tryHoles (0, [(0, (vR 2 l0)), (1, (vR 1 l1)), (2, (vR 6 l2)), (3, (vR 0 l3)), (4, (vI l4)), (5, (vI l5))], [], R, M, 174) (none, R, out) := by
  unfold f_H_tryHoles at h
  refine s_H_tryHoles [(0, .bipush 10, 0, 10), (2, .istore 6, 0, 0)] (by decide +kernel) (z' := (4, [(6, (vI 10)), (0, (vR 2 l0)), (1, (vR 1 l1)), (2, (vR 6 l2)), (3, (vR 0 l3)), (4, (vI l4)), (5, (vI l5))], [], R, M, 174)) (cs := []) (by rfl) trivial (Nat.le_refl _) ?_
  refine XR.pick [1, 2, 3, 4, 5, 6, 0] (ls' := [(0, (vR 2 l0)), (1, (vR 1 l1)), (2, (vR 6 l2)), (3, (vR 0 l3)), (4, (vI l4)), (5, (vI l5)), (6, (vI 10))]) rfl ?_
  refine o_H_tryHoles_F4  xfu 10 M _ h
set_option maxRecDepth 100000 in
set_option maxHeartbeats 4000000 in
theorem c_H_tryHoles {sc : List Int} {R : xR} {M : xM} {l0 : Nat} {l1 : Nat} {l2 : Nat} {l3 : Nat} {l4 : Int} {l5 : Int} {out : xM} (h : f_H_tryHoles R l0 l1 l2 l3 l4 l5 M = some out) : XC false 5 sc y_H_tryHoles [(vR 2 l0), (vR 1 l1), (vR 6 l2), (vR 0 l3), (vI l4), (vI l5)] R M 174 174 (none, R, out) := XC.of (by decide) (Nat.le_of_ble_eq_true rfl) (Nat.le_refl _) (Nat.le_refl _) (o_H_tryHoles h)
def H_countHoles_J68 (R : xR) (l0 : Nat) (l1 : Nat) (l2 : Nat) (l3 : Nat) (rc : Int → Int → xM → Option (Int × xM)) (q74 : Int → xM → Option (Int × xM)) (v5 : Int) (v6 : Int) (M : xM) : Option (Int × xM) :=
  xl (w32 (v6 + 1)) fun v6_12 =>
  rc v5 v6_12 M
def H_countHoles_F37 (R : xR) (l0 : Nat) (l1 : Nat) (l2 : Nat) (l3 : Nat) (q74 : Int → xM → Option (Int × xM)) : Nat → Int → Int → xM → Option (Int × xM)
  | 0, _, _, _ => none
  | n + 1, v5, v6, M =>
    if v6 < M l2 0 then
      xch (0 ≤ v6 ∧ v6 < 8) <|
      if M (R l2 4) (Int.toNat v6) = 2 then
        xb1 (f_H_tryHoles R l0 l1 l2 l3 v6 v5 M) fun M_10 =>
        H_countHoles_J68 R l0 l1 l2 l3 (H_countHoles_F37 R l0 l1 l2 l3 q74 n) q74 v5 v6 M_10
      else
        H_countHoles_J68 R l0 l1 l2 l3 (H_countHoles_F37 R l0 l1 l2 l3 q74 n) q74 v5 v6 M
    else
      q74 v5 M
def H_countHoles_F20 (R : xR) (l0 : Nat) (l1 : Nat) (l2 : Nat) (l3 : Nat) : Nat → Int → Int → xM → Option (Int × xM)
  | 0, _, _, _ => none
  | n + 1, v4, v5, M =>
    if v4 = 0 then
      some (M l0 5, M)
    else
      if M l0 3 < v5 then
        some (M l0 5, M)
      else
        H_countHoles_F37 R l0 l1 l2 l3
          (fun (v5_13 : Int) (M_14 : xM) =>
            xb1 (f_F_step R l1 l2 l3 M_14) fun M_15 =>
            xb1 (f_H_isNear R l0 l1 v5_13 M_15) fun r_17 =>
            xl (w32 (v5_13 + 1)) fun v5_19 =>
            H_countHoles_F20 R l0 l1 l2 l3  n r_17 v5_19 M_15)
          xfu v5 0 M
def f_H_countHoles (R : xR) (l0 : Nat) (l1 : Nat) (l2 : Nat) (l3 : Nat) (M : xM) : Option (Int × xM) :=
  xl (xu M l0 5 0) fun M_1 =>
  xl (xu M_1 l0 6 (-1)) fun M_2 =>
  xb1 (f_F_restart R l1 M_2) fun M_3 =>
  H_countHoles_F20 R l0 l1 l2 l3
    xfu 1 0 M_3
set_option maxRecDepth 100000 in
set_option maxHeartbeats 4000000 in
theorem s_H_countHoles {d : Nat} {sc : List Int} {z z' : xS} {out : xO} (qs : List xI) {cs : List Prop} (hq : qs.all (xqb 2 false y_H_countHoles.2.2.1 y_H_countHoles.2.1) = true) (h : xN false sc qs z = some (z', cs)) (hc : xAll cs) (hE : z'.2.2.2.2.2 ≤ 174) (k : XR false d 174 sc y_H_countHoles z' out) : XR false d 174 sc y_H_countHoles z out := XR.seg 2 false rfl (fun q => by cases q) qs hq h hc hE k
set_option maxRecDepth 100000 in
set_option maxHeartbeats 4000000 in
theorem o_H_countHoles_J68 {sc : List Int} {R : xR}   {l0 : Nat} {l1 : Nat} {l2 : Nat} {l3 : Nat}  {rc : Int → Int → xM → Option (Int × xM)} {q74 : Int → xM → Option (Int × xM)} (hrc : ∀ (w5 : Int) (w6 : Int) (M : xM) (out : Int × xM), rc w5 w6 M = some out → XR false 6 174 sc y_H_countHoles (37, [(0, (vR 2 l0)), (1, (vR 1 l1)), (2, (vR 6 l2)), (3, (vR 0 l3)), (5, (vI w5)), (6, (vI w6))], [], R, M, 174) ((some (vI out.1)), R, out.2)) (hq74 : ∀ (w5 : Int) (M : xM) (out : Int × xM), q74 w5 M = some out → XR false 6 174 sc y_H_countHoles (74, [(0, (vR 2 l0)), (1, (vR 1 l1)), (2, (vR 6 l2)), (3, (vR 0 l3)), (5, (vI w5))], [], R, M, 174) ((some (vI out.1)), R, out.2)) {v5 : Int} {v6 : Int} {M : xM} {out : Int × xM} (h : H_countHoles_J68 R l0 l1 l2 l3 rc q74 v5 v6 M = some out) : XR false 6 174 sc y_H_countHoles (68, [(0, (vR 2 l0)), (1, (vR 1 l1)), (2, (vR 6 l2)), (3, (vR 0 l3)), (5, (vI v5)), (6, (vI v6))], [], R, M, 174) ((some (vI out.1)), R, out.2) := by
  unfold H_countHoles_J68 at h
  obtain ⟨v6_12, hv6_12, h⟩ := xl_ex h
  refine s_H_countHoles [(68, .iinc 6 1, 0, 0), (71, .goto (-34), 0, 37)] (by decide +kernel) (z' := (37, [(6, (vI v6_12)), (0, (vR 2 l0)), (1, (vR 1 l1)), (2, (vR 6 l2)), (3, (vR 0 l3)), (5, (vI v5))], [], R, M, 174)) (cs := []) (by subst hv6_12; rfl) trivial (Nat.le_refl _) ?_
  refine XR.pick [1, 2, 3, 4, 5, 0] (ls' := [(0, (vR 2 l0)), (1, (vR 1 l1)), (2, (vR 6 l2)), (3, (vR 0 l3)), (5, (vI v5)), (6, (vI v6_12))]) rfl ?_
  exact hrc v5 v6_12 M _ h
set_option maxRecDepth 100000 in
set_option maxHeartbeats 4000000 in
theorem o_H_countHoles_F37 {sc : List Int} {R : xR}   {l0 : Nat} {l1 : Nat} {l2 : Nat} {l3 : Nat}  {q74 : Int → xM → Option (Int × xM)} (hq74 : ∀ (w5 : Int) (M : xM) (out : Int × xM), q74 w5 M = some out → XR false 6 174 sc y_H_countHoles (74, [(0, (vR 2 l0)), (1, (vR 1 l1)), (2, (vR 6 l2)), (3, (vR 0 l3)), (5, (vI w5))], [], R, M, 174) ((some (vI out.1)), R, out.2)) : ∀ (n : Nat) (v5 : Int) (v6 : Int) (M : xM) (out : Int × xM), H_countHoles_F37 R l0 l1 l2 l3 q74 n v5 v6 M = some out → XR false 6 174 sc y_H_countHoles (37, [(0, (vR 2 l0)), (1, (vR 1 l1)), (2, (vR 6 l2)), (3, (vR 0 l3)), (5, (vI v5)), (6, (vI v6))], [], R, M, 174) ((some (vI out.1)), R, out.2) := by
  intro n
  induction n with
  | zero => intro v5 v6 M out h; exact (xno h).elim
  | succ n ih =>
    intro v5 v6 M out h
    rw [H_countHoles_F37] at h
    refine s_H_countHoles [(37, .iload 6, 0, 0), (39, .aload_n 2, 0, 0), (40, .getfield 63, 6, 0)] (by decide +kernel) (z' := (43, [(0, (vR 2 l0)), (1, (vR 1 l1)), (2, (vR 6 l2)), (3, (vR 0 l3)), (5, (vI v5)), (6, (vI v6))], [(vI (M l2 0)), (vI v6)], R, M, 174)) (cs := []) (by rfl) trivial (Nat.le_refl _) ?_
    rcases xif_ex h with ⟨c_7, h⟩ | ⟨c_7, h⟩
    · skip
      obtain ⟨c_8, h⟩ := xch_ex h
      refine s_H_countHoles [(43, .if_icmp .ge 31, 0, (-1)), (46, .aload_n 2, 0, 0), (47, .getfield 68, 6, 4), (50, .iload 6, 0, 0), (52, .iaload, 0, 0), (53, .iconst 2, 0, 2)] (by decide +kernel) (z' := (54, [(0, (vR 2 l0)), (1, (vR 1 l1)), (2, (vR 6 l2)), (3, (vR 0 l3)), (5, (vI v5)), (6, (vI v6))], [(vI 2), (vI (M (R l2 4) (Int.toNat v6)))], R, M, 174)) (cs := [¬ (M l2 0 ≤ v6), xar 30 0, xidx v6 (xan 30)]) (by rfl) ⟨Int.not_le.mpr c_7, xar_30, xix_30 c_8, trivial⟩ (Nat.le_refl _) ?_
      rcases xif_ex h with ⟨c_9, h⟩ | ⟨c_9, h⟩
      · skip
        refine s_H_countHoles [(54, .if_icmp .ne 14, 0, (-1)), (57, .aload_n 0, 0, 0), (58, .aload_n 1, 0, 0), (59, .aload_n 2, 0, 0), (60, .aload_n 3, 0, 0), (61, .iload 6, 0, 0), (63, .iload 5, 0, 0)] (by decide +kernel) (z' := (65, [(0, (vR 2 l0)), (1, (vR 1 l1)), (2, (vR 6 l2)), (3, (vR 0 l3)), (5, (vI v5)), (6, (vI v6))], [(vI v5), (vI v6), (vR 0 l3), (vR 6 l2), (vR 1 l1), (vR 2 l0)], R, M, 174)) (cs := [¬ (M (R l2 4) (Int.toNat v6) ≠ 2)]) (by rfl) ⟨fun q => q c_9, trivial⟩ (Nat.le_refl _) ?_
        obtain ⟨M_10, e_11, h⟩ := xb1_ex h
        refine XR.callV 2 rfl (rest := []) m_H_tryHoles k_2_71 2 l0 (Or.inl ⟨by decide, rfl⟩) [(vR 1 l1), (vR 6 l2), (vR 0 l3), (vI v6), (vI v5)] rfl rfl (c_H_tryHoles e_11) (by decide) (Nat.le_of_ble_eq_true rfl) (by decide +kernel) (Nat.le_refl _) (Nat.le_refl _) ?_
        show XR false 6 174 sc y_H_countHoles (68, [(0, (vR 2 l0)), (1, (vR 1 l1)), (2, (vR 6 l2)), (3, (vR 0 l3)), (5, (vI v5)), (6, (vI v6))], [], R, M_10, 174) _
        exact o_H_countHoles_J68 ih hq74 h
      · skip
        refine s_H_countHoles [(54, .if_icmp .ne 14, 0, 68)] (by decide +kernel) (z' := (68, [(0, (vR 2 l0)), (1, (vR 1 l1)), (2, (vR 6 l2)), (3, (vR 0 l3)), (5, (vI v5)), (6, (vI v6))], [], R, M, 174)) (cs := [M (R l2 4) (Int.toNat v6) ≠ 2]) (by rfl) ⟨c_9, trivial⟩ (Nat.le_refl _) ?_
        exact o_H_countHoles_J68 ih hq74 h
    · skip
      refine s_H_countHoles [(43, .if_icmp .ge 31, 0, 74)] (by decide +kernel) (z' := (74, [(0, (vR 2 l0)), (1, (vR 1 l1)), (2, (vR 6 l2)), (3, (vR 0 l3)), (5, (vI v5)), (6, (vI v6))], [], R, M, 174)) (cs := [M l2 0 ≤ v6]) (by rfl) ⟨Int.not_lt.mp c_7, trivial⟩ (Nat.le_refl _) ?_
      refine XR.pick [0, 1, 2, 3, 4] (ls' := [(0, (vR 2 l0)), (1, (vR 1 l1)), (2, (vR 6 l2)), (3, (vR 0 l3)), (5, (vI v5))]) rfl ?_
      exact hq74 v5 M _ h
set_option maxRecDepth 100000 in
set_option maxHeartbeats 4000000 in
theorem o_H_countHoles_F20 {sc : List Int} {R : xR}   {l0 : Nat} {l1 : Nat} {l2 : Nat} {l3 : Nat}  : ∀ (n : Nat) (v4 : Int) (v5 : Int) (M : xM) (out : Int × xM), H_countHoles_F20 R l0 l1 l2 l3  n v4 v5 M = some out → XR false 6 174 sc y_H_countHoles (20, [(0, (vR 2 l0)), (1, (vR 1 l1)), (2, (vR 6 l2)), (3, (vR 0 l3)), (4, (vI v4)), (5, (vI v5))], [], R, M, 174) ((some (vI out.1)), R, out.2) := by
  intro n
  induction n with
  | zero => intro v4 v5 M out h; exact (xno h).elim
  | succ n ih =>
    intro v4 v5 M out h
    rw [H_countHoles_F20] at h
    refine s_H_countHoles [(20, .iload 4, 0, 0)] (by decide +kernel) (z' := (22, [(0, (vR 2 l0)), (1, (vR 1 l1)), (2, (vR 6 l2)), (3, (vR 0 l3)), (4, (vI v4)), (5, (vI v5))], [(vI v4)], R, M, 174)) (cs := []) (by rfl) trivial (Nat.le_refl _) ?_
    rcases xif_ex h with ⟨c_5, h⟩ | ⟨c_5, h⟩
    · skip
      refine s_H_countHoles [(22, .ifCond .eq 73, 0, 95), (95, .aload_n 0, 0, 0), (96, .getfield 32, 2, 5)] (by decide +kernel) (z' := (99, [(0, (vR 2 l0)), (1, (vR 1 l1)), (2, (vR 6 l2)), (3, (vR 0 l3)), (4, (vI v4)), (5, (vI v5))], [(vI (M l0 5))], R, M, 174)) (cs := [v4 = 0]) (by rfl) ⟨c_5, trivial⟩ (Nat.le_refl _) ?_
      obtain rfl := Option.some.inj h
      exact XR.retI .int rfl rfl (by decide +kernel)
    · skip
      refine s_H_countHoles [(22, .ifCond .eq 73, 0, (-1)), (25, .iload 5, 0, 0), (27, .aload_n 0, 0, 0), (28, .getfield 26, 2, 3)] (by decide +kernel) (z' := (31, [(0, (vR 2 l0)), (1, (vR 1 l1)), (2, (vR 6 l2)), (3, (vR 0 l3)), (4, (vI v4)), (5, (vI v5))], [(vI (M l0 3)), (vI v5)], R, M, 174)) (cs := [¬ (v4 = 0)]) (by rfl) ⟨c_5, trivial⟩ (Nat.le_refl _) ?_
      rcases xif_ex h with ⟨c_6, h⟩ | ⟨c_6, h⟩
      · skip
        refine s_H_countHoles [(31, .if_icmp .gt 64, 0, 95), (95, .aload_n 0, 0, 0), (96, .getfield 32, 2, 5)] (by decide +kernel) (z' := (99, [(0, (vR 2 l0)), (1, (vR 1 l1)), (2, (vR 6 l2)), (3, (vR 0 l3)), (4, (vI v4)), (5, (vI v5))], [(vI (M l0 5))], R, M, 174)) (cs := [M l0 3 < v5]) (by rfl) ⟨c_6, trivial⟩ (Nat.le_refl _) ?_
        obtain rfl := Option.some.inj h
        exact XR.retI .int rfl rfl (by decide +kernel)
      · skip
        refine s_H_countHoles [(31, .if_icmp .gt 64, 0, (-1)), (34, .iconst 0, 0, 0), (35, .istore 6, 0, 0)] (by decide +kernel) (z' := (37, [(6, (vI 0)), (0, (vR 2 l0)), (1, (vR 1 l1)), (2, (vR 6 l2)), (3, (vR 0 l3)), (4, (vI v4)), (5, (vI v5))], [], R, M, 174)) (cs := [¬ (M l0 3 < v5)]) (by rfl) ⟨c_6, trivial⟩ (Nat.le_refl _) ?_
        refine XR.pick [1, 2, 3, 4, 6, 0] (ls' := [(0, (vR 2 l0)), (1, (vR 1 l1)), (2, (vR 6 l2)), (3, (vR 0 l3)), (5, (vI v5)), (6, (vI 0))]) rfl ?_
        refine o_H_countHoles_F37 ?_ xfu v5 0 M _ h
        · intro v5_13 M_14 out h
          refine s_H_countHoles [(74, .aload_n 1, 0, 0), (75, .aload_n 2, 0, 0), (76, .aload_n 3, 0, 0)] (by decide +kernel) (z' := (77, [(0, (vR 2 l0)), (1, (vR 1 l1)), (2, (vR 6 l2)), (3, (vR 0 l3)), (5, (vI v5_13))], [(vR 0 l3), (vR 6 l2), (vR 1 l1)], R, M_14, 174)) (cs := []) (by rfl) trivial (Nat.le_refl _) ?_
          obtain ⟨M_15, e_16, h⟩ := xb1_ex h
          refine XR.callV 2 rfl (rest := []) m_F_step k_2_75 1 l1 (Or.inl ⟨by decide, rfl⟩) [(vR 6 l2), (vR 0 l3)] rfl rfl (c_F_step e_16) (by decide) (Nat.le_of_ble_eq_true rfl) (by decide +kernel) (Nat.le_refl _) (Nat.le_refl _) ?_
          show XR false 6 174 sc y_H_countHoles (80, [(0, (vR 2 l0)), (1, (vR 1 l1)), (2, (vR 6 l2)), (3, (vR 0 l3)), (5, (vI v5_13))], [], R, M_15, 174) _
          refine s_H_countHoles [(80, .aload_n 0, 0, 0), (81, .aload_n 1, 0, 0), (82, .iload 5, 0, 0)] (by decide +kernel) (z' := (84, [(0, (vR 2 l0)), (1, (vR 1 l1)), (2, (vR 6 l2)), (3, (vR 0 l3)), (5, (vI v5_13))], [(vI v5_13), (vR 1 l1), (vR 2 l0)], R, M_15, 174)) (cs := []) (by rfl) trivial (Nat.le_refl _) ?_
          obtain ⟨r_17, e_18, h⟩ := xb1_ex h
          refine XR.callV 2 rfl (rest := []) m_H_isNear k_2_79 2 l0 (Or.inl ⟨by decide, rfl⟩) [(vR 1 l1), (vI v5_13)] rfl rfl (c_H_isNear e_18) (by decide) (Nat.le_of_ble_eq_true rfl) (by decide +kernel) (Nat.le_refl _) (Nat.le_refl _) ?_
          show XR false 6 174 sc y_H_countHoles (87, [(0, (vR 2 l0)), (1, (vR 1 l1)), (2, (vR 6 l2)), (3, (vR 0 l3)), (5, (vI v5_13))], [(vI r_17)], R, M_15, 174) _
          obtain ⟨v5_19, hv5_19, h⟩ := xl_ex h
          refine s_H_countHoles [(87, .istore 4, 0, 0), (89, .iinc 5 1, 0, 0), (92, .goto (-72), 0, 20)] (by decide +kernel) (z' := (20, [(5, (vI v5_19)), (4, (vI r_17)), (0, (vR 2 l0)), (1, (vR 1 l1)), (2, (vR 6 l2)), (3, (vR 0 l3))], [], R, M_15, 174)) (cs := []) (by subst hv5_19; rfl) trivial (Nat.le_refl _) ?_
          refine XR.pick [2, 3, 4, 5, 1, 0] (ls' := [(0, (vR 2 l0)), (1, (vR 1 l1)), (2, (vR 6 l2)), (3, (vR 0 l3)), (4, (vI r_17)), (5, (vI v5_19))]) rfl ?_
          exact ih r_17 v5_19 M_15 _ h
set_option maxRecDepth 100000 in
set_option maxHeartbeats 4000000 in
theorem o_H_countHoles {sc : List Int} {R : xR} {M : xM} {l0 : Nat} {l1 : Nat} {l2 : Nat} {l3 : Nat} {out : Int × xM} (h : f_H_countHoles R l0 l1 l2 l3 M = some out) : XR false 6 174 sc y_H_countHoles (0, [(0, (vR 2 l0)), (1, (vR 1 l1)), (2, (vR 6 l2)), (3, (vR 0 l3))], [], R, M, 174) ((some (vI out.1)), R, out.2) := by
  unfold f_H_countHoles at h
  obtain ⟨M_1, hM_1, h⟩ := xl_ex h
  obtain ⟨M_2, hM_2, h⟩ := xl_ex h
  refine s_H_countHoles [(0, .aload_n 0, 0, 0), (1, .iconst 0, 0, 0), (2, .putfield 32, 2, 5), (5, .aload_n 0, 0, 0), (6, .iconst (-1), 0, (-1)), (7, .putfield 35, 2, 6), (10, .aload_n 1, 0, 0)] (by decide +kernel) (z' := (11, [(0, (vR 2 l0)), (1, (vR 1 l1)), (2, (vR 6 l2)), (3, (vR 0 l3))], [(vR 1 l1)], R, M_2, 174)) (cs := []) (by subst hM_1; subst hM_2; rfl) trivial (Nat.le_refl _) ?_
  obtain ⟨M_3, e_4, h⟩ := xb1_ex h
  refine XR.callV 2 rfl (rest := []) m_F_restart k_2_60 1 l1 (Or.inl ⟨by decide, rfl⟩) [] rfl rfl (c_F_restart e_4) (by decide) (Nat.le_of_ble_eq_true rfl) (by decide +kernel) (Nat.le_refl _) (Nat.le_refl _) ?_
  show XR false 6 174 sc y_H_countHoles (14, [(0, (vR 2 l0)), (1, (vR 1 l1)), (2, (vR 6 l2)), (3, (vR 0 l3))], [], R, M_3, 174) _
  refine s_H_countHoles [(14, .iconst 1, 0, 1), (15, .istore 4, 0, 0), (17, .iconst 0, 0, 0), (18, .istore 5, 0, 0)] (by decide +kernel) (z' := (20, [(5, (vI 0)), (4, (vI 1)), (0, (vR 2 l0)), (1, (vR 1 l1)), (2, (vR 6 l2)), (3, (vR 0 l3))], [], R, M_3, 174)) (cs := []) (by rfl) trivial (Nat.le_refl _) ?_
  refine XR.pick [2, 3, 4, 5, 1, 0] (ls' := [(0, (vR 2 l0)), (1, (vR 1 l1)), (2, (vR 6 l2)), (3, (vR 0 l3)), (4, (vI 1)), (5, (vI 0))]) rfl ?_
  refine o_H_countHoles_F20  xfu 1 0 M_3 _ h
set_option maxRecDepth 100000 in
set_option maxHeartbeats 4000000 in
theorem c_H_countHoles {sc : List Int} {R : xR} {M : xM} {l0 : Nat} {l1 : Nat} {l2 : Nat} {l3 : Nat} {out : Int × xM} (h : f_H_countHoles R l0 l1 l2 l3 M = some out) : XC false 6 sc y_H_countHoles [(vR 2 l0), (vR 1 l1), (vR 6 l2), (vR 0 l3)] R M 174 174 ((some (vI out.1)), R, out.2) := XC.of (by decide) (Nat.le_of_ble_eq_true rfl) (Nat.le_refl _) (Nat.le_refl _) (o_H_countHoles h)
def H_upTogether_J39 (R : xR) (l0 : Nat) (l1 : Nat) (l2 : Nat) (l3 : Int) (l4 : Int) (l5 : Int) (rc : Int → Int → xM → Option (Int × xM)) (q45 : Int → xM → Option (Int × xM)) (v6 : Int) (v8 : Int) (M : xM) : Option (Int × xM) :=
  xl (w32 (v8 + 1)) fun v8_3 =>
  rc v6 v8_3 M
def H_upTogether_F6 (R : xR) (l0 : Nat) (l1 : Nat) (l2 : Nat) (l3 : Int) (l4 : Int) (l5 : Int) (q45 : Int → xM → Option (Int × xM)) : Nat → Int → Int → xM → Option (Int × xM)
  | 0, _, _, _ => none
  | n + 1, v6, v8, M =>
    if v8 < M l0 10 then
      if xand (xshr l4 v8) 1 = 0 then
        H_upTogether_J39 R l0 l1 l2 l3 l4 l5 (H_upTogether_F6 R l0 l1 l2 l3 l4 l5 q45 n) q45 v6 v8 M
      else
        xch (0 ≤ v8 ∧ v8 < 6) <|
        xl (yor v6 (yshl 1 (M (R l0 9) (Int.toNat v8)))) fun v6_5 =>
        H_upTogether_J39 R l0 l1 l2 l3 l4 l5 (H_upTogether_F6 R l0 l1 l2 l3 l4 l5 q45 n) q45 v6_5 v8 M
    else
      q45 v6 M
def H_upTogether_F68 (R : xR) (l0 : Nat) (l1 : Nat) (l2 : Nat) (l5 : Int) : Nat → Int → Int → xM → Option (Int × xM)
  | 0, _, _, _ => none
  | n + 1, v8, v9, M =>
    if l5 < v9 then
      some (v8, M)
    else
      xb1 (f_F_step R (R l0 0) l1 l2 M) fun M_13 =>
      xb1 (f_F_upOf R (R l0 0) v9 (-1) M_13) fun r_15 =>
      xl (w32 (v8 + r_15)) fun v8_17 =>
      xl (w32 (v9 + 1)) fun v9_18 =>
      H_upTogether_F68 R l0 l1 l2 l5  n v8_17 v9_18 M_13
def f_H_upTogether (R : xR) (l0 : Nat) (l1 : Nat) (l2 : Nat) (l3 : Int) (l4 : Int) (l5 : Int) (M : xM) : Option (Int × xM) :=
  H_upTogether_F6 R l0 l1 l2 l3 l4 l5
    (fun (v6_6 : Int) (M_7 : xM) =>
      xb1 (f_F_restart R (R l0 0) M_7) fun M_8 =>
      xb1 (f_F_supposeKnocks (R l0 0) l3 v6_6 M_8) fun M_10 =>
      H_upTogether_F68 R l0 l1 l2 l5
        xfu 0 0 M_10)
    xfu 0 0 M
set_option maxRecDepth 100000 in
set_option maxHeartbeats 4000000 in
theorem s_H_upTogether {d : Nat} {sc : List Int} {z z' : xS} {out : xO} (qs : List xI) {cs : List Prop} (hq : qs.all (xqb 2 false y_H_upTogether.2.2.1 y_H_upTogether.2.1) = true) (h : xN false sc qs z = some (z', cs)) (hc : xAll cs) (hE : z'.2.2.2.2.2 ≤ 174) (k : XR false d 174 sc y_H_upTogether z' out) : XR false d 174 sc y_H_upTogether z out := XR.seg 2 false rfl (fun q => by cases q) qs hq h hc hE k
set_option maxRecDepth 100000 in
set_option maxHeartbeats 4000000 in
theorem o_H_upTogether_J39 {sc : List Int} {R : xR}   {l0 : Nat} {l1 : Nat} {l2 : Nat} {l3 : Int} {l4 : Int} {l5 : Int}  {rc : Int → Int → xM → Option (Int × xM)} {q45 : Int → xM → Option (Int × xM)} (hrc : ∀ (w6 : Int) (w8 : Int) (M : xM) (out : Int × xM), rc w6 w8 M = some out → XR false 4 174 sc y_H_upTogether (6, [(0, (vR 2 l0)), (1, (vR 6 l1)), (2, (vR 0 l2)), (3, (vI l3)), (4, (vI l4)), (5, (vI l5)), (6, (vL w6)), (8, (vI w8))], [], R, M, 174) ((some (vI out.1)), R, out.2)) (hq45 : ∀ (w6 : Int) (M : xM) (out : Int × xM), q45 w6 M = some out → XR false 4 174 sc y_H_upTogether (45, [(0, (vR 2 l0)), (1, (vR 6 l1)), (2, (vR 0 l2)), (3, (vI l3)), (5, (vI l5)), (6, (vL w6))], [], R, M, 174) ((some (vI out.1)), R, out.2)) {v6 : Int} {v8 : Int} {M : xM} {out : Int × xM} (h : H_upTogether_J39 R l0 l1 l2 l3 l4 l5 rc q45 v6 v8 M = some out) : XR false 4 174 sc y_H_upTogether (39, [(0, (vR 2 l0)), (1, (vR 6 l1)), (2, (vR 0 l2)), (3, (vI l3)), (4, (vI l4)), (5, (vI l5)), (6, (vL v6)), (8, (vI v8))], [], R, M, 174) ((some (vI out.1)), R, out.2) := by
  unfold H_upTogether_J39 at h
  obtain ⟨v8_3, hv8_3, h⟩ := xl_ex h
  refine s_H_upTogether [(39, .iinc 8 1, 0, 0), (42, .goto (-36), 0, 6)] (by decide +kernel) (z' := (6, [(8, (vI v8_3)), (0, (vR 2 l0)), (1, (vR 6 l1)), (2, (vR 0 l2)), (3, (vI l3)), (4, (vI l4)), (5, (vI l5)), (6, (vL v6))], [], R, M, 174)) (cs := []) (by subst hv8_3; rfl) trivial (Nat.le_refl _) ?_
  refine XR.pick [1, 2, 3, 4, 5, 6, 7, 0] (ls' := [(0, (vR 2 l0)), (1, (vR 6 l1)), (2, (vR 0 l2)), (3, (vI l3)), (4, (vI l4)), (5, (vI l5)), (6, (vL v6)), (8, (vI v8_3))]) rfl ?_
  exact hrc v6 v8_3 M _ h
set_option maxRecDepth 100000 in
set_option maxHeartbeats 4000000 in
theorem o_H_upTogether_F6 {sc : List Int} {R : xR}   {l0 : Nat} {l1 : Nat} {l2 : Nat} {l3 : Int} {l4 : Int} {l5 : Int}  {q45 : Int → xM → Option (Int × xM)} (hq45 : ∀ (w6 : Int) (M : xM) (out : Int × xM), q45 w6 M = some out → XR false 4 174 sc y_H_upTogether (45, [(0, (vR 2 l0)), (1, (vR 6 l1)), (2, (vR 0 l2)), (3, (vI l3)), (5, (vI l5)), (6, (vL w6))], [], R, M, 174) ((some (vI out.1)), R, out.2)) : ∀ (n : Nat) (v6 : Int) (v8 : Int) (M : xM) (out : Int × xM), H_upTogether_F6 R l0 l1 l2 l3 l4 l5 q45 n v6 v8 M = some out → XR false 4 174 sc y_H_upTogether (6, [(0, (vR 2 l0)), (1, (vR 6 l1)), (2, (vR 0 l2)), (3, (vI l3)), (4, (vI l4)), (5, (vI l5)), (6, (vL v6)), (8, (vI v8))], [], R, M, 174) ((some (vI out.1)), R, out.2) := by
  intro n
  induction n with
  | zero => intro v6 v8 M out h; exact (xno h).elim
  | succ n ih =>
    intro v6 v8 M out h
    rw [H_upTogether_F6] at h
    refine s_H_upTogether [(6, .iload 8, 0, 0), (8, .aload_n 0, 0, 0), (9, .getfield 48, 2, 10)] (by decide +kernel) (z' := (12, [(0, (vR 2 l0)), (1, (vR 6 l1)), (2, (vR 0 l2)), (3, (vI l3)), (4, (vI l4)), (5, (vI l5)), (6, (vL v6)), (8, (vI v8))], [(vI (M l0 10)), (vI v8)], R, M, 174)) (cs := []) (by rfl) trivial (Nat.le_refl _) ?_
    rcases xif_ex h with ⟨c_1, h⟩ | ⟨c_1, h⟩
    · skip
      refine s_H_upTogether [(12, .if_icmp .ge 33, 0, (-1)), (15, .iload 4, 0, 0), (17, .iload 8, 0, 0), (19, .ishr, 0, 0), (20, .iconst 1, 0, 1), (21, .iand, 0, 0)] (by decide +kernel) (z' := (22, [(0, (vR 2 l0)), (1, (vR 6 l1)), (2, (vR 0 l2)), (3, (vI l3)), (4, (vI l4)), (5, (vI l5)), (6, (vL v6)), (8, (vI v8))], [(vI (xand (xshr l4 v8) 1))], R, M, 174)) (cs := [¬ (M l0 10 ≤ v8)]) (by rfl) ⟨Int.not_le.mpr c_1, trivial⟩ (Nat.le_refl _) ?_
      rcases xif_ex h with ⟨c_2, h⟩ | ⟨c_2, h⟩
      · skip
        refine s_H_upTogether [(22, .ifCond .eq 17, 0, 39)] (by decide +kernel) (z' := (39, [(0, (vR 2 l0)), (1, (vR 6 l1)), (2, (vR 0 l2)), (3, (vI l3)), (4, (vI l4)), (5, (vI l5)), (6, (vL v6)), (8, (vI v8))], [], R, M, 174)) (cs := [xand (xshr l4 v8) 1 = 0]) (by rfl) ⟨c_2, trivial⟩ (Nat.le_refl _) ?_
        exact o_H_upTogether_J39 ih hq45 h
      · skip
        obtain ⟨c_4, h⟩ := xch_ex h
        obtain ⟨v6_5, hv6_5, h⟩ := xl_ex h
        refine s_H_upTogether [(22, .ifCond .eq 17, 0, (-1)), (25, .lload 6, 0, 0), (27, .lconst 1, 0, 1), (28, .aload_n 0, 0, 0), (29, .getfield 44, 2, 9), (32, .iload 8, 0, 0), (34, .iaload, 0, 0), (35, .lshl, 0, 0), (36, .lor, 0, 0), (37, .lstore 6, 0, 0)] (by decide +kernel) (z' := (39, [(6, (vL v6_5)), (0, (vR 2 l0)), (1, (vR 6 l1)), (2, (vR 0 l2)), (3, (vI l3)), (4, (vI l4)), (5, (vI l5)), (8, (vI v8))], [], R, M, 174)) (cs := [¬ (xand (xshr l4 v8) 1 = 0), xar 29 0, xidx v8 (xan 29)]) (by subst hv6_5; rfl) ⟨c_2, xar_29, xix_29 c_4, trivial⟩ (Nat.le_refl _) ?_
        refine XR.pick [1, 2, 3, 4, 5, 6, 0, 7] (ls' := [(0, (vR 2 l0)), (1, (vR 6 l1)), (2, (vR 0 l2)), (3, (vI l3)), (4, (vI l4)), (5, (vI l5)), (6, (vL v6_5)), (8, (vI v8))]) rfl ?_
        exact o_H_upTogether_J39 ih hq45 h
    · skip
      refine s_H_upTogether [(12, .if_icmp .ge 33, 0, 45)] (by decide +kernel) (z' := (45, [(0, (vR 2 l0)), (1, (vR 6 l1)), (2, (vR 0 l2)), (3, (vI l3)), (4, (vI l4)), (5, (vI l5)), (6, (vL v6)), (8, (vI v8))], [], R, M, 174)) (cs := [M l0 10 ≤ v8]) (by rfl) ⟨Int.not_lt.mp c_1, trivial⟩ (Nat.le_refl _) ?_
      refine XR.pick [0, 1, 2, 3, 5, 6] (ls' := [(0, (vR 2 l0)), (1, (vR 6 l1)), (2, (vR 0 l2)), (3, (vI l3)), (5, (vI l5)), (6, (vL v6))]) rfl ?_
      exact hq45 v6 M _ h
set_option maxRecDepth 100000 in
set_option maxHeartbeats 4000000 in
theorem o_H_upTogether_F68 {sc : List Int} {R : xR}   {l0 : Nat} {l1 : Nat} {l2 : Nat} {l5 : Int}  : ∀ (n : Nat) (v8 : Int) (v9 : Int) (M : xM) (out : Int × xM), H_upTogether_F68 R l0 l1 l2 l5  n v8 v9 M = some out → XR false 4 174 sc y_H_upTogether (68, [(0, (vR 2 l0)), (1, (vR 6 l1)), (2, (vR 0 l2)), (5, (vI l5)), (8, (vI v8)), (9, (vI v9))], [], R, M, 174) ((some (vI out.1)), R, out.2) := by
  intro n
  induction n with
  | zero => intro v8 v9 M out h; exact (xno h).elim
  | succ n ih =>
    intro v8 v9 M out h
    rw [H_upTogether_F68] at h
    refine s_H_upTogether [(68, .iload 9, 0, 0), (70, .iload 5, 0, 0)] (by decide +kernel) (z' := (72, [(0, (vR 2 l0)), (1, (vR 6 l1)), (2, (vR 0 l2)), (5, (vI l5)), (8, (vI v8)), (9, (vI v9))], [(vI l5), (vI v9)], R, M, 174)) (cs := []) (by rfl) trivial (Nat.le_refl _) ?_
    rcases xif_ex h with ⟨c_12, h⟩ | ⟨c_12, h⟩
    · skip
      refine s_H_upTogether [(72, .if_icmp .gt 33, 0, 105), (105, .iload 8, 0, 0)] (by decide +kernel) (z' := (107, [(0, (vR 2 l0)), (1, (vR 6 l1)), (2, (vR 0 l2)), (5, (vI l5)), (8, (vI v8)), (9, (vI v9))], [(vI v8)], R, M, 174)) (cs := [l5 < v9]) (by rfl) ⟨c_12, trivial⟩ (Nat.le_refl _) ?_
      obtain rfl := Option.some.inj h
      exact XR.retI .int rfl rfl (by decide +kernel)
    · skip
      refine s_H_upTogether [(72, .if_icmp .gt 33, 0, (-1)), (75, .aload_n 0, 0, 0), (76, .getfield 12, 2, 0), (79, .aload_n 1, 0, 0), (80, .aload_n 2, 0, 0)] (by decide +kernel) (z' := (81, [(0, (vR 2 l0)), (1, (vR 6 l1)), (2, (vR 0 l2)), (5, (vI l5)), (8, (vI v8)), (9, (vI v9))], [(vR 0 l2), (vR 6 l1), (vR 1 (R l0 0))], R, M, 174)) (cs := [¬ (l5 < v9)]) (by rfl) ⟨c_12, trivial⟩ (Nat.le_refl _) ?_
      obtain ⟨M_13, e_14, h⟩ := xb1_ex h
      refine XR.callV 2 rfl (rest := []) m_F_step k_2_75 1 (R l0 0) (Or.inl ⟨by decide, rfl⟩) [(vR 6 l1), (vR 0 l2)] rfl rfl (c_F_step e_14) (by decide) (Nat.le_of_ble_eq_true rfl) (by decide +kernel) (Nat.le_refl _) (Nat.le_refl _) ?_
      show XR false 4 174 sc y_H_upTogether (84, [(0, (vR 2 l0)), (1, (vR 6 l1)), (2, (vR 0 l2)), (5, (vI l5)), (8, (vI v8)), (9, (vI v9))], [], R, M_13, 174) _
      refine s_H_upTogether [(84, .iload 8, 0, 0), (86, .aload_n 0, 0, 0), (87, .getfield 12, 2, 0), (90, .iload 9, 0, 0), (92, .iconst (-1), 0, (-1))] (by decide +kernel) (z' := (93, [(0, (vR 2 l0)), (1, (vR 6 l1)), (2, (vR 0 l2)), (5, (vI l5)), (8, (vI v8)), (9, (vI v9))], [(vI (-1)), (vI v9), (vR 1 (R l0 0)), (vI v8)], R, M_13, 174)) (cs := []) (by rfl) trivial (Nat.le_refl _) ?_
      obtain ⟨r_15, e_16, h⟩ := xb1_ex h
      refine XR.callV 2 rfl (rest := [(vI v8)]) m_F_upOf k_2_95 1 (R l0 0) (Or.inl ⟨by decide, rfl⟩) [(vI v9), (vI (-1))] rfl rfl (c_F_upOf e_16) (by decide) (Nat.le_of_ble_eq_true rfl) (by decide +kernel) (Nat.le_refl _) (Nat.le_refl _) ?_
      show XR false 4 174 sc y_H_upTogether (96, [(0, (vR 2 l0)), (1, (vR 6 l1)), (2, (vR 0 l2)), (5, (vI l5)), (8, (vI v8)), (9, (vI v9))], [(vI r_15), (vI v8)], R, M_13, 174) _
      obtain ⟨v8_17, hv8_17, h⟩ := xl_ex h
      obtain ⟨v9_18, hv9_18, h⟩ := xl_ex h
      refine s_H_upTogether [(96, .iadd, 0, 0), (97, .istore 8, 0, 0), (99, .iinc 9 1, 0, 0), (102, .goto (-34), 0, 68)] (by decide +kernel) (z' := (68, [(9, (vI v9_18)), (8, (vI v8_17)), (0, (vR 2 l0)), (1, (vR 6 l1)), (2, (vR 0 l2)), (5, (vI l5))], [], R, M_13, 174)) (cs := []) (by subst hv8_17; subst hv9_18; rfl) trivial (Nat.le_refl _) ?_
      refine XR.pick [2, 3, 4, 5, 1, 0] (ls' := [(0, (vR 2 l0)), (1, (vR 6 l1)), (2, (vR 0 l2)), (5, (vI l5)), (8, (vI v8_17)), (9, (vI v9_18))]) rfl ?_
      exact ih v8_17 v9_18 M_13 _ h
set_option maxRecDepth 100000 in
set_option maxHeartbeats 4000000 in
theorem o_H_upTogether {sc : List Int} {R : xR} {M : xM} {l0 : Nat} {l1 : Nat} {l2 : Nat} {l3 : Int} {l4 : Int} {l5 : Int} {out : Int × xM} (h : f_H_upTogether R l0 l1 l2 l3 l4 l5 M = some out) : XR false 4 174 sc y_H_upTogether (0, [(0, (vR 2 l0)), (1, (vR 6 l1)), (2, (vR 0 l2)), (3, (vI l3)), (4, (vI l4)), (5, (vI l5))], [], R, M, 174) ((some (vI out.1)), R, out.2) := by
  unfold f_H_upTogether at h
  refine s_H_upTogether [(0, .lconst 0, 0, 0), (1, .lstore 6, 0, 0), (3, .iconst 0, 0, 0), (4, .istore 8, 0, 0)] (by decide +kernel) (z' := (6, [(8, (vI 0)), (6, (vL 0)), (0, (vR 2 l0)), (1, (vR 6 l1)), (2, (vR 0 l2)), (3, (vI l3)), (4, (vI l4)), (5, (vI l5))], [], R, M, 174)) (cs := []) (by rfl) trivial (Nat.le_refl _) ?_
  refine XR.pick [2, 3, 4, 5, 6, 7, 1, 0] (ls' := [(0, (vR 2 l0)), (1, (vR 6 l1)), (2, (vR 0 l2)), (3, (vI l3)), (4, (vI l4)), (5, (vI l5)), (6, (vL 0)), (8, (vI 0))]) rfl ?_
  refine o_H_upTogether_F6 ?_ xfu 0 0 M _ h
  · intro v6_6 M_7 out h
    refine s_H_upTogether [(45, .aload_n 0, 0, 0), (46, .getfield 12, 2, 0)] (by decide +kernel) (z' := (49, [(0, (vR 2 l0)), (1, (vR 6 l1)), (2, (vR 0 l2)), (3, (vI l3)), (5, (vI l5)), (6, (vL v6_6))], [(vR 1 (R l0 0))], R, M_7, 174)) (cs := []) (by rfl) trivial (Nat.le_refl _) ?_
    obtain ⟨M_8, e_9, h⟩ := xb1_ex h
    refine XR.callV 2 rfl (rest := []) m_F_restart k_2_60 1 (R l0 0) (Or.inl ⟨by decide, rfl⟩) [] rfl rfl (c_F_restart e_9) (by decide) (Nat.le_of_ble_eq_true rfl) (by decide +kernel) (Nat.le_refl _) (Nat.le_refl _) ?_
    show XR false 4 174 sc y_H_upTogether (52, [(0, (vR 2 l0)), (1, (vR 6 l1)), (2, (vR 0 l2)), (3, (vI l3)), (5, (vI l5)), (6, (vL v6_6))], [], R, M_8, 174) _
    refine s_H_upTogether [(52, .aload_n 0, 0, 0), (53, .getfield 12, 2, 0), (56, .iload_n 3, 0, 0), (57, .lload 6, 0, 0)] (by decide +kernel) (z' := (59, [(0, (vR 2 l0)), (1, (vR 6 l1)), (2, (vR 0 l2)), (3, (vI l3)), (5, (vI l5)), (6, (vL v6_6))], [(vL v6_6), (vI l3), (vR 1 (R l0 0))], R, M_8, 174)) (cs := []) (by rfl) trivial (Nat.le_refl _) ?_
    obtain ⟨M_10, e_11, h⟩ := xb1_ex h
    refine XR.callV 2 rfl (rest := []) m_F_supposeKnocks k_2_109 1 (R l0 0) (Or.inl ⟨by decide, rfl⟩) [(vI l3), (vL v6_6)] rfl rfl (c_F_supposeKnocks e_11) (by decide) (Nat.le_of_ble_eq_true rfl) (by decide +kernel) (Nat.le_refl _) (Nat.le_refl _) ?_
    show XR false 4 174 sc y_H_upTogether (62, [(0, (vR 2 l0)), (1, (vR 6 l1)), (2, (vR 0 l2)), (3, (vI l3)), (5, (vI l5)), (6, (vL v6_6))], [], R, M_10, 174) _
    refine s_H_upTogether [(62, .iconst 0, 0, 0), (63, .istore 8, 0, 0), (65, .iconst 0, 0, 0), (66, .istore 9, 0, 0)] (by decide +kernel) (z' := (68, [(9, (vI 0)), (8, (vI 0)), (0, (vR 2 l0)), (1, (vR 6 l1)), (2, (vR 0 l2)), (3, (vI l3)), (5, (vI l5)), (6, (vL v6_6))], [], R, M_10, 174)) (cs := []) (by rfl) trivial (Nat.le_refl _) ?_
    refine XR.pick [2, 3, 4, 6, 1, 0] (ls' := [(0, (vR 2 l0)), (1, (vR 6 l1)), (2, (vR 0 l2)), (5, (vI l5)), (8, (vI 0)), (9, (vI 0))]) rfl ?_
    refine o_H_upTogether_F68  xfu 0 0 M_10 _ h
set_option maxRecDepth 100000 in
set_option maxHeartbeats 4000000 in
theorem c_H_upTogether {sc : List Int} {R : xR} {M : xM} {l0 : Nat} {l1 : Nat} {l2 : Nat} {l3 : Int} {l4 : Int} {l5 : Int} {out : Int × xM} (h : f_H_upTogether R l0 l1 l2 l3 l4 l5 M = some out) : XC false 4 sc y_H_upTogether [(vR 2 l0), (vR 6 l1), (vR 0 l2), (vI l3), (vI l4), (vI l5)] R M 174 174 ((some (vI out.1)), R, out.2) := XC.of (by decide) (Nat.le_of_ble_eq_true rfl) (Nat.le_refl _) (Nat.le_refl _) (o_H_upTogether h)
def H_leastUp_J88 (R : xR) (l0 : Nat) (l1 : Nat) (l2 : Nat) (l3 : Int) (l4 : Int) (l5 : Int) (rc : Int → Int → Int → xM → Option (Int × xM)) (v6 : Int) (v7 : Int) (v8 : Int) (M : xM) : Option (Int × xM) :=
  xl (w32 (v8 + 1)) fun v8_5 =>
  rc v6 v7 v8_5 M
def H_leastUp_J74 (R : xR) (l0 : Nat) (l1 : Nat) (l2 : Nat) (l3 : Int) (l4 : Int) (l5 : Int) (rc : Int → Int → Int → xM → Option (Int × xM)) (v8 : Int) (v9 : Int) (v10 : Int) (M : xM) : Option (Int × xM) :=
  xl (xu M l0 11 v8) fun M_10 =>
  H_leastUp_J88 R l0 l1 l2 l3 l4 l5 rc v10 v9 v8 M_10
def H_leastUp_F9 (R : xR) (l0 : Nat) (l1 : Nat) (l2 : Nat) (l3 : Int) (l4 : Int) (l5 : Int) : Nat → Int → Int → Int → xM → Option (Int × xM)
  | 0, _, _, _, _ => none
  | n + 1, v6, v7, v8, M =>
    if v8 < xshl 1 (M l0 10) then
      xb1 (f_J_bitCount v8) fun r_2 =>
      if l4 < r_2 then
        H_leastUp_J88 R l0 l1 l2 l3 l4 l5 (H_leastUp_F9 R l0 l1 l2 l3 l4 l5  n) v6 v7 v8 M
      else
        xb2 (f_H_upTogether R l0 l1 l2 l3 v8 l5 M) fun r_6 M_7 =>
        if v6 = -1 then
          H_leastUp_J74 R l0 l1 l2 l3 l4 l5 (H_leastUp_F9 R l0 l1 l2 l3 l4 l5  n) v8 r_2 r_6 M_7
        else
          if r_6 < v6 then
            H_leastUp_J74 R l0 l1 l2 l3 l4 l5 (H_leastUp_F9 R l0 l1 l2 l3 l4 l5  n) v8 r_2 r_6 M_7
          else
            if r_6 = v6 then
              if r_2 < v7 then
                H_leastUp_J74 R l0 l1 l2 l3 l4 l5 (H_leastUp_F9 R l0 l1 l2 l3 l4 l5  n) v8 r_2 r_6 M_7
              else
                H_leastUp_J88 R l0 l1 l2 l3 l4 l5 (H_leastUp_F9 R l0 l1 l2 l3 l4 l5  n) v6 v7 v8 M_7
            else
              H_leastUp_J88 R l0 l1 l2 l3 l4 l5 (H_leastUp_F9 R l0 l1 l2 l3 l4 l5  n) v6 v7 v8 M_7
    else
      some (v6, M)
def f_H_leastUp (R : xR) (l0 : Nat) (l1 : Nat) (l2 : Nat) (l3 : Int) (l4 : Int) (l5 : Int) (M : xM) : Option (Int × xM) :=
  H_leastUp_F9 R l0 l1 l2 l3 l4 l5
    xfu (-1) 0 0 M
set_option maxRecDepth 100000 in
set_option maxHeartbeats 4000000 in
theorem s_H_leastUp {d : Nat} {sc : List Int} {z z' : xS} {out : xO} (qs : List xI) {cs : List Prop} (hq : qs.all (xqb 2 false y_H_leastUp.2.2.1 y_H_leastUp.2.1) = true) (h : xN false sc qs z = some (z', cs)) (hc : xAll cs) (hE : z'.2.2.2.2.2 ≤ 174) (k : XR false d 174 sc y_H_leastUp z' out) : XR false d 174 sc y_H_leastUp z out := XR.seg 2 false rfl (fun q => by cases q) qs hq h hc hE k
set_option maxRecDepth 100000 in
set_option maxHeartbeats 4000000 in
theorem o_H_leastUp_J88 {sc : List Int} {R : xR}   {l0 : Nat} {l1 : Nat} {l2 : Nat} {l3 : Int} {l4 : Int} {l5 : Int}  {rc : Int → Int → Int → xM → Option (Int × xM)} (hrc : ∀ (w6 : Int) (w7 : Int) (w8 : Int) (M : xM) (out : Int × xM), rc w6 w7 w8 M = some out → XR false 5 174 sc y_H_leastUp (9, [(0, (vR 2 l0)), (1, (vR 6 l1)), (2, (vR 0 l2)), (3, (vI l3)), (4, (vI l4)), (5, (vI l5)), (6, (vI w6)), (7, (vI w7)), (8, (vI w8))], [], R, M, 174) ((some (vI out.1)), R, out.2)) {v6 : Int} {v7 : Int} {v8 : Int} {M : xM} {out : Int × xM} (h : H_leastUp_J88 R l0 l1 l2 l3 l4 l5 rc v6 v7 v8 M = some out) : XR false 5 174 sc y_H_leastUp (88, [(0, (vR 2 l0)), (1, (vR 6 l1)), (2, (vR 0 l2)), (3, (vI l3)), (4, (vI l4)), (5, (vI l5)), (6, (vI v6)), (7, (vI v7)), (8, (vI v8))], [], R, M, 174) ((some (vI out.1)), R, out.2) := by
  unfold H_leastUp_J88 at h
  obtain ⟨v8_5, hv8_5, h⟩ := xl_ex h
  refine s_H_leastUp [(88, .iinc 8 1, 0, 0), (91, .goto (-82), 0, 9)] (by decide +kernel) (z' := (9, [(8, (vI v8_5)), (0, (vR 2 l0)), (1, (vR 6 l1)), (2, (vR 0 l2)), (3, (vI l3)), (4, (vI l4)), (5, (vI l5)), (6, (vI v6)), (7, (vI v7))], [], R, M, 174)) (cs := []) (by subst hv8_5; rfl) trivial (Nat.le_refl _) ?_
  refine XR.pick [1, 2, 3, 4, 5, 6, 7, 8, 0] (ls' := [(0, (vR 2 l0)), (1, (vR 6 l1)), (2, (vR 0 l2)), (3, (vI l3)), (4, (vI l4)), (5, (vI l5)), (6, (vI v6)), (7, (vI v7)), (8, (vI v8_5))]) rfl ?_
  exact hrc v6 v7 v8_5 M _ h
set_option maxRecDepth 100000 in
set_option maxHeartbeats 4000000 in
theorem o_H_leastUp_J74 {sc : List Int} {R : xR}   {l0 : Nat} {l1 : Nat} {l2 : Nat} {l3 : Int} {l4 : Int} {l5 : Int}  {rc : Int → Int → Int → xM → Option (Int × xM)} (hrc : ∀ (w6 : Int) (w7 : Int) (w8 : Int) (M : xM) (out : Int × xM), rc w6 w7 w8 M = some out → XR false 5 174 sc y_H_leastUp (9, [(0, (vR 2 l0)), (1, (vR 6 l1)), (2, (vR 0 l2)), (3, (vI l3)), (4, (vI l4)), (5, (vI l5)), (6, (vI w6)), (7, (vI w7)), (8, (vI w8))], [], R, M, 174) ((some (vI out.1)), R, out.2)) {v8 : Int} {v9 : Int} {v10 : Int} {M : xM} {out : Int × xM} (h : H_leastUp_J74 R l0 l1 l2 l3 l4 l5 rc v8 v9 v10 M = some out) : XR false 5 174 sc y_H_leastUp (74, [(0, (vR 2 l0)), (1, (vR 6 l1)), (2, (vR 0 l2)), (3, (vI l3)), (4, (vI l4)), (5, (vI l5)), (8, (vI v8)), (9, (vI v9)), (10, (vI v10))], [], R, M, 174) ((some (vI out.1)), R, out.2) := by
  unfold H_leastUp_J74 at h
  obtain ⟨M_10, hM_10, h⟩ := xl_ex h
  refine s_H_leastUp [(74, .iload 10, 0, 0), (76, .istore 6, 0, 0), (78, .iload 9, 0, 0), (80, .istore 7, 0, 0), (82, .aload_n 0, 0, 0), (83, .iload 8, 0, 0), (85, .putfield 51, 2, 11)] (by decide +kernel) (z' := (88, [(7, (vI v9)), (6, (vI v10)), (0, (vR 2 l0)), (1, (vR 6 l1)), (2, (vR 0 l2)), (3, (vI l3)), (4, (vI l4)), (5, (vI l5)), (8, (vI v8)), (9, (vI v9)), (10, (vI v10))], [], R, M_10, 174)) (cs := []) (by subst hM_10; rfl) trivial (Nat.le_refl _) ?_
  refine XR.pick [2, 3, 4, 5, 6, 7, 1, 0, 8] (ls' := [(0, (vR 2 l0)), (1, (vR 6 l1)), (2, (vR 0 l2)), (3, (vI l3)), (4, (vI l4)), (5, (vI l5)), (6, (vI v10)), (7, (vI v9)), (8, (vI v8))]) rfl ?_
  exact o_H_leastUp_J88 hrc h
set_option maxRecDepth 100000 in
set_option maxHeartbeats 4000000 in
theorem o_H_leastUp_F9 {sc : List Int} {R : xR}   {l0 : Nat} {l1 : Nat} {l2 : Nat} {l3 : Int} {l4 : Int} {l5 : Int}  : ∀ (n : Nat) (v6 : Int) (v7 : Int) (v8 : Int) (M : xM) (out : Int × xM), H_leastUp_F9 R l0 l1 l2 l3 l4 l5  n v6 v7 v8 M = some out → XR false 5 174 sc y_H_leastUp (9, [(0, (vR 2 l0)), (1, (vR 6 l1)), (2, (vR 0 l2)), (3, (vI l3)), (4, (vI l4)), (5, (vI l5)), (6, (vI v6)), (7, (vI v7)), (8, (vI v8))], [], R, M, 174) ((some (vI out.1)), R, out.2) := by
  intro n
  induction n with
  | zero => intro v6 v7 v8 M out h; exact (xno h).elim
  | succ n ih =>
    intro v6 v7 v8 M out h
    rw [H_leastUp_F9] at h
    refine s_H_leastUp [(9, .iload 8, 0, 0), (11, .iconst 1, 0, 1), (12, .aload_n 0, 0, 0), (13, .getfield 48, 2, 10), (16, .ishl, 0, 0)] (by decide +kernel) (z' := (17, [(0, (vR 2 l0)), (1, (vR 6 l1)), (2, (vR 0 l2)), (3, (vI l3)), (4, (vI l4)), (5, (vI l5)), (6, (vI v6)), (7, (vI v7)), (8, (vI v8))], [(vI (xshl 1 (M l0 10))), (vI v8)], R, M, 174)) (cs := []) (by rfl) trivial (Nat.le_refl _) ?_
    rcases xif_ex h with ⟨c_1, h⟩ | ⟨c_1, h⟩
    · skip
      refine s_H_leastUp [(17, .if_icmp .ge 77, 0, (-1)), (20, .iload 8, 0, 0)] (by decide +kernel) (z' := (22, [(0, (vR 2 l0)), (1, (vR 6 l1)), (2, (vR 0 l2)), (3, (vI l3)), (4, (vI l4)), (5, (vI l5)), (6, (vI v6)), (7, (vI v7)), (8, (vI v8))], [(vI v8)], R, M, 174)) (cs := [¬ (xshl 1 (M l0 10) ≤ v8)]) (by rfl) ⟨Int.not_le.mpr c_1, trivial⟩ (Nat.le_refl _) ?_
      obtain ⟨r_2, e_3, h⟩ := xb1_ex h
      refine XR.callS 2 rfl (rest := []) m_J_bitCount k_2_99 [(vI v8)] rfl rfl (c_J_bitCount e_3) (by decide) (Nat.le_of_ble_eq_true rfl) (by decide +kernel) (Nat.le_refl _) (Nat.le_refl _) ?_
      show XR false 5 174 sc y_H_leastUp (25, [(0, (vR 2 l0)), (1, (vR 6 l1)), (2, (vR 0 l2)), (3, (vI l3)), (4, (vI l4)), (5, (vI l5)), (6, (vI v6)), (7, (vI v7)), (8, (vI v8))], [(vI r_2)], R, M, 174) _
      refine s_H_leastUp [(25, .istore 9, 0, 0), (27, .iload 9, 0, 0), (29, .iload 4, 0, 0)] (by decide +kernel) (z' := (31, [(9, (vI r_2)), (0, (vR 2 l0)), (1, (vR 6 l1)), (2, (vR 0 l2)), (3, (vI l3)), (4, (vI l4)), (5, (vI l5)), (6, (vI v6)), (7, (vI v7)), (8, (vI v8))], [(vI l4), (vI r_2)], R, M, 174)) (cs := []) (by rfl) trivial (Nat.le_refl _) ?_
      rcases xif_ex h with ⟨c_4, h⟩ | ⟨c_4, h⟩
      · skip
        refine s_H_leastUp [(31, .if_icmp .gt 57, 0, 88)] (by decide +kernel) (z' := (88, [(9, (vI r_2)), (0, (vR 2 l0)), (1, (vR 6 l1)), (2, (vR 0 l2)), (3, (vI l3)), (4, (vI l4)), (5, (vI l5)), (6, (vI v6)), (7, (vI v7)), (8, (vI v8))], [], R, M, 174)) (cs := [l4 < r_2]) (by rfl) ⟨c_4, trivial⟩ (Nat.le_refl _) ?_
        refine XR.pick [1, 2, 3, 4, 5, 6, 7, 8, 9] (ls' := [(0, (vR 2 l0)), (1, (vR 6 l1)), (2, (vR 0 l2)), (3, (vI l3)), (4, (vI l4)), (5, (vI l5)), (6, (vI v6)), (7, (vI v7)), (8, (vI v8))]) rfl ?_
        exact o_H_leastUp_J88 ih h
      · skip
        refine s_H_leastUp [(31, .if_icmp .gt 57, 0, (-1)), (34, .aload_n 0, 0, 0), (35, .aload_n 1, 0, 0), (36, .aload_n 2, 0, 0), (37, .iload_n 3, 0, 0), (38, .iload 8, 0, 0), (40, .iload 5, 0, 0)] (by decide +kernel) (z' := (42, [(9, (vI r_2)), (0, (vR 2 l0)), (1, (vR 6 l1)), (2, (vR 0 l2)), (3, (vI l3)), (4, (vI l4)), (5, (vI l5)), (6, (vI v6)), (7, (vI v7)), (8, (vI v8))], [(vI l5), (vI v8), (vI l3), (vR 0 l2), (vR 6 l1), (vR 2 l0)], R, M, 174)) (cs := [¬ (l4 < r_2)]) (by rfl) ⟨c_4, trivial⟩ (Nat.le_refl _) ?_
        obtain ⟨r_6, M_7, e_8, h⟩ := xb2_ex h
        refine XR.callV 2 rfl (rest := []) m_H_upTogether k_2_105 2 l0 (Or.inl ⟨by decide, rfl⟩) [(vR 6 l1), (vR 0 l2), (vI l3), (vI v8), (vI l5)] rfl rfl (c_H_upTogether e_8) (by decide) (Nat.le_of_ble_eq_true rfl) (by decide +kernel) (Nat.le_refl _) (Nat.le_refl _) ?_
        show XR false 5 174 sc y_H_leastUp (45, [(9, (vI r_2)), (0, (vR 2 l0)), (1, (vR 6 l1)), (2, (vR 0 l2)), (3, (vI l3)), (4, (vI l4)), (5, (vI l5)), (6, (vI v6)), (7, (vI v7)), (8, (vI v8))], [(vI r_6)], R, M_7, 174) _
        refine s_H_leastUp [(45, .istore 10, 0, 0), (47, .iload 6, 0, 0), (49, .iconst (-1), 0, (-1))] (by decide +kernel) (z' := (50, [(10, (vI r_6)), (9, (vI r_2)), (0, (vR 2 l0)), (1, (vR 6 l1)), (2, (vR 0 l2)), (3, (vI l3)), (4, (vI l4)), (5, (vI l5)), (6, (vI v6)), (7, (vI v7)), (8, (vI v8))], [(vI (-1)), (vI v6)], R, M_7, 174)) (cs := []) (by rfl) trivial (Nat.le_refl _) ?_
        rcases xif_ex h with ⟨c_9, h⟩ | ⟨c_9, h⟩
        · skip
          refine s_H_leastUp [(50, .if_icmp .eq 24, 0, 74)] (by decide +kernel) (z' := (74, [(10, (vI r_6)), (9, (vI r_2)), (0, (vR 2 l0)), (1, (vR 6 l1)), (2, (vR 0 l2)), (3, (vI l3)), (4, (vI l4)), (5, (vI l5)), (6, (vI v6)), (7, (vI v7)), (8, (vI v8))], [], R, M_7, 174)) (cs := [v6 = -1]) (by rfl) ⟨c_9, trivial⟩ (Nat.le_refl _) ?_
          refine XR.pick [2, 3, 4, 5, 6, 7, 10, 1, 0] (ls' := [(0, (vR 2 l0)), (1, (vR 6 l1)), (2, (vR 0 l2)), (3, (vI l3)), (4, (vI l4)), (5, (vI l5)), (8, (vI v8)), (9, (vI r_2)), (10, (vI r_6))]) rfl ?_
          exact o_H_leastUp_J74 ih h
        · skip
          refine s_H_leastUp [(50, .if_icmp .eq 24, 0, (-1)), (53, .iload 10, 0, 0), (55, .iload 6, 0, 0)] (by decide +kernel) (z' := (57, [(10, (vI r_6)), (9, (vI r_2)), (0, (vR 2 l0)), (1, (vR 6 l1)), (2, (vR 0 l2)), (3, (vI l3)), (4, (vI l4)), (5, (vI l5)), (6, (vI v6)), (7, (vI v7)), (8, (vI v8))], [(vI v6), (vI r_6)], R, M_7, 174)) (cs := [¬ (v6 = -1)]) (by rfl) ⟨c_9, trivial⟩ (Nat.le_refl _) ?_
          rcases xif_ex h with ⟨c_11, h⟩ | ⟨c_11, h⟩
          · skip
            refine s_H_leastUp [(57, .if_icmp .lt 17, 0, 74)] (by decide +kernel) (z' := (74, [(10, (vI r_6)), (9, (vI r_2)), (0, (vR 2 l0)), (1, (vR 6 l1)), (2, (vR 0 l2)), (3, (vI l3)), (4, (vI l4)), (5, (vI l5)), (6, (vI v6)), (7, (vI v7)), (8, (vI v8))], [], R, M_7, 174)) (cs := [r_6 < v6]) (by rfl) ⟨c_11, trivial⟩ (Nat.le_refl _) ?_
            refine XR.pick [2, 3, 4, 5, 6, 7, 10, 1, 0] (ls' := [(0, (vR 2 l0)), (1, (vR 6 l1)), (2, (vR 0 l2)), (3, (vI l3)), (4, (vI l4)), (5, (vI l5)), (8, (vI v8)), (9, (vI r_2)), (10, (vI r_6))]) rfl ?_
            exact o_H_leastUp_J74 ih h
          · skip
            refine s_H_leastUp [(57, .if_icmp .lt 17, 0, (-1)), (60, .iload 10, 0, 0), (62, .iload 6, 0, 0)] (by decide +kernel) (z' := (64, [(10, (vI r_6)), (9, (vI r_2)), (0, (vR 2 l0)), (1, (vR 6 l1)), (2, (vR 0 l2)), (3, (vI l3)), (4, (vI l4)), (5, (vI l5)), (6, (vI v6)), (7, (vI v7)), (8, (vI v8))], [(vI v6), (vI r_6)], R, M_7, 174)) (cs := [¬ (r_6 < v6)]) (by rfl) ⟨c_11, trivial⟩ (Nat.le_refl _) ?_
            rcases xif_ex h with ⟨c_12, h⟩ | ⟨c_12, h⟩
            · skip
              refine s_H_leastUp [(64, .if_icmp .ne 24, 0, (-1)), (67, .iload 9, 0, 0), (69, .iload 7, 0, 0)] (by decide +kernel) (z' := (71, [(10, (vI r_6)), (9, (vI r_2)), (0, (vR 2 l0)), (1, (vR 6 l1)), (2, (vR 0 l2)), (3, (vI l3)), (4, (vI l4)), (5, (vI l5)), (6, (vI v6)), (7, (vI v7)), (8, (vI v8))], [(vI v7), (vI r_2)], R, M_7, 174)) (cs := [¬ (r_6 ≠ v6)]) (by rfl) ⟨fun q => q c_12, trivial⟩ (Nat.le_refl _) ?_
              rcases xif_ex h with ⟨c_13, h⟩ | ⟨c_13, h⟩
              · skip
                refine s_H_leastUp [(71, .if_icmp .ge 17, 0, (-1))] (by decide +kernel) (z' := (74, [(10, (vI r_6)), (9, (vI r_2)), (0, (vR 2 l0)), (1, (vR 6 l1)), (2, (vR 0 l2)), (3, (vI l3)), (4, (vI l4)), (5, (vI l5)), (6, (vI v6)), (7, (vI v7)), (8, (vI v8))], [], R, M_7, 174)) (cs := [¬ (v7 ≤ r_2)]) (by rfl) ⟨Int.not_le.mpr c_13, trivial⟩ (Nat.le_refl _) ?_
                refine XR.pick [2, 3, 4, 5, 6, 7, 10, 1, 0] (ls' := [(0, (vR 2 l0)), (1, (vR 6 l1)), (2, (vR 0 l2)), (3, (vI l3)), (4, (vI l4)), (5, (vI l5)), (8, (vI v8)), (9, (vI r_2)), (10, (vI r_6))]) rfl ?_
                exact o_H_leastUp_J74 ih h
              · skip
                refine s_H_leastUp [(71, .if_icmp .ge 17, 0, 88)] (by decide +kernel) (z' := (88, [(10, (vI r_6)), (9, (vI r_2)), (0, (vR 2 l0)), (1, (vR 6 l1)), (2, (vR 0 l2)), (3, (vI l3)), (4, (vI l4)), (5, (vI l5)), (6, (vI v6)), (7, (vI v7)), (8, (vI v8))], [], R, M_7, 174)) (cs := [v7 ≤ r_2]) (by rfl) ⟨Int.not_lt.mp c_13, trivial⟩ (Nat.le_refl _) ?_
                refine XR.pick [2, 3, 4, 5, 6, 7, 8, 9, 10] (ls' := [(0, (vR 2 l0)), (1, (vR 6 l1)), (2, (vR 0 l2)), (3, (vI l3)), (4, (vI l4)), (5, (vI l5)), (6, (vI v6)), (7, (vI v7)), (8, (vI v8))]) rfl ?_
                exact o_H_leastUp_J88 ih h
            · skip
              refine s_H_leastUp [(64, .if_icmp .ne 24, 0, 88)] (by decide +kernel) (z' := (88, [(10, (vI r_6)), (9, (vI r_2)), (0, (vR 2 l0)), (1, (vR 6 l1)), (2, (vR 0 l2)), (3, (vI l3)), (4, (vI l4)), (5, (vI l5)), (6, (vI v6)), (7, (vI v7)), (8, (vI v8))], [], R, M_7, 174)) (cs := [r_6 ≠ v6]) (by rfl) ⟨c_12, trivial⟩ (Nat.le_refl _) ?_
              refine XR.pick [2, 3, 4, 5, 6, 7, 8, 9, 10] (ls' := [(0, (vR 2 l0)), (1, (vR 6 l1)), (2, (vR 0 l2)), (3, (vI l3)), (4, (vI l4)), (5, (vI l5)), (6, (vI v6)), (7, (vI v7)), (8, (vI v8))]) rfl ?_
              exact o_H_leastUp_J88 ih h
    · skip
      refine s_H_leastUp [(17, .if_icmp .ge 77, 0, 94), (94, .iload 6, 0, 0)] (by decide +kernel) (z' := (96, [(0, (vR 2 l0)), (1, (vR 6 l1)), (2, (vR 0 l2)), (3, (vI l3)), (4, (vI l4)), (5, (vI l5)), (6, (vI v6)), (7, (vI v7)), (8, (vI v8))], [(vI v6)], R, M, 174)) (cs := [xshl 1 (M l0 10) ≤ v8]) (by rfl) ⟨Int.not_lt.mp c_1, trivial⟩ (Nat.le_refl _) ?_
      obtain rfl := Option.some.inj h
      exact XR.retI .int rfl rfl (by decide +kernel)
set_option maxRecDepth 100000 in
set_option maxHeartbeats 4000000 in
theorem o_H_leastUp {sc : List Int} {R : xR} {M : xM} {l0 : Nat} {l1 : Nat} {l2 : Nat} {l3 : Int} {l4 : Int} {l5 : Int} {out : Int × xM} (h : f_H_leastUp R l0 l1 l2 l3 l4 l5 M = some out) : XR false 5 174 sc y_H_leastUp (0, [(0, (vR 2 l0)), (1, (vR 6 l1)), (2, (vR 0 l2)), (3, (vI l3)), (4, (vI l4)), (5, (vI l5))], [], R, M, 174) ((some (vI out.1)), R, out.2) := by
  unfold f_H_leastUp at h
  refine s_H_leastUp [(0, .iconst (-1), 0, (-1)), (1, .istore 6, 0, 0), (3, .iconst 0, 0, 0), (4, .istore 7, 0, 0), (6, .iconst 0, 0, 0), (7, .istore 8, 0, 0)] (by decide +kernel) (z' := (9, [(8, (vI 0)), (7, (vI 0)), (6, (vI (-1))), (0, (vR 2 l0)), (1, (vR 6 l1)), (2, (vR 0 l2)), (3, (vI l3)), (4, (vI l4)), (5, (vI l5))], [], R, M, 174)) (cs := []) (by rfl) trivial (Nat.le_refl _) ?_
  refine XR.pick [3, 4, 5, 6, 7, 8, 2, 1, 0] (ls' := [(0, (vR 2 l0)), (1, (vR 6 l1)), (2, (vR 0 l2)), (3, (vI l3)), (4, (vI l4)), (5, (vI l5)), (6, (vI (-1))), (7, (vI 0)), (8, (vI 0))]) rfl ?_
  refine o_H_leastUp_F9  xfu (-1) 0 0 M _ h
set_option maxRecDepth 100000 in
set_option maxHeartbeats 4000000 in
theorem c_H_leastUp {sc : List Int} {R : xR} {M : xM} {l0 : Nat} {l1 : Nat} {l2 : Nat} {l3 : Int} {l4 : Int} {l5 : Int} {out : Int × xM} (h : f_H_leastUp R l0 l1 l2 l3 l4 l5 M = some out) : XC false 5 sc y_H_leastUp [(vR 2 l0), (vR 6 l1), (vR 0 l2), (vI l3), (vI l4), (vI l5)] R M 174 174 ((some (vI out.1)), R, out.2) := XC.of (by decide) (Nat.le_of_ble_eq_true rfl) (Nat.le_refl _) (Nat.le_refl _) (o_H_leastUp h)
