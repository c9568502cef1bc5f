def f_F_amountsOf (R : xR) (l0 : Nat) (l1 : Int) : Option Nat :=
  if l1 = 0 then
    some (R l0 2)
  else
    if l1 = 1 then
      some (R l0 3)
    else
      if l1 = 2 then
        some (R l0 4)
      else
        if l1 = 3 then
          some (R l0 5)
        else
          some (R l0 6)
set_option maxRecDepth 100000 in
set_option maxHeartbeats 4000000 in
theorem s_F_amountsOf {d : Nat} {sc : List Int} {z z' : xS} {out : xO} (qs : List xI) {cs : List Prop} (hq : qs.all (xqb 1 false y_F_amountsOf.2.2.1 y_F_amountsOf.2.1) = true) (h : xN false sc qs z = some (z', cs)) (hc : xAll cs) (hE : z'.2.2.2.2.2 ≤ 174) (k : XR false d 174 sc y_F_amountsOf z' out) : XR false d 174 sc y_F_amountsOf z out := XR.seg 1 false rfl (fun q => by cases q) qs hq h hc hE k
set_option maxRecDepth 100000 in
set_option maxHeartbeats 4000000 in
theorem o_F_amountsOf {sc : List Int} {R : xR} {M : xM} {l0 : Nat} {l1 : Int} {out : Nat} (h : f_F_amountsOf R l0 l1 = some out) : XR false 0 174 sc y_F_amountsOf (0, [(0, (vR 1 l0)), (1, (vI l1))], [], R, M, 174) ((some (vR 27 out)), R, M) := by
  unfold f_F_amountsOf at h
  refine s_F_amountsOf [(0, .iload_n 1, 0, 0)] (by decide +kernel) (z' := (1, [(0, (vR 1 l0)), (1, (vI l1))], [(vI l1)], R, M, 174)) (cs := []) (by rfl) trivial (Nat.le_refl _) ?_
  rcases xif_ex h with ⟨c_1, h⟩ | ⟨c_1, h⟩
  · skip
    refine s_F_amountsOf [(1, .tableswitch 51 0 3 #[31, 36, 41, 46], 1, 32), (32, .aload_n 0, 0, 0), (33, .getfield 19, 1, 2)] (by decide +kernel) (z' := (36, [(0, (vR 1 l0)), (1, (vI l1))], [(vR 27 (R l0 2))], R, M, 174)) (cs := [l1 = (0 : Int) + ((0 : Nat) : Int)]) (by rfl) ⟨by rw [c_1]; rfl, trivial⟩ (Nat.le_refl _) ?_
    obtain rfl := Option.some.inj h
    exact XR.retA (by decide) .int rfl (by decide +kernel)
  · skip
    rcases xif_ex h with ⟨c_2, h⟩ | ⟨c_2, h⟩
    · skip
      refine s_F_amountsOf [(1, .tableswitch 51 0 3 #[31, 36, 41, 46], 2, 37), (37, .aload_n 0, 0, 0), (38, .getfield 22, 1, 3)] (by decide +kernel) (z' := (41, [(0, (vR 1 l0)), (1, (vI l1))], [(vR 27 (R l0 3))], R, M, 174)) (cs := [l1 = (0 : Int) + ((1 : Nat) : Int)]) (by rfl) ⟨by rw [c_2]; rfl, trivial⟩ (Nat.le_refl _) ?_
      obtain rfl := Option.some.inj h
      exact XR.retA (by decide) .int rfl (by decide +kernel)
    · skip
      rcases xif_ex h with ⟨c_3, h⟩ | ⟨c_3, h⟩
      · skip
        refine s_F_amountsOf [(1, .tableswitch 51 0 3 #[31, 36, 41, 46], 3, 42), (42, .aload_n 0, 0, 0), (43, .getfield 25, 1, 4)] (by decide +kernel) (z' := (46, [(0, (vR 1 l0)), (1, (vI l1))], [(vR 27 (R l0 4))], R, M, 174)) (cs := [l1 = (0 : Int) + ((2 : Nat) : Int)]) (by rfl) ⟨by rw [c_3]; rfl, trivial⟩ (Nat.le_refl _) ?_
        obtain rfl := Option.some.inj h
        exact XR.retA (by decide) .int rfl (by decide +kernel)
      · skip
        rcases xif_ex h with ⟨c_4, h⟩ | ⟨c_4, h⟩
        · skip
          refine s_F_amountsOf [(1, .tableswitch 51 0 3 #[31, 36, 41, 46], 4, 47), (47, .aload_n 0, 0, 0), (48, .getfield 28, 1, 5)] (by decide +kernel) (z' := (51, [(0, (vR 1 l0)), (1, (vI l1))], [(vR 27 (R l0 5))], R, M, 174)) (cs := [l1 = (0 : Int) + ((3 : Nat) : Int)]) (by rfl) ⟨by rw [c_4]; rfl, trivial⟩ (Nat.le_refl _) ?_
          obtain rfl := Option.some.inj h
          exact XR.retA (by decide) .int rfl (by decide +kernel)
        · skip
          refine s_F_amountsOf [(1, .tableswitch 51 0 3 #[31, 36, 41, 46], 0, 52), (52, .aload_n 0, 0, 0), (53, .getfield 31, 1, 6)] (by decide +kernel) (z' := (56, [(0, (vR 1 l0)), (1, (vI l1))], [(vR 27 (R l0 6))], R, M, 174)) (cs := [l1 < 0 ∨ 3 < l1]) (by rfl) ⟨by omega, trivial⟩ (Nat.le_refl _) ?_
          obtain rfl := Option.some.inj h
          exact XR.retA (by decide) .int rfl (by decide +kernel)
set_option maxRecDepth 100000 in
set_option maxHeartbeats 4000000 in
theorem c_F_amountsOf {sc : List Int} {R : xR} {M : xM} {l0 : Nat} {l1 : Int} {out : Nat} (h : f_F_amountsOf R l0 l1 = some out) : XC false 0 sc y_F_amountsOf [(vR 1 l0), (vI l1)] R M 174 174 ((some (vR 27 out)), R, M) := XC.of (by decide) (Nat.le_of_ble_eq_true rfl) (Nat.le_refl _) (Nat.le_refl _) (o_F_amountsOf h)
def F_sumOf_F4 (M : xM) (k0 : Nat) (l0 : Nat) (l1 : Int) : Nat → Int → Int → Option Int
  | 0, _, _ => none
  | n + 1, v2, v3 =>
    if v3 < 4 then
      xch (0 ≤ w32 (l1 + v3) ∧ w32 (l1 + v3) < (xan k0 : Int)) <|
      xl (w32 (v2 + (M l0 (Int.toNat (w32 (l1 + v3)))))) fun v2_3 =>
      xl (w32 (v3 + 1)) fun v3_4 =>
      F_sumOf_F4 M k0 l0 l1  n v2_3 v3_4
    else
      some (v2)
def f_F_sumOf (k0 : Nat) (l0 : Nat) (l1 : Int) (M : xM) : Option Int :=
  F_sumOf_F4 M k0 l0 l1
    xfu 0 0
set_option maxRecDepth 100000 in
set_option maxHeartbeats 4000000 in
theorem s_F_sumOf {d : Nat} {sc : List Int} {z z' : xS} {out : xO} (qs : List xI) {cs : List Prop} (hq : qs.all (xqb 1 false y_F_sumOf.2.2.1 y_F_sumOf.2.1) = true) (h : xN false sc qs z = some (z', cs)) (hc : xAll cs) (hE : z'.2.2.2.2.2 ≤ 174) (k : XR false d 174 sc y_F_sumOf z' out) : XR false d 174 sc y_F_sumOf z out := XR.seg 1 false rfl (fun q => by cases q) qs hq h hc hE k
set_option maxRecDepth 100000 in
set_option maxHeartbeats 4000000 in
theorem o_F_sumOf_F4 {sc : List Int} {R : xR} {M : xM} {k0 : Nat} {l0 : Nat} {l1 : Int} (hkk0 : xar k0 0)  : ∀ (n : Nat) (v2 : Int) (v3 : Int) (out : Int), F_sumOf_F4 M k0 l0 l1  n v2 v3 = some out → XR false 0 174 sc y_F_sumOf (4, [(0, (vR k0 l0)), (1, (vI l1)), (2, (vI v2)), (3, (vI v3))], [], R, M, 174) ((some (vI out)), R, M) := by
  intro n
  induction n with
  | zero => intro v2 v3 out h; exact (xno h).elim
  | succ n ih =>
    intro v2 v3 out h
    rw [F_sumOf_F4] at h
    refine s_F_sumOf [(4, .iload_n 3, 0, 0), (5, .iconst 4, 0, 4)] (by decide +kernel) (z' := (6, [(0, (vR k0 l0)), (1, (vI l1)), (2, (vI v2)), (3, (vI v3))], [(vI 4), (vI v3)], R, M, 174)) (cs := []) (by rfl) trivial (Nat.le_refl _) ?_
    rcases xif_ex h with ⟨c_1, h⟩ | ⟨c_1, h⟩
    · skip
      obtain ⟨c_2, h⟩ := xch_ex h
      obtain ⟨v2_3, hv2_3, h⟩ := xl_ex h
      obtain ⟨v3_4, hv3_4, h⟩ := xl_ex h
      refine s_F_sumOf [(6, .if_icmp .ge 17, 0, (-1)), (9, .iload_n 2, 0, 0), (10, .aload_n 0, 1, 0), (11, .iload_n 1, 0, 0), (12, .iload_n 3, 0, 0), (13, .iadd, 0, 0), (14, .iaload, 0, 0), (15, .iadd, 0, 0), (16, .istore_n 2, 0, 0), (17, .iinc 3 1, 0, 0), (20, .goto (-16), 0, 4)] (by decide +kernel) (z' := (4, [(3, (vI v3_4)), (2, (vI v2_3)), (0, (vR k0 l0)), (1, (vI l1))], [], R, M, 174)) (cs := [¬ (4 ≤ v3), k0 ≠ 96, xar k0 0, xidx (w32 (l1 + v3)) (xan k0)]) (by subst hv2_3; subst hv3_4; rfl) ⟨Int.not_le.mpr c_1, (by have := hkk0.1; omega), hkk0, c_2, trivial⟩ (Nat.le_refl _) ?_
      refine XR.pick [2, 3, 1, 0] (ls' := [(0, (vR k0 l0)), (1, (vI l1)), (2, (vI v2_3)), (3, (vI v3_4))]) rfl ?_
      exact ih v2_3 v3_4 _ h
    · skip
      refine s_F_sumOf [(6, .if_icmp .ge 17, 0, 23), (23, .iload_n 2, 0, 0)] (by decide +kernel) (z' := (24, [(0, (vR k0 l0)), (1, (vI l1)), (2, (vI v2)), (3, (vI v3))], [(vI v2)], R, M, 174)) (cs := [4 ≤ v3]) (by rfl) ⟨Int.not_lt.mp c_1, trivial⟩ (Nat.le_refl _) ?_
      obtain rfl := Option.some.inj h
      exact XR.retI .int rfl rfl (by decide +kernel)
set_option maxRecDepth 100000 in
set_option maxHeartbeats 4000000 in
theorem o_F_sumOf {sc : List Int} {R : xR} {M : xM} {k0 : Nat} (hkk0 : xar k0 0) {l0 : Nat} {l1 : Int} {out : Int} (h : f_F_sumOf k0 l0 l1 M = some out) : XR false 0 174 sc y_F_sumOf (0, [(0, (vR k0 l0)), (1, (vI l1))], [], R, M, 174) ((some (vI out)), R, M) := by
  unfold f_F_sumOf at h
  refine s_F_sumOf [(0, .iconst 0, 0, 0), (1, .istore_n 2, 0, 0), (2, .iconst 0, 0, 0), (3, .istore_n 3, 0, 0)] (by decide +kernel) (z' := (4, [(3, (vI 0)), (2, (vI 0)), (0, (vR k0 l0)), (1, (vI l1))], [], R, M, 174)) (cs := []) (by rfl) trivial (Nat.le_refl _) ?_
  refine XR.pick [2, 3, 1, 0] (ls' := [(0, (vR k0 l0)), (1, (vI l1)), (2, (vI 0)), (3, (vI 0))]) rfl ?_
  refine o_F_sumOf_F4 hkk0  xfu 0 0 _ h
set_option maxRecDepth 100000 in
set_option maxHeartbeats 4000000 in
theorem c_F_sumOf {sc : List Int} {R : xR} {M : xM} {k0 : Nat} (hkk0 : xar k0 0) {l0 : Nat} {l1 : Int} {out : Int} (h : f_F_sumOf k0 l0 l1 M = some out) : XC false 0 sc y_F_sumOf [(vR k0 l0), (vI l1)] R M 174 174 ((some (vI out)), R, M) := XC.of (by decide) (Nat.le_of_ble_eq_true rfl) (Nat.le_refl _) (Nat.le_refl _) (o_F_sumOf hkk0 h)
def f_F_amountOf (R : xR) (l0 : Nat) (l1 : Int) (l2 : Int) (l3 : Int) (M : xM) : Option Int :=
  xb1 (f_F_amountsOf R l0 l3) fun r_1 =>
  if l2 = -1 then
    xb1 (f_F_sumOf 27 r_1 (w32 (l1 * 4)) M) fun r_4 =>
    some (r_4)
  else
    xch (0 ≤ w32 ((w32 (l1 * 4)) + l2) ∧ w32 ((w32 (l1 * 4)) + l2) < 32) <|
    some (M r_1 (Int.toNat (w32 ((w32 (l1 * 4)) + l2))))
set_option maxRecDepth 100000 in
set_option maxHeartbeats 4000000 in
theorem s_F_amountOf {d : Nat} {sc : List Int} {z z' : xS} {out : xO} (qs : List xI) {cs : List Prop} (hq : qs.all (xqb 1 false y_F_amountOf.2.2.1 y_F_amountOf.2.1) = true) (h : xN false sc qs z = some (z', cs)) (hc : xAll cs) (hE : z'.2.2.2.2.2 ≤ 174) (k : XR false d 174 sc y_F_amountOf z' out) : XR false d 174 sc y_F_amountOf z out := XR.seg 1 false rfl (fun q => by cases q) qs hq h hc hE k
set_option maxRecDepth 100000 in
set_option maxHeartbeats 4000000 in
theorem o_F_amountOf {sc : List Int} {R : xR} {M : xM} {l0 : Nat} {l1 : Int} {l2 : Int} {l3 : Int} {out : Int} (h : f_F_amountOf R l0 l1 l2 l3 M = some out) : XR false 1 174 sc y_F_amountOf (0, [(0, (vR 1 l0)), (1, (vI l1)), (2, (vI l2)), (3, (vI l3))], [], R, M, 174) ((some (vI out)), R, M) := by
  unfold f_F_amountOf at h
  refine s_F_amountOf [(0, .aload_n 0, 0, 0), (1, .iload_n 3, 0, 0)] (by decide +kernel) (z' := (2, [(0, (vR 1 l0)), (1, (vI l1)), (2, (vI l2)), (3, (vI l3))], [(vI l3), (vR 1 l0)], R, M, 174)) (cs := []) (by rfl) trivial (Nat.le_refl _) ?_
  obtain ⟨r_1, e_2, h⟩ := xb1_ex h
  refine XR.callV 1 rfl (rest := []) m_F_amountsOf k_1_177 1 l0 (Or.inl ⟨by decide, rfl⟩) [(vI l3)] rfl rfl (c_F_amountsOf e_2) (by decide) (Nat.le_of_ble_eq_true rfl) (by decide +kernel) (Nat.le_refl _) (Nat.le_refl _) ?_
  show XR false 1 174 sc y_F_amountOf (5, [(0, (vR 1 l0)), (1, (vI l1)), (2, (vI l2)), (3, (vI l3))], [(vR 27 r_1)], R, M, 174) _
  refine s_F_amountOf [(5, .astore 4, 0, 0), (7, .iload_n 2, 0, 0), (8, .iconst (-1), 0, (-1))] (by decide +kernel) (z' := (9, [(4, (vR 27 r_1)), (0, (vR 1 l0)), (1, (vI l1)), (2, (vI l2)), (3, (vI l3))], [(vI (-1)), (vI l2)], R, M, 174)) (cs := [27 ≠ 96]) (by rfl) ⟨by decide, trivial⟩ (Nat.le_refl _) ?_
  rcases xif_ex h with ⟨c_3, h⟩ | ⟨c_3, h⟩
  · skip
    refine s_F_amountOf [(9, .if_icmp .ne 14, 0, (-1)), (12, .aload 4, 0, 0), (14, .iload_n 1, 0, 0), (15, .iconst 4, 0, 4), (16, .imul, 0, 0)] (by decide +kernel) (z' := (17, [(4, (vR 27 r_1)), (0, (vR 1 l0)), (1, (vI l1)), (2, (vI l2)), (3, (vI l3))], [(vI (w32 (l1 * 4))), (vR 27 r_1)], R, M, 174)) (cs := [¬ (l2 ≠ -1)]) (by rfl) ⟨fun q => q c_3, trivial⟩ (Nat.le_refl _) ?_
    obtain ⟨r_4, e_5, h⟩ := xb1_ex h
    refine XR.callS 1 rfl (rest := []) m_F_sumOf k_1_118 [(vR 27 r_1), (vI (w32 (l1 * 4)))] rfl rfl (c_F_sumOf (xar_27) e_5) (by decide) (Nat.le_of_ble_eq_true rfl) (by decide +kernel) (Nat.le_refl _) (Nat.le_refl _) ?_
    show XR false 1 174 sc y_F_amountOf (20, [(4, (vR 27 r_1)), (0, (vR 1 l0)), (1, (vI l1)), (2, (vI l2)), (3, (vI l3))], [(vI r_4)], R, M, 174) _
    refine s_F_amountOf [(20, .goto 11, 0, 31)] (by decide +kernel) (z' := (31, [(4, (vR 27 r_1)), (0, (vR 1 l0)), (1, (vI l1)), (2, (vI l2)), (3, (vI l3))], [(vI r_4)], R, M, 174)) (cs := []) (by rfl) trivial (Nat.le_refl _) ?_
    obtain rfl := Option.some.inj h
    exact XR.retI .int rfl rfl (by decide +kernel)
  · skip
    obtain ⟨c_6, h⟩ := xch_ex h
    refine s_F_amountOf [(9, .if_icmp .ne 14, 0, 23), (23, .aload 4, 0, 0), (25, .iload_n 1, 0, 0), (26, .iconst 4, 0, 4), (27, .imul, 0, 0), (28, .iload_n 2, 0, 0), (29, .iadd, 0, 0), (30, .iaload, 0, 0)] (by decide +kernel) (z' := (31, [(4, (vR 27 r_1)), (0, (vR 1 l0)), (1, (vI l1)), (2, (vI l2)), (3, (vI l3))], [(vI (M r_1 (Int.toNat (w32 ((w32 (l1 * 4)) + l2)))))], R, M, 174)) (cs := [l2 ≠ -1, xar 27 0, xidx (w32 ((w32 (l1 * 4)) + l2)) (xan 27)]) (by rfl) ⟨c_3, xar_27, xix_27 c_6, trivial⟩ (Nat.le_refl _) ?_
    obtain rfl := Option.some.inj h
    exact XR.retI .int rfl rfl (by decide +kernel)
set_option maxRecDepth 100000 in
set_option maxHeartbeats 4000000 in
theorem c_F_amountOf {sc : List Int} {R : xR} {M : xM} {l0 : Nat} {l1 : Int} {l2 : Int} {l3 : Int} {out : Int} (h : f_F_amountOf R l0 l1 l2 l3 M = some out) : XC false 1 sc y_F_amountOf [(vR 1 l0), (vI l1), (vI l2), (vI l3)] R M 174 174 ((some (vI out)), R, M) := XC.of (by decide) (Nat.le_of_ble_eq_true rfl) (Nat.le_refl _) (Nat.le_refl _) (o_F_amountOf h)
def F_bringDust_F15 (R : xR) (l0 : Nat) (l1 : Nat) (l2 : Nat) (l3 : Int) (q60 : Int → xM → Option xM) : Nat → Int → Int → xM → Option xM
  | 0, _, _, _ => none
  | n + 1, v4, v5, M =>
    if v5 < 4 then
      xch (0 ≤ v4 ∧ v4 < 4) <|
      xch (0 ≤ w32 ((w32 ((M (R l1 12) (Int.toNat v4)) * 4)) + v5) ∧ w32 ((w32 ((M (R l1 12) (Int.toNat v4)) * 4)) + v5) < 32) <|
      xb1 (f_B_cell v4 l3 v5) fun r_5 =>
      xch (0 ≤ r_5 ∧ r_5 < 768) <|
      xl (xu M (R l0 2) (Int.toNat (w32 ((w32 ((M (R l1 12) (Int.toNat v4)) * 4)) + v5))) (w32 ((M (R l0 2) (Int.toNat (w32 ((w32 ((M (R l1 12) (Int.toNat v4)) * 4)) + v5)))) + (M (R l2 14) (Int.toNat r_5))))) fun M_8 =>
      xl (w32 (v5 + 1)) fun v5_9 =>
      F_bringDust_F15 R l0 l1 l2 l3 q60 n v4 v5_9 M_8
    else
      q60 v4 M
def F_bringDust_F3 (R : xR) (l0 : Nat) (l1 : Nat) (l2 : Nat) (l3 : Int) : Nat → Int → xM → Option xM
  | 0, _, _ => none
  | n + 1, v4, M =>
    if v4 < M l1 1 then
      F_bringDust_F15 R l0 l1 l2 l3
        (fun (v4_10 : Int) (M_11 : xM) =>
          xl (w32 (v4_10 + 1)) fun v4_12 =>
          F_bringDust_F3 R l0 l1 l2 l3  n v4_12 M_11)
        xfu v4 0 M
    else
      some (M)
def f_F_bringDust (R : xR) (l0 : Nat) (l1 : Nat) (l2 : Nat) (l3 : Int) (M : xM) : Option xM :=
  F_bringDust_F3 R l0 l1 l2 l3
    xfu 0 M
set_option maxRecDepth 100000 in
set_option maxHeartbeats 4000000 in
theorem s_F_bringDust {d : Nat} {sc : List Int} {z z' : xS} {out : xO} (qs : List xI) {cs : List Prop} (hq : qs.all (xqb 1 false y_F_bringDust.2.2.1 y_F_bringDust.2.1) = true) (h : xN false sc qs z = some (z', cs)) (hc : xAll cs) (hE : z'.2.2.2.2.2 ≤ 174) (k : XR false d 174 sc y_F_bringDust z' out) : XR false d 174 sc y_F_bringDust z out := XR.seg 1 false rfl (fun q => by cases q) qs hq h hc hE k
set_option maxRecDepth 100000 in
set_option maxHeartbeats 4000000 in
theorem o_F_bringDust_F15 {sc : List Int} {R : xR}   {l0 : Nat} {l1 : Nat} {l2 : Nat} {l3 : Int}  {q60 : Int → xM → Option xM} (hq60 : ∀ (w4 : Int) (M : xM) (out : xM), q60 w4 M = some out → XR false 1 174 sc y_F_bringDust (60, [(0, (vR 1 l0)), (1, (vR 6 l1)), (2, (vR 0 l2)), (3, (vI l3)), (4, (vI w4))], [], R, M, 174) (none, R, out)) : ∀ (n : Nat) (v4 : Int) (v5 : Int) (M : xM) (out : xM), F_bringDust_F15 R l0 l1 l2 l3 q60 n v4 v5 M = some out → XR false 1 174 sc y_F_bringDust (15, [(0, (vR 1 l0)), (1, (vR 6 l1)), (2, (vR 0 l2)), (3, (vI l3)), (4, (vI v4)), (5, (vI v5))], [], R, M, 174) (none, R, out) := by
  intro n
  induction n with
  | zero => intro v4 v5 M out h; exact (xno h).elim
  | succ n ih =>
    intro v4 v5 M out h
    rw [F_bringDust_F15] at h
    refine s_F_bringDust [(15, .iload 5, 0, 0), (17, .iconst 4, 0, 4)] (by decide +kernel) (z' := (18, [(0, (vR 1 l0)), (1, (vR 6 l1)), (2, (vR 0 l2)), (3, (vI l3)), (4, (vI v4)), (5, (vI v5))], [(vI 4), (vI v5)], R, M, 174)) (cs := []) (by rfl) trivial (Nat.le_refl _) ?_
    rcases xif_ex h with ⟨c_2, h⟩ | ⟨c_2, h⟩
    · skip
      obtain ⟨c_3, h⟩ := xch_ex h
      obtain ⟨c_4, h⟩ := xch_ex h
      refine s_F_bringDust [(18, .if_icmp .ge 42, 0, (-1)), (21, .aload_n 0, 0, 0), (22, .getfield 19, 1, 2), (25, .aload_n 1, 0, 0), (26, .getfield 97, 6, 12), (29, .iload 4, 0, 0), (31, .iaload, 0, 0), (32, .iconst 4, 0, 4), (33, .imul, 0, 0), (34, .iload 5, 0, 0), (36, .iadd, 0, 0), (37, .dup2, 0, 0), (38, .iaload, 0, 0), (39, .aload_n 2, 0, 0), (40, .getfield 100, 0, 14), (43, .iload 4, 0, 0), (45, .iload_n 3, 0, 0), (46, .iload 5, 0, 0)] (by decide +kernel) (z' := (48, [(0, (vR 1 l0)), (1, (vR 6 l1)), (2, (vR 0 l2)), (3, (vI l3)), (4, (vI v4)), (5, (vI v5))], [(vI v5), (vI l3), (vI v4), (vR 23 (R l2 14)), (vI (M (R l0 2) (Int.toNat (w32 ((w32 ((M (R l1 12) (Int.toNat v4)) * 4)) + v5))))), (vI (w32 ((w32 ((M (R l1 12) (Int.toNat v4)) * 4)) + v5))), (vR 27 (R l0 2))], R, M, 174)) (cs := [¬ (4 ≤ v5), xar 34 0, xidx v4 (xan 34), xar 27 0, xidx (w32 ((w32 ((M (R l1 12) (Int.toNat v4)) * 4)) + v5)) (xan 27)]) (by rfl) ⟨Int.not_le.mpr c_2, xar_34, xix_34 c_3, xar_27, xix_27 c_4, trivial⟩ (Nat.le_refl _) ?_
      obtain ⟨r_5, e_6, h⟩ := xb1_ex h
      refine XR.callS 1 rfl (rest := [(vR 23 (R l2 14)), (vI (M (R l0 2) (Int.toNat (w32 ((w32 ((M (R l1 12) (Int.toNat v4)) * 4)) + v5))))), (vI (w32 ((w32 ((M (R l1 12) (Int.toNat v4)) * 4)) + v5))), (vR 27 (R l0 2))]) m_B_cell k_1_105 [(vI v4), (vI l3), (vI v5)] rfl rfl (c_B_cell e_6) (by decide) (Nat.le_of_ble_eq_true rfl) (by decide +kernel) (Nat.le_refl _) (Nat.le_refl _) ?_
      show XR false 1 174 sc y_F_bringDust (51, [(0, (vR 1 l0)), (1, (vR 6 l1)), (2, (vR 0 l2)), (3, (vI l3)), (4, (vI v4)), (5, (vI v5))], [(vI r_5), (vR 23 (R l2 14)), (vI (M (R l0 2) (Int.toNat (w32 ((w32 ((M (R l1 12) (Int.toNat v4)) * 4)) + v5))))), (vI (w32 ((w32 ((M (R l1 12) (Int.toNat v4)) * 4)) + v5))), (vR 27 (R l0 2))], R, M, 174) _
      obtain ⟨c_7, h⟩ := xch_ex h
      obtain ⟨M_8, hM_8, h⟩ := xl_ex h
      obtain ⟨v5_9, hv5_9, h⟩ := xl_ex h
      refine s_F_bringDust [(51, .iaload, 0, 0), (52, .iadd, 0, 0), (53, .iastore, 0, 0), (54, .iinc 5 1, 0, 0), (57, .goto (-42), 0, 15)] (by decide +kernel) (z' := (15, [(5, (vI v5_9)), (0, (vR 1 l0)), (1, (vR 6 l1)), (2, (vR 0 l2)), (3, (vI l3)), (4, (vI v4))], [], R, M_8, 174)) (cs := [xar 23 0, xidx r_5 (xan 23), xar 27 0, xidx (w32 ((w32 ((M (R l1 12) (Int.toNat v4)) * 4)) + v5)) (xan 27)]) (by subst hM_8; subst hv5_9; rfl) ⟨xar_23, xix_23 c_7, xar_27, xix_27 c_4, trivial⟩ (Nat.le_refl _) ?_
      refine XR.pick [1, 2, 3, 4, 5, 0] (ls' := [(0, (vR 1 l0)), (1, (vR 6 l1)), (2, (vR 0 l2)), (3, (vI l3)), (4, (vI v4)), (5, (vI v5_9))]) rfl ?_
      exact ih v4 v5_9 M_8 _ h
    · skip
      refine s_F_bringDust [(18, .if_icmp .ge 42, 0, 60)] (by decide +kernel) (z' := (60, [(0, (vR 1 l0)), (1, (vR 6 l1)), (2, (vR 0 l2)), (3, (vI l3)), (4, (vI v4)), (5, (vI v5))], [], R, M, 174)) (cs := [4 ≤ v5]) (by rfl) ⟨Int.not_lt.mp c_2, trivial⟩ (Nat.le_refl _) ?_
      refine XR.pick [0, 1, 2, 3, 4] (ls' := [(0, (vR 1 l0)), (1, (vR 6 l1)), (2, (vR 0 l2)), (3, (vI l3)), (4, (vI v4))]) rfl ?_
      exact hq60 v4 M _ h
set_option maxRecDepth 100000 in
set_option maxHeartbeats 4000000 in
theorem o_F_bringDust_F3 {sc : List Int} {R : xR}   {l0 : Nat} {l1 : Nat} {l2 : Nat} {l3 : Int}  : ∀ (n : Nat) (v4 : Int) (M : xM) (out : xM), F_bringDust_F3 R l0 l1 l2 l3  n v4 M = some out → XR false 1 174 sc y_F_bringDust (3, [(0, (vR 1 l0)), (1, (vR 6 l1)), (2, (vR 0 l2)), (3, (vI l3)), (4, (vI v4))], [], R, M, 174) (none, R, out) := by
  intro n
  induction n with
  | zero => intro v4 M out h; exact (xno h).elim
  | succ n ih =>
    intro v4 M out h
    rw [F_bringDust_F3] at h
    refine s_F_bringDust [(3, .iload 4, 0, 0), (5, .aload_n 1, 0, 0), (6, .getfield 94, 6, 1)] (by decide +kernel) (z' := (9, [(0, (vR 1 l0)), (1, (vR 6 l1)), (2, (vR 0 l2)), (3, (vI l3)), (4, (vI v4))], [(vI (M l1 1)), (vI v4)], R, M, 174)) (cs := []) (by rfl) trivial (Nat.le_refl _) ?_
    rcases xif_ex h with ⟨c_1, h⟩ | ⟨c_1, h⟩
    · skip
      refine s_F_bringDust [(9, .if_icmp .ge 57, 0, (-1)), (12, .iconst 0, 0, 0), (13, .istore 5, 0, 0)] (by decide +kernel) (z' := (15, [(5, (vI 0)), (0, (vR 1 l0)), (1, (vR 6 l1)), (2, (vR 0 l2)), (3, (vI l3)), (4, (vI v4))], [], R, M, 174)) (cs := [¬ (M l1 1 ≤ v4)]) (by rfl) ⟨Int.not_le.mpr c_1, trivial⟩ (Nat.le_refl _) ?_
      refine XR.pick [1, 2, 3, 4, 5, 0] (ls' := [(0, (vR 1 l0)), (1, (vR 6 l1)), (2, (vR 0 l2)), (3, (vI l3)), (4, (vI v4)), (5, (vI 0))]) rfl ?_
      refine o_F_bringDust_F15 ?_ xfu v4 0 M _ h
      · intro v4_10 M_11 out h
        obtain ⟨v4_12, hv4_12, h⟩ := xl_ex h
        refine s_F_bringDust [(60, .iinc 4 1, 0, 0), (63, .goto (-60), 0, 3)] (by decide +kernel) (z' := (3, [(4, (vI v4_12)), (0, (vR 1 l0)), (1, (vR 6 l1)), (2, (vR 0 l2)), (3, (vI l3))], [], R, M_11, 174)) (cs := []) (by subst hv4_12; rfl) trivial (Nat.le_refl _) ?_
        refine XR.pick [1, 2, 3, 4, 0] (ls' := [(0, (vR 1 l0)), (1, (vR 6 l1)), (2, (vR 0 l2)), (3, (vI l3)), (4, (vI v4_12))]) rfl ?_
        exact ih v4_12 M_11 _ h
    · skip
      refine s_F_bringDust [(9, .if_icmp .ge 57, 0, 66)] (by decide +kernel) (z' := (66, [(0, (vR 1 l0)), (1, (vR 6 l1)), (2, (vR 0 l2)), (3, (vI l3)), (4, (vI v4))], [], R, M, 174)) (cs := [M l1 1 ≤ v4]) (by rfl) ⟨Int.not_lt.mp c_1, trivial⟩ (Nat.le_refl _) ?_
      obtain rfl := Option.some.inj h
      exact XR.retV rfl (by decide +kernel)
set_option maxRecDepth 100000 in
set_option maxHeartbeats 4000000 in
theorem o_F_bringDust {sc : List Int} {R : xR} {M : xM} {l0 : Nat} {l1 : Nat} {l2 : Nat} {l3 : Int} {out : xM} (h : f_F_bringDust R l0 l1 l2 l3 M = some out) : XR false 1 174 sc y_F_bringDust (0, [(0, (vR 1 l0)), (1, (vR 6 l1)), (2, (vR 0 l2)), (3, (vI l3))], [], R, M, 174) (none, R, out) := by
  unfold f_F_bringDust at h
  refine s_F_bringDust [(0, .iconst 0, 0, 0), (1, .istore 4, 0, 0)] (by decide +kernel) (z' := (3, [(4, (vI 0)), (0, (vR 1 l0)), (1, (vR 6 l1)), (2, (vR 0 l2)), (3, (vI l3))], [], R, M, 174)) (cs := []) (by rfl) trivial (Nat.le_refl _) ?_
  refine XR.pick [1, 2, 3, 4, 0] (ls' := [(0, (vR 1 l0)), (1, (vR 6 l1)), (2, (vR 0 l2)), (3, (vI l3)), (4, (vI 0))]) rfl ?_
  refine o_F_bringDust_F3  xfu 0 M _ h
set_option maxRecDepth 100000 in
set_option maxHeartbeats 4000000 in
theorem c_F_bringDust {sc : List Int} {R : xR} {M : xM} {l0 : Nat} {l1 : Nat} {l2 : Nat} {l3 : Int} {out : xM} (h : f_F_bringDust R l0 l1 l2 l3 M = some out) : XC false 1 sc y_F_bringDust [(vR 1 l0), (vR 6 l1), (vR 0 l2), (vI l3)] R M 174 174 (none, R, out) := XC.of (by decide) (Nat.le_of_ble_eq_true rfl) (Nat.le_refl _) (Nat.le_refl _) (o_F_bringDust h)
def f_F_lessBy (R : xR) (l0 : Nat) (l1 : Nat) (l2 : Int) (l3 : Int) (M : xM) : Option Int :=
  xb1 (f_B_holesBy R l1 l2 l3 M) fun r_1 =>
  if l2 = M l0 9 then
    some (w32 (r_1 + (M l0 11)))
  else
    some (r_1)
set_option maxRecDepth 100000 in
set_option maxHeartbeats 4000000 in
theorem s_F_lessBy {d : Nat} {sc : List Int} {z z' : xS} {out : xO} (qs : List xI) {cs : List Prop} (hq : qs.all (xqb 1 false y_F_lessBy.2.2.1 y_F_lessBy.2.1) = true) (h : xN false sc qs z = some (z', cs)) (hc : xAll cs) (hE : z'.2.2.2.2.2 ≤ 174) (k : XR false d 174 sc y_F_lessBy z' out) : XR false d 174 sc y_F_lessBy z out := XR.seg 1 false rfl (fun q => by cases q) qs hq h hc hE k
set_option maxRecDepth 100000 in
set_option maxHeartbeats 4000000 in
theorem o_F_lessBy {sc : List Int} {R : xR} {M : xM} {l0 : Nat} {l1 : Nat} {l2 : Int} {l3 : Int} {out : Int} (h : f_F_lessBy R l0 l1 l2 l3 M = some out) : XR false 1 174 sc y_F_lessBy (0, [(0, (vR 1 l0)), (1, (vR 0 l1)), (2, (vI l2)), (3, (vI l3))], [], R, M, 174) ((some (vI out)), R, M) := by
  unfold f_F_lessBy at h
  refine s_F_lessBy [(0, .aload_n 1, 0, 0), (1, .iload_n 2, 0, 0), (2, .iload_n 3, 0, 0)] (by decide +kernel) (z' := (3, [(0, (vR 1 l0)), (1, (vR 0 l1)), (2, (vI l2)), (3, (vI l3))], [(vI l3), (vI l2), (vR 0 l1)], R, M, 174)) (cs := []) (by rfl) trivial (Nat.le_refl _) ?_
  obtain ⟨r_1, e_2, h⟩ := xb1_ex h
  refine XR.callV 1 rfl (rest := []) m_B_holesBy k_1_152 0 l1 (Or.inl ⟨by decide, rfl⟩) [(vI l2), (vI l3)] rfl rfl (c_B_holesBy e_2) (by decide) (Nat.le_of_ble_eq_true rfl) (by decide +kernel) (Nat.le_refl _) (Nat.le_refl _) ?_
  show XR false 1 174 sc y_F_lessBy (6, [(0, (vR 1 l0)), (1, (vR 0 l1)), (2, (vI l2)), (3, (vI l3))], [(vI r_1)], R, M, 174) _
  refine s_F_lessBy [(6, .istore 4, 0, 0), (8, .iload_n 2, 0, 0), (9, .aload_n 0, 0, 0), (10, .getfield 44, 1, 9)] (by decide +kernel) (z' := (13, [(4, (vI r_1)), (0, (vR 1 l0)), (1, (vR 0 l1)), (2, (vI l2)), (3, (vI l3))], [(vI (M l0 9)), (vI l2)], R, M, 174)) (cs := []) (by rfl) trivial (Nat.le_refl _) ?_
  rcases xif_ex h with ⟨c_3, h⟩ | ⟨c_3, h⟩
  · skip
    refine s_F_lessBy [(13, .if_icmp .ne 13, 0, (-1)), (16, .iload 4, 0, 0), (18, .aload_n 0, 0, 0), (19, .getfield 51, 1, 11), (22, .iadd, 0, 0), (23, .goto 5, 0, 28)] (by decide +kernel) (z' := (28, [(4, (vI r_1)), (0, (vR 1 l0)), (1, (vR 0 l1)), (2, (vI l2)), (3, (vI l3))], [(vI (w32 (r_1 + (M l0 11))))], R, M, 174)) (cs := [¬ (l2 ≠ M l0 9)]) (by rfl) ⟨fun q => q c_3, trivial⟩ (Nat.le_refl _) ?_
    obtain rfl := Option.some.inj h
    exact XR.retI .int rfl rfl (by decide +kernel)
  · skip
    refine s_F_lessBy [(13, .if_icmp .ne 13, 0, 26), (26, .iload 4, 0, 0)] (by decide +kernel) (z' := (28, [(4, (vI r_1)), (0, (vR 1 l0)), (1, (vR 0 l1)), (2, (vI l2)), (3, (vI l3))], [(vI r_1)], R, M, 174)) (cs := [l2 ≠ M l0 9]) (by rfl) ⟨c_3, trivial⟩ (Nat.le_refl _) ?_
    obtain rfl := Option.some.inj h
    exact XR.retI .int rfl rfl (by decide +kernel)
set_option maxRecDepth 100000 in
set_option maxHeartbeats 4000000 in
theorem c_F_lessBy {sc : List Int} {R : xR} {M : xM} {l0 : Nat} {l1 : Nat} {l2 : Int} {l3 : Int} {out : Int} (h : f_F_lessBy R l0 l1 l2 l3 M = some out) : XC false 1 sc y_F_lessBy [(vR 1 l0), (vR 0 l1), (vI l2), (vI l3)] R M 174 174 ((some (vI out)), R, M) := XC.of (by decide) (Nat.le_of_ble_eq_true rfl) (Nat.le_refl _) (Nat.le_refl _) (o_F_lessBy h)
def f_F_hold (R : xR) (l0 : Nat) (l1 : Int) (l2 : Int) (l3 : Int) (M : xM) : Option xM :=
  xch (0 ≤ l1 ∧ l1 < 32) <|
  xl (w32 ((w32 ((M (R l0 2) (Int.toNat l1)) * l2)) + (M (R l0 7) (Int.toNat l1)))) fun v4_2 =>
  xl (xu M (R l0 3) (Int.toNat l1) (w32 (Int.tdiv v4_2 100))) fun M_3 =>
  xl (xu M_3 (R l0 7) (Int.toNat l1) (Int.tmod v4_2 100)) fun M_4 =>
  if l3 = 0 then
    xl (xu M_4 (R l0 6) (Int.toNat l1) (w32 ((M_4 (R l0 6) (Int.toNat l1)) + (M_4 (R l0 3) (Int.toNat l1))))) fun M_6 =>
    some (M_6)
  else
    xl (xu M_4 (R l0 5) (Int.toNat l1) (w32 ((M_4 (R l0 5) (Int.toNat l1)) + (M_4 (R l0 3) (Int.toNat l1))))) fun M_7 =>
    some (M_7)
set_option maxRecDepth 100000 in
set_option maxHeartbeats 4000000 in
theorem s_F_hold {d : Nat} {sc : List Int} {z z' : xS} {out : xO} (qs : List xI) {cs : List Prop} (hq : qs.all (xqb 1 false y_F_hold.2.2.1 y_F_hold.2.1) = true) (h : xN false sc qs z = some (z', cs)) (hc : xAll cs) (hE : z'.2.2.2.2.2 ≤ 174) (k : XR false d 174 sc y_F_hold z' out) : XR false d 174 sc y_F_hold z out := XR.seg 1 false rfl (fun q => by cases q) qs hq h hc hE k
set_option maxRecDepth 100000 in
set_option maxHeartbeats 4000000 in
theorem o_F_hold {sc : List Int} {R : xR} {M : xM} {l0 : Nat} {l1 : Int} {l2 : Int} {l3 : Int} {out : xM} (h : f_F_hold R l0 l1 l2 l3 M = some out) : XR false 0 174 sc y_F_hold (0, [(0, (vR 1 l0)), (1, (vI l1)), (2, (vI l2)), (3, (vI l3))], [], R, M, 174) (none, R, out) := by
  unfold f_F_hold at h
  obtain ⟨c_1, h⟩ := xch_ex h
  obtain ⟨v4_2, hv4_2, h⟩ := xl_ex h
  obtain ⟨M_3, hM_3, h⟩ := xl_ex h
  obtain ⟨M_4, hM_4, h⟩ := xl_ex h
  refine s_F_hold [(0, .aload_n 0, 0, 0), (1, .getfield 19, 1, 2), (4, .iload_n 1, 0, 0), (5, .iaload, 0, 0), (6, .iload_n 2, 0, 0), (7, .imul, 0, 0), (8, .aload_n 0, 0, 0), (9, .getfield 34, 1, 7), (12, .iload_n 1, 0, 0), (13, .iaload, 0, 0), (14, .iadd, 0, 0), (15, .istore 4, 0, 0), (17, .aload_n 0, 0, 0), (18, .getfield 22, 1, 3), (21, .iload_n 1, 0, 0), (22, .iload 4, 0, 0), (24, .bipush 100, 0, 100), (26, .idiv, 0, 0), (27, .iastore, 0, 0), (28, .aload_n 0, 0, 0), (29, .getfield 34, 1, 7), (32, .iload_n 1, 0, 0), (33, .iload 4, 0, 0), (35, .bipush 100, 0, 100), (37, .irem, 0, 0), (38, .iastore, 0, 0), (39, .iload_n 3, 0, 0)] (by decide +kernel) (z' := (40, [(4, (vI v4_2)), (0, (vR 1 l0)), (1, (vI l1)), (2, (vI l2)), (3, (vI l3))], [(vI l3)], R, M_4, 174)) (cs := [xar 27 0, xidx l1 (xan 27), xar 27 0, xidx l1 (xan 27), (100 : Int) ≠ 0, xar 27 0, xidx l1 (xan 27), (100 : Int) ≠ 0, xar 27 0, xidx l1 (xan 27)]) (by subst hv4_2; subst hM_3; subst hM_4; rfl) ⟨xar_27, xix_27 c_1, xar_27, xix_27 c_1, by decide, xar_27, xix_27 c_1, by decide, xar_27, xix_27 c_1, trivial⟩ (Nat.le_refl _) ?_
  rcases xif_ex h with ⟨c_5, h⟩ | ⟨c_5, h⟩
  · skip
    obtain ⟨M_6, hM_6, h⟩ := xl_ex h
    refine s_F_hold [(40, .ifCond .eq 21, 0, 61), (61, .aload_n 0, 0, 0), (62, .getfield 31, 1, 6), (65, .iload_n 1, 0, 0), (66, .dup2, 0, 0), (67, .iaload, 0, 0), (68, .aload_n 0, 0, 0), (69, .getfield 22, 1, 3), (72, .iload_n 1, 0, 0), (73, .iaload, 0, 0), (74, .iadd, 0, 0), (75, .iastore, 0, 0)] (by decide +kernel) (z' := (76, [(4, (vI v4_2)), (0, (vR 1 l0)), (1, (vI l1)), (2, (vI l2)), (3, (vI l3))], [], R, M_6, 174)) (cs := [l3 = 0, xar 27 0, xidx l1 (xan 27), xar 27 0, xidx l1 (xan 27), xar 27 0, xidx l1 (xan 27)]) (by subst hM_6; rfl) ⟨c_5, xar_27, xix_27 c_1, xar_27, xix_27 c_1, xar_27, xix_27 c_1, trivial⟩ (Nat.le_refl _) ?_
    obtain rfl := Option.some.inj h
    exact XR.retV rfl (by decide +kernel)
  · skip
    obtain ⟨M_7, hM_7, h⟩ := xl_ex h
    refine s_F_hold [(40, .ifCond .eq 21, 0, (-1)), (43, .aload_n 0, 0, 0), (44, .getfield 28, 1, 5), (47, .iload_n 1, 0, 0), (48, .dup2, 0, 0), (49, .iaload, 0, 0), (50, .aload_n 0, 0, 0), (51, .getfield 22, 1, 3), (54, .iload_n 1, 0, 0), (55, .iaload, 0, 0), (56, .iadd, 0, 0), (57, .iastore, 0, 0), (58, .goto 18, 0, 76)] (by decide +kernel) (z' := (76, [(4, (vI v4_2)), (0, (vR 1 l0)), (1, (vI l1)), (2, (vI l2)), (3, (vI l3))], [], R, M_7, 174)) (cs := [¬ (l3 = 0), xar 27 0, xidx l1 (xan 27), xar 27 0, xidx l1 (xan 27), xar 27 0, xidx l1 (xan 27)]) (by subst hM_7; rfl) ⟨c_5, xar_27, xix_27 c_1, xar_27, xix_27 c_1, xar_27, xix_27 c_1, trivial⟩ (Nat.le_refl _) ?_
    obtain rfl := Option.some.inj h
    exact XR.retV rfl (by decide +kernel)
set_option maxRecDepth 100000 in
set_option maxHeartbeats 4000000 in
theorem c_F_hold {sc : List Int} {R : xR} {M : xM} {l0 : Nat} {l1 : Int} {l2 : Int} {l3 : Int} {out : xM} (h : f_F_hold R l0 l1 l2 l3 M = some out) : XC false 0 sc y_F_hold [(vR 1 l0), (vI l1), (vI l2), (vI l3)] R M 174 174 (none, R, out) := XC.of (by decide) (Nat.le_of_ble_eq_true rfl) (Nat.le_refl _) (Nat.le_refl _) (o_F_hold h)
def F_clean_J185 (R : xR) (l0 : Nat) (l1 : Nat) (l3 : Int) (rc : Int → Int → Int → Int → Int → xM → Option xM) (v8 : Int) (v9 : Int) (v10 : Int) (v11 : Int) (v12 : Int) (s0 : Int) (s1 : Int) (s2 : Nat) (M : xM) : Option xM :=
  xb1 (f_F_hold R s2 s1 s0 v11 M) fun M_26 =>
  xl (w32 (v12 + 1)) fun v12_28 =>
  rc v8 v9 v10 v11 v12_28 M_26
def F_clean_J169 (R : xR) (l0 : Nat) (l1 : Nat) (l3 : Int) (rc : Int → Int → Int → Int → Int → xM → Option xM) (v8 : Int) (v9 : Int) (v10 : Int) (v11 : Int) (v12 : Int) (s0 : Int) (M : xM) : Option xM :=
  if v8 = 0 then
    F_clean_J185 R l0 l1 l3 rc v8 v9 v10 v11 v12 s0 v12 l0 M
  else
    F_clean_J185 R l0 l1 l3 rc v8 v9 v10 v11 v12 0 v12 l0 M
def F_clean_F128 (R : xR) (l0 : Nat) (l1 : Nat) (l3 : Int) : Nat → Int → Int → Int → Int → Int → xM → Option xM
  | 0, _, _, _, _, _, _ => none
  | n + 1, v8, v9, v10, v11, v12, M =>
    if v12 < w32 ((w32 (l3 + 1)) * 4) then
      if v9 = 0 then
        xch (0 ≤ v12 ∧ v12 < 32) <|
        F_clean_J169 R l0 l1 l3 (F_clean_F128 R l0 l1 l3  n) v8 v9 v10 v11 v12 (xmax 0 (w32 ((M (R l1 5) (Int.toNat v12)) - v10))) M
      else
        xch (0 ≤ v12 ∧ v12 < 32) <|
        F_clean_J169 R l0 l1 l3 (F_clean_F128 R l0 l1 l3  n) v8 v9 v10 v11 v12 (w32 (Int.tdiv (M (R l1 5) (Int.toNat v12)) 2)) M
    else
      some (M)
def F_clean_J104 (R : xR) (l0 : Nat) (l1 : Nat) (l2 : Nat) (l3 : Int) (l4 : Int) (v8 : Int) (s0 : Int) (M : xM) : Option xM :=
  xb1 (f_F_lessBy R l0 l2 l3 l4 M) fun r_17 =>
  xb1 (f_N_keepsLayer R l1 l3 M) fun r_19 =>
  xl (w32 (l3 * 4)) fun v12_21 =>
  F_clean_F128 R l0 l1 l3
    xfu v8 s0 r_17 r_19 v12_21 M
def F_clean_J86 (R : xR) (l0 : Nat) (l1 : Nat) (l2 : Nat) (l3 : Int) (l4 : Int) (v5 : Int) (v7 : Int) (s0 : Int) (M : xM) : Option xM :=
  if v5 = 1 then
    if v7 = 0 then
      F_clean_J104 R l0 l1 l2 l3 l4 s0 0 M
    else
      F_clean_J104 R l0 l1 l2 l3 l4 s0 1 M
  else
    F_clean_J104 R l0 l1 l2 l3 l4 s0 0 M
def F_clean_J59 (R : xR) (l0 : Nat) (l1 : Nat) (l2 : Nat) (l3 : Int) (l4 : Int) (v5 : Int) (v7 : Int) (M : xM) : Option xM :=
  if v5 = 3 then
    xch (0 ≤ l4 ∧ l4 < 48) <|
    xch (0 ≤ l3 ∧ l3 < 8) <|
    if M (R l2 12) (Int.toNat l4) < M (R l1 6) (Int.toNat l3) then
      F_clean_J86 R l0 l1 l2 l3 l4 v5 v7 0 M
    else
      F_clean_J86 R l0 l1 l2 l3 l4 v5 v7 1 M
  else
    F_clean_J86 R l0 l1 l2 l3 l4 v5 v7 0 M
def F_clean_J36 (R : xR) (l0 : Nat) (l1 : Nat) (l2 : Nat) (l3 : Int) (l4 : Int) (v5 : Int) (s0 : Int) (M : xM) : Option xM :=
  xb1 (f_B_isOff R l2 l3 l4 M) fun r_6 =>
  if r_6 = 0 then
    if v5 = 2 then
      if s0 = 0 then
        F_clean_J59 R l0 l1 l2 l3 l4 v5 s0 M
      else
        F_clean_J86 R l0 l1 l2 l3 l4 v5 s0 1 M
    else
      F_clean_J59 R l0 l1 l2 l3 l4 v5 s0 M
  else
    F_clean_J86 R l0 l1 l2 l3 l4 v5 s0 1 M
def f_F_clean (R : xR) (l0 : Nat) (l1 : Nat) (l2 : Nat) (l3 : Int) (l4 : Int) (M : xM) : Option xM :=
  xch (0 ≤ l3 ∧ l3 < 8) <|
  xl (M (R l1 4) (Int.toNat l3)) fun v5_2 =>
  xb1 (f_F_sumOf 27 (R l0 5) (w32 (l3 * 4)) M) fun r_3 =>
  if r_3 < M (R l1 6) (Int.toNat l3) then
    F_clean_J36 R l0 l1 l2 l3 l4 v5_2 0 M
  else
    F_clean_J36 R l0 l1 l2 l3 l4 v5_2 1 M
set_option maxRecDepth 100000 in
set_option maxHeartbeats 4000000 in
theorem s_F_clean {d : Nat} {sc : List Int} {z z' : xS} {out : xO} (qs : List xI) {cs : List Prop} (hq : qs.all (xqb 1 false y_F_clean.2.2.1 y_F_clean.2.1) = true) (h : xN false sc qs z = some (z', cs)) (hc : xAll cs) (hE : z'.2.2.2.2.2 ≤ 174) (k : XR false d 174 sc y_F_clean z' out) : XR false d 174 sc y_F_clean z out := XR.seg 1 false rfl (fun q => by cases q) qs hq h hc hE k
set_option maxRecDepth 100000 in
set_option maxHeartbeats 4000000 in
theorem o_F_clean_J185 {sc : List Int} {R : xR}   {l0 : Nat} {l1 : Nat} {l3 : Int}  {rc : Int → Int → Int → Int → Int → xM → Option xM} (hrc : ∀ (w8 : Int) (w9 : Int) (w10 : Int) (w11 : Int) (w12 : Int) (M : xM) (out : xM), rc w8 w9 w10 w11 w12 M = some out → XR false 2 174 sc y_F_clean (128, [(0, (vR 1 l0)), (1, (vR 6 l1)), (3, (vI l3)), (8, (vI w8)), (9, (vI w9)), (10, (vI w10)), (11, (vI w11)), (12, (vI w12))], [], R, M, 174) (none, R, out)) {v8 : Int} {v9 : Int} {v10 : Int} {v11 : Int} {v12 : Int} {s0 : Int} {s1 : Int} {s2 : Nat} {M : xM} {out : xM} (h : F_clean_J185 R l0 l1 l3 rc v8 v9 v10 v11 v12 s0 s1 s2 M = some out) : XR false 2 174 sc y_F_clean (185, [(0, (vR 1 l0)), (1, (vR 6 l1)), (3, (vI l3)), (8, (vI v8)), (9, (vI v9)), (10, (vI v10)), (11, (vI v11)), (12, (vI v12))], [(vI s0), (vI s1), (vR 1 s2)], R, M, 174) (none, R, out) := by
  unfold F_clean_J185 at h
  refine s_F_clean [(185, .iload 11, 0, 0)] (by decide +kernel) (z' := (187, [(0, (vR 1 l0)), (1, (vR 6 l1)), (3, (vI l3)), (8, (vI v8)), (9, (vI v9)), (10, (vI v10)), (11, (vI v11)), (12, (vI v12))], [(vI v11), (vI s0), (vI s1), (vR 1 s2)], R, M, 174)) (cs := []) (by rfl) trivial (Nat.le_refl _) ?_
  obtain ⟨M_26, e_27, h⟩ := xb1_ex h
  refine XR.callV 1 rfl (rest := []) m_F_hold k_1_148 1 s2 (Or.inl ⟨by decide, rfl⟩) [(vI s1), (vI s0), (vI v11)] rfl rfl (c_F_hold e_27) (by decide) (Nat.le_of_ble_eq_true rfl) (by decide +kernel) (Nat.le_refl _) (Nat.le_refl _) ?_
  show XR false 2 174 sc y_F_clean (190, [(0, (vR 1 l0)), (1, (vR 6 l1)), (3, (vI l3)), (8, (vI v8)), (9, (vI v9)), (10, (vI v10)), (11, (vI v11)), (12, (vI v12))], [], R, M_26, 174) _
  obtain ⟨v12_28, hv12_28, h⟩ := xl_ex h
  refine s_F_clean [(190, .iinc 12 1, 0, 0), (193, .goto (-65), 0, 128)] (by decide +kernel) (z' := (128, [(12, (vI v12_28)), (0, (vR 1 l0)), (1, (vR 6 l1)), (3, (vI l3)), (8, (vI v8)), (9, (vI v9)), (10, (vI v10)), (11, (vI v11))], [], R, M_26, 174)) (cs := []) (by subst hv12_28; rfl) trivial (Nat.le_refl _) ?_
  refine XR.pick [1, 2, 3, 4, 5, 6, 7, 0] (ls' := [(0, (vR 1 l0)), (1, (vR 6 l1)), (3, (vI l3)), (8, (vI v8)), (9, (vI v9)), (10, (vI v10)), (11, (vI v11)), (12, (vI v12_28))]) rfl ?_
  exact hrc v8 v9 v10 v11 v12_28 M_26 _ h
set_option maxRecDepth 100000 in
set_option maxHeartbeats 4000000 in
theorem o_F_clean_J169 {sc : List Int} {R : xR}   {l0 : Nat} {l1 : Nat} {l3 : Int}  {rc : Int → Int → Int → Int → Int → xM → Option xM} (hrc : ∀ (w8 : Int) (w9 : Int) (w10 : Int) (w11 : Int) (w12 : Int) (M : xM) (out : xM), rc w8 w9 w10 w11 w12 M = some out → XR false 2 174 sc y_F_clean (128, [(0, (vR 1 l0)), (1, (vR 6 l1)), (3, (vI l3)), (8, (vI w8)), (9, (vI w9)), (10, (vI w10)), (11, (vI w11)), (12, (vI w12))], [], R, M, 174) (none, R, out)) {v8 : Int} {v9 : Int} {v10 : Int} {v11 : Int} {v12 : Int} {s0 : Int} {M : xM} {out : xM} (h : F_clean_J169 R l0 l1 l3 rc v8 v9 v10 v11 v12 s0 M = some out) : XR false 2 174 sc y_F_clean (169, [(0, (vR 1 l0)), (1, (vR 6 l1)), (3, (vI l3)), (8, (vI v8)), (9, (vI v9)), (10, (vI v10)), (11, (vI v11)), (12, (vI v12))], [(vI s0)], R, M, 174) (none, R, out) := by
  unfold F_clean_J169 at h
  refine s_F_clean [(169, .istore 13, 0, 0), (171, .aload_n 0, 0, 0), (172, .iload 12, 0, 0), (174, .iload 8, 0, 0)] (by decide +kernel) (z' := (176, [(13, (vI s0)), (0, (vR 1 l0)), (1, (vR 6 l1)), (3, (vI l3)), (8, (vI v8)), (9, (vI v9)), (10, (vI v10)), (11, (vI v11)), (12, (vI v12))], [(vI v8), (vI v12), (vR 1 l0)], R, M, 174)) (cs := []) (by rfl) trivial (Nat.le_refl _) ?_
  rcases xif_ex h with ⟨c_25, h⟩ | ⟨c_25, h⟩
  · skip
    refine s_F_clean [(176, .ifCond .eq 7, 0, 183), (183, .iload 13, 0, 0)] (by decide +kernel) (z' := (185, [(13, (vI s0)), (0, (vR 1 l0)), (1, (vR 6 l1)), (3, (vI l3)), (8, (vI v8)), (9, (vI v9)), (10, (vI v10)), (11, (vI v11)), (12, (vI v12))], [(vI s0), (vI v12), (vR 1 l0)], R, M, 174)) (cs := [v8 = 0]) (by rfl) ⟨c_25, trivial⟩ (Nat.le_refl _) ?_
    refine XR.pick [1, 2, 3, 4, 5, 6, 7, 8] (ls' := [(0, (vR 1 l0)), (1, (vR 6 l1)), (3, (vI l3)), (8, (vI v8)), (9, (vI v9)), (10, (vI v10)), (11, (vI v11)), (12, (vI v12))]) rfl ?_
    exact o_F_clean_J185 hrc h
  · skip
    refine s_F_clean [(176, .ifCond .eq 7, 0, (-1)), (179, .iconst 0, 0, 0), (180, .goto 5, 0, 185)] (by decide +kernel) (z' := (185, [(13, (vI s0)), (0, (vR 1 l0)), (1, (vR 6 l1)), (3, (vI l3)), (8, (vI v8)), (9, (vI v9)), (10, (vI v10)), (11, (vI v11)), (12, (vI v12))], [(vI 0), (vI v12), (vR 1 l0)], R, M, 174)) (cs := [¬ (v8 = 0)]) (by rfl) ⟨c_25, trivial⟩ (Nat.le_refl _) ?_
    refine XR.pick [1, 2, 3, 4, 5, 6, 7, 8] (ls' := [(0, (vR 1 l0)), (1, (vR 6 l1)), (3, (vI l3)), (8, (vI v8)), (9, (vI v9)), (10, (vI v10)), (11, (vI v11)), (12, (vI v12))]) rfl ?_
    exact o_F_clean_J185 hrc h
set_option maxRecDepth 100000 in
set_option maxHeartbeats 4000000 in
theorem o_F_clean_F128 {sc : List Int} {R : xR}   {l0 : Nat} {l1 : Nat} {l3 : Int}  : ∀ (n : Nat) (v8 : Int) (v9 : Int) (v10 : Int) (v11 : Int) (v12 : Int) (M : xM) (out : xM), F_clean_F128 R l0 l1 l3  n v8 v9 v10 v11 v12 M = some out → XR false 2 174 sc y_F_clean (128, [(0, (vR 1 l0)), (1, (vR 6 l1)), (3, (vI l3)), (8, (vI v8)), (9, (vI v9)), (10, (vI v10)), (11, (vI v11)), (12, (vI v12))], [], R, M, 174) (none, R, out) := by
  intro n
  induction n with
  | zero => intro v8 v9 v10 v11 v12 M out h; exact (xno h).elim
  | succ n ih =>
    intro v8 v9 v10 v11 v12 M out h
    rw [F_clean_F128] at h
    refine s_F_clean [(128, .iload 12, 0, 0), (130, .iload_n 3, 0, 0), (131, .iconst 1, 0, 1), (132, .iadd, 0, 0), (133, .iconst 4, 0, 4), (134, .imul, 0, 0)] (by decide +kernel) (z' := (135, [(0, (vR 1 l0)), (1, (vR 6 l1)), (3, (vI l3)), (8, (vI v8)), (9, (vI v9)), (10, (vI v10)), (11, (vI v11)), (12, (vI v12))], [(vI (w32 ((w32 (l3 + 1)) * 4))), (vI v12)], R, M, 174)) (cs := []) (by rfl) trivial (Nat.le_refl _) ?_
    rcases xif_ex h with ⟨c_22, h⟩ | ⟨c_22, h⟩
    · skip
      refine s_F_clean [(135, .if_icmp .ge 61, 0, (-1)), (138, .iload 9, 0, 0)] (by decide +kernel) (z' := (140, [(0, (vR 1 l0)), (1, (vR 6 l1)), (3, (vI l3)), (8, (vI v8)), (9, (vI v9)), (10, (vI v10)), (11, (vI v11)), (12, (vI v12))], [(vI v9)], R, M, 174)) (cs := [¬ (w32 ((w32 (l3 + 1)) * 4) ≤ v12)]) (by rfl) ⟨Int.not_le.mpr c_22, trivial⟩ (Nat.le_refl _) ?_
      rcases xif_ex h with ⟨c_23, h⟩ | ⟨c_23, h⟩
      · skip
        obtain ⟨c_24, h⟩ := xch_ex h
        refine s_F_clean [(140, .ifCond .eq 15, 0, 155), (155, .iconst 0, 0, 0), (156, .aload_n 1, 0, 0), (157, .getfield 139, 6, 5), (160, .iload 12, 0, 0), (162, .iaload, 0, 0), (163, .iload 10, 0, 0), (165, .isub, 0, 0)] (by decide +kernel) (z' := (166, [(0, (vR 1 l0)), (1, (vR 6 l1)), (3, (vI l3)), (8, (vI v8)), (9, (vI v9)), (10, (vI v10)), (11, (vI v11)), (12, (vI v12))], [(vI (w32 ((M (R l1 5) (Int.toNat v12)) - v10))), (vI 0)], R, M, 174)) (cs := [v9 = 0, xar 27 0, xidx v12 (xan 27)]) (by rfl) ⟨c_23, xar_27, xix_27 c_24, trivial⟩ (Nat.le_refl _) ?_
        refine XR.mmax 1 rfl (rest := []) k_1_142 k_mmaxS k_mini k_mmaxC (Nat.le_refl _) (by decide) (Nat.le_of_ble_eq_true rfl) (by decide +kernel) ?_
        exact o_F_clean_J169 ih h
      · skip
        obtain ⟨c_29, h⟩ := xch_ex h
        refine s_F_clean [(140, .ifCond .eq 15, 0, (-1)), (143, .aload_n 1, 0, 0), (144, .getfield 139, 6, 5), (147, .iload 12, 0, 0), (149, .iaload, 0, 0), (150, .iconst 2, 0, 2), (151, .idiv, 0, 0), (152, .goto 17, 0, 169)] (by decide +kernel) (z' := (169, [(0, (vR 1 l0)), (1, (vR 6 l1)), (3, (vI l3)), (8, (vI v8)), (9, (vI v9)), (10, (vI v10)), (11, (vI v11)), (12, (vI v12))], [(vI (w32 (Int.tdiv (M (R l1 5) (Int.toNat v12)) 2)))], R, M, 174)) (cs := [¬ (v9 = 0), xar 27 0, xidx v12 (xan 27), (2 : Int) ≠ 0]) (by rfl) ⟨c_23, xar_27, xix_27 c_29, by decide, trivial⟩ (Nat.le_refl _) ?_
        exact o_F_clean_J169 ih h
    · skip
      refine s_F_clean [(135, .if_icmp .ge 61, 0, 196)] (by decide +kernel) (z' := (196, [(0, (vR 1 l0)), (1, (vR 6 l1)), (3, (vI l3)), (8, (vI v8)), (9, (vI v9)), (10, (vI v10)), (11, (vI v11)), (12, (vI v12))], [], R, M, 174)) (cs := [w32 ((w32 (l3 + 1)) * 4) ≤ v12]) (by rfl) ⟨Int.not_lt.mp c_22, trivial⟩ (Nat.le_refl _) ?_
      obtain rfl := Option.some.inj h
      exact XR.retV rfl (by decide +kernel)
set_option maxRecDepth 100000 in
set_option maxHeartbeats 4000000 in
theorem o_F_clean_J104 {sc : List Int} {R : xR}   {l0 : Nat} {l1 : Nat} {l2 : Nat} {l3 : Int} {l4 : Int}  {v8 : Int} {s0 : Int} {M : xM} {out : xM} (h : F_clean_J104 R l0 l1 l2 l3 l4  v8 s0 M = some out) : XR false 2 174 sc y_F_clean (104, [(0, (vR 1 l0)), (1, (vR 6 l1)), (2, (vR 0 l2)), (3, (vI l3)), (4, (vI l4)), (8, (vI v8))], [(vI s0)], R, M, 174) (none, R, out) := by
  unfold F_clean_J104 at h
  refine s_F_clean [(104, .istore 9, 0, 0), (106, .aload_n 0, 0, 0), (107, .aload_n 2, 0, 0), (108, .iload_n 3, 0, 0), (109, .iload 4, 0, 0)] (by decide +kernel) (z' := (111, [(9, (vI s0)), (0, (vR 1 l0)), (1, (vR 6 l1)), (2, (vR 0 l2)), (3, (vI l3)), (4, (vI l4)), (8, (vI v8))], [(vI l4), (vI l3), (vR 0 l2), (vR 1 l0)], R, M, 174)) (cs := []) (by rfl) trivial (Nat.le_refl _) ?_
  obtain ⟨r_17, e_18, h⟩ := xb1_ex h
  refine XR.callV 1 rfl (rest := []) m_F_lessBy k_1_131 1 l0 (Or.inl ⟨by decide, rfl⟩) [(vR 0 l2), (vI l3), (vI l4)] rfl rfl (c_F_lessBy e_18) (by decide) (Nat.le_of_ble_eq_true rfl) (by decide +kernel) (Nat.le_refl _) (Nat.le_refl _) ?_
  show XR false 2 174 sc y_F_clean (114, [(9, (vI s0)), (0, (vR 1 l0)), (1, (vR 6 l1)), (2, (vR 0 l2)), (3, (vI l3)), (4, (vI l4)), (8, (vI v8))], [(vI r_17)], R, M, 174) _
  refine s_F_clean [(114, .istore 10, 0, 0), (116, .aload_n 1, 0, 0), (117, .iload_n 3, 0, 0)] (by decide +kernel) (z' := (118, [(10, (vI r_17)), (9, (vI s0)), (0, (vR 1 l0)), (1, (vR 6 l1)), (2, (vR 0 l2)), (3, (vI l3)), (4, (vI l4)), (8, (vI v8))], [(vI l3), (vR 6 l1)], R, M, 174)) (cs := []) (by rfl) trivial (Nat.le_refl _) ?_
  obtain ⟨r_19, e_20, h⟩ := xb1_ex h
  refine XR.callV 1 rfl (rest := []) m_N_keepsLayer k_1_135 6 l1 (Or.inl ⟨by decide, rfl⟩) [(vI l3)] rfl rfl (c_N_keepsLayer e_20) (by decide) (Nat.le_of_ble_eq_true rfl) (by decide +kernel) (Nat.le_refl _) (Nat.le_refl _) ?_
  show XR false 2 174 sc y_F_clean (121, [(10, (vI r_17)), (9, (vI s0)), (0, (vR 1 l0)), (1, (vR 6 l1)), (2, (vR 0 l2)), (3, (vI l3)), (4, (vI l4)), (8, (vI v8))], [(vI r_19)], R, M, 174) _
  obtain ⟨v12_21, hv12_21, h⟩ := xl_ex h
  refine s_F_clean [(121, .istore 11, 0, 0), (123, .iload_n 3, 0, 0), (124, .iconst 4, 0, 4), (125, .imul, 0, 0), (126, .istore 12, 0, 0)] (by decide +kernel) (z' := (128, [(12, (vI v12_21)), (11, (vI r_19)), (10, (vI r_17)), (9, (vI s0)), (0, (vR 1 l0)), (1, (vR 6 l1)), (2, (vR 0 l2)), (3, (vI l3)), (4, (vI l4)), (8, (vI v8))], [], R, M, 174)) (cs := []) (by subst hv12_21; rfl) trivial (Nat.le_refl _) ?_
  refine XR.pick [4, 5, 7, 9, 3, 2, 1, 0] (ls' := [(0, (vR 1 l0)), (1, (vR 6 l1)), (3, (vI l3)), (8, (vI v8)), (9, (vI s0)), (10, (vI r_17)), (11, (vI r_19)), (12, (vI v12_21))]) rfl ?_
  refine o_F_clean_F128  xfu v8 s0 r_17 r_19 v12_21 M _ h
set_option maxRecDepth 100000 in
set_option maxHeartbeats 4000000 in
theorem o_F_clean_J86 {sc : List Int} {R : xR}   {l0 : Nat} {l1 : Nat} {l2 : Nat} {l3 : Int} {l4 : Int}  {v5 : Int} {v7 : Int} {s0 : Int} {M : xM} {out : xM} (h : F_clean_J86 R l0 l1 l2 l3 l4  v5 v7 s0 M = some out) : XR false 2 174 sc y_F_clean (86, [(0, (vR 1 l0)), (1, (vR 6 l1)), (2, (vR 0 l2)), (3, (vI l3)), (4, (vI l4)), (5, (vI v5)), (7, (vI v7))], [(vI s0)], R, M, 174) (none, R, out) := by
  unfold F_clean_J86 at h
  refine s_F_clean [(86, .istore 8, 0, 0), (88, .iload 5, 0, 0), (90, .iconst 1, 0, 1)] (by decide +kernel) (z' := (91, [(8, (vI s0)), (0, (vR 1 l0)), (1, (vR 6 l1)), (2, (vR 0 l2)), (3, (vI l3)), (4, (vI l4)), (5, (vI v5)), (7, (vI v7))], [(vI 1), (vI v5)], R, M, 174)) (cs := []) (by rfl) trivial (Nat.le_refl _) ?_
  rcases xif_ex h with ⟨c_15, h⟩ | ⟨c_15, h⟩
  · skip
    refine s_F_clean [(91, .if_icmp .ne 12, 0, (-1)), (94, .iload 7, 0, 0)] (by decide +kernel) (z' := (96, [(8, (vI s0)), (0, (vR 1 l0)), (1, (vR 6 l1)), (2, (vR 0 l2)), (3, (vI l3)), (4, (vI l4)), (5, (vI v5)), (7, (vI v7))], [(vI v7)], R, M, 174)) (cs := [¬ (v5 ≠ 1)]) (by rfl) ⟨fun q => q c_15, trivial⟩ (Nat.le_refl _) ?_
    rcases xif_ex h with ⟨c_16, h⟩ | ⟨c_16, h⟩
    · skip
      refine s_F_clean [(96, .ifCond .eq 7, 0, 103), (103, .iconst 0, 0, 0)] (by decide +kernel) (z' := (104, [(8, (vI s0)), (0, (vR 1 l0)), (1, (vR 6 l1)), (2, (vR 0 l2)), (3, (vI l3)), (4, (vI l4)), (5, (vI v5)), (7, (vI v7))], [(vI 0)], R, M, 174)) (cs := [v7 = 0]) (by rfl) ⟨c_16, trivial⟩ (Nat.le_refl _) ?_
      refine XR.pick [1, 2, 3, 4, 5, 0] (ls' := [(0, (vR 1 l0)), (1, (vR 6 l1)), (2, (vR 0 l2)), (3, (vI l3)), (4, (vI l4)), (8, (vI s0))]) rfl ?_
      exact o_F_clean_J104  h
    · skip
      refine s_F_clean [(96, .ifCond .eq 7, 0, (-1)), (99, .iconst 1, 0, 1), (100, .goto 4, 0, 104)] (by decide +kernel) (z' := (104, [(8, (vI s0)), (0, (vR 1 l0)), (1, (vR 6 l1)), (2, (vR 0 l2)), (3, (vI l3)), (4, (vI l4)), (5, (vI v5)), (7, (vI v7))], [(vI 1)], R, M, 174)) (cs := [¬ (v7 = 0)]) (by rfl) ⟨c_16, trivial⟩ (Nat.le_refl _) ?_
      refine XR.pick [1, 2, 3, 4, 5, 0] (ls' := [(0, (vR 1 l0)), (1, (vR 6 l1)), (2, (vR 0 l2)), (3, (vI l3)), (4, (vI l4)), (8, (vI s0))]) rfl ?_
      exact o_F_clean_J104  h
  · skip
    refine s_F_clean [(91, .if_icmp .ne 12, 0, 103), (103, .iconst 0, 0, 0)] (by decide +kernel) (z' := (104, [(8, (vI s0)), (0, (vR 1 l0)), (1, (vR 6 l1)), (2, (vR 0 l2)), (3, (vI l3)), (4, (vI l4)), (5, (vI v5)), (7, (vI v7))], [(vI 0)], R, M, 174)) (cs := [v5 ≠ 1]) (by rfl) ⟨c_15, trivial⟩ (Nat.le_refl _) ?_
    refine XR.pick [1, 2, 3, 4, 5, 0] (ls' := [(0, (vR 1 l0)), (1, (vR 6 l1)), (2, (vR 0 l2)), (3, (vI l3)), (4, (vI l4)), (8, (vI s0))]) rfl ?_
    exact o_F_clean_J104  h
set_option maxRecDepth 100000 in
set_option maxHeartbeats 4000000 in
theorem o_F_clean_J59 {sc : List Int} {R : xR}   {l0 : Nat} {l1 : Nat} {l2 : Nat} {l3 : Int} {l4 : Int}  {v5 : Int} {v7 : Int} {M : xM} {out : xM} (h : F_clean_J59 R l0 l1 l2 l3 l4  v5 v7 M = some out) : XR false 2 174 sc y_F_clean (59, [(0, (vR 1 l0)), (1, (vR 6 l1)), (2, (vR 0 l2)), (3, (vI l3)), (4, (vI l4)), (5, (vI v5)), (7, (vI v7))], [], R, M, 174) (none, R, out) := by
  unfold F_clean_J59 at h
  refine s_F_clean [(59, .iload 5, 0, 0), (61, .iconst 3, 0, 3)] (by decide +kernel) (z' := (62, [(0, (vR 1 l0)), (1, (vR 6 l1)), (2, (vR 0 l2)), (3, (vI l3)), (4, (vI l4)), (5, (vI v5)), (7, (vI v7))], [(vI 3), (vI v5)], R, M, 174)) (cs := []) (by rfl) trivial (Nat.le_refl _) ?_
  rcases xif_ex h with ⟨c_11, h⟩ | ⟨c_11, h⟩
  · skip
    obtain ⟨c_12, h⟩ := xch_ex h
    obtain ⟨c_13, h⟩ := xch_ex h
    refine s_F_clean [(62, .if_icmp .ne 23, 0, (-1)), (65, .aload_n 2, 0, 0), (66, .getfield 128, 0, 12), (69, .iload 4, 0, 0), (71, .iaload, 0, 0), (72, .aload_n 1, 0, 0), (73, .getfield 122, 6, 6), (76, .iload_n 3, 0, 0), (77, .iaload, 0, 0)] (by decide +kernel) (z' := (78, [(0, (vR 1 l0)), (1, (vR 6 l1)), (2, (vR 0 l2)), (3, (vI l3)), (4, (vI l4)), (5, (vI v5)), (7, (vI v7))], [(vI (M (R l1 6) (Int.toNat l3))), (vI (M (R l2 12) (Int.toNat l4)))], R, M, 174)) (cs := [¬ (v5 ≠ 3), xar 22 0, xidx l4 (xan 22), xar 30 0, xidx l3 (xan 30)]) (by rfl) ⟨fun q => q c_11, xar_22, xix_22 c_12, xar_30, xix_30 c_13, trivial⟩ (Nat.le_refl _) ?_
    rcases xif_ex h with ⟨c_14, h⟩ | ⟨c_14, h⟩
    · skip
      refine s_F_clean [(78, .if_icmp .lt 7, 0, 85), (85, .iconst 0, 0, 0)] (by decide +kernel) (z' := (86, [(0, (vR 1 l0)), (1, (vR 6 l1)), (2, (vR 0 l2)), (3, (vI l3)), (4, (vI l4)), (5, (vI v5)), (7, (vI v7))], [(vI 0)], R, M, 174)) (cs := [M (R l2 12) (Int.toNat l4) < M (R l1 6) (Int.toNat l3)]) (by rfl) ⟨c_14, trivial⟩ (Nat.le_refl _) ?_
      exact o_F_clean_J86  h
    · skip
      refine s_F_clean [(78, .if_icmp .lt 7, 0, (-1)), (81, .iconst 1, 0, 1), (82, .goto 4, 0, 86)] (by decide +kernel) (z' := (86, [(0, (vR 1 l0)), (1, (vR 6 l1)), (2, (vR 0 l2)), (3, (vI l3)), (4, (vI l4)), (5, (vI v5)), (7, (vI v7))], [(vI 1)], R, M, 174)) (cs := [¬ (M (R l2 12) (Int.toNat l4) < M (R l1 6) (Int.toNat l3))]) (by rfl) ⟨c_14, trivial⟩ (Nat.le_refl _) ?_
      exact o_F_clean_J86  h
  · skip
    refine s_F_clean [(62, .if_icmp .ne 23, 0, 85), (85, .iconst 0, 0, 0)] (by decide +kernel) (z' := (86, [(0, (vR 1 l0)), (1, (vR 6 l1)), (2, (vR 0 l2)), (3, (vI l3)), (4, (vI l4)), (5, (vI v5)), (7, (vI v7))], [(vI 0)], R, M, 174)) (cs := [v5 ≠ 3]) (by rfl) ⟨c_11, trivial⟩ (Nat.le_refl _) ?_
    exact o_F_clean_J86  h
set_option maxRecDepth 100000 in
set_option maxHeartbeats 4000000 in
theorem o_F_clean_J36 {sc : List Int} {R : xR}   {l0 : Nat} {l1 : Nat} {l2 : Nat} {l3 : Int} {l4 : Int}  {v5 : Int} {s0 : Int} {M : xM} {out : xM} (h : F_clean_J36 R l0 l1 l2 l3 l4  v5 s0 M = some out) : XR false 2 174 sc y_F_clean (36, [(0, (vR 1 l0)), (1, (vR 6 l1)), (2, (vR 0 l2)), (3, (vI l3)), (4, (vI l4)), (5, (vI v5))], [(vI s0)], R, M, 174) (none, R, out) := by
  unfold F_clean_J36 at h
  refine s_F_clean [(36, .istore 7, 0, 0), (38, .aload_n 2, 0, 0), (39, .iload_n 3, 0, 0), (40, .iload 4, 0, 0)] (by decide +kernel) (z' := (42, [(7, (vI s0)), (0, (vR 1 l0)), (1, (vR 6 l1)), (2, (vR 0 l2)), (3, (vI l3)), (4, (vI l4)), (5, (vI v5))], [(vI l4), (vI l3), (vR 0 l2)], R, M, 174)) (cs := []) (by rfl) trivial (Nat.le_refl _) ?_
  obtain ⟨r_6, e_7, h⟩ := xb1_ex h
  refine XR.callV 1 rfl (rest := []) m_B_isOff k_1_125 0 l2 (Or.inl ⟨by decide, rfl⟩) [(vI l3), (vI l4)] rfl rfl (c_B_isOff e_7) (by decide) (Nat.le_of_ble_eq_true rfl) (by decide +kernel) (Nat.le_refl _) (Nat.le_refl _) ?_
  show XR false 2 174 sc y_F_clean (45, [(7, (vI s0)), (0, (vR 1 l0)), (1, (vR 6 l1)), (2, (vR 0 l2)), (3, (vI l3)), (4, (vI l4)), (5, (vI v5))], [(vI r_6)], R, M, 174) _
  rcases xif_ex h with ⟨c_8, h⟩ | ⟨c_8, h⟩
  · skip
    refine s_F_clean [(45, .ifCond .ne 36, 0, (-1)), (48, .iload 5, 0, 0), (50, .iconst 2, 0, 2)] (by decide +kernel) (z' := (51, [(7, (vI s0)), (0, (vR 1 l0)), (1, (vR 6 l1)), (2, (vR 0 l2)), (3, (vI l3)), (4, (vI l4)), (5, (vI v5))], [(vI 2), (vI v5)], R, M, 174)) (cs := [¬ (r_6 ≠ 0)]) (by rfl) ⟨fun q => q c_8, trivial⟩ (Nat.le_refl _) ?_
    rcases xif_ex h with ⟨c_9, h⟩ | ⟨c_9, h⟩
    · skip
      refine s_F_clean [(51, .if_icmp .ne 8, 0, (-1)), (54, .iload 7, 0, 0)] (by decide +kernel) (z' := (56, [(7, (vI s0)), (0, (vR 1 l0)), (1, (vR 6 l1)), (2, (vR 0 l2)), (3, (vI l3)), (4, (vI l4)), (5, (vI v5))], [(vI s0)], R, M, 174)) (cs := [¬ (v5 ≠ 2)]) (by rfl) ⟨fun q => q c_9, trivial⟩ (Nat.le_refl _) ?_
      rcases xif_ex h with ⟨c_10, h⟩ | ⟨c_10, h⟩
      · skip
        refine s_F_clean [(56, .ifCond .ne 25, 0, (-1))] (by decide +kernel) (z' := (59, [(7, (vI s0)), (0, (vR 1 l0)), (1, (vR 6 l1)), (2, (vR 0 l2)), (3, (vI l3)), (4, (vI l4)), (5, (vI v5))], [], R, M, 174)) (cs := [¬ (s0 ≠ 0)]) (by rfl) ⟨fun q => q c_10, trivial⟩ (Nat.le_refl _) ?_
        refine XR.pick [1, 2, 3, 4, 5, 6, 0] (ls' := [(0, (vR 1 l0)), (1, (vR 6 l1)), (2, (vR 0 l2)), (3, (vI l3)), (4, (vI l4)), (5, (vI v5)), (7, (vI s0))]) rfl ?_
        exact o_F_clean_J59  h
      · skip
        refine s_F_clean [(56, .ifCond .ne 25, 0, 81), (81, .iconst 1, 0, 1), (82, .goto 4, 0, 86)] (by decide +kernel) (z' := (86, [(7, (vI s0)), (0, (vR 1 l0)), (1, (vR 6 l1)), (2, (vR 0 l2)), (3, (vI l3)), (4, (vI l4)), (5, (vI v5))], [(vI 1)], R, M, 174)) (cs := [s0 ≠ 0]) (by rfl) ⟨c_10, trivial⟩ (Nat.le_refl _) ?_
        refine XR.pick [1, 2, 3, 4, 5, 6, 0] (ls' := [(0, (vR 1 l0)), (1, (vR 6 l1)), (2, (vR 0 l2)), (3, (vI l3)), (4, (vI l4)), (5, (vI v5)), (7, (vI s0))]) rfl ?_
        exact o_F_clean_J86  h
    · skip
      refine s_F_clean [(51, .if_icmp .ne 8, 0, 59)] (by decide +kernel) (z' := (59, [(7, (vI s0)), (0, (vR 1 l0)), (1, (vR 6 l1)), (2, (vR 0 l2)), (3, (vI l3)), (4, (vI l4)), (5, (vI v5))], [], R, M, 174)) (cs := [v5 ≠ 2]) (by rfl) ⟨c_9, trivial⟩ (Nat.le_refl _) ?_
      refine XR.pick [1, 2, 3, 4, 5, 6, 0] (ls' := [(0, (vR 1 l0)), (1, (vR 6 l1)), (2, (vR 0 l2)), (3, (vI l3)), (4, (vI l4)), (5, (vI v5)), (7, (vI s0))]) rfl ?_
      exact o_F_clean_J59  h
  · skip
    refine s_F_clean [(45, .ifCond .ne 36, 0, 81), (81, .iconst 1, 0, 1), (82, .goto 4, 0, 86)] (by decide +kernel) (z' := (86, [(7, (vI s0)), (0, (vR 1 l0)), (1, (vR 6 l1)), (2, (vR 0 l2)), (3, (vI l3)), (4, (vI l4)), (5, (vI v5))], [(vI 1)], R, M, 174)) (cs := [r_6 ≠ 0]) (by rfl) ⟨c_8, trivial⟩ (Nat.le_refl _) ?_
    refine XR.pick [1, 2, 3, 4, 5, 6, 0] (ls' := [(0, (vR 1 l0)), (1, (vR 6 l1)), (2, (vR 0 l2)), (3, (vI l3)), (4, (vI l4)), (5, (vI v5)), (7, (vI s0))]) rfl ?_
    exact o_F_clean_J86  h
set_option maxRecDepth 100000 in
set_option maxHeartbeats 4000000 in
theorem o_F_clean {sc : List Int} {R : xR} {M : xM} {l0 : Nat} {l1 : Nat} {l2 : Nat} {l3 : Int} {l4 : Int} {out : xM} (h : f_F_clean R l0 l1 l2 l3 l4 M = some out) : XR false 2 174 sc y_F_clean (0, [(0, (vR 1 l0)), (1, (vR 6 l1)), (2, (vR 0 l2)), (3, (vI l3)), (4, (vI l4))], [], R, M, 174) (none, R, out) := by
  unfold f_F_clean at h
  obtain ⟨c_1, h⟩ := xch_ex h
  obtain ⟨v5_2, hv5_2, h⟩ := xl_ex h
  refine s_F_clean [(0, .aload_n 1, 0, 0), (1, .getfield 115, 6, 4), (4, .iload_n 3, 0, 0), (5, .iaload, 0, 0), (6, .istore 5, 0, 0), (8, .aload_n 0, 0, 0), (9, .getfield 28, 1, 5), (12, .iload_n 3, 0, 0), (13, .iconst 4, 0, 4), (14, .imul, 0, 0)] (by decide +kernel) (z' := (15, [(5, (vI v5_2)), (0, (vR 1 l0)), (1, (vR 6 l1)), (2, (vR 0 l2)), (3, (vI l3)), (4, (vI l4))], [(vI (w32 (l3 * 4))), (vR 27 (R l0 5))], R, M, 174)) (cs := [xar 30 0, xidx l3 (xan 30)]) (by subst hv5_2; rfl) ⟨xar_30, xix_30 c_1, trivial⟩ (Nat.le_refl _) ?_
  obtain ⟨r_3, e_4, h⟩ := xb1_ex h
  refine XR.callS 1 rfl (rest := []) m_F_sumOf k_1_118 [(vR 27 (R l0 5)), (vI (w32 (l3 * 4)))] rfl rfl (c_F_sumOf (xar_27) e_4) (by decide) (Nat.le_of_ble_eq_true rfl) (by decide +kernel) (Nat.le_refl _) (Nat.le_refl _) ?_
  show XR false 2 174 sc y_F_clean (18, [(5, (vI v5_2)), (0, (vR 1 l0)), (1, (vR 6 l1)), (2, (vR 0 l2)), (3, (vI l3)), (4, (vI l4))], [(vI r_3)], R, M, 174) _
  refine s_F_clean [(18, .istore 6, 0, 0), (20, .iload 6, 0, 0), (22, .aload_n 1, 0, 0), (23, .getfield 122, 6, 6), (26, .iload_n 3, 0, 0), (27, .iaload, 0, 0)] (by decide +kernel) (z' := (28, [(6, (vI r_3)), (5, (vI v5_2)), (0, (vR 1 l0)), (1, (vR 6 l1)), (2, (vR 0 l2)), (3, (vI l3)), (4, (vI l4))], [(vI (M (R l1 6) (Int.toNat l3))), (vI r_3)], R, M, 174)) (cs := [xar 30 0, xidx l3 (xan 30)]) (by rfl) ⟨xar_30, xix_30 c_1, trivial⟩ (Nat.le_refl _) ?_
  rcases xif_ex h with ⟨c_5, h⟩ | ⟨c_5, h⟩
  · skip
    refine s_F_clean [(28, .if_icmp .lt 7, 0, 35), (35, .iconst 0, 0, 0)] (by decide +kernel) (z' := (36, [(6, (vI r_3)), (5, (vI v5_2)), (0, (vR 1 l0)), (1, (vR 6 l1)), (2, (vR 0 l2)), (3, (vI l3)), (4, (vI l4))], [(vI 0)], R, M, 174)) (cs := [r_3 < M (R l1 6) (Int.toNat l3)]) (by rfl) ⟨c_5, trivial⟩ (Nat.le_refl _) ?_
    refine XR.pick [2, 3, 4, 5, 6, 1] (ls' := [(0, (vR 1 l0)), (1, (vR 6 l1)), (2, (vR 0 l2)), (3, (vI l3)), (4, (vI l4)), (5, (vI v5_2))]) rfl ?_
    exact o_F_clean_J36  h
  · skip
    refine s_F_clean [(28, .if_icmp .lt 7, 0, (-1)), (31, .iconst 1, 0, 1), (32, .goto 4, 0, 36)] (by decide +kernel) (z' := (36, [(6, (vI r_3)), (5, (vI v5_2)), (0, (vR 1 l0)), (1, (vR 6 l1)), (2, (vR 0 l2)), (3, (vI l3)), (4, (vI l4))], [(vI 1)], R, M, 174)) (cs := [¬ (r_3 < M (R l1 6) (Int.toNat l3))]) (by rfl) ⟨c_5, trivial⟩ (Nat.le_refl _) ?_
    refine XR.pick [2, 3, 4, 5, 6, 1] (ls' := [(0, (vR 1 l0)), (1, (vR 6 l1)), (2, (vR 0 l2)), (3, (vI l3)), (4, (vI l4)), (5, (vI v5_2))]) rfl ?_
    exact o_F_clean_J36  h
set_option maxRecDepth 100000 in
set_option maxHeartbeats 4000000 in
theorem c_F_clean {sc : List Int} {R : xR} {M : xM} {l0 : Nat} {l1 : Nat} {l2 : Nat} {l3 : Int} {l4 : Int} {out : xM} (h : f_F_clean R l0 l1 l2 l3 l4 M = some out) : XC false 2 sc y_F_clean [(vR 1 l0), (vR 6 l1), (vR 0 l2), (vI l3), (vI l4)] R M 174 174 (none, R, out) := XC.of (by decide) (Nat.le_of_ble_eq_true rfl) (Nat.le_refl _) (Nat.le_refl _) (o_F_clean h)
def f_F_goOnFrom (R : xR) (l0 : Nat) (l1 : Nat) (M : xM) : Option xM :=
  xl (xu M l0 0 (M l1 0)) fun M_1 =>
  xch ((0 : Int) ≤ 0 ∧ (0 : Int) ≤ 0 ∧ (0 : Int) ≤ 32 ∧ (0 : Int) + 32 ≤ 32 ∧ (0 : Int) + 32 ≤ 32) <|
  xl (xcpy M_1 (R l1 5) (R l0 5) (Int.toNat 0) (Int.toNat 0) (Int.toNat 32)) fun M_3 =>
  xl (xcpy M_3 (R l1 7) (R l0 7) (Int.toNat 0) (Int.toNat 0) (Int.toNat 32)) fun M_4 =>
  some (M_4)
set_option maxRecDepth 100000 in
set_option maxHeartbeats 4000000 in
theorem s_F_goOnFrom {d : Nat} {sc : List Int} {z z' : xS} {out : xO} (qs : List xI) {cs : List Prop} (hq : qs.all (xqb 1 false y_F_goOnFrom.2.2.1 y_F_goOnFrom.2.1) = true) (h : xN false sc qs z = some (z', cs)) (hc : xAll cs) (hE : z'.2.2.2.2.2 ≤ 174) (k : XR false d 174 sc y_F_goOnFrom z' out) : XR false d 174 sc y_F_goOnFrom z out := XR.seg 1 false rfl (fun q => by cases q) qs hq h hc hE k
set_option maxRecDepth 100000 in
set_option maxHeartbeats 4000000 in
theorem o_F_goOnFrom {sc : List Int} {R : xR} {M : xM} {l0 : Nat} {l1 : Nat} {out : xM} (h : f_F_goOnFrom R l0 l1 M = some out) : XR false 1 174 sc y_F_goOnFrom (0, [(0, (vR 1 l0)), (1, (vR 1 l1))], [], R, M, 174) (none, R, out) := by
  unfold f_F_goOnFrom at h
  obtain ⟨M_1, hM_1, h⟩ := xl_ex h
  obtain ⟨c_2, h⟩ := xch_ex h
  refine s_F_goOnFrom [(0, .aload_n 0, 0, 0), (1, .aload_n 1, 0, 0), (2, .getfield 9, 1, 0), (5, .putfield 9, 1, 0), (8, .aload_n 1, 0, 0), (9, .getfield 28, 1, 5), (12, .iconst 0, 0, 0), (13, .aload_n 0, 0, 0), (14, .getfield 28, 1, 5), (17, .iconst 0, 0, 0), (18, .aload_n 0, 0, 0), (19, .getfield 28, 1, 5), (22, .arraylength, 0, 0)] (by decide +kernel) (z' := (23, [(0, (vR 1 l0)), (1, (vR 1 l1))], [(vI 32), (vI 0), (vR 27 (R l0 5)), (vI 0), (vR 27 (R l1 5))], R, M_1, 174)) (cs := [20 ≤ 27 ∧ 27 < 90 ∧ xae 27 < 4]) (by subst hM_1; rfl) ⟨by decide, trivial⟩ (Nat.le_refl _) ?_
  obtain ⟨M_3, hM_3, h⟩ := xl_ex h
  refine XR.copyI 1 rfl k_1_60 k_acN k_acS k_acI xar_27 xar_27 c_2.1 c_2.2.1 c_2.2.2.1 c_2.2.2.2.1 c_2.2.2.2.2 rfl (by decide) (Nat.le_of_ble_eq_true rfl) (by decide +kernel) ?_
  rw [← hM_3]
  refine s_F_goOnFrom [(26, .aload_n 1, 0, 0), (27, .getfield 34, 1, 7), (30, .iconst 0, 0, 0), (31, .aload_n 0, 0, 0), (32, .getfield 34, 1, 7), (35, .iconst 0, 0, 0), (36, .aload_n 0, 0, 0), (37, .getfield 34, 1, 7), (40, .arraylength, 0, 0)] (by decide +kernel) (z' := (41, [(0, (vR 1 l0)), (1, (vR 1 l1))], [(vI 32), (vI 0), (vR 27 (R l0 7)), (vI 0), (vR 27 (R l1 7))], R, M_3, 174)) (cs := [20 ≤ 27 ∧ 27 < 90 ∧ xae 27 < 4]) (by rfl) ⟨by decide, trivial⟩ (Nat.le_refl _) ?_
  obtain ⟨M_4, hM_4, h⟩ := xl_ex h
  refine XR.copyI 1 rfl k_1_60 k_acN k_acS k_acI xar_27 xar_27 c_2.1 c_2.2.1 c_2.2.2.1 c_2.2.2.2.1 c_2.2.2.2.2 rfl (by decide) (Nat.le_of_ble_eq_true rfl) (by decide +kernel) ?_
  rw [← hM_4]
  obtain rfl := Option.some.inj h
  exact XR.retV rfl (by decide +kernel)
set_option maxRecDepth 100000 in
set_option maxHeartbeats 4000000 in
theorem c_F_goOnFrom {sc : List Int} {R : xR} {M : xM} {l0 : Nat} {l1 : Nat} {out : xM} (h : f_F_goOnFrom R l0 l1 M = some out) : XC false 1 sc y_F_goOnFrom [(vR 1 l0), (vR 1 l1)] R M 174 174 (none, R, out) := XC.of (by decide) (Nat.le_of_ble_eq_true rfl) (Nat.le_refl _) (Nat.le_refl _) (o_F_goOnFrom h)
def f_F_isKnocked (R : xR) (l0 : Nat) (l1 : Nat) (l2 : Int) (l3 : Int) (M : xM) : Option Int :=
  xb1 (f_B_isKnocked R l1 l2 l3 M) fun r_1 =>
  if r_1 = 0 then
    if l2 = M l0 9 then
      if yand (yushr (M l0 10) l3) 1 = 0 then
        some (0)
      else
        some (1)
    else
      some (0)
  else
    some (1)
set_option maxRecDepth 100000 in
set_option maxHeartbeats 4000000 in
theorem s_F_isKnocked {d : Nat} {sc : List Int} {z z' : xS} {out : xO} (qs : List xI) {cs : List Prop} (hq : qs.all (xqb 1 false y_F_isKnocked.2.2.1 y_F_isKnocked.2.1) = true) (h : xN false sc qs z = some (z', cs)) (hc : xAll cs) (hE : z'.2.2.2.2.2 ≤ 174) (k : XR false d 174 sc y_F_isKnocked z' out) : XR false d 174 sc y_F_isKnocked z out := XR.seg 1 false rfl (fun q => by cases q) qs hq h hc hE k
set_option maxRecDepth 100000 in
set_option maxHeartbeats 4000000 in
theorem o_F_isKnocked {sc : List Int} {R : xR} {M : xM} {l0 : Nat} {l1 : Nat} {l2 : Int} {l3 : Int} {out : Int} (h : f_F_isKnocked R l0 l1 l2 l3 M = some out) : XR false 1 174 sc y_F_isKnocked (0, [(0, (vR 1 l0)), (1, (vR 0 l1)), (2, (vI l2)), (3, (vI l3))], [], R, M, 174) ((some (vI out)), R, M) := by
  unfold f_F_isKnocked at h
  refine s_F_isKnocked [(0, .aload_n 1, 0, 0), (1, .iload_n 2, 0, 0), (2, .iload_n 3, 0, 0)] (by decide +kernel) (z' := (3, [(0, (vR 1 l0)), (1, (vR 0 l1)), (2, (vI l2)), (3, (vI l3))], [(vI l3), (vI l2), (vR 0 l1)], R, M, 174)) (cs := []) (by rfl) trivial (Nat.le_refl _) ?_
  obtain ⟨r_1, e_2, h⟩ := xb1_ex h
  refine XR.callV 1 rfl (rest := []) m_B_isKnocked k_1_109 0 l1 (Or.inl ⟨by decide, rfl⟩) [(vI l2), (vI l3)] rfl rfl (c_B_isKnocked e_2) (by decide) (Nat.le_of_ble_eq_true rfl) (by decide +kernel) (Nat.le_refl _) (Nat.le_refl _) ?_
  show XR false 1 174 sc y_F_isKnocked (6, [(0, (vR 1 l0)), (1, (vR 0 l1)), (2, (vI l2)), (3, (vI l3))], [(vI r_1)], R, M, 174) _
  rcases xif_ex h with ⟨c_3, h⟩ | ⟨c_3, h⟩
  · skip
    refine s_F_isKnocked [(6, .ifCond .ne 24, 0, (-1)), (9, .iload_n 2, 0, 0), (10, .aload_n 0, 0, 0), (11, .getfield 44, 1, 9)] (by decide +kernel) (z' := (14, [(0, (vR 1 l0)), (1, (vR 0 l1)), (2, (vI l2)), (3, (vI l3))], [(vI (M l0 9)), (vI l2)], R, M, 174)) (cs := [¬ (r_1 ≠ 0)]) (by rfl) ⟨fun q => q c_3, trivial⟩ (Nat.le_refl _) ?_
    rcases xif_ex h with ⟨c_4, h⟩ | ⟨c_4, h⟩
    · skip
      refine s_F_isKnocked [(14, .if_icmp .ne 20, 0, (-1)), (17, .aload_n 0, 0, 0), (18, .getfield 47, 1, 10), (21, .iload_n 3, 0, 0), (22, .lushr, 0, 0), (23, .lconst 1, 0, 1), (24, .land, 0, 0), (25, .lconst 0, 0, 0), (26, .lcmp, 0, 0)] (by decide +kernel) (z' := (27, [(0, (vR 1 l0)), (1, (vR 0 l1)), (2, (vI l2)), (3, (vI l3))], [(vI (xcmp (yand (yushr (M l0 10) l3) 1) 0))], R, M, 174)) (cs := [¬ (l2 ≠ M l0 9)]) (by rfl) ⟨fun q => q c_4, trivial⟩ (Nat.le_refl _) ?_
      rcases xif_ex h with ⟨c_5, h⟩ | ⟨c_5, h⟩
      · skip
        refine s_F_isKnocked [(27, .ifCond .eq 7, 0, 34), (34, .iconst 0, 0, 0)] (by decide +kernel) (z' := (35, [(0, (vR 1 l0)), (1, (vR 0 l1)), (2, (vI l2)), (3, (vI l3))], [(vI 0)], R, M, 174)) (cs := [xcmp (yand (yushr (M l0 10) l3) 1) 0 = 0]) (by rfl) ⟨xcmp_eq.mpr c_5, trivial⟩ (Nat.le_refl _) ?_
        obtain rfl := Option.some.inj h
        exact XR.retI .boolean rfl (xnar_z (by decide)) (by decide +kernel)
      · skip
        refine s_F_isKnocked [(27, .ifCond .eq 7, 0, (-1)), (30, .iconst 1, 0, 1), (31, .goto 4, 0, 35)] (by decide +kernel) (z' := (35, [(0, (vR 1 l0)), (1, (vR 0 l1)), (2, (vI l2)), (3, (vI l3))], [(vI 1)], R, M, 174)) (cs := [¬ (xcmp (yand (yushr (M l0 10) l3) 1) 0 = 0)]) (by rfl) ⟨fun q => c_5 (xcmp_eq.mp q), trivial⟩ (Nat.le_refl _) ?_
        obtain rfl := Option.some.inj h
        exact XR.retI .boolean rfl (xnar_z (by decide)) (by decide +kernel)
    · skip
      refine s_F_isKnocked [(14, .if_icmp .ne 20, 0, 34), (34, .iconst 0, 0, 0)] (by decide +kernel) (z' := (35, [(0, (vR 1 l0)), (1, (vR 0 l1)), (2, (vI l2)), (3, (vI l3))], [(vI 0)], R, M, 174)) (cs := [l2 ≠ M l0 9]) (by rfl) ⟨c_4, trivial⟩ (Nat.le_refl _) ?_
      obtain rfl := Option.some.inj h
      exact XR.retI .boolean rfl (xnar_z (by decide)) (by decide +kernel)
  · skip
    refine s_F_isKnocked [(6, .ifCond .ne 24, 0, 30), (30, .iconst 1, 0, 1), (31, .goto 4, 0, 35)] (by decide +kernel) (z' := (35, [(0, (vR 1 l0)), (1, (vR 0 l1)), (2, (vI l2)), (3, (vI l3))], [(vI 1)], R, M, 174)) (cs := [r_1 ≠ 0]) (by rfl) ⟨c_3, trivial⟩ (Nat.le_refl _) ?_
    obtain rfl := Option.some.inj h
    exact XR.retI .boolean rfl (xnar_z (by decide)) (by decide +kernel)
set_option maxRecDepth 100000 in
set_option maxHeartbeats 4000000 in
theorem c_F_isKnocked {sc : List Int} {R : xR} {M : xM} {l0 : Nat} {l1 : Nat} {l2 : Int} {l3 : Int} {out : Int} (h : f_F_isKnocked R l0 l1 l2 l3 M = some out) : XC false 1 sc y_F_isKnocked [(vR 1 l0), (vR 0 l1), (vI l2), (vI l3)] R M 174 174 ((some (vI out)), R, M) := XC.of (by decide) (Nat.le_of_ble_eq_true rfl) (Nat.le_refl _) (Nat.le_refl _) (o_F_isKnocked h)
def F_pass_F55 (R : xR) (l0 : Nat) (l1 : Nat) (l3 : Int) (l4 : Int) (q89 : Int → Int → Int → xM → Option xM) : Nat → Int → Int → Int → Int → xM → Option xM
  | 0, _, _, _, _, _ => none
  | n + 1, v6, v7, v8, v9, M =>
    if v9 < v8 then
      xch (0 ≤ w32 (v7 + v9) ∧ w32 (v7 + v9) < 64) <|
      xch (0 ≤ v9 ∧ v9 < 8) <|
      xl (xu M (R (R l0 8) 0) (Int.toNat v9) (M (R l1 11) (Int.toNat (w32 (v7 + v9))))) fun M_11 =>
      xl (w32 (v9 + 1)) fun v9_12 =>
      F_pass_F55 R l0 l1 l3 l4 q89 n v6 v7 v8 v9_12 M_11
    else
      q89 v6 v7 v8 M
def F_pass_J183 (R : xR) (l0 : Nat) (l1 : Nat) (l3 : Int) (l4 : Int) (rc : Int → Int → Int → xM → Option xM) (v7 : Int) (v8 : Int) (v9 : Int) (M : xM) : Option xM :=
  xl (w32 (v9 + 1)) fun v9_26 =>
  rc v7 v8 v9_26 M
def F_pass_F107 (R : xR) (l0 : Nat) (l1 : Nat) (l3 : Int) (l4 : Int) : Nat → Int → Int → Int → xM → Option xM
  | 0, _, _, _, _ => none
  | n + 1, v7, v8, v9, M =>
    if v9 < v8 then
      xch (0 ≤ w32 (v7 + v9) ∧ w32 (v7 + v9) < 64) <|
      xl (M (R l1 10) (Int.toNat (w32 (v7 + v9)))) fun v10_21 =>
      if v10_21 = -1 then
        xch (0 ≤ w32 ((w32 (l4 * 4)) + l3) ∧ w32 ((w32 (l4 * 4)) + l3) < 192) <|
        xch (0 ≤ v9 ∧ v9 < 8) <|
        xl (xu M (R l0 1) (Int.toNat (w32 ((w32 (l4 * 4)) + l3))) (w32 ((M (R l0 1) (Int.toNat (w32 ((w32 (l4 * 4)) + l3)))) + (M (R (R l0 8) 1) (Int.toNat v9))))) fun M_25 =>
        F_pass_J183 R l0 l1 l3 l4 (F_pass_F107 R l0 l1 l3 l4  n) v7 v8 v9 M_25
      else
        xch (0 ≤ w32 ((w32 (v10_21 * 4)) + l3) ∧ w32 ((w32 (v10_21 * 4)) + l3) < 32) <|
        xch (0 ≤ v9 ∧ v9 < 8) <|
        xl (xu M (R l0 2) (Int.toNat (w32 ((w32 (v10_21 * 4)) + l3))) (w32 ((M (R l0 2) (Int.toNat (w32 ((w32 (v10_21 * 4)) + l3)))) + (M (R (R l0 8) 1) (Int.toNat v9))))) fun M_29 =>
        F_pass_J183 R l0 l1 l3 l4 (F_pass_F107 R l0 l1 l3 l4  n) v7 v8 v9 M_29
    else
      some (M)
def f_F_pass (R : xR) (l0 : Nat) (l1 : Nat) (l2 : Int) (l3 : Int) (l4 : Int) (M : xM) : Option xM :=
  xl (w32 ((w32 (l2 * 4)) + l3)) fun v5_1 =>
  xch (0 ≤ v5_1 ∧ v5_1 < 32) <|
  xl (w32 ((w32 ((M (R l0 2) (Int.toNat v5_1)) - (M (R l0 3) (Int.toNat v5_1)))) + (M (R l0 4) (Int.toNat v5_1)))) fun v6_3 =>
  if v6_3 = 0 then
    some (M)
  else
    xl (w32 (l2 * 8)) fun v7_5 =>
    xch (0 ≤ l2 ∧ l2 < 8) <|
    xl (M (R l1 9) (Int.toNat l2)) fun v8_7 =>
    F_pass_F55 R l0 l1 l3 l4
      (fun (v6_13 : Int) (v7_14 : Int) (v8_15 : Int) (M_16 : xM) =>
        xb1 (f_T_share R (R l0 8) v6_13 v8_15 100 M_16) fun M_17 =>
        F_pass_F107 R l0 l1 l3 l4
          xfu v7_14 v8_15 0 M_17)
      xfu v6_3 v7_5 v8_7 0 M
set_option maxRecDepth 100000 in
set_option maxHeartbeats 4000000 in
theorem s_F_pass {d : Nat} {sc : List Int} {z z' : xS} {out : xO} (qs : List xI) {cs : List Prop} (hq : qs.all (xqb 1 false y_F_pass.2.2.1 y_F_pass.2.1) = true) (h : xN false sc qs z = some (z', cs)) (hc : xAll cs) (hE : z'.2.2.2.2.2 ≤ 174) (k : XR false d 174 sc y_F_pass z' out) : XR false d 174 sc y_F_pass z out := XR.seg 1 false rfl (fun q => by cases q) qs hq h hc hE k
set_option maxRecDepth 100000 in
set_option maxHeartbeats 4000000 in
theorem o_F_pass_F55 {sc : List Int} {R : xR}   {l0 : Nat} {l1 : Nat} {l3 : Int} {l4 : Int}  {q89 : Int → Int → Int → xM → Option xM} (hq89 : ∀ (w6 : Int) (w7 : Int) (w8 : Int) (M : xM) (out : xM), q89 w6 w7 w8 M = some out → XR false 1 174 sc y_F_pass (89, [(0, (vR 1 l0)), (1, (vR 6 l1)), (3, (vI l3)), (4, (vI l4)), (6, (vI w6)), (7, (vI w7)), (8, (vI w8))], [], R, M, 174) (none, R, out)) : ∀ (n : Nat) (v6 : Int) (v7 : Int) (v8 : Int) (v9 : Int) (M : xM) (out : xM), F_pass_F55 R l0 l1 l3 l4 q89 n v6 v7 v8 v9 M = some out → XR false 1 174 sc y_F_pass (55, [(0, (vR 1 l0)), (1, (vR 6 l1)), (3, (vI l3)), (4, (vI l4)), (6, (vI v6)), (7, (vI v7)), (8, (vI v8)), (9, (vI v9))], [], R, M, 174) (none, R, out) := by
  intro n
  induction n with
  | zero => intro v6 v7 v8 v9 M out h; exact (xno h).elim
  | succ n ih =>
    intro v6 v7 v8 v9 M out h
    rw [F_pass_F55] at h
    refine s_F_pass [(55, .iload 9, 0, 0), (57, .iload 8, 0, 0)] (by decide +kernel) (z' := (59, [(0, (vR 1 l0)), (1, (vR 6 l1)), (3, (vI l3)), (4, (vI l4)), (6, (vI v6)), (7, (vI v7)), (8, (vI v8)), (9, (vI v9))], [(vI v8), (vI v9)], R, M, 174)) (cs := []) (by rfl) trivial (Nat.le_refl _) ?_
    rcases xif_ex h with ⟨c_8, h⟩ | ⟨c_8, h⟩
    · skip
      obtain ⟨c_9, h⟩ := xch_ex h
      obtain ⟨c_10, h⟩ := xch_ex h
      obtain ⟨M_11, hM_11, h⟩ := xl_ex h
      obtain ⟨v9_12, hv9_12, h⟩ := xl_ex h
      refine s_F_pass [(59, .if_icmp .ge 30, 0, (-1)), (62, .aload_n 0, 0, 0), (63, .getfield 40, 1, 8), (66, .getfield 158, 5, 0), (69, .iload 9, 0, 0), (71, .aload_n 1, 0, 0), (72, .getfield 162, 6, 11), (75, .iload 7, 0, 0), (77, .iload 9, 0, 0), (79, .iadd, 0, 0), (80, .iaload, 0, 0), (81, .i2l, 0, 0), (82, .lastore, 0, 0), (83, .iinc 9 1, 0, 0), (86, .goto (-31), 0, 55)] (by decide +kernel) (z' := (55, [(9, (vI v9_12)), (0, (vR 1 l0)), (1, (vR 6 l1)), (3, (vI l3)), (4, (vI l4)), (6, (vI v6)), (7, (vI v7)), (8, (vI v8))], [], R, M_11, 174)) (cs := [¬ (v8 ≤ v9), xar 38 0, xidx (w32 (v7 + v9)) (xan 38), xar 24 1, xidx v9 (xan 24)]) (by subst hM_11; subst hv9_12; rfl) ⟨Int.not_le.mpr c_8, xar_38, xix_38 c_9, xar_24, xix_24 c_10, trivial⟩ (Nat.le_refl _) ?_
      refine XR.pick [1, 2, 3, 4, 5, 6, 7, 0] (ls' := [(0, (vR 1 l0)), (1, (vR 6 l1)), (3, (vI l3)), (4, (vI l4)), (6, (vI v6)), (7, (vI v7)), (8, (vI v8)), (9, (vI v9_12))]) rfl ?_
      exact ih v6 v7 v8 v9_12 M_11 _ h
    · skip
      refine s_F_pass [(59, .if_icmp .ge 30, 0, 89)] (by decide +kernel) (z' := (89, [(0, (vR 1 l0)), (1, (vR 6 l1)), (3, (vI l3)), (4, (vI l4)), (6, (vI v6)), (7, (vI v7)), (8, (vI v8)), (9, (vI v9))], [], R, M, 174)) (cs := [v8 ≤ v9]) (by rfl) ⟨Int.not_lt.mp c_8, trivial⟩ (Nat.le_refl _) ?_
      refine XR.pick [0, 1, 2, 3, 4, 5, 6] (ls' := [(0, (vR 1 l0)), (1, (vR 6 l1)), (3, (vI l3)), (4, (vI l4)), (6, (vI v6)), (7, (vI v7)), (8, (vI v8))]) rfl ?_
      exact hq89 v6 v7 v8 M _ h
set_option maxRecDepth 100000 in
set_option maxHeartbeats 4000000 in
theorem o_F_pass_J183 {sc : List Int} {R : xR}   {l0 : Nat} {l1 : Nat} {l3 : Int} {l4 : Int}  {rc : Int → Int → Int → xM → Option xM} (hrc : ∀ (w7 : Int) (w8 : Int) (w9 : Int) (M : xM) (out : xM), rc w7 w8 w9 M = some out → XR false 1 174 sc y_F_pass (107, [(0, (vR 1 l0)), (1, (vR 6 l1)), (3, (vI l3)), (4, (vI l4)), (7, (vI w7)), (8, (vI w8)), (9, (vI w9))], [], R, M, 174) (none, R, out)) {v7 : Int} {v8 : Int} {v9 : Int} {M : xM} {out : xM} (h : F_pass_J183 R l0 l1 l3 l4 rc v7 v8 v9 M = some out) : XR false 1 174 sc y_F_pass (183, [(0, (vR 1 l0)), (1, (vR 6 l1)), (3, (vI l3)), (4, (vI l4)), (7, (vI v7)), (8, (vI v8)), (9, (vI v9))], [], R, M, 174) (none, R, out) := by
  unfold F_pass_J183 at h
  obtain ⟨v9_26, hv9_26, h⟩ := xl_ex h
  refine s_F_pass [(183, .iinc 9 1, 0, 0), (186, .goto (-79), 0, 107)] (by decide +kernel) (z' := (107, [(9, (vI v9_26)), (0, (vR 1 l0)), (1, (vR 6 l1)), (3, (vI l3)), (4, (vI l4)), (7, (vI v7)), (8, (vI v8))], [], R, M, 174)) (cs := []) (by subst hv9_26; rfl) trivial (Nat.le_refl _) ?_
  refine XR.pick [1, 2, 3, 4, 5, 6, 0] (ls' := [(0, (vR 1 l0)), (1, (vR 6 l1)), (3, (vI l3)), (4, (vI l4)), (7, (vI v7)), (8, (vI v8)), (9, (vI v9_26))]) rfl ?_
  exact hrc v7 v8 v9_26 M _ h
set_option maxRecDepth 100000 in
set_option maxHeartbeats 4000000 in
theorem o_F_pass_F107 {sc : List Int} {R : xR}   {l0 : Nat} {l1 : Nat} {l3 : Int} {l4 : Int}  : ∀ (n : Nat) (v7 : Int) (v8 : Int) (v9 : Int) (M : xM) (out : xM), F_pass_F107 R l0 l1 l3 l4  n v7 v8 v9 M = some out → XR false 1 174 sc y_F_pass (107, [(0, (vR 1 l0)), (1, (vR 6 l1)), (3, (vI l3)), (4, (vI l4)), (7, (vI v7)), (8, (vI v8)), (9, (vI v9))], [], R, M, 174) (none, R, out) := by
  intro n
  induction n with
  | zero => intro v7 v8 v9 M out h; exact (xno h).elim
  | succ n ih =>
    intro v7 v8 v9 M out h
    rw [F_pass_F107] at h
    refine s_F_pass [(107, .iload 9, 0, 0), (109, .iload 8, 0, 0)] (by decide +kernel) (z' := (111, [(0, (vR 1 l0)), (1, (vR 6 l1)), (3, (vI l3)), (4, (vI l4)), (7, (vI v7)), (8, (vI v8)), (9, (vI v9))], [(vI v8), (vI v9)], R, M, 174)) (cs := []) (by rfl) trivial (Nat.le_refl _) ?_
    rcases xif_ex h with ⟨c_19, h⟩ | ⟨c_19, h⟩
    · skip
      obtain ⟨c_20, h⟩ := xch_ex h
      obtain ⟨v10_21, hv10_21, h⟩ := xl_ex h
      refine s_F_pass [(111, .if_icmp .ge 78, 0, (-1)), (114, .aload_n 1, 0, 0), (115, .getfield 171, 6, 10), (118, .iload 7, 0, 0), (120, .iload 9, 0, 0), (122, .iadd, 0, 0), (123, .iaload, 0, 0), (124, .istore 10, 0, 0), (126, .iload 10, 0, 0), (128, .iconst (-1), 0, (-1))] (by decide +kernel) (z' := (129, [(10, (vI v10_21)), (0, (vR 1 l0)), (1, (vR 6 l1)), (3, (vI l3)), (4, (vI l4)), (7, (vI v7)), (8, (vI v8)), (9, (vI v9))], [(vI (-1)), (vI v10_21)], R, M, 174)) (cs := [¬ (v8 ≤ v9), xar 38 0, xidx (w32 (v7 + v9)) (xan 38)]) (by subst hv10_21; rfl) ⟨Int.not_le.mpr c_19, xar_38, xix_38 c_20, trivial⟩ (Nat.le_refl _) ?_
      rcases xif_ex h with ⟨c_22, h⟩ | ⟨c_22, h⟩
      · skip
        obtain ⟨c_23, h⟩ := xch_ex h
        obtain ⟨c_24, h⟩ := xch_ex h
        obtain ⟨M_25, hM_25, h⟩ := xl_ex h
        refine s_F_pass [(129, .if_icmp .ne 30, 0, (-1)), (132, .aload_n 0, 0, 0), (133, .getfield 15, 1, 1), (136, .iload 4, 0, 0), (138, .iconst 4, 0, 4), (139, .imul, 0, 0), (140, .iload_n 3, 0, 0), (141, .iadd, 0, 0), (142, .dup2, 0, 0), (143, .iaload, 0, 0), (144, .aload_n 0, 0, 0), (145, .getfield 40, 1, 8), (148, .getfield 174, 5, 1), (151, .iload 9, 0, 0), (153, .iaload, 0, 0), (154, .iadd, 0, 0), (155, .iastore, 0, 0), (156, .goto 27, 0, 183)] (by decide +kernel) (z' := (183, [(10, (vI v10_21)), (0, (vR 1 l0)), (1, (vR 6 l1)), (3, (vI l3)), (4, (vI l4)), (7, (vI v7)), (8, (vI v8)), (9, (vI v9))], [], R, M_25, 174)) (cs := [¬ (v10_21 ≠ -1), xar 26 0, xidx (w32 ((w32 (l4 * 4)) + l3)) (xan 26), xar 30 0, xidx v9 (xan 30), xar 26 0, xidx (w32 ((w32 (l4 * 4)) + l3)) (xan 26)]) (by subst hM_25; rfl) ⟨fun q => q c_22, xar_26, xix_26 c_23, xar_30, xix_30 c_24, xar_26, xix_26 c_23, trivial⟩ (Nat.le_refl _) ?_
        refine XR.pick [1, 2, 3, 4, 5, 6, 7] (ls' := [(0, (vR 1 l0)), (1, (vR 6 l1)), (3, (vI l3)), (4, (vI l4)), (7, (vI v7)), (8, (vI v8)), (9, (vI v9))]) rfl ?_
        exact o_F_pass_J183 ih h
      · skip
        obtain ⟨c_27, h⟩ := xch_ex h
        obtain ⟨c_28, h⟩ := xch_ex h
        obtain ⟨M_29, hM_29, h⟩ := xl_ex h
        refine s_F_pass [(129, .if_icmp .ne 30, 0, 159), (159, .aload_n 0, 0, 0), (160, .getfield 19, 1, 2), (163, .iload 10, 0, 0), (165, .iconst 4, 0, 4), (166, .imul, 0, 0), (167, .iload_n 3, 0, 0), (168, .iadd, 0, 0), (169, .dup2, 0, 0), (170, .iaload, 0, 0), (171, .aload_n 0, 0, 0), (172, .getfield 40, 1, 8), (175, .getfield 174, 5, 1), (178, .iload 9, 0, 0), (180, .iaload, 0, 0), (181, .iadd, 0, 0), (182, .iastore, 0, 0)] (by decide +kernel) (z' := (183, [(10, (vI v10_21)), (0, (vR 1 l0)), (1, (vR 6 l1)), (3, (vI l3)), (4, (vI l4)), (7, (vI v7)), (8, (vI v8)), (9, (vI v9))], [], R, M_29, 174)) (cs := [v10_21 ≠ -1, xar 27 0, xidx (w32 ((w32 (v10_21 * 4)) + l3)) (xan 27), xar 30 0, xidx v9 (xan 30), xar 27 0, xidx (w32 ((w32 (v10_21 * 4)) + l3)) (xan 27)]) (by subst hM_29; rfl) ⟨c_22, xar_27, xix_27 c_27, xar_30, xix_30 c_28, xar_27, xix_27 c_27, trivial⟩ (Nat.le_refl _) ?_
        refine XR.pick [1, 2, 3, 4, 5, 6, 7] (ls' := [(0, (vR 1 l0)), (1, (vR 6 l1)), (3, (vI l3)), (4, (vI l4)), (7, (vI v7)), (8, (vI v8)), (9, (vI v9))]) rfl ?_
        exact o_F_pass_J183 ih h
    · skip
      refine s_F_pass [(111, .if_icmp .ge 78, 0, 189)] (by decide +kernel) (z' := (189, [(0, (vR 1 l0)), (1, (vR 6 l1)), (3, (vI l3)), (4, (vI l4)), (7, (vI v7)), (8, (vI v8)), (9, (vI v9))], [], R, M, 174)) (cs := [v8 ≤ v9]) (by rfl) ⟨Int.not_lt.mp c_19, trivial⟩ (Nat.le_refl _) ?_
      obtain rfl := Option.some.inj h
      exact XR.retV rfl (by decide +kernel)
set_option maxRecDepth 100000 in
set_option maxHeartbeats 4000000 in
theorem o_F_pass {sc : List Int} {R : xR} {M : xM} {l0 : Nat} {l1 : Nat} {l2 : Int} {l3 : Int} {l4 : Int} {out : xM} (h : f_F_pass R l0 l1 l2 l3 l4 M = some out) : XR false 1 174 sc y_F_pass (0, [(0, (vR 1 l0)), (1, (vR 6 l1)), (2, (vI l2)), (3, (vI l3)), (4, (vI l4))], [], R, M, 174) (none, R, out) := by
  unfold f_F_pass at h
  obtain ⟨v5_1, hv5_1, h⟩ := xl_ex h
  obtain ⟨c_2, h⟩ := xch_ex h
  obtain ⟨v6_3, hv6_3, h⟩ := xl_ex h
  refine s_F_pass [(0, .iload_n 2, 0, 0), (1, .iconst 4, 0, 4), (2, .imul, 0, 0), (3, .iload_n 3, 0, 0), (4, .iadd, 0, 0), (5, .istore 5, 0, 0), (7, .aload_n 0, 0, 0), (8, .getfield 19, 1, 2), (11, .iload 5, 0, 0), (13, .iaload, 0, 0), (14, .aload_n 0, 0, 0), (15, .getfield 22, 1, 3), (18, .iload 5, 0, 0), (20, .iaload, 0, 0), (21, .isub, 0, 0), (22, .aload_n 0, 0, 0), (23, .getfield 25, 1, 4), (26, .iload 5, 0, 0), (28, .iaload, 0, 0), (29, .iadd, 0, 0), (30, .istore 6, 0, 0), (32, .iload 6, 0, 0)] (by decide +kernel) (z' := (34, [(6, (vI v6_3)), (5, (vI v5_1)), (0, (vR 1 l0)), (1, (vR 6 l1)), (2, (vI l2)), (3, (vI l3)), (4, (vI l4))], [(vI v6_3)], R, M, 174)) (cs := [xar 27 0, xidx v5_1 (xan 27), xar 27 0, xidx v5_1 (xan 27), xar 27 0, xidx v5_1 (xan 27)]) (by subst hv5_1; subst hv6_3; rfl) ⟨xar_27, xix_27 c_2, xar_27, xix_27 c_2, xar_27, xix_27 c_2, trivial⟩ (Nat.le_refl _) ?_
  rcases xif_ex h with ⟨c_4, h⟩ | ⟨c_4, h⟩
  · skip
    refine s_F_pass [(34, .ifCond .ne 4, 0, (-1))] (by decide +kernel) (z' := (37, [(6, (vI v6_3)), (5, (vI v5_1)), (0, (vR 1 l0)), (1, (vR 6 l1)), (2, (vI l2)), (3, (vI l3)), (4, (vI l4))], [], R, M, 174)) (cs := [¬ (v6_3 ≠ 0)]) (by rfl) ⟨fun q => q c_4, trivial⟩ (Nat.le_refl _) ?_
    obtain rfl := Option.some.inj h
    exact XR.retV rfl (by decide +kernel)
  · skip
    obtain ⟨v7_5, hv7_5, h⟩ := xl_ex h
    obtain ⟨c_6, h⟩ := xch_ex h
    obtain ⟨v8_7, hv8_7, h⟩ := xl_ex h
    refine s_F_pass [(34, .ifCond .ne 4, 0, 38), (38, .iload_n 2, 0, 0), (39, .bipush 8, 0, 8), (41, .imul, 0, 0), (42, .istore 7, 0, 0), (44, .aload_n 1, 0, 0), (45, .getfield 155, 6, 9), (48, .iload_n 2, 0, 0), (49, .iaload, 0, 0), (50, .istore 8, 0, 0), (52, .iconst 0, 0, 0), (53, .istore 9, 0, 0)] (by decide +kernel) (z' := (55, [(9, (vI 0)), (8, (vI v8_7)), (7, (vI v7_5)), (6, (vI v6_3)), (5, (vI v5_1)), (0, (vR 1 l0)), (1, (vR 6 l1)), (2, (vI l2)), (3, (vI l3)), (4, (vI l4))], [], R, M, 174)) (cs := [v6_3 ≠ 0, xar 30 0, xidx l2 (xan 30)]) (by subst hv7_5; subst hv8_7; rfl) ⟨c_4, xar_30, xix_30 c_6, trivial⟩ (Nat.le_refl _) ?_
    refine XR.pick [5, 6, 8, 9, 3, 2, 1, 0] (ls' := [(0, (vR 1 l0)), (1, (vR 6 l1)), (3, (vI l3)), (4, (vI l4)), (6, (vI v6_3)), (7, (vI v7_5)), (8, (vI v8_7)), (9, (vI 0))]) rfl ?_
    refine o_F_pass_F55 ?_ xfu v6_3 v7_5 v8_7 0 M _ h
    · intro v6_13 v7_14 v8_15 M_16 out h
      refine s_F_pass [(89, .aload_n 0, 0, 0), (90, .getfield 40, 1, 8), (93, .iload 6, 0, 0), (95, .i2l, 0, 0), (96, .iload 8, 0, 0), (98, .ldc2_w 165, 0, 100)] (by decide +kernel) (z' := (101, [(0, (vR 1 l0)), (1, (vR 6 l1)), (3, (vI l3)), (4, (vI l4)), (6, (vI v6_13)), (7, (vI v7_14)), (8, (vI v8_15))], [(vL 100), (vI v8_15), (vL v6_13), (vR 5 (R l0 8))], R, M_16, 174)) (cs := []) (by rfl) trivial (Nat.le_refl _) ?_
      obtain ⟨M_17, e_18, h⟩ := xb1_ex h
      refine XR.callV 1 rfl (rest := []) m_T_share k_1_167 5 (R l0 8) (Or.inl ⟨by decide, rfl⟩) [(vL v6_13), (vI v8_15), (vL 100)] rfl rfl (c_T_share e_18) (by decide) (Nat.le_of_ble_eq_true rfl) (by decide +kernel) (Nat.le_refl _) (Nat.le_refl _) ?_
      show XR false 1 174 sc y_F_pass (104, [(0, (vR 1 l0)), (1, (vR 6 l1)), (3, (vI l3)), (4, (vI l4)), (6, (vI v6_13)), (7, (vI v7_14)), (8, (vI v8_15))], [], R, M_17, 174) _
      refine s_F_pass [(104, .iconst 0, 0, 0), (105, .istore 9, 0, 0)] (by decide +kernel) (z' := (107, [(9, (vI 0)), (0, (vR 1 l0)), (1, (vR 6 l1)), (3, (vI l3)), (4, (vI l4)), (6, (vI v6_13)), (7, (vI v7_14)), (8, (vI v8_15))], [], R, M_17, 174)) (cs := []) (by rfl) trivial (Nat.le_refl _) ?_
      refine XR.pick [1, 2, 3, 4, 6, 7, 0] (ls' := [(0, (vR 1 l0)), (1, (vR 6 l1)), (3, (vI l3)), (4, (vI l4)), (7, (vI v7_14)), (8, (vI v8_15)), (9, (vI 0))]) rfl ?_
      refine o_F_pass_F107  xfu v7_14 v8_15 0 M_17 _ h
set_option maxRecDepth 100000 in
set_option maxHeartbeats 4000000 in
theorem c_F_pass {sc : List Int} {R : xR} {M : xM} {l0 : Nat} {l1 : Nat} {l2 : Int} {l3 : Int} {l4 : Int} {out : xM} (h : f_F_pass R l0 l1 l2 l3 l4 M = some out) : XC false 1 sc y_F_pass [(vR 1 l0), (vR 6 l1), (vI l2), (vI l3), (vI l4)] R M 174 174 (none, R, out) := XC.of (by decide) (Nat.le_of_ble_eq_true rfl) (Nat.le_refl _) (Nat.le_refl _) (o_F_pass h)
def f_F_restart (R : xR) (l0 : Nat) (M : xM) : Option xM :=
  xl (xu M l0 0 0) fun M_1 =>
  xb1 (f_J_fill_aIIV 27 (R l0 5) 0 M_1) fun M_2 =>
  xb1 (f_J_fill_aIIV 27 (R l0 6) 0 M_2) fun M_4 =>
  xb1 (f_J_fill_aIIV 27 (R l0 7) 0 M_4) fun M_6 =>
  some (M_6)
set_option maxRecDepth 100000 in
set_option maxHeartbeats 4000000 in
theorem s_F_restart {d : Nat} {sc : List Int} {z z' : xS} {out : xO} (qs : List xI) {cs : List Prop} (hq : qs.all (xqb 1 false y_F_restart.2.2.1 y_F_restart.2.1) = true) (h : xN false sc qs z = some (z', cs)) (hc : xAll cs) (hE : z'.2.2.2.2.2 ≤ 174) (k : XR false d 174 sc y_F_restart z' out) : XR false d 174 sc y_F_restart z out := XR.seg 1 false rfl (fun q => by cases q) qs hq h hc hE k
set_option maxRecDepth 100000 in
set_option maxHeartbeats 4000000 in
theorem o_F_restart {sc : List Int} {R : xR} {M : xM} {l0 : Nat} {out : xM} (h : f_F_restart R l0 M = some out) : XR false 1 174 sc y_F_restart (0, [(0, (vR 1 l0))], [], R, M, 174) (none, R, out) := by
  unfold f_F_restart at h
  obtain ⟨M_1, hM_1, h⟩ := xl_ex h
  refine s_F_restart [(0, .aload_n 0, 0, 0), (1, .iconst 0, 0, 0), (2, .putfield 9, 1, 0), (5, .aload_n 0, 0, 0), (6, .getfield 28, 1, 5), (9, .iconst 0, 0, 0)] (by decide +kernel) (z' := (10, [(0, (vR 1 l0))], [(vI 0), (vR 27 (R l0 5))], R, M_1, 174)) (cs := []) (by subst hM_1; rfl) trivial (Nat.le_refl _) ?_
  obtain ⟨M_2, e_3, h⟩ := xb1_ex h
  refine XR.callS 1 rfl (rest := []) m_J_fill_aIIV k_1_54 [(vR 27 (R l0 5)), (vI 0)] rfl rfl (c_J_fill_aIIV (xar_27) e_3) (by decide) (Nat.le_of_ble_eq_true rfl) (by decide +kernel) (Nat.le_refl _) (Nat.le_refl _) ?_
  show XR false 1 174 sc y_F_restart (13, [(0, (vR 1 l0))], [], R, M_2, 174) _
  refine s_F_restart [(13, .aload_n 0, 0, 0), (14, .getfield 31, 1, 6), (17, .iconst 0, 0, 0)] (by decide +kernel) (z' := (18, [(0, (vR 1 l0))], [(vI 0), (vR 27 (R l0 6))], R, M_2, 174)) (cs := []) (by rfl) trivial (Nat.le_refl _) ?_
  obtain ⟨M_4, e_5, h⟩ := xb1_ex h
  refine XR.callS 1 rfl (rest := []) m_J_fill_aIIV k_1_54 [(vR 27 (R l0 6)), (vI 0)] rfl rfl (c_J_fill_aIIV (xar_27) e_5) (by decide) (Nat.le_of_ble_eq_true rfl) (by decide +kernel) (Nat.le_refl _) (Nat.le_refl _) ?_
  show XR false 1 174 sc y_F_restart (21, [(0, (vR 1 l0))], [], R, M_4, 174) _
  refine s_F_restart [(21, .aload_n 0, 0, 0), (22, .getfield 34, 1, 7), (25, .iconst 0, 0, 0)] (by decide +kernel) (z' := (26, [(0, (vR 1 l0))], [(vI 0), (vR 27 (R l0 7))], R, M_4, 174)) (cs := []) (by rfl) trivial (Nat.le_refl _) ?_
  obtain ⟨M_6, e_7, h⟩ := xb1_ex h
  refine XR.callS 1 rfl (rest := []) m_J_fill_aIIV k_1_54 [(vR 27 (R l0 7)), (vI 0)] rfl rfl (c_J_fill_aIIV (xar_27) e_7) (by decide) (Nat.le_of_ble_eq_true rfl) (by decide +kernel) (Nat.le_refl _) (Nat.le_refl _) ?_
  show XR false 1 174 sc y_F_restart (29, [(0, (vR 1 l0))], [], R, M_6, 174) _
  obtain rfl := Option.some.inj h
  exact XR.retV rfl (by decide +kernel)
set_option maxRecDepth 100000 in
set_option maxHeartbeats 4000000 in
theorem c_F_restart {sc : List Int} {R : xR} {M : xM} {l0 : Nat} {out : xM} (h : f_F_restart R l0 M = some out) : XC false 1 sc y_F_restart [(vR 1 l0)] R M 174 174 (none, R, out) := XC.of (by decide) (Nat.le_of_ble_eq_true rfl) (Nat.le_refl _) (Nat.le_refl _) (o_F_restart h)
