def f_M_layerOf (R : xR) (l0 : Nat) (l1 : Int) (M : xM) : Option Int :=
  xch (0 ≤ w32 (4 * l1) ∧ w32 (4 * l1) < 32) <|
  xch (0 ≤ w32 ((w32 (4 * l1)) + 1) ∧ w32 ((w32 (4 * l1)) + 1) < 32) <|
  xch (0 ≤ w32 ((w32 (4 * l1)) + 2) ∧ w32 ((w32 (4 * l1)) + 2) < 32) <|
  xch (0 ≤ w32 ((w32 (4 * l1)) + 3) ∧ w32 ((w32 (4 * l1)) + 3) < 32) <|
  some (w32 ((w32 ((w32 ((M (R l0 84) (Int.toNat (w32 (4 * l1)))) + (M (R l0 84) (Int.toNat (w32 ((w32 (4 * l1)) + 1)))))) + (M (R l0 84) (Int.toNat (w32 ((w32 (4 * l1)) + 2)))))) + (M (R l0 84) (Int.toNat (w32 ((w32 (4 * l1)) + 3))))))
set_option maxRecDepth 100000 in
set_option maxHeartbeats 4000000 in
theorem s_M_layerOf {d : Nat} {sc : List Int} {z z' : xS} {out : xO} (qs : List xI) {cs : List Prop} (hq : qs.all (xqb 10 false y_M_layerOf.2.2.1 y_M_layerOf.2.1) = true) (h : xN false sc qs z = some (z', cs)) (hc : xAll cs) (hE : z'.2.2.2.2.2 ≤ 174) (k : XR false d 174 sc y_M_layerOf z' out) : XR false d 174 sc y_M_layerOf z out := XR.seg 10 false rfl (fun q => by cases q) qs hq h hc hE k
set_option maxRecDepth 100000 in
set_option maxHeartbeats 4000000 in
theorem o_M_layerOf {sc : List Int} {R : xR} {M : xM} {l0 : Nat} {l1 : Int} {out : Int} (h : f_M_layerOf R l0 l1 M = some out) : XR false 0 174 sc y_M_layerOf (0, [(0, (vR 10 l0)), (1, (vI l1))], [], R, M, 174) ((some (vI out)), R, M) := by
  unfold f_M_layerOf at h
  obtain ⟨c_1, h⟩ := xch_ex h
  obtain ⟨c_2, h⟩ := xch_ex h
  obtain ⟨c_3, h⟩ := xch_ex h
  obtain ⟨c_4, h⟩ := xch_ex h
  refine s_M_layerOf [(0, .aload_n 0, 0, 0), (1, .getfield 193, 10, 84), (4, .iconst 4, 0, 4), (5, .iload_n 1, 0, 0), (6, .imul, 0, 0), (7, .iaload, 0, 0), (8, .aload_n 0, 0, 0), (9, .getfield 193, 10, 84), (12, .iconst 4, 0, 4), (13, .iload_n 1, 0, 0), (14, .imul, 0, 0), (15, .iconst 1, 0, 1), (16, .iadd, 0, 0), (17, .iaload, 0, 0), (18, .iadd, 0, 0), (19, .aload_n 0, 0, 0), (20, .getfield 193, 10, 84), (23, .iconst 4, 0, 4), (24, .iload_n 1, 0, 0), (25, .imul, 0, 0), (26, .iconst 2, 0, 2), (27, .iadd, 0, 0), (28, .iaload, 0, 0), (29, .iadd, 0, 0), (30, .aload_n 0, 0, 0), (31, .getfield 193, 10, 84), (34, .iconst 4, 0, 4), (35, .iload_n 1, 0, 0), (36, .imul, 0, 0), (37, .iconst 3, 0, 3), (38, .iadd, 0, 0), (39, .iaload, 0, 0), (40, .iadd, 0, 0)] (by decide +kernel) (z' := (41, [(0, (vR 10 l0)), (1, (vI l1))], [(vI (w32 ((w32 ((w32 ((M (R l0 84) (Int.toNat (w32 (4 * l1)))) + (M (R l0 84) (Int.toNat (w32 ((w32 (4 * l1)) + 1)))))) + (M (R l0 84) (Int.toNat (w32 ((w32 (4 * l1)) + 2)))))) + (M (R l0 84) (Int.toNat (w32 ((w32 (4 * l1)) + 3)))))))], R, M, 174)) (cs := [xar 27 0, xidx (w32 (4 * l1)) (xan 27), xar 27 0, xidx (w32 ((w32 (4 * l1)) + 1)) (xan 27), xar 27 0, xidx (w32 ((w32 (4 * l1)) + 2)) (xan 27), xar 27 0, xidx (w32 ((w32 (4 * l1)) + 3)) (xan 27)]) (by rfl) ⟨xar_27, xix_27 c_1, xar_27, xix_27 c_2, xar_27, xix_27 c_3, xar_27, xix_27 c_4, trivial⟩ (Nat.le_refl _) ?_
  obtain rfl := Option.some.inj h
  exact XR.retI .int rfl rfl (by decide +kernel)
set_option maxRecDepth 100000 in
set_option maxHeartbeats 4000000 in
theorem c_M_layerOf {sc : List Int} {R : xR} {M : xM} {l0 : Nat} {l1 : Int} {out : Int} (h : f_M_layerOf R l0 l1 M = some out) : XC false 0 sc y_M_layerOf [(vR 10 l0), (vI l1)] R M 174 174 ((some (vI out)), R, M) := XC.of (by decide) (Nat.le_of_ble_eq_true rfl) (Nat.le_refl _) (Nat.le_refl _) (o_M_layerOf h)
def M_isOff_J65 (R : xR) (M : xM) (l0 : Nat) (l1 : Int) (l2 : Int) (rc : Int → Option Int) (v3 : Int) : Option Int :=
  xl (w32 (v3 + 1)) fun v3_6 =>
  rc v3_6
def M_isOff_F2 (R : xR) (M : xM) (l0 : Nat) (l1 : Int) (l2 : Int) : Nat → Int → Option Int
  | 0, _ => none
  | n + 1, v3 =>
    if v3 < M l0 60 then
      xch (0 ≤ v3 ∧ v3 < 40) <|
      if M (R l0 68) (Int.toNat v3) = 2 then
        if M (R l0 69) (Int.toNat v3) = l1 then
          if l2 < M (R l0 70) (Int.toNat v3) then
            M_isOff_J65 R M l0 l1 l2 (M_isOff_F2 R M l0 l1 l2  n) v3
          else
            if M (R l0 71) (Int.toNat v3) < l2 then
              M_isOff_J65 R M l0 l1 l2 (M_isOff_F2 R M l0 l1 l2  n) v3
            else
              if M l0 62 < M (R l0 72) (Int.toNat v3) then
                M_isOff_J65 R M l0 l1 l2 (M_isOff_F2 R M l0 l1 l2  n) v3
              else
                some (1)
        else
          M_isOff_J65 R M l0 l1 l2 (M_isOff_F2 R M l0 l1 l2  n) v3
      else
        M_isOff_J65 R M l0 l1 l2 (M_isOff_F2 R M l0 l1 l2  n) v3
    else
      some (0)
def f_M_isOff (R : xR) (l0 : Nat) (l1 : Int) (l2 : Int) (M : xM) : Option Int :=
  M_isOff_F2 R M l0 l1 l2
    xfu 0
set_option maxRecDepth 100000 in
set_option maxHeartbeats 4000000 in
theorem s_M_isOff {d : Nat} {sc : List Int} {z z' : xS} {out : xO} (qs : List xI) {cs : List Prop} (hq : qs.all (xqb 10 false y_M_isOff.2.2.1 y_M_isOff.2.1) = true) (h : xN false sc qs z = some (z', cs)) (hc : xAll cs) (hE : z'.2.2.2.2.2 ≤ 174) (k : XR false d 174 sc y_M_isOff z' out) : XR false d 174 sc y_M_isOff z out := XR.seg 10 false rfl (fun q => by cases q) qs hq h hc hE k
set_option maxRecDepth 100000 in
set_option maxHeartbeats 4000000 in
theorem o_M_isOff_J65 {sc : List Int} {R : xR} {M : xM}  {l0 : Nat} {l1 : Int} {l2 : Int}  {rc : Int → Option Int} (hrc : ∀ (w3 : Int) (out : Int), rc w3 = some out → XR false 0 174 sc y_M_isOff (2, [(0, (vR 10 l0)), (1, (vI l1)), (2, (vI l2)), (3, (vI w3))], [], R, M, 174) ((some (vI out)), R, M)) {v3 : Int} {out : Int} (h : M_isOff_J65 R M l0 l1 l2 rc v3 = some out) : XR false 0 174 sc y_M_isOff (65, [(0, (vR 10 l0)), (1, (vI l1)), (2, (vI l2)), (3, (vI v3))], [], R, M, 174) ((some (vI out)), R, M) := by
  unfold M_isOff_J65 at h
  obtain ⟨v3_6, hv3_6, h⟩ := xl_ex h
  refine s_M_isOff [(65, .iinc 3 1, 0, 0), (68, .goto (-66), 0, 2)] (by decide +kernel) (z' := (2, [(3, (vI v3_6)), (0, (vR 10 l0)), (1, (vI l1)), (2, (vI l2))], [], R, M, 174)) (cs := []) (by subst hv3_6; rfl) trivial (Nat.le_refl _) ?_
  refine XR.pick [1, 2, 3, 0] (ls' := [(0, (vR 10 l0)), (1, (vI l1)), (2, (vI l2)), (3, (vI v3_6))]) rfl ?_
  exact hrc v3_6 _ h
set_option maxRecDepth 100000 in
set_option maxHeartbeats 4000000 in
theorem o_M_isOff_F2 {sc : List Int} {R : xR} {M : xM}  {l0 : Nat} {l1 : Int} {l2 : Int}  : ∀ (n : Nat) (v3 : Int) (out : Int), M_isOff_F2 R M l0 l1 l2  n v3 = some out → XR false 0 174 sc y_M_isOff (2, [(0, (vR 10 l0)), (1, (vI l1)), (2, (vI l2)), (3, (vI v3))], [], R, M, 174) ((some (vI out)), R, M) := by
  intro n
  induction n with
  | zero => intro v3 out h; exact (xno h).elim
  | succ n ih =>
    intro v3 out h
    rw [M_isOff_F2] at h
    refine s_M_isOff [(2, .iload_n 3, 0, 0), (3, .aload_n 0, 0, 0), (4, .getfield 402, 10, 60)] (by decide +kernel) (z' := (7, [(0, (vR 10 l0)), (1, (vI l1)), (2, (vI l2)), (3, (vI v3))], [(vI (M l0 60)), (vI v3)], R, M, 174)) (cs := []) (by rfl) trivial (Nat.le_refl _) ?_
    rcases xif_ex h with ⟨c_1, h⟩ | ⟨c_1, h⟩
    · skip
      obtain ⟨c_2, h⟩ := xch_ex h
      refine s_M_isOff [(7, .if_icmp .ge 64, 0, (-1)), (10, .aload_n 0, 0, 0), (11, .getfield 154, 10, 68), (14, .iload_n 3, 0, 0), (15, .iaload, 0, 0), (16, .iconst 2, 0, 2)] (by decide +kernel) (z' := (17, [(0, (vR 10 l0)), (1, (vI l1)), (2, (vI l2)), (3, (vI v3))], [(vI 2), (vI (M (R l0 68) (Int.toNat v3)))], R, M, 174)) (cs := [¬ (M l0 60 ≤ v3), xar 21 0, xidx v3 (xan 21)]) (by rfl) ⟨Int.not_le.mpr c_1, xar_21, xix_21 c_2, trivial⟩ (Nat.le_refl _) ?_
      rcases xif_ex h with ⟨c_3, h⟩ | ⟨c_3, h⟩
      · skip
        refine s_M_isOff [(17, .if_icmp .ne 48, 0, (-1)), (20, .aload_n 0, 0, 0), (21, .getfield 157, 10, 69), (24, .iload_n 3, 0, 0), (25, .iaload, 0, 0), (26, .iload_n 1, 0, 0)] (by decide +kernel) (z' := (27, [(0, (vR 10 l0)), (1, (vI l1)), (2, (vI l2)), (3, (vI v3))], [(vI l1), (vI (M (R l0 69) (Int.toNat v3)))], R, M, 174)) (cs := [¬ (M (R l0 68) (Int.toNat v3) ≠ 2), xar 21 0, xidx v3 (xan 21)]) (by rfl) ⟨fun q => q c_3, xar_21, xix_21 c_2, trivial⟩ (Nat.le_refl _) ?_
        rcases xif_ex h with ⟨c_4, h⟩ | ⟨c_4, h⟩
        · skip
          refine s_M_isOff [(27, .if_icmp .ne 38, 0, (-1)), (30, .aload_n 0, 0, 0), (31, .getfield 160, 10, 70), (34, .iload_n 3, 0, 0), (35, .iaload, 0, 0), (36, .iload_n 2, 0, 0)] (by decide +kernel) (z' := (37, [(0, (vR 10 l0)), (1, (vI l1)), (2, (vI l2)), (3, (vI v3))], [(vI l2), (vI (M (R l0 70) (Int.toNat v3)))], R, M, 174)) (cs := [¬ (M (R l0 69) (Int.toNat v3) ≠ l1), xar 21 0, xidx v3 (xan 21)]) (by rfl) ⟨fun q => q c_4, xar_21, xix_21 c_2, trivial⟩ (Nat.le_refl _) ?_
          rcases xif_ex h with ⟨c_5, h⟩ | ⟨c_5, h⟩
          · skip
            refine s_M_isOff [(37, .if_icmp .gt 28, 0, 65)] (by decide +kernel) (z' := (65, [(0, (vR 10 l0)), (1, (vI l1)), (2, (vI l2)), (3, (vI v3))], [], R, M, 174)) (cs := [l2 < M (R l0 70) (Int.toNat v3)]) (by rfl) ⟨c_5, trivial⟩ (Nat.le_refl _) ?_
            exact o_M_isOff_J65 ih h
          · skip
            refine s_M_isOff [(37, .if_icmp .gt 28, 0, (-1)), (40, .iload_n 2, 0, 0), (41, .aload_n 0, 0, 0), (42, .getfield 163, 10, 71), (45, .iload_n 3, 0, 0), (46, .iaload, 0, 0)] (by decide +kernel) (z' := (47, [(0, (vR 10 l0)), (1, (vI l1)), (2, (vI l2)), (3, (vI v3))], [(vI (M (R l0 71) (Int.toNat v3))), (vI l2)], R, M, 174)) (cs := [¬ (l2 < M (R l0 70) (Int.toNat v3)), xar 21 0, xidx v3 (xan 21)]) (by rfl) ⟨c_5, xar_21, xix_21 c_2, trivial⟩ (Nat.le_refl _) ?_
            rcases xif_ex h with ⟨c_7, h⟩ | ⟨c_7, h⟩
            · skip
              refine s_M_isOff [(47, .if_icmp .gt 18, 0, 65)] (by decide +kernel) (z' := (65, [(0, (vR 10 l0)), (1, (vI l1)), (2, (vI l2)), (3, (vI v3))], [], R, M, 174)) (cs := [M (R l0 71) (Int.toNat v3) < l2]) (by rfl) ⟨c_7, trivial⟩ (Nat.le_refl _) ?_
              exact o_M_isOff_J65 ih h
            · skip
              refine s_M_isOff [(47, .if_icmp .gt 18, 0, (-1)), (50, .aload_n 0, 0, 0), (51, .getfield 166, 10, 72), (54, .iload_n 3, 0, 0), (55, .iaload, 0, 0), (56, .aload_n 0, 0, 0), (57, .getfield 136, 10, 62)] (by decide +kernel) (z' := (60, [(0, (vR 10 l0)), (1, (vI l1)), (2, (vI l2)), (3, (vI v3))], [(vI (M l0 62)), (vI (M (R l0 72) (Int.toNat v3)))], R, M, 174)) (cs := [¬ (M (R l0 71) (Int.toNat v3) < l2), xar 21 0, xidx v3 (xan 21)]) (by rfl) ⟨c_7, xar_21, xix_21 c_2, trivial⟩ (Nat.le_refl _) ?_
              rcases xif_ex h with ⟨c_8, h⟩ | ⟨c_8, h⟩
              · skip
                refine s_M_isOff [(60, .if_icmp .gt 5, 0, 65)] (by decide +kernel) (z' := (65, [(0, (vR 10 l0)), (1, (vI l1)), (2, (vI l2)), (3, (vI v3))], [], R, M, 174)) (cs := [M l0 62 < M (R l0 72) (Int.toNat v3)]) (by rfl) ⟨c_8, trivial⟩ (Nat.le_refl _) ?_
                exact o_M_isOff_J65 ih h
              · skip
                refine s_M_isOff [(60, .if_icmp .gt 5, 0, (-1)), (63, .iconst 1, 0, 1)] (by decide +kernel) (z' := (64, [(0, (vR 10 l0)), (1, (vI l1)), (2, (vI l2)), (3, (vI v3))], [(vI 1)], R, M, 174)) (cs := [¬ (M l0 62 < M (R l0 72) (Int.toNat v3))]) (by rfl) ⟨c_8, trivial⟩ (Nat.le_refl _) ?_
                obtain rfl := Option.some.inj h
                exact XR.retI .boolean rfl (xnar_z (by decide)) (by decide +kernel)
        · skip
          refine s_M_isOff [(27, .if_icmp .ne 38, 0, 65)] (by decide +kernel) (z' := (65, [(0, (vR 10 l0)), (1, (vI l1)), (2, (vI l2)), (3, (vI v3))], [], R, M, 174)) (cs := [M (R l0 69) (Int.toNat v3) ≠ l1]) (by rfl) ⟨c_4, trivial⟩ (Nat.le_refl _) ?_
          exact o_M_isOff_J65 ih h
      · skip
        refine s_M_isOff [(17, .if_icmp .ne 48, 0, 65)] (by decide +kernel) (z' := (65, [(0, (vR 10 l0)), (1, (vI l1)), (2, (vI l2)), (3, (vI v3))], [], R, M, 174)) (cs := [M (R l0 68) (Int.toNat v3) ≠ 2]) (by rfl) ⟨c_3, trivial⟩ (Nat.le_refl _) ?_
        exact o_M_isOff_J65 ih h
    · skip
      refine s_M_isOff [(7, .if_icmp .ge 64, 0, 71), (71, .iconst 0, 0, 0)] (by decide +kernel) (z' := (72, [(0, (vR 10 l0)), (1, (vI l1)), (2, (vI l2)), (3, (vI v3))], [(vI 0)], R, M, 174)) (cs := [M l0 60 ≤ v3]) (by rfl) ⟨Int.not_lt.mp c_1, trivial⟩ (Nat.le_refl _) ?_
      obtain rfl := Option.some.inj h
      exact XR.retI .boolean rfl (xnar_z (by decide)) (by decide +kernel)
set_option maxRecDepth 100000 in
set_option maxHeartbeats 4000000 in
theorem o_M_isOff {sc : List Int} {R : xR} {M : xM} {l0 : Nat} {l1 : Int} {l2 : Int} {out : Int} (h : f_M_isOff R l0 l1 l2 M = some out) : XR false 0 174 sc y_M_isOff (0, [(0, (vR 10 l0)), (1, (vI l1)), (2, (vI l2))], [], R, M, 174) ((some (vI out)), R, M) := by
  unfold f_M_isOff at h
  refine s_M_isOff [(0, .iconst 0, 0, 0), (1, .istore_n 3, 0, 0)] (by decide +kernel) (z' := (2, [(3, (vI 0)), (0, (vR 10 l0)), (1, (vI l1)), (2, (vI l2))], [], R, M, 174)) (cs := []) (by rfl) trivial (Nat.le_refl _) ?_
  refine XR.pick [1, 2, 3, 0] (ls' := [(0, (vR 10 l0)), (1, (vI l1)), (2, (vI l2)), (3, (vI 0))]) rfl ?_
  refine o_M_isOff_F2  xfu 0 _ h
set_option maxRecDepth 100000 in
set_option maxHeartbeats 4000000 in
theorem c_M_isOff {sc : List Int} {R : xR} {M : xM} {l0 : Nat} {l1 : Int} {l2 : Int} {out : Int} (h : f_M_isOff R l0 l1 l2 M = some out) : XC false 0 sc y_M_isOff [(vR 10 l0), (vI l1), (vI l2)] R M 174 174 ((some (vI out)), R, M) := XC.of (by decide) (Nat.le_of_ble_eq_true rfl) (Nat.le_refl _) (Nat.le_refl _) (o_M_isOff h)
def M_holesOf_J94 (R : xR) (M : xM) (l0 : Nat) (l1 : Int) (l2 : Int) (rc : Int → Int → Option Int) (v3 : Int) (v4 : Int) : Option Int :=
  xl (w32 (v4 + 1)) fun v4_8 =>
  rc v3 v4_8
def M_holesOf_F28 (R : xR) (M : xM) (l0 : Nat) (l1 : Int) (l2 : Int) : Nat → Int → Int → Option Int
  | 0, _, _ => none
  | n + 1, v3, v4 =>
    if v4 < M l0 60 then
      xch (0 ≤ v4 ∧ v4 < 40) <|
      if M (R l0 68) (Int.toNat v4) = 1 then
        if M (R l0 69) (Int.toNat v4) = l1 then
          if l2 < M (R l0 70) (Int.toNat v4) then
            M_holesOf_J94 R M l0 l1 l2 (M_holesOf_F28 R M l0 l1 l2  n) v3 v4
          else
            if M l0 62 < M (R l0 72) (Int.toNat v4) then
              M_holesOf_J94 R M l0 l1 l2 (M_holesOf_F28 R M l0 l1 l2  n) v3 v4
            else
              xl (w32 (v3 + (M (R l0 71) (Int.toNat v4)))) fun v3_10 =>
              M_holesOf_J94 R M l0 l1 l2 (M_holesOf_F28 R M l0 l1 l2  n) v3_10 v4
        else
          M_holesOf_J94 R M l0 l1 l2 (M_holesOf_F28 R M l0 l1 l2  n) v3 v4
      else
        M_holesOf_J94 R M l0 l1 l2 (M_holesOf_F28 R M l0 l1 l2  n) v3 v4
    else
      some (v3)
def M_holesOf_J24 (R : xR) (M : xM) (l0 : Nat) (l1 : Int) (l2 : Int) (s0 : Int) : Option Int :=
  M_holesOf_F28 R M l0 l1 l2
    xfu s0 0
def f_M_holesOf (R : xR) (l0 : Nat) (l1 : Int) (l2 : Int) (M : xM) : Option Int :=
  if M l0 74 = l1 then
    if l2 < M l0 75 then
      M_holesOf_J24 R M l0 l1 l2 0
    else
      M_holesOf_J24 R M l0 l1 l2 (M l0 76)
  else
    M_holesOf_J24 R M l0 l1 l2 0
set_option maxRecDepth 100000 in
set_option maxHeartbeats 4000000 in
theorem s_M_holesOf {d : Nat} {sc : List Int} {z z' : xS} {out : xO} (qs : List xI) {cs : List Prop} (hq : qs.all (xqb 10 false y_M_holesOf.2.2.1 y_M_holesOf.2.1) = true) (h : xN false sc qs z = some (z', cs)) (hc : xAll cs) (hE : z'.2.2.2.2.2 ≤ 174) (k : XR false d 174 sc y_M_holesOf z' out) : XR false d 174 sc y_M_holesOf z out := XR.seg 10 false rfl (fun q => by cases q) qs hq h hc hE k
set_option maxRecDepth 100000 in
set_option maxHeartbeats 4000000 in
theorem o_M_holesOf_J94 {sc : List Int} {R : xR} {M : xM}  {l0 : Nat} {l1 : Int} {l2 : Int}  {rc : Int → Int → Option Int} (hrc : ∀ (w3 : Int) (w4 : Int) (out : Int), rc w3 w4 = some out → XR false 0 174 sc y_M_holesOf (28, [(0, (vR 10 l0)), (1, (vI l1)), (2, (vI l2)), (3, (vI w3)), (4, (vI w4))], [], R, M, 174) ((some (vI out)), R, M)) {v3 : Int} {v4 : Int} {out : Int} (h : M_holesOf_J94 R M l0 l1 l2 rc v3 v4 = some out) : XR false 0 174 sc y_M_holesOf (94, [(0, (vR 10 l0)), (1, (vI l1)), (2, (vI l2)), (3, (vI v3)), (4, (vI v4))], [], R, M, 174) ((some (vI out)), R, M) := by
  unfold M_holesOf_J94 at h
  obtain ⟨v4_8, hv4_8, h⟩ := xl_ex h
  refine s_M_holesOf [(94, .iinc 4 1, 0, 0), (97, .goto (-69), 0, 28)] (by decide +kernel) (z' := (28, [(4, (vI v4_8)), (0, (vR 10 l0)), (1, (vI l1)), (2, (vI l2)), (3, (vI v3))], [], R, M, 174)) (cs := []) (by subst hv4_8; rfl) trivial (Nat.le_refl _) ?_
  refine XR.pick [1, 2, 3, 4, 0] (ls' := [(0, (vR 10 l0)), (1, (vI l1)), (2, (vI l2)), (3, (vI v3)), (4, (vI v4_8))]) rfl ?_
  exact hrc v3 v4_8 _ h
set_option maxRecDepth 100000 in
set_option maxHeartbeats 4000000 in
theorem o_M_holesOf_F28 {sc : List Int} {R : xR} {M : xM}  {l0 : Nat} {l1 : Int} {l2 : Int}  : ∀ (n : Nat) (v3 : Int) (v4 : Int) (out : Int), M_holesOf_F28 R M l0 l1 l2  n v3 v4 = some out → XR false 0 174 sc y_M_holesOf (28, [(0, (vR 10 l0)), (1, (vI l1)), (2, (vI l2)), (3, (vI v3)), (4, (vI v4))], [], R, M, 174) ((some (vI out)), R, M) := by
  intro n
  induction n with
  | zero => intro v3 v4 out h; exact (xno h).elim
  | succ n ih =>
    intro v3 v4 out h
    rw [M_holesOf_F28] at h
    refine s_M_holesOf [(28, .iload 4, 0, 0), (30, .aload_n 0, 0, 0), (31, .getfield 402, 10, 60)] (by decide +kernel) (z' := (34, [(0, (vR 10 l0)), (1, (vI l1)), (2, (vI l2)), (3, (vI v3)), (4, (vI v4))], [(vI (M l0 60)), (vI v4)], R, M, 174)) (cs := []) (by rfl) trivial (Nat.le_refl _) ?_
    rcases xif_ex h with ⟨c_3, h⟩ | ⟨c_3, h⟩
    · skip
      obtain ⟨c_4, h⟩ := xch_ex h
      refine s_M_holesOf [(34, .if_icmp .ge 66, 0, (-1)), (37, .aload_n 0, 0, 0), (38, .getfield 154, 10, 68), (41, .iload 4, 0, 0), (43, .iaload, 0, 0), (44, .iconst 1, 0, 1)] (by decide +kernel) (z' := (45, [(0, (vR 10 l0)), (1, (vI l1)), (2, (vI l2)), (3, (vI v3)), (4, (vI v4))], [(vI 1), (vI (M (R l0 68) (Int.toNat v4)))], R, M, 174)) (cs := [¬ (M l0 60 ≤ v4), xar 21 0, xidx v4 (xan 21)]) (by rfl) ⟨Int.not_le.mpr c_3, xar_21, xix_21 c_4, trivial⟩ (Nat.le_refl _) ?_
      rcases xif_ex h with ⟨c_5, h⟩ | ⟨c_5, h⟩
      · skip
        refine s_M_holesOf [(45, .if_icmp .ne 49, 0, (-1)), (48, .aload_n 0, 0, 0), (49, .getfield 157, 10, 69), (52, .iload 4, 0, 0), (54, .iaload, 0, 0), (55, .iload_n 1, 0, 0)] (by decide +kernel) (z' := (56, [(0, (vR 10 l0)), (1, (vI l1)), (2, (vI l2)), (3, (vI v3)), (4, (vI v4))], [(vI l1), (vI (M (R l0 69) (Int.toNat v4)))], R, M, 174)) (cs := [¬ (M (R l0 68) (Int.toNat v4) ≠ 1), xar 21 0, xidx v4 (xan 21)]) (by rfl) ⟨fun q => q c_5, xar_21, xix_21 c_4, trivial⟩ (Nat.le_refl _) ?_
        rcases xif_ex h with ⟨c_6, h⟩ | ⟨c_6, h⟩
        · skip
          refine s_M_holesOf [(56, .if_icmp .ne 38, 0, (-1)), (59, .aload_n 0, 0, 0), (60, .getfield 160, 10, 70), (63, .iload 4, 0, 0), (65, .iaload, 0, 0), (66, .iload_n 2, 0, 0)] (by decide +kernel) (z' := (67, [(0, (vR 10 l0)), (1, (vI l1)), (2, (vI l2)), (3, (vI v3)), (4, (vI v4))], [(vI l2), (vI (M (R l0 70) (Int.toNat v4)))], R, M, 174)) (cs := [¬ (M (R l0 69) (Int.toNat v4) ≠ l1), xar 21 0, xidx v4 (xan 21)]) (by rfl) ⟨fun q => q c_6, xar_21, xix_21 c_4, trivial⟩ (Nat.le_refl _) ?_
          rcases xif_ex h with ⟨c_7, h⟩ | ⟨c_7, h⟩
          · skip
            refine s_M_holesOf [(67, .if_icmp .gt 27, 0, 94)] (by decide +kernel) (z' := (94, [(0, (vR 10 l0)), (1, (vI l1)), (2, (vI l2)), (3, (vI v3)), (4, (vI v4))], [], R, M, 174)) (cs := [l2 < M (R l0 70) (Int.toNat v4)]) (by rfl) ⟨c_7, trivial⟩ (Nat.le_refl _) ?_
            exact o_M_holesOf_J94 ih h
          · skip
            refine s_M_holesOf [(67, .if_icmp .gt 27, 0, (-1)), (70, .aload_n 0, 0, 0), (71, .getfield 166, 10, 72), (74, .iload 4, 0, 0), (76, .iaload, 0, 0), (77, .aload_n 0, 0, 0), (78, .getfield 136, 10, 62)] (by decide +kernel) (z' := (81, [(0, (vR 10 l0)), (1, (vI l1)), (2, (vI l2)), (3, (vI v3)), (4, (vI v4))], [(vI (M l0 62)), (vI (M (R l0 72) (Int.toNat v4)))], R, M, 174)) (cs := [¬ (l2 < M (R l0 70) (Int.toNat v4)), xar 21 0, xidx v4 (xan 21)]) (by rfl) ⟨c_7, xar_21, xix_21 c_4, trivial⟩ (Nat.le_refl _) ?_
            rcases xif_ex h with ⟨c_9, h⟩ | ⟨c_9, h⟩
            · skip
              refine s_M_holesOf [(81, .if_icmp .gt 13, 0, 94)] (by decide +kernel) (z' := (94, [(0, (vR 10 l0)), (1, (vI l1)), (2, (vI l2)), (3, (vI v3)), (4, (vI v4))], [], R, M, 174)) (cs := [M l0 62 < M (R l0 72) (Int.toNat v4)]) (by rfl) ⟨c_9, trivial⟩ (Nat.le_refl _) ?_
              exact o_M_holesOf_J94 ih h
            · skip
              obtain ⟨v3_10, hv3_10, h⟩ := xl_ex h
              refine s_M_holesOf [(81, .if_icmp .gt 13, 0, (-1)), (84, .iload_n 3, 0, 0), (85, .aload_n 0, 0, 0), (86, .getfield 163, 10, 71), (89, .iload 4, 0, 0), (91, .iaload, 0, 0), (92, .iadd, 0, 0), (93, .istore_n 3, 0, 0)] (by decide +kernel) (z' := (94, [(3, (vI v3_10)), (0, (vR 10 l0)), (1, (vI l1)), (2, (vI l2)), (4, (vI v4))], [], R, M, 174)) (cs := [¬ (M l0 62 < M (R l0 72) (Int.toNat v4)), xar 21 0, xidx v4 (xan 21)]) (by subst hv3_10; rfl) ⟨c_9, xar_21, xix_21 c_4, trivial⟩ (Nat.le_refl _) ?_
              refine XR.pick [1, 2, 3, 0, 4] (ls' := [(0, (vR 10 l0)), (1, (vI l1)), (2, (vI l2)), (3, (vI v3_10)), (4, (vI v4))]) rfl ?_
              exact o_M_holesOf_J94 ih h
        · skip
          refine s_M_holesOf [(56, .if_icmp .ne 38, 0, 94)] (by decide +kernel) (z' := (94, [(0, (vR 10 l0)), (1, (vI l1)), (2, (vI l2)), (3, (vI v3)), (4, (vI v4))], [], R, M, 174)) (cs := [M (R l0 69) (Int.toNat v4) ≠ l1]) (by rfl) ⟨c_6, trivial⟩ (Nat.le_refl _) ?_
          exact o_M_holesOf_J94 ih h
      · skip
        refine s_M_holesOf [(45, .if_icmp .ne 49, 0, 94)] (by decide +kernel) (z' := (94, [(0, (vR 10 l0)), (1, (vI l1)), (2, (vI l2)), (3, (vI v3)), (4, (vI v4))], [], R, M, 174)) (cs := [M (R l0 68) (Int.toNat v4) ≠ 1]) (by rfl) ⟨c_5, trivial⟩ (Nat.le_refl _) ?_
        exact o_M_holesOf_J94 ih h
    · skip
      refine s_M_holesOf [(34, .if_icmp .ge 66, 0, 100), (100, .iload_n 3, 0, 0)] (by decide +kernel) (z' := (101, [(0, (vR 10 l0)), (1, (vI l1)), (2, (vI l2)), (3, (vI v3)), (4, (vI v4))], [(vI v3)], R, M, 174)) (cs := [M l0 60 ≤ v4]) (by rfl) ⟨Int.not_lt.mp c_3, trivial⟩ (Nat.le_refl _) ?_
      obtain rfl := Option.some.inj h
      exact XR.retI .int rfl rfl (by decide +kernel)
set_option maxRecDepth 100000 in
set_option maxHeartbeats 4000000 in
theorem o_M_holesOf_J24 {sc : List Int} {R : xR} {M : xM}  {l0 : Nat} {l1 : Int} {l2 : Int}  {s0 : Int} {out : Int} (h : M_holesOf_J24 R M l0 l1 l2  s0 = some out) : XR false 0 174 sc y_M_holesOf (24, [(0, (vR 10 l0)), (1, (vI l1)), (2, (vI l2))], [(vI s0)], R, M, 174) ((some (vI out)), R, M) := by
  unfold M_holesOf_J24 at h
  refine s_M_holesOf [(24, .istore_n 3, 0, 0), (25, .iconst 0, 0, 0), (26, .istore 4, 0, 0)] (by decide +kernel) (z' := (28, [(4, (vI 0)), (3, (vI s0)), (0, (vR 10 l0)), (1, (vI l1)), (2, (vI l2))], [], R, M, 174)) (cs := []) (by rfl) trivial (Nat.le_refl _) ?_
  refine XR.pick [2, 3, 4, 1, 0] (ls' := [(0, (vR 10 l0)), (1, (vI l1)), (2, (vI l2)), (3, (vI s0)), (4, (vI 0))]) rfl ?_
  refine o_M_holesOf_F28  xfu s0 0 _ h
set_option maxRecDepth 100000 in
set_option maxHeartbeats 4000000 in
theorem o_M_holesOf {sc : List Int} {R : xR} {M : xM} {l0 : Nat} {l1 : Int} {l2 : Int} {out : Int} (h : f_M_holesOf R l0 l1 l2 M = some out) : XR false 0 174 sc y_M_holesOf (0, [(0, (vR 10 l0)), (1, (vI l1)), (2, (vI l2))], [], R, M, 174) ((some (vI out)), R, M) := by
  unfold f_M_holesOf at h
  refine s_M_holesOf [(0, .aload_n 0, 0, 0), (1, .getfield 172, 10, 74), (4, .iload_n 1, 0, 0)] (by decide +kernel) (z' := (5, [(0, (vR 10 l0)), (1, (vI l1)), (2, (vI l2))], [(vI l1), (vI (M l0 74))], R, M, 174)) (cs := []) (by rfl) trivial (Nat.le_refl _) ?_
  rcases xif_ex h with ⟨c_1, h⟩ | ⟨c_1, h⟩
  · skip
    refine s_M_holesOf [(5, .if_icmp .ne 18, 0, (-1)), (8, .aload_n 0, 0, 0), (9, .getfield 458, 10, 75), (12, .iload_n 2, 0, 0)] (by decide +kernel) (z' := (13, [(0, (vR 10 l0)), (1, (vI l1)), (2, (vI l2))], [(vI l2), (vI (M l0 75))], R, M, 174)) (cs := [¬ (M l0 74 ≠ l1)]) (by rfl) ⟨fun q => q c_1, trivial⟩ (Nat.le_refl _) ?_
    rcases xif_ex h with ⟨c_2, h⟩ | ⟨c_2, h⟩
    · skip
      refine s_M_holesOf [(13, .if_icmp .gt 10, 0, 23), (23, .iconst 0, 0, 0)] (by decide +kernel) (z' := (24, [(0, (vR 10 l0)), (1, (vI l1)), (2, (vI l2))], [(vI 0)], R, M, 174)) (cs := [l2 < M l0 75]) (by rfl) ⟨c_2, trivial⟩ (Nat.le_refl _) ?_
      exact o_M_holesOf_J24  h
    · skip
      refine s_M_holesOf [(13, .if_icmp .gt 10, 0, (-1)), (16, .aload_n 0, 0, 0), (17, .getfield 461, 10, 76), (20, .goto 4, 0, 24)] (by decide +kernel) (z' := (24, [(0, (vR 10 l0)), (1, (vI l1)), (2, (vI l2))], [(vI (M l0 76))], R, M, 174)) (cs := [¬ (l2 < M l0 75)]) (by rfl) ⟨c_2, trivial⟩ (Nat.le_refl _) ?_
      exact o_M_holesOf_J24  h
  · skip
    refine s_M_holesOf [(5, .if_icmp .ne 18, 0, 23), (23, .iconst 0, 0, 0)] (by decide +kernel) (z' := (24, [(0, (vR 10 l0)), (1, (vI l1)), (2, (vI l2))], [(vI 0)], R, M, 174)) (cs := [M l0 74 ≠ l1]) (by rfl) ⟨c_1, trivial⟩ (Nat.le_refl _) ?_
    exact o_M_holesOf_J24  h
set_option maxRecDepth 100000 in
set_option maxHeartbeats 4000000 in
theorem c_M_holesOf {sc : List Int} {R : xR} {M : xM} {l0 : Nat} {l1 : Int} {l2 : Int} {out : Int} (h : f_M_holesOf R l0 l1 l2 M = some out) : XC false 0 sc y_M_holesOf [(vR 10 l0), (vI l1), (vI l2)] R M 174 174 ((some (vI out)), R, M) := XC.of (by decide) (Nat.le_of_ble_eq_true rfl) (Nat.le_refl _) (Nat.le_refl _) (o_M_holesOf h)
def f_M_holdsNow (R : xR) (l0 : Nat) (l1 : Int) (l2 : Int) (l3 : Int) (l4 : Int) (M : xM) : Option Int :=
  xch (0 ≤ w32 ((w32 (4 * l1)) + l2) ∧ w32 ((w32 (4 * l1)) + l2) < 32) <|
  xl (M (R l0 33) (Int.toNat (w32 ((w32 (4 * l1)) + l2)))) fun v5_2 =>
  xb1 (f_M_isOff R l0 l1 l3 M) fun r_3 =>
  if r_3 = 0 then
    xch (0 ≤ l1 ∧ l1 < 8) <|
    if M (R l0 32) (Int.toNat l1) = 1 then
      if l4 < M (R l0 34) (Int.toNat l1) then
        some (v5_2)
      else
        some (w32 (Int.tdiv v5_2 2))
    else
      if M (R l0 32) (Int.toNat l1) = 2 then
        if l4 < M (R l0 34) (Int.toNat l1) then
          xb1 (f_M_holesOf R l0 l1 l3 M) fun r_11 =>
          some (xmax 0 (w32 (v5_2 - r_11)))
        else
          some (0)
      else
        if M (R l0 32) (Int.toNat l1) = 3 then
          xch (0 ≤ l3 ∧ l3 < 48) <|
          if M (R l0 73) (Int.toNat l3) < M (R l0 34) (Int.toNat l1) then
            some (v5_2)
          else
            some (0)
        else
          some (v5_2)
  else
    some (0)
set_option maxRecDepth 100000 in
set_option maxHeartbeats 4000000 in
theorem s_M_holdsNow {d : Nat} {sc : List Int} {z z' : xS} {out : xO} (qs : List xI) {cs : List Prop} (hq : qs.all (xqb 10 false y_M_holdsNow.2.2.1 y_M_holdsNow.2.1) = true) (h : xN false sc qs z = some (z', cs)) (hc : xAll cs) (hE : z'.2.2.2.2.2 ≤ 174) (k : XR false d 174 sc y_M_holdsNow z' out) : XR false d 174 sc y_M_holdsNow z out := XR.seg 10 false rfl (fun q => by cases q) qs hq h hc hE k
set_option maxRecDepth 100000 in
set_option maxHeartbeats 4000000 in
theorem o_M_holdsNow {sc : List Int} {R : xR} {M : xM} {l0 : Nat} {l1 : Int} {l2 : Int} {l3 : Int} {l4 : Int} {out : Int} (h : f_M_holdsNow R l0 l1 l2 l3 l4 M = some out) : XR false 1 174 sc y_M_holdsNow (0, [(0, (vR 10 l0)), (1, (vI l1)), (2, (vI l2)), (3, (vI l3)), (4, (vI l4))], [], R, M, 174) ((some (vI out)), R, M) := by
  unfold f_M_holdsNow at h
  obtain ⟨c_1, h⟩ := xch_ex h
  obtain ⟨v5_2, hv5_2, h⟩ := xl_ex h
  refine s_M_holdsNow [(0, .aload_n 0, 0, 0), (1, .getfield 70, 10, 33), (4, .iconst 4, 0, 4), (5, .iload_n 1, 0, 0), (6, .imul, 0, 0), (7, .iload_n 2, 0, 0), (8, .iadd, 0, 0), (9, .iaload, 0, 0), (10, .istore 5, 0, 0), (12, .aload_n 0, 0, 0), (13, .iload_n 1, 0, 0), (14, .iload_n 3, 0, 0)] (by decide +kernel) (z' := (15, [(5, (vI v5_2)), (0, (vR 10 l0)), (1, (vI l1)), (2, (vI l2)), (3, (vI l3)), (4, (vI l4))], [(vI l3), (vI l1), (vR 10 l0)], R, M, 174)) (cs := [xar 27 0, xidx (w32 ((w32 (4 * l1)) + l2)) (xan 27)]) (by subst hv5_2; rfl) ⟨xar_27, xix_27 c_1, trivial⟩ (Nat.le_refl _) ?_
  obtain ⟨r_3, e_4, h⟩ := xb1_ex h
  refine XR.callV 10 rfl (rest := []) m_M_isOff k_10_464 10 l0 (Or.inl ⟨by decide, rfl⟩) [(vI l1), (vI l3)] rfl rfl (c_M_isOff e_4) (by decide) (Nat.le_of_ble_eq_true rfl) (by decide +kernel) (Nat.le_refl _) (Nat.le_refl _) ?_
  show XR false 1 174 sc y_M_holdsNow (18, [(5, (vI v5_2)), (0, (vR 10 l0)), (1, (vI l1)), (2, (vI l2)), (3, (vI l3)), (4, (vI l4))], [(vI r_3)], R, M, 174) _
  rcases xif_ex h with ⟨c_5, h⟩ | ⟨c_5, h⟩
  · skip
    obtain ⟨c_6, h⟩ := xch_ex h
    refine s_M_holdsNow [(18, .ifCond .eq 5, 0, 23), (23, .aload_n 0, 0, 0), (24, .getfield 67, 10, 32), (27, .iload_n 1, 0, 0), (28, .iaload, 0, 0), (29, .iconst 1, 0, 1)] (by decide +kernel) (z' := (30, [(5, (vI v5_2)), (0, (vR 10 l0)), (1, (vI l1)), (2, (vI l2)), (3, (vI l3)), (4, (vI l4))], [(vI 1), (vI (M (R l0 32) (Int.toNat l1)))], R, M, 174)) (cs := [r_3 = 0, xar 30 0, xidx l1 (xan 30)]) (by rfl) ⟨c_5, xar_30, xix_30 c_6, trivial⟩ (Nat.le_refl _) ?_
    rcases xif_ex h with ⟨c_7, h⟩ | ⟨c_7, h⟩
    · skip
      refine s_M_holdsNow [(30, .if_icmp .ne 24, 0, (-1)), (33, .iload 4, 0, 0), (35, .aload_n 0, 0, 0), (36, .getfield 73, 10, 34), (39, .iload_n 1, 0, 0), (40, .iaload, 0, 0)] (by decide +kernel) (z' := (41, [(5, (vI v5_2)), (0, (vR 10 l0)), (1, (vI l1)), (2, (vI l2)), (3, (vI l3)), (4, (vI l4))], [(vI (M (R l0 34) (Int.toNat l1))), (vI l4)], R, M, 174)) (cs := [¬ (M (R l0 32) (Int.toNat l1) ≠ 1), xar 30 0, xidx l1 (xan 30)]) (by rfl) ⟨fun q => q c_7, xar_30, xix_30 c_6, trivial⟩ (Nat.le_refl _) ?_
      rcases xif_ex h with ⟨c_8, h⟩ | ⟨c_8, h⟩
      · skip
        refine s_M_holdsNow [(41, .if_icmp .lt 10, 0, 51), (51, .iload 5, 0, 0)] (by decide +kernel) (z' := (53, [(5, (vI v5_2)), (0, (vR 10 l0)), (1, (vI l1)), (2, (vI l2)), (3, (vI l3)), (4, (vI l4))], [(vI v5_2)], R, M, 174)) (cs := [l4 < M (R l0 34) (Int.toNat l1)]) (by rfl) ⟨c_8, trivial⟩ (Nat.le_refl _) ?_
        obtain rfl := Option.some.inj h
        exact XR.retI .int rfl rfl (by decide +kernel)
      · skip
        refine s_M_holdsNow [(41, .if_icmp .lt 10, 0, (-1)), (44, .iload 5, 0, 0), (46, .iconst 2, 0, 2), (47, .idiv, 0, 0), (48, .goto 5, 0, 53)] (by decide +kernel) (z' := (53, [(5, (vI v5_2)), (0, (vR 10 l0)), (1, (vI l1)), (2, (vI l2)), (3, (vI l3)), (4, (vI l4))], [(vI (w32 (Int.tdiv v5_2 2)))], R, M, 174)) (cs := [¬ (l4 < M (R l0 34) (Int.toNat l1)), (2 : Int) ≠ 0]) (by rfl) ⟨c_8, by decide, trivial⟩ (Nat.le_refl _) ?_
        obtain rfl := Option.some.inj h
        exact XR.retI .int rfl rfl (by decide +kernel)
    · skip
      refine s_M_holdsNow [(30, .if_icmp .ne 24, 0, 54), (54, .aload_n 0, 0, 0), (55, .getfield 67, 10, 32), (58, .iload_n 1, 0, 0), (59, .iaload, 0, 0), (60, .iconst 2, 0, 2)] (by decide +kernel) (z' := (61, [(5, (vI v5_2)), (0, (vR 10 l0)), (1, (vI l1)), (2, (vI l2)), (3, (vI l3)), (4, (vI l4))], [(vI 2), (vI (M (R l0 32) (Int.toNat l1)))], R, M, 174)) (cs := [M (R l0 32) (Int.toNat l1) ≠ 1, xar 30 0, xidx l1 (xan 30)]) (by rfl) ⟨c_7, xar_30, xix_30 c_6, trivial⟩ (Nat.le_refl _) ?_
      rcases xif_ex h with ⟨c_9, h⟩ | ⟨c_9, h⟩
      · skip
        refine s_M_holdsNow [(61, .if_icmp .ne 32, 0, (-1)), (64, .iload 4, 0, 0), (66, .aload_n 0, 0, 0), (67, .getfield 73, 10, 34), (70, .iload_n 1, 0, 0), (71, .iaload, 0, 0)] (by decide +kernel) (z' := (72, [(5, (vI v5_2)), (0, (vR 10 l0)), (1, (vI l1)), (2, (vI l2)), (3, (vI l3)), (4, (vI l4))], [(vI (M (R l0 34) (Int.toNat l1))), (vI l4)], R, M, 174)) (cs := [¬ (M (R l0 32) (Int.toNat l1) ≠ 2), xar 30 0, xidx l1 (xan 30)]) (by rfl) ⟨fun q => q c_9, xar_30, xix_30 c_6, trivial⟩ (Nat.le_refl _) ?_
        rcases xif_ex h with ⟨c_10, h⟩ | ⟨c_10, h⟩
        · skip
          refine s_M_holdsNow [(72, .if_icmp .lt 7, 0, 79), (79, .iconst 0, 0, 0), (80, .iload 5, 0, 0), (82, .aload_n 0, 0, 0), (83, .iload_n 1, 0, 0), (84, .iload_n 3, 0, 0)] (by decide +kernel) (z' := (85, [(5, (vI v5_2)), (0, (vR 10 l0)), (1, (vI l1)), (2, (vI l2)), (3, (vI l3)), (4, (vI l4))], [(vI l3), (vI l1), (vR 10 l0), (vI v5_2), (vI 0)], R, M, 174)) (cs := [l4 < M (R l0 34) (Int.toNat l1)]) (by rfl) ⟨c_10, trivial⟩ (Nat.le_refl _) ?_
          obtain ⟨r_11, e_12, h⟩ := xb1_ex h
          refine XR.callV 10 rfl (rest := [(vI v5_2), (vI 0)]) m_M_holesOf k_10_468 10 l0 (Or.inl ⟨by decide, rfl⟩) [(vI l1), (vI l3)] rfl rfl (c_M_holesOf e_12) (by decide) (Nat.le_of_ble_eq_true rfl) (by decide +kernel) (Nat.le_refl _) (Nat.le_refl _) ?_
          show XR false 1 174 sc y_M_holdsNow (88, [(5, (vI v5_2)), (0, (vR 10 l0)), (1, (vI l1)), (2, (vI l2)), (3, (vI l3)), (4, (vI l4))], [(vI r_11), (vI v5_2), (vI 0)], R, M, 174) _
          refine s_M_holdsNow [(88, .isub, 0, 0)] (by decide +kernel) (z' := (89, [(5, (vI v5_2)), (0, (vR 10 l0)), (1, (vI l1)), (2, (vI l2)), (3, (vI l3)), (4, (vI l4))], [(vI (w32 (v5_2 - r_11))), (vI 0)], R, M, 174)) (cs := []) (by rfl) trivial (Nat.le_refl _) ?_
          refine XR.mmax 10 rfl (rest := []) k_10_471 k_mmaxS k_mini k_mmaxC (Nat.le_refl _) (by decide) (Nat.le_of_ble_eq_true rfl) (by decide +kernel) ?_
          obtain rfl := Option.some.inj h
          exact XR.retI .int rfl rfl (by decide +kernel)
        · skip
          refine s_M_holdsNow [(72, .if_icmp .lt 7, 0, (-1)), (75, .iconst 0, 0, 0), (76, .goto 16, 0, 92)] (by decide +kernel) (z' := (92, [(5, (vI v5_2)), (0, (vR 10 l0)), (1, (vI l1)), (2, (vI l2)), (3, (vI l3)), (4, (vI l4))], [(vI 0)], R, M, 174)) (cs := [¬ (l4 < M (R l0 34) (Int.toNat l1))]) (by rfl) ⟨c_10, trivial⟩ (Nat.le_refl _) ?_
          obtain rfl := Option.some.inj h
          exact XR.retI .int rfl rfl (by decide +kernel)
      · skip
        refine s_M_holdsNow [(61, .if_icmp .ne 32, 0, 93), (93, .aload_n 0, 0, 0), (94, .getfield 67, 10, 32), (97, .iload_n 1, 0, 0), (98, .iaload, 0, 0), (99, .iconst 3, 0, 3)] (by decide +kernel) (z' := (100, [(5, (vI v5_2)), (0, (vR 10 l0)), (1, (vI l1)), (2, (vI l2)), (3, (vI l3)), (4, (vI l4))], [(vI 3), (vI (M (R l0 32) (Int.toNat l1)))], R, M, 174)) (cs := [M (R l0 32) (Int.toNat l1) ≠ 2, xar 30 0, xidx l1 (xan 30)]) (by rfl) ⟨c_9, xar_30, xix_30 c_6, trivial⟩ (Nat.le_refl _) ?_
        rcases xif_ex h with ⟨c_13, h⟩ | ⟨c_13, h⟩
        · skip
          obtain ⟨c_14, h⟩ := xch_ex h
          refine s_M_holdsNow [(100, .if_icmp .ne 22, 0, (-1)), (103, .aload_n 0, 0, 0), (104, .getfield 169, 10, 73), (107, .iload_n 3, 0, 0), (108, .iaload, 0, 0), (109, .aload_n 0, 0, 0), (110, .getfield 73, 10, 34), (113, .iload_n 1, 0, 0), (114, .iaload, 0, 0)] (by decide +kernel) (z' := (115, [(5, (vI v5_2)), (0, (vR 10 l0)), (1, (vI l1)), (2, (vI l2)), (3, (vI l3)), (4, (vI l4))], [(vI (M (R l0 34) (Int.toNat l1))), (vI (M (R l0 73) (Int.toNat l3)))], R, M, 174)) (cs := [¬ (M (R l0 32) (Int.toNat l1) ≠ 3), xar 22 0, xidx l3 (xan 22), xar 30 0, xidx l1 (xan 30)]) (by rfl) ⟨fun q => q c_13, xar_22, xix_22 c_14, xar_30, xix_30 c_6, trivial⟩ (Nat.le_refl _) ?_
          rcases xif_ex h with ⟨c_15, h⟩ | ⟨c_15, h⟩
          · skip
            refine s_M_holdsNow [(115, .if_icmp .lt 7, 0, 122), (122, .iload 5, 0, 0)] (by decide +kernel) (z' := (124, [(5, (vI v5_2)), (0, (vR 10 l0)), (1, (vI l1)), (2, (vI l2)), (3, (vI l3)), (4, (vI l4))], [(vI v5_2)], R, M, 174)) (cs := [M (R l0 73) (Int.toNat l3) < M (R l0 34) (Int.toNat l1)]) (by rfl) ⟨c_15, trivial⟩ (Nat.le_refl _) ?_
            obtain rfl := Option.some.inj h
            exact XR.retI .int rfl rfl (by decide +kernel)
          · skip
            refine s_M_holdsNow [(115, .if_icmp .lt 7, 0, (-1)), (118, .iconst 0, 0, 0), (119, .goto 5, 0, 124)] (by decide +kernel) (z' := (124, [(5, (vI v5_2)), (0, (vR 10 l0)), (1, (vI l1)), (2, (vI l2)), (3, (vI l3)), (4, (vI l4))], [(vI 0)], R, M, 174)) (cs := [¬ (M (R l0 73) (Int.toNat l3) < M (R l0 34) (Int.toNat l1))]) (by rfl) ⟨c_15, trivial⟩ (Nat.le_refl _) ?_
            obtain rfl := Option.some.inj h
            exact XR.retI .int rfl rfl (by decide +kernel)
        · skip
          refine s_M_holdsNow [(100, .if_icmp .ne 22, 0, 122), (122, .iload 5, 0, 0)] (by decide +kernel) (z' := (124, [(5, (vI v5_2)), (0, (vR 10 l0)), (1, (vI l1)), (2, (vI l2)), (3, (vI l3)), (4, (vI l4))], [(vI v5_2)], R, M, 174)) (cs := [M (R l0 32) (Int.toNat l1) ≠ 3]) (by rfl) ⟨c_13, trivial⟩ (Nat.le_refl _) ?_
          obtain rfl := Option.some.inj h
          exact XR.retI .int rfl rfl (by decide +kernel)
  · skip
    refine s_M_holdsNow [(18, .ifCond .eq 5, 0, (-1)), (21, .iconst 0, 0, 0)] (by decide +kernel) (z' := (22, [(5, (vI v5_2)), (0, (vR 10 l0)), (1, (vI l1)), (2, (vI l2)), (3, (vI l3)), (4, (vI l4))], [(vI 0)], R, M, 174)) (cs := [¬ (r_3 = 0)]) (by rfl) ⟨c_5, trivial⟩ (Nat.le_refl _) ?_
    obtain rfl := Option.some.inj h
    exact XR.retI .int rfl rfl (by decide +kernel)
set_option maxRecDepth 100000 in
set_option maxHeartbeats 4000000 in
theorem c_M_holdsNow {sc : List Int} {R : xR} {M : xM} {l0 : Nat} {l1 : Int} {l2 : Int} {l3 : Int} {l4 : Int} {out : Int} (h : f_M_holdsNow R l0 l1 l2 l3 l4 M = some out) : XC false 1 sc y_M_holdsNow [(vR 10 l0), (vI l1), (vI l2), (vI l3), (vI l4)] R M 174 174 ((some (vI out)), R, M) := XC.of (by decide) (Nat.le_of_ble_eq_true rfl) (Nat.le_refl _) (Nat.le_refl _) (o_M_holdsNow h)
def f_M_hasLayer (R : xR) (l0 : Nat) (l1 : Int) (M : xM) : Option Int :=
  xch (0 ≤ l1 ∧ l1 < 8) <|
  if M (R l0 32) (Int.toNat l1) = 1 then
    some (1)
  else
    if M (R l0 32) (Int.toNat l1) = 2 then
      some (1)
    else
      some (0)
set_option maxRecDepth 100000 in
set_option maxHeartbeats 4000000 in
theorem s_M_hasLayer {d : Nat} {sc : List Int} {z z' : xS} {out : xO} (qs : List xI) {cs : List Prop} (hq : qs.all (xqb 10 false y_M_hasLayer.2.2.1 y_M_hasLayer.2.1) = true) (h : xN false sc qs z = some (z', cs)) (hc : xAll cs) (hE : z'.2.2.2.2.2 ≤ 174) (k : XR false d 174 sc y_M_hasLayer z' out) : XR false d 174 sc y_M_hasLayer z out := XR.seg 10 false rfl (fun q => by cases q) qs hq h hc hE k
set_option maxRecDepth 100000 in
set_option maxHeartbeats 4000000 in
theorem o_M_hasLayer {sc : List Int} {R : xR} {M : xM} {l0 : Nat} {l1 : Int} {out : Int} (h : f_M_hasLayer R l0 l1 M = some out) : XR false 0 174 sc y_M_hasLayer (0, [(0, (vR 10 l0)), (1, (vI l1))], [], R, M, 174) ((some (vI out)), R, M) := by
  unfold f_M_hasLayer at h
  obtain ⟨c_1, h⟩ := xch_ex h
  refine s_M_hasLayer [(0, .aload_n 0, 0, 0), (1, .getfield 67, 10, 32), (4, .iload_n 1, 0, 0), (5, .iaload, 0, 0), (6, .iconst 1, 0, 1)] (by decide +kernel) (z' := (7, [(0, (vR 10 l0)), (1, (vI l1))], [(vI 1), (vI (M (R l0 32) (Int.toNat l1)))], R, M, 174)) (cs := [xar 30 0, xidx l1 (xan 30)]) (by rfl) ⟨xar_30, xix_30 c_1, trivial⟩ (Nat.le_refl _) ?_
  rcases xif_ex h with ⟨c_2, h⟩ | ⟨c_2, h⟩
  · skip
    refine s_M_hasLayer [(7, .if_icmp .eq 13, 0, 20), (20, .iconst 1, 0, 1), (21, .goto 4, 0, 25)] (by decide +kernel) (z' := (25, [(0, (vR 10 l0)), (1, (vI l1))], [(vI 1)], R, M, 174)) (cs := [M (R l0 32) (Int.toNat l1) = 1]) (by rfl) ⟨c_2, trivial⟩ (Nat.le_refl _) ?_
    obtain rfl := Option.some.inj h
    exact XR.retI .boolean rfl (xnar_z (by decide)) (by decide +kernel)
  · skip
    refine s_M_hasLayer [(7, .if_icmp .eq 13, 0, (-1)), (10, .aload_n 0, 0, 0), (11, .getfield 67, 10, 32), (14, .iload_n 1, 0, 0), (15, .iaload, 0, 0), (16, .iconst 2, 0, 2)] (by decide +kernel) (z' := (17, [(0, (vR 10 l0)), (1, (vI l1))], [(vI 2), (vI (M (R l0 32) (Int.toNat l1)))], R, M, 174)) (cs := [¬ (M (R l0 32) (Int.toNat l1) = 1), xar 30 0, xidx l1 (xan 30)]) (by rfl) ⟨c_2, xar_30, xix_30 c_1, trivial⟩ (Nat.le_refl _) ?_
    rcases xif_ex h with ⟨c_3, h⟩ | ⟨c_3, h⟩
    · skip
      refine s_M_hasLayer [(17, .if_icmp .ne 7, 0, (-1)), (20, .iconst 1, 0, 1), (21, .goto 4, 0, 25)] (by decide +kernel) (z' := (25, [(0, (vR 10 l0)), (1, (vI l1))], [(vI 1)], R, M, 174)) (cs := [¬ (M (R l0 32) (Int.toNat l1) ≠ 2)]) (by rfl) ⟨fun q => q c_3, trivial⟩ (Nat.le_refl _) ?_
      obtain rfl := Option.some.inj h
      exact XR.retI .boolean rfl (xnar_z (by decide)) (by decide +kernel)
    · skip
      refine s_M_hasLayer [(17, .if_icmp .ne 7, 0, 24), (24, .iconst 0, 0, 0)] (by decide +kernel) (z' := (25, [(0, (vR 10 l0)), (1, (vI l1))], [(vI 0)], R, M, 174)) (cs := [M (R l0 32) (Int.toNat l1) ≠ 2]) (by rfl) ⟨c_3, trivial⟩ (Nat.le_refl _) ?_
      obtain rfl := Option.some.inj h
      exact XR.retI .boolean rfl (xnar_z (by decide)) (by decide +kernel)
set_option maxRecDepth 100000 in
set_option maxHeartbeats 4000000 in
theorem c_M_hasLayer {sc : List Int} {R : xR} {M : xM} {l0 : Nat} {l1 : Int} {out : Int} (h : f_M_hasLayer R l0 l1 M = some out) : XC false 0 sc y_M_hasLayer [(vR 10 l0), (vI l1)] R M 174 174 ((some (vI out)), R, M) := XC.of (by decide) (Nat.le_of_ble_eq_true rfl) (Nat.le_refl _) (Nat.le_refl _) (o_M_hasLayer h)
def M_sends_F15 (R : xR) (l0 : Nat) (l1 : Int) (l2 : Int) (l3 : Int) (l4 : Int) (q90 : Int → Int → xM → Option xM) : Nat → Int → Int → Int → xM → Option xM
  | 0, _, _, _, _ => none
  | n + 1, v5, v6, v7, M =>
    if v7 < v6 then
      xch (0 ≤ w32 ((w32 (8 * l1)) + v7) ∧ w32 ((w32 (8 * l1)) + v7) < 64) <|
      xch (0 ≤ v7 ∧ v7 < 8) <|
      xl (xu M (R l0 87) (Int.toNat v7) (w32 (Int.tdiv (w32 (l4 * (M (R l0 38) (Int.toNat (w32 ((w32 (8 * l1)) + v7)))))) 100))) fun M_6 =>
      xl (xu M_6 (R l0 88) (Int.toNat v7) (Int.tmod (w32 (l4 * (M_6 (R l0 38) (Int.toNat (w32 ((w32 (8 * l1)) + v7)))))) 100)) fun M_7 =>
      xl (w32 (v5 - (M_7 (R l0 87) (Int.toNat v7)))) fun v5_8 =>
      xl (w32 (v7 + 1)) fun v7_9 =>
      M_sends_F15 R l0 l1 l2 l3 l4 q90 n v5_8 v6 v7_9 M_7
    else
      q90 v5 v6 M
def M_sends_J129 (R : xR) (l0 : Nat) (l1 : Int) (l2 : Int) (l3 : Int) (rc : Int → Int → Int → Int → xM → Option xM) (q135 : Int → Int → Int → xM → Option xM) (v5 : Int) (v6 : Int) (v7 : Int) (v8 : Int) (M : xM) : Option xM :=
  xl (w32 (v8 + 1)) fun v8_18 =>
  rc v5 v6 v7 v8_18 M
def M_sends_F101 (R : xR) (l0 : Nat) (l1 : Int) (l2 : Int) (l3 : Int) (q135 : Int → Int → Int → xM → Option xM) : Nat → Int → Int → Int → Int → xM → Option xM
  | 0, _, _, _, _, _ => none
  | n + 1, v5, v6, v7, v8, M =>
    if v8 < v6 then
      xch (0 ≤ v8 ∧ v8 < 8) <|
      xch (0 ≤ v7 ∧ v7 < 8) <|
      if M (R l0 88) (Int.toNat v7) < M (R l0 88) (Int.toNat v8) then
        M_sends_J129 R l0 l1 l2 l3 (M_sends_F101 R l0 l1 l2 l3 q135 n) q135 v5 v6 v8 v8 M
      else
        M_sends_J129 R l0 l1 l2 l3 (M_sends_F101 R l0 l1 l2 l3 q135 n) q135 v5 v6 v7 v8 M
    else
      q135 v5 v6 v7 M
def M_sends_F90 (R : xR) (l0 : Nat) (l1 : Int) (l2 : Int) (l3 : Int) (q160 : Int → xM → Option xM) : Nat → Int → Int → xM → Option xM
  | 0, _, _, _ => none
  | n + 1, v5, v6, M =>
    if 0 < v5 then
      M_sends_F101 R l0 l1 l2 l3
        (fun (v5_19 : Int) (v6_20 : Int) (v7_21 : Int) (M_22 : xM) =>
          xch (0 ≤ v7_21 ∧ v7_21 < 8) <|
          xl (xu M_22 (R l0 88) (Int.toNat v7_21) (-1)) fun M_24 =>
          xl (xu M_24 (R l0 87) (Int.toNat v7_21) (w32 ((M_24 (R l0 87) (Int.toNat v7_21)) + 1))) fun M_25 =>
          xl (w32 (v5_19 + (-1))) fun v5_26 =>
          M_sends_F90 R l0 l1 l2 l3 q160 n v5_26 v6_20 M_25)
        xfu v5 v6 0 1 M
    else
      q160 v6 M
def M_sends_J235 (R : xR) (l0 : Nat) (l1 : Int) (l2 : Int) (l3 : Int) (rc : Int → Int → xM → Option xM) (v6 : Int) (v7 : Int) (M : xM) : Option xM :=
  xl (w32 (v7 + 1)) fun v7_36 =>
  rc v6 v7_36 M
def M_sends_F163 (R : xR) (l0 : Nat) (l1 : Int) (l2 : Int) (l3 : Int) : Nat → Int → Int → xM → Option xM
  | 0, _, _, _ => none
  | n + 1, v6, v7, M =>
    if v7 < v6 then
      xch (0 ≤ w32 ((w32 (8 * l1)) + v7) ∧ w32 ((w32 (8 * l1)) + v7) < 64) <|
      xl (M (R l0 37) (Int.toNat (w32 ((w32 (8 * l1)) + v7)))) fun v8_31 =>
      if v8_31 = 8 then
        xch (0 ≤ w32 ((w32 (4 * l3)) + l2) ∧ w32 ((w32 (4 * l3)) + l2) < 192) <|
        xch (0 ≤ v7 ∧ v7 < 8) <|
        xl (xu M (R l0 80) (Int.toNat (w32 ((w32 (4 * l3)) + l2))) (w32 ((M (R l0 80) (Int.toNat (w32 ((w32 (4 * l3)) + l2)))) + (M (R l0 87) (Int.toNat v7))))) fun M_35 =>
        M_sends_J235 R l0 l1 l2 l3 (M_sends_F163 R l0 l1 l2 l3  n) v6 v7 M_35
      else
        xch (0 ≤ w32 ((w32 (4 * v8_31)) + l2) ∧ w32 ((w32 (4 * v8_31)) + l2) < 32) <|
        xch (0 ≤ v7 ∧ v7 < 8) <|
        xl (xu M (R l0 81) (Int.toNat (w32 ((w32 (4 * v8_31)) + l2))) (w32 ((M (R l0 81) (Int.toNat (w32 ((w32 (4 * v8_31)) + l2)))) + (M (R l0 87) (Int.toNat v7))))) fun M_39 =>
        M_sends_J235 R l0 l1 l2 l3 (M_sends_F163 R l0 l1 l2 l3  n) v6 v7 M_39
    else
      some (M)
def f_M_sends (R : xR) (l0 : Nat) (l1 : Int) (l2 : Int) (l3 : Int) (l4 : Int) (M : xM) : Option xM :=
  xch (0 ≤ l1 ∧ l1 < 8) <|
  xl (M (R l0 36) (Int.toNat l1)) fun v6_2 =>
  M_sends_F15 R l0 l1 l2 l3 l4
    (fun (v5_10 : Int) (v6_11 : Int) (M_12 : xM) =>
      M_sends_F90 R l0 l1 l2 l3
        (fun (v6_27 : Int) (M_28 : xM) =>
          M_sends_F163 R l0 l1 l2 l3
            xfu v6_27 0 M_28)
        xfu v5_10 v6_11 M_12)
    xfu l4 v6_2 0 M
set_option maxRecDepth 100000 in
set_option maxHeartbeats 4000000 in
theorem s_M_sends {d : Nat} {sc : List Int} {z z' : xS} {out : xO} (qs : List xI) {cs : List Prop} (hq : qs.all (xqb 10 false y_M_sends.2.2.1 y_M_sends.2.1) = true) (h : xN false sc qs z = some (z', cs)) (hc : xAll cs) (hE : z'.2.2.2.2.2 ≤ 174) (k : XR false d 174 sc y_M_sends z' out) : XR false d 174 sc y_M_sends z out := XR.seg 10 false rfl (fun q => by cases q) qs hq h hc hE k
set_option maxRecDepth 100000 in
set_option maxHeartbeats 4000000 in
theorem o_M_sends_F15 {sc : List Int} {R : xR}   {l0 : Nat} {l1 : Int} {l2 : Int} {l3 : Int} {l4 : Int}  {q90 : Int → Int → xM → Option xM} (hq90 : ∀ (w5 : Int) (w6 : Int) (M : xM) (out : xM), q90 w5 w6 M = some out → XR false 0 174 sc y_M_sends (90, [(0, (vR 10 l0)), (1, (vI l1)), (2, (vI l2)), (3, (vI l3)), (5, (vI w5)), (6, (vI w6))], [], R, M, 174) (none, R, out)) : ∀ (n : Nat) (v5 : Int) (v6 : Int) (v7 : Int) (M : xM) (out : xM), M_sends_F15 R l0 l1 l2 l3 l4 q90 n v5 v6 v7 M = some out → XR false 0 174 sc y_M_sends (15, [(0, (vR 10 l0)), (1, (vI l1)), (2, (vI l2)), (3, (vI l3)), (4, (vI l4)), (5, (vI v5)), (6, (vI v6)), (7, (vI v7))], [], R, M, 174) (none, R, out) := by
  intro n
  induction n with
  | zero => intro v5 v6 v7 M out h; exact (xno h).elim
  | succ n ih =>
    intro v5 v6 v7 M out h
    rw [M_sends_F15] at h
    refine s_M_sends [(15, .iload 7, 0, 0), (17, .iload 6, 0, 0)] (by decide +kernel) (z' := (19, [(0, (vR 10 l0)), (1, (vI l1)), (2, (vI l2)), (3, (vI l3)), (4, (vI l4)), (5, (vI v5)), (6, (vI v6)), (7, (vI v7))], [(vI v6), (vI v7)], R, M, 174)) (cs := []) (by rfl) trivial (Nat.le_refl _) ?_
    rcases xif_ex h with ⟨c_3, h⟩ | ⟨c_3, h⟩
    · skip
      obtain ⟨c_4, h⟩ := xch_ex h
      obtain ⟨c_5, h⟩ := xch_ex h
      obtain ⟨M_6, hM_6, h⟩ := xl_ex h
      obtain ⟨M_7, hM_7, h⟩ := xl_ex h
      obtain ⟨v5_8, hv5_8, h⟩ := xl_ex h
      obtain ⟨v7_9, hv7_9, h⟩ := xl_ex h
      refine s_M_sends [(19, .if_icmp .ge 71, 0, (-1)), (22, .aload_n 0, 0, 0), (23, .getfield 202, 10, 87), (26, .iload 7, 0, 0), (28, .iload 4, 0, 0), (30, .aload_n 0, 0, 0), (31, .getfield 85, 10, 38), (34, .bipush 8, 0, 8), (36, .iload_n 1, 0, 0), (37, .imul, 0, 0), (38, .iload 7, 0, 0), (40, .iadd, 0, 0), (41, .iaload, 0, 0), (42, .imul, 0, 0), (43, .bipush 100, 0, 100), (45, .idiv, 0, 0), (46, .iastore, 0, 0), (47, .aload_n 0, 0, 0), (48, .getfield 205, 10, 88), (51, .iload 7, 0, 0), (53, .iload 4, 0, 0), (55, .aload_n 0, 0, 0), (56, .getfield 85, 10, 38), (59, .bipush 8, 0, 8), (61, .iload_n 1, 0, 0), (62, .imul, 0, 0), (63, .iload 7, 0, 0), (65, .iadd, 0, 0), (66, .iaload, 0, 0), (67, .imul, 0, 0), (68, .bipush 100, 0, 100), (70, .irem, 0, 0), (71, .iastore, 0, 0), (72, .iload 5, 0, 0), (74, .aload_n 0, 0, 0), (75, .getfield 202, 10, 87), (78, .iload 7, 0, 0), (80, .iaload, 0, 0), (81, .isub, 0, 0), (82, .istore 5, 0, 0), (84, .iinc 7 1, 0, 0), (87, .goto (-72), 0, 15)] (by decide +kernel) (z' := (15, [(7, (vI v7_9)), (5, (vI v5_8)), (0, (vR 10 l0)), (1, (vI l1)), (2, (vI l2)), (3, (vI l3)), (4, (vI l4)), (6, (vI v6))], [], R, M_7, 174)) (cs := [¬ (v6 ≤ v7), xar 38 0, xidx (w32 ((w32 (8 * l1)) + v7)) (xan 38), (100 : Int) ≠ 0, xar 30 0, xidx v7 (xan 30), xar 38 0, xidx (w32 ((w32 (8 * l1)) + v7)) (xan 38), (100 : Int) ≠ 0, xar 30 0, xidx v7 (xan 30), xar 30 0, xidx v7 (xan 30)]) (by subst hM_6; subst hM_7; subst hv5_8; subst hv7_9; rfl) ⟨Int.not_le.mpr c_3, xar_38, xix_38 c_4, by decide, xar_30, xix_30 c_5, xar_38, xix_38 c_4, by decide, xar_30, xix_30 c_5, xar_30, xix_30 c_5, trivial⟩ (Nat.le_refl _) ?_
      refine XR.pick [2, 3, 4, 5, 6, 1, 7, 0] (ls' := [(0, (vR 10 l0)), (1, (vI l1)), (2, (vI l2)), (3, (vI l3)), (4, (vI l4)), (5, (vI v5_8)), (6, (vI v6)), (7, (vI v7_9))]) rfl ?_
      exact ih v5_8 v6 v7_9 M_7 _ h
    · skip
      refine s_M_sends [(19, .if_icmp .ge 71, 0, 90)] (by decide +kernel) (z' := (90, [(0, (vR 10 l0)), (1, (vI l1)), (2, (vI l2)), (3, (vI l3)), (4, (vI l4)), (5, (vI v5)), (6, (vI v6)), (7, (vI v7))], [], R, M, 174)) (cs := [v6 ≤ v7]) (by rfl) ⟨Int.not_lt.mp c_3, trivial⟩ (Nat.le_refl _) ?_
      refine XR.pick [0, 1, 2, 3, 5, 6] (ls' := [(0, (vR 10 l0)), (1, (vI l1)), (2, (vI l2)), (3, (vI l3)), (5, (vI v5)), (6, (vI v6))]) rfl ?_
      exact hq90 v5 v6 M _ h
set_option maxRecDepth 100000 in
set_option maxHeartbeats 4000000 in
theorem o_M_sends_J129 {sc : List Int} {R : xR}   {l0 : Nat} {l1 : Int} {l2 : Int} {l3 : Int}  {rc : Int → Int → Int → Int → xM → Option xM} {q135 : Int → Int → Int → xM → Option xM} (hrc : ∀ (w5 : Int) (w6 : Int) (w7 : Int) (w8 : Int) (M : xM) (out : xM), rc w5 w6 w7 w8 M = some out → XR false 0 174 sc y_M_sends (101, [(0, (vR 10 l0)), (1, (vI l1)), (2, (vI l2)), (3, (vI l3)), (5, (vI w5)), (6, (vI w6)), (7, (vI w7)), (8, (vI w8))], [], R, M, 174) (none, R, out)) (hq135 : ∀ (w5 : Int) (w6 : Int) (w7 : Int) (M : xM) (out : xM), q135 w5 w6 w7 M = some out → XR false 0 174 sc y_M_sends (135, [(0, (vR 10 l0)), (1, (vI l1)), (2, (vI l2)), (3, (vI l3)), (5, (vI w5)), (6, (vI w6)), (7, (vI w7))], [], R, M, 174) (none, R, out)) {v5 : Int} {v6 : Int} {v7 : Int} {v8 : Int} {M : xM} {out : xM} (h : M_sends_J129 R l0 l1 l2 l3 rc q135 v5 v6 v7 v8 M = some out) : XR false 0 174 sc y_M_sends (129, [(0, (vR 10 l0)), (1, (vI l1)), (2, (vI l2)), (3, (vI l3)), (5, (vI v5)), (6, (vI v6)), (7, (vI v7)), (8, (vI v8))], [], R, M, 174) (none, R, out) := by
  unfold M_sends_J129 at h
  obtain ⟨v8_18, hv8_18, h⟩ := xl_ex h
  refine s_M_sends [(129, .iinc 8 1, 0, 0), (132, .goto (-31), 0, 101)] (by decide +kernel) (z' := (101, [(8, (vI v8_18)), (0, (vR 10 l0)), (1, (vI l1)), (2, (vI l2)), (3, (vI l3)), (5, (vI v5)), (6, (vI v6)), (7, (vI v7))], [], R, M, 174)) (cs := []) (by subst hv8_18; rfl) trivial (Nat.le_refl _) ?_
  refine XR.pick [1, 2, 3, 4, 5, 6, 7, 0] (ls' := [(0, (vR 10 l0)), (1, (vI l1)), (2, (vI l2)), (3, (vI l3)), (5, (vI v5)), (6, (vI v6)), (7, (vI v7)), (8, (vI v8_18))]) rfl ?_
  exact hrc v5 v6 v7 v8_18 M _ h
set_option maxRecDepth 100000 in
set_option maxHeartbeats 4000000 in
theorem o_M_sends_F101 {sc : List Int} {R : xR}   {l0 : Nat} {l1 : Int} {l2 : Int} {l3 : Int}  {q135 : Int → Int → Int → xM → Option xM} (hq135 : ∀ (w5 : Int) (w6 : Int) (w7 : Int) (M : xM) (out : xM), q135 w5 w6 w7 M = some out → XR false 0 174 sc y_M_sends (135, [(0, (vR 10 l0)), (1, (vI l1)), (2, (vI l2)), (3, (vI l3)), (5, (vI w5)), (6, (vI w6)), (7, (vI w7))], [], R, M, 174) (none, R, out)) : ∀ (n : Nat) (v5 : Int) (v6 : Int) (v7 : Int) (v8 : Int) (M : xM) (out : xM), M_sends_F101 R l0 l1 l2 l3 q135 n v5 v6 v7 v8 M = some out → XR false 0 174 sc y_M_sends (101, [(0, (vR 10 l0)), (1, (vI l1)), (2, (vI l2)), (3, (vI l3)), (5, (vI v5)), (6, (vI v6)), (7, (vI v7)), (8, (vI v8))], [], R, M, 174) (none, R, out) := by
  intro n
  induction n with
  | zero => intro v5 v6 v7 v8 M out h; exact (xno h).elim
  | succ n ih =>
    intro v5 v6 v7 v8 M out h
    rw [M_sends_F101] at h
    refine s_M_sends [(101, .iload 8, 0, 0), (103, .iload 6, 0, 0)] (by decide +kernel) (z' := (105, [(0, (vR 10 l0)), (1, (vI l1)), (2, (vI l2)), (3, (vI l3)), (5, (vI v5)), (6, (vI v6)), (7, (vI v7)), (8, (vI v8))], [(vI v6), (vI v8)], R, M, 174)) (cs := []) (by rfl) trivial (Nat.le_refl _) ?_
    rcases xif_ex h with ⟨c_14, h⟩ | ⟨c_14, h⟩
    · skip
      obtain ⟨c_15, h⟩ := xch_ex h
      obtain ⟨c_16, h⟩ := xch_ex h
      refine s_M_sends [(105, .if_icmp .ge 30, 0, (-1)), (108, .aload_n 0, 0, 0), (109, .getfield 205, 10, 88), (112, .iload 8, 0, 0), (114, .iaload, 0, 0), (115, .aload_n 0, 0, 0), (116, .getfield 205, 10, 88), (119, .iload 7, 0, 0), (121, .iaload, 0, 0)] (by decide +kernel) (z' := (122, [(0, (vR 10 l0)), (1, (vI l1)), (2, (vI l2)), (3, (vI l3)), (5, (vI v5)), (6, (vI v6)), (7, (vI v7)), (8, (vI v8))], [(vI (M (R l0 88) (Int.toNat v7))), (vI (M (R l0 88) (Int.toNat v8)))], R, M, 174)) (cs := [¬ (v6 ≤ v8), xar 30 0, xidx v8 (xan 30), xar 30 0, xidx v7 (xan 30)]) (by rfl) ⟨Int.not_le.mpr c_14, xar_30, xix_30 c_15, xar_30, xix_30 c_16, trivial⟩ (Nat.le_refl _) ?_
      rcases xif_ex h with ⟨c_17, h⟩ | ⟨c_17, h⟩
      · skip
        refine s_M_sends [(122, .if_icmp .le 7, 0, (-1)), (125, .iload 8, 0, 0), (127, .istore 7, 0, 0)] (by decide +kernel) (z' := (129, [(7, (vI v8)), (0, (vR 10 l0)), (1, (vI l1)), (2, (vI l2)), (3, (vI l3)), (5, (vI v5)), (6, (vI v6)), (8, (vI v8))], [], R, M, 174)) (cs := [¬ (M (R l0 88) (Int.toNat v8) ≤ M (R l0 88) (Int.toNat v7))]) (by rfl) ⟨Int.not_le.mpr c_17, trivial⟩ (Nat.le_refl _) ?_
        refine XR.pick [1, 2, 3, 4, 5, 6, 0, 7] (ls' := [(0, (vR 10 l0)), (1, (vI l1)), (2, (vI l2)), (3, (vI l3)), (5, (vI v5)), (6, (vI v6)), (7, (vI v8)), (8, (vI v8))]) rfl ?_
        exact o_M_sends_J129 ih hq135 h
      · skip
        refine s_M_sends [(122, .if_icmp .le 7, 0, 129)] (by decide +kernel) (z' := (129, [(0, (vR 10 l0)), (1, (vI l1)), (2, (vI l2)), (3, (vI l3)), (5, (vI v5)), (6, (vI v6)), (7, (vI v7)), (8, (vI v8))], [], R, M, 174)) (cs := [M (R l0 88) (Int.toNat v8) ≤ M (R l0 88) (Int.toNat v7)]) (by rfl) ⟨Int.not_lt.mp c_17, trivial⟩ (Nat.le_refl _) ?_
        exact o_M_sends_J129 ih hq135 h
    · skip
      refine s_M_sends [(105, .if_icmp .ge 30, 0, 135)] (by decide +kernel) (z' := (135, [(0, (vR 10 l0)), (1, (vI l1)), (2, (vI l2)), (3, (vI l3)), (5, (vI v5)), (6, (vI v6)), (7, (vI v7)), (8, (vI v8))], [], R, M, 174)) (cs := [v6 ≤ v8]) (by rfl) ⟨Int.not_lt.mp c_14, trivial⟩ (Nat.le_refl _) ?_
      refine XR.pick [0, 1, 2, 3, 4, 5, 6] (ls' := [(0, (vR 10 l0)), (1, (vI l1)), (2, (vI l2)), (3, (vI l3)), (5, (vI v5)), (6, (vI v6)), (7, (vI v7))]) rfl ?_
      exact hq135 v5 v6 v7 M _ h
set_option maxRecDepth 100000 in
set_option maxHeartbeats 4000000 in
theorem o_M_sends_F90 {sc : List Int} {R : xR}   {l0 : Nat} {l1 : Int} {l2 : Int} {l3 : Int}  {q160 : Int → xM → Option xM} (hq160 : ∀ (w6 : Int) (M : xM) (out : xM), q160 w6 M = some out → XR false 0 174 sc y_M_sends (160, [(0, (vR 10 l0)), (1, (vI l1)), (2, (vI l2)), (3, (vI l3)), (6, (vI w6))], [], R, M, 174) (none, R, out)) : ∀ (n : Nat) (v5 : Int) (v6 : Int) (M : xM) (out : xM), M_sends_F90 R l0 l1 l2 l3 q160 n v5 v6 M = some out → XR false 0 174 sc y_M_sends (90, [(0, (vR 10 l0)), (1, (vI l1)), (2, (vI l2)), (3, (vI l3)), (5, (vI v5)), (6, (vI v6))], [], R, M, 174) (none, R, out) := by
  intro n
  induction n with
  | zero => intro v5 v6 M out h; exact (xno h).elim
  | succ n ih =>
    intro v5 v6 M out h
    rw [M_sends_F90] at h
    refine s_M_sends [(90, .iload 5, 0, 0)] (by decide +kernel) (z' := (92, [(0, (vR 10 l0)), (1, (vI l1)), (2, (vI l2)), (3, (vI l3)), (5, (vI v5)), (6, (vI v6))], [(vI v5)], R, M, 174)) (cs := []) (by rfl) trivial (Nat.le_refl _) ?_
    rcases xif_ex h with ⟨c_13, h⟩ | ⟨c_13, h⟩
    · skip
      refine s_M_sends [(92, .ifCond .le 68, 0, (-1)), (95, .iconst 0, 0, 0), (96, .istore 7, 0, 0), (98, .iconst 1, 0, 1), (99, .istore 8, 0, 0)] (by decide +kernel) (z' := (101, [(8, (vI 1)), (7, (vI 0)), (0, (vR 10 l0)), (1, (vI l1)), (2, (vI l2)), (3, (vI l3)), (5, (vI v5)), (6, (vI v6))], [], R, M, 174)) (cs := [¬ (v5 ≤ 0)]) (by rfl) ⟨Int.not_le.mpr c_13, trivial⟩ (Nat.le_refl _) ?_
      refine XR.pick [2, 3, 4, 5, 6, 7, 1, 0] (ls' := [(0, (vR 10 l0)), (1, (vI l1)), (2, (vI l2)), (3, (vI l3)), (5, (vI v5)), (6, (vI v6)), (7, (vI 0)), (8, (vI 1))]) rfl ?_
      refine o_M_sends_F101 ?_ xfu v5 v6 0 1 M _ h
      · intro v5_19 v6_20 v7_21 M_22 out h
        obtain ⟨c_23, h⟩ := xch_ex h
        obtain ⟨M_24, hM_24, h⟩ := xl_ex h
        obtain ⟨M_25, hM_25, h⟩ := xl_ex h
        obtain ⟨v5_26, hv5_26, h⟩ := xl_ex h
        refine s_M_sends [(135, .aload_n 0, 0, 0), (136, .getfield 205, 10, 88), (139, .iload 7, 0, 0), (141, .iconst (-1), 0, (-1)), (142, .iastore, 0, 0), (143, .aload_n 0, 0, 0), (144, .getfield 202, 10, 87), (147, .iload 7, 0, 0), (149, .dup2, 0, 0), (150, .iaload, 0, 0), (151, .iconst 1, 0, 1), (152, .iadd, 0, 0), (153, .iastore, 0, 0), (154, .iinc 5 (-1), 0, 0), (157, .goto (-67), 0, 90)] (by decide +kernel) (z' := (90, [(5, (vI v5_26)), (0, (vR 10 l0)), (1, (vI l1)), (2, (vI l2)), (3, (vI l3)), (6, (vI v6_20)), (7, (vI v7_21))], [], R, M_25, 174)) (cs := [xar 30 0, xidx v7_21 (xan 30), xar 30 0, xidx v7_21 (xan 30), xar 30 0, xidx v7_21 (xan 30)]) (by subst hM_24; subst hM_25; subst hv5_26; rfl) ⟨xar_30, xix_30 c_23, xar_30, xix_30 c_23, xar_30, xix_30 c_23, trivial⟩ (Nat.le_refl _) ?_
        refine XR.pick [1, 2, 3, 4, 0, 5] (ls' := [(0, (vR 10 l0)), (1, (vI l1)), (2, (vI l2)), (3, (vI l3)), (5, (vI v5_26)), (6, (vI v6_20))]) rfl ?_
        exact ih v5_26 v6_20 M_25 _ h
    · skip
      refine s_M_sends [(92, .ifCond .le 68, 0, 160)] (by decide +kernel) (z' := (160, [(0, (vR 10 l0)), (1, (vI l1)), (2, (vI l2)), (3, (vI l3)), (5, (vI v5)), (6, (vI v6))], [], R, M, 174)) (cs := [v5 ≤ 0]) (by rfl) ⟨Int.not_lt.mp c_13, trivial⟩ (Nat.le_refl _) ?_
      refine XR.pick [0, 1, 2, 3, 5] (ls' := [(0, (vR 10 l0)), (1, (vI l1)), (2, (vI l2)), (3, (vI l3)), (6, (vI v6))]) rfl ?_
      exact hq160 v6 M _ h
set_option maxRecDepth 100000 in
set_option maxHeartbeats 4000000 in
theorem o_M_sends_J235 {sc : List Int} {R : xR}   {l0 : Nat} {l1 : Int} {l2 : Int} {l3 : Int}  {rc : Int → Int → xM → Option xM} (hrc : ∀ (w6 : Int) (w7 : Int) (M : xM) (out : xM), rc w6 w7 M = some out → XR false 0 174 sc y_M_sends (163, [(0, (vR 10 l0)), (1, (vI l1)), (2, (vI l2)), (3, (vI l3)), (6, (vI w6)), (7, (vI w7))], [], R, M, 174) (none, R, out)) {v6 : Int} {v7 : Int} {M : xM} {out : xM} (h : M_sends_J235 R l0 l1 l2 l3 rc v6 v7 M = some out) : XR false 0 174 sc y_M_sends (235, [(0, (vR 10 l0)), (1, (vI l1)), (2, (vI l2)), (3, (vI l3)), (6, (vI v6)), (7, (vI v7))], [], R, M, 174) (none, R, out) := by
  unfold M_sends_J235 at h
  obtain ⟨v7_36, hv7_36, h⟩ := xl_ex h
  refine s_M_sends [(235, .iinc 7 1, 0, 0), (238, .goto (-75), 0, 163)] (by decide +kernel) (z' := (163, [(7, (vI v7_36)), (0, (vR 10 l0)), (1, (vI l1)), (2, (vI l2)), (3, (vI l3)), (6, (vI v6))], [], R, M, 174)) (cs := []) (by subst hv7_36; rfl) trivial (Nat.le_refl _) ?_
  refine XR.pick [1, 2, 3, 4, 5, 0] (ls' := [(0, (vR 10 l0)), (1, (vI l1)), (2, (vI l2)), (3, (vI l3)), (6, (vI v6)), (7, (vI v7_36))]) rfl ?_
  exact hrc v6 v7_36 M _ h
set_option maxRecDepth 100000 in
set_option maxHeartbeats 4000000 in
theorem o_M_sends_F163 {sc : List Int} {R : xR}   {l0 : Nat} {l1 : Int} {l2 : Int} {l3 : Int}  : ∀ (n : Nat) (v6 : Int) (v7 : Int) (M : xM) (out : xM), M_sends_F163 R l0 l1 l2 l3  n v6 v7 M = some out → XR false 0 174 sc y_M_sends (163, [(0, (vR 10 l0)), (1, (vI l1)), (2, (vI l2)), (3, (vI l3)), (6, (vI v6)), (7, (vI v7))], [], R, M, 174) (none, R, out) := by
  intro n
  induction n with
  | zero => intro v6 v7 M out h; exact (xno h).elim
  | succ n ih =>
    intro v6 v7 M out h
    rw [M_sends_F163] at h
    refine s_M_sends [(163, .iload 7, 0, 0), (165, .iload 6, 0, 0)] (by decide +kernel) (z' := (167, [(0, (vR 10 l0)), (1, (vI l1)), (2, (vI l2)), (3, (vI l3)), (6, (vI v6)), (7, (vI v7))], [(vI v6), (vI v7)], R, M, 174)) (cs := []) (by rfl) trivial (Nat.le_refl _) ?_
    rcases xif_ex h with ⟨c_29, h⟩ | ⟨c_29, h⟩
    · skip
      obtain ⟨c_30, h⟩ := xch_ex h
      obtain ⟨v8_31, hv8_31, h⟩ := xl_ex h
      refine s_M_sends [(167, .if_icmp .ge 74, 0, (-1)), (170, .aload_n 0, 0, 0), (171, .getfield 82, 10, 37), (174, .bipush 8, 0, 8), (176, .iload_n 1, 0, 0), (177, .imul, 0, 0), (178, .iload 7, 0, 0), (180, .iadd, 0, 0), (181, .iaload, 0, 0), (182, .istore 8, 0, 0), (184, .iload 8, 0, 0), (186, .bipush 8, 0, 8)] (by decide +kernel) (z' := (188, [(8, (vI v8_31)), (0, (vR 10 l0)), (1, (vI l1)), (2, (vI l2)), (3, (vI l3)), (6, (vI v6)), (7, (vI v7))], [(vI 8), (vI v8_31)], R, M, 174)) (cs := [¬ (v6 ≤ v7), xar 38 0, xidx (w32 ((w32 (8 * l1)) + v7)) (xan 38)]) (by subst hv8_31; rfl) ⟨Int.not_le.mpr c_29, xar_38, xix_38 c_30, trivial⟩ (Nat.le_refl _) ?_
      rcases xif_ex h with ⟨c_32, h⟩ | ⟨c_32, h⟩
      · skip
        obtain ⟨c_33, h⟩ := xch_ex h
        obtain ⟨c_34, h⟩ := xch_ex h
        obtain ⟨M_35, hM_35, h⟩ := xl_ex h
        refine s_M_sends [(188, .if_icmp .ne 26, 0, (-1)), (191, .aload_n 0, 0, 0), (192, .getfield 181, 10, 80), (195, .iconst 4, 0, 4), (196, .iload_n 3, 0, 0), (197, .imul, 0, 0), (198, .iload_n 2, 0, 0), (199, .iadd, 0, 0), (200, .dup2, 0, 0), (201, .iaload, 0, 0), (202, .aload_n 0, 0, 0), (203, .getfield 202, 10, 87), (206, .iload 7, 0, 0), (208, .iaload, 0, 0), (209, .iadd, 0, 0), (210, .iastore, 0, 0), (211, .goto 24, 0, 235)] (by decide +kernel) (z' := (235, [(8, (vI v8_31)), (0, (vR 10 l0)), (1, (vI l1)), (2, (vI l2)), (3, (vI l3)), (6, (vI v6)), (7, (vI v7))], [], R, M_35, 174)) (cs := [¬ (v8_31 ≠ 8), xar 26 0, xidx (w32 ((w32 (4 * l3)) + l2)) (xan 26), xar 30 0, xidx v7 (xan 30), xar 26 0, xidx (w32 ((w32 (4 * l3)) + l2)) (xan 26)]) (by subst hM_35; rfl) ⟨fun q => q c_32, xar_26, xix_26 c_33, xar_30, xix_30 c_34, xar_26, xix_26 c_33, trivial⟩ (Nat.le_refl _) ?_
        refine XR.pick [1, 2, 3, 4, 5, 6] (ls' := [(0, (vR 10 l0)), (1, (vI l1)), (2, (vI l2)), (3, (vI l3)), (6, (vI v6)), (7, (vI v7))]) rfl ?_
        exact o_M_sends_J235 ih h
      · skip
        obtain ⟨c_37, h⟩ := xch_ex h
        obtain ⟨c_38, h⟩ := xch_ex h
        obtain ⟨M_39, hM_39, h⟩ := xl_ex h
        refine s_M_sends [(188, .if_icmp .ne 26, 0, 214), (214, .aload_n 0, 0, 0), (215, .getfield 184, 10, 81), (218, .iconst 4, 0, 4), (219, .iload 8, 0, 0), (221, .imul, 0, 0), (222, .iload_n 2, 0, 0), (223, .iadd, 0, 0), (224, .dup2, 0, 0), (225, .iaload, 0, 0), (226, .aload_n 0, 0, 0), (227, .getfield 202, 10, 87), (230, .iload 7, 0, 0), (232, .iaload, 0, 0), (233, .iadd, 0, 0), (234, .iastore, 0, 0)] (by decide +kernel) (z' := (235, [(8, (vI v8_31)), (0, (vR 10 l0)), (1, (vI l1)), (2, (vI l2)), (3, (vI l3)), (6, (vI v6)), (7, (vI v7))], [], R, M_39, 174)) (cs := [v8_31 ≠ 8, xar 27 0, xidx (w32 ((w32 (4 * v8_31)) + l2)) (xan 27), xar 30 0, xidx v7 (xan 30), xar 27 0, xidx (w32 ((w32 (4 * v8_31)) + l2)) (xan 27)]) (by subst hM_39; rfl) ⟨c_32, xar_27, xix_27 c_37, xar_30, xix_30 c_38, xar_27, xix_27 c_37, trivial⟩ (Nat.le_refl _) ?_
        refine XR.pick [1, 2, 3, 4, 5, 6] (ls' := [(0, (vR 10 l0)), (1, (vI l1)), (2, (vI l2)), (3, (vI l3)), (6, (vI v6)), (7, (vI v7))]) rfl ?_
        exact o_M_sends_J235 ih h
    · skip
      refine s_M_sends [(167, .if_icmp .ge 74, 0, 241)] (by decide +kernel) (z' := (241, [(0, (vR 10 l0)), (1, (vI l1)), (2, (vI l2)), (3, (vI l3)), (6, (vI v6)), (7, (vI v7))], [], R, M, 174)) (cs := [v6 ≤ v7]) (by rfl) ⟨Int.not_lt.mp c_29, trivial⟩ (Nat.le_refl _) ?_
      obtain rfl := Option.some.inj h
      exact XR.retV rfl (by decide +kernel)
set_option maxRecDepth 100000 in
set_option maxHeartbeats 4000000 in
theorem o_M_sends {sc : List Int} {R : xR} {M : xM} {l0 : Nat} {l1 : Int} {l2 : Int} {l3 : Int} {l4 : Int} {out : xM} (h : f_M_sends R l0 l1 l2 l3 l4 M = some out) : XR false 0 174 sc y_M_sends (0, [(0, (vR 10 l0)), (1, (vI l1)), (2, (vI l2)), (3, (vI l3)), (4, (vI l4))], [], R, M, 174) (none, R, out) := by
  unfold f_M_sends at h
  obtain ⟨c_1, h⟩ := xch_ex h
  obtain ⟨v6_2, hv6_2, h⟩ := xl_ex h
  refine s_M_sends [(0, .iload 4, 0, 0), (2, .istore 5, 0, 0), (4, .aload_n 0, 0, 0), (5, .getfield 79, 10, 36), (8, .iload_n 1, 0, 0), (9, .iaload, 0, 0), (10, .istore 6, 0, 0), (12, .iconst 0, 0, 0), (13, .istore 7, 0, 0)] (by decide +kernel) (z' := (15, [(7, (vI 0)), (6, (vI v6_2)), (5, (vI l4)), (0, (vR 10 l0)), (1, (vI l1)), (2, (vI l2)), (3, (vI l3)), (4, (vI l4))], [], R, M, 174)) (cs := [xar 30 0, xidx l1 (xan 30)]) (by subst hv6_2; rfl) ⟨xar_30, xix_30 c_1, trivial⟩ (Nat.le_refl _) ?_
  refine XR.pick [3, 4, 5, 6, 7, 2, 1, 0] (ls' := [(0, (vR 10 l0)), (1, (vI l1)), (2, (vI l2)), (3, (vI l3)), (4, (vI l4)), (5, (vI l4)), (6, (vI v6_2)), (7, (vI 0))]) rfl ?_
  refine o_M_sends_F15 ?_ xfu l4 v6_2 0 M _ h
  · intro v5_10 v6_11 M_12 out h
    refine o_M_sends_F90 ?_ xfu v5_10 v6_11 M_12 _ h
    · intro v6_27 M_28 out h
      refine s_M_sends [(160, .iconst 0, 0, 0), (161, .istore 7, 0, 0)] (by decide +kernel) (z' := (163, [(7, (vI 0)), (0, (vR 10 l0)), (1, (vI l1)), (2, (vI l2)), (3, (vI l3)), (6, (vI v6_27))], [], R, M_28, 174)) (cs := []) (by rfl) trivial (Nat.le_refl _) ?_
      refine XR.pick [1, 2, 3, 4, 5, 0] (ls' := [(0, (vR 10 l0)), (1, (vI l1)), (2, (vI l2)), (3, (vI l3)), (6, (vI v6_27)), (7, (vI 0))]) rfl ?_
      refine o_M_sends_F163  xfu v6_27 0 M_28 _ h
set_option maxRecDepth 100000 in
set_option maxHeartbeats 4000000 in
theorem c_M_sends {sc : List Int} {R : xR} {M : xM} {l0 : Nat} {l1 : Int} {l2 : Int} {l3 : Int} {l4 : Int} {out : xM} (h : f_M_sends R l0 l1 l2 l3 l4 M = some out) : XC false 0 sc y_M_sends [(vR 10 l0), (vI l1), (vI l2), (vI l3), (vI l4)] R M 174 174 (none, R, out) := XC.of (by decide) (Nat.le_of_ble_eq_true rfl) (Nat.le_refl _) (Nat.le_refl _) (o_M_sends h)
