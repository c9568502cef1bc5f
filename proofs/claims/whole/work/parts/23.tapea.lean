def f_A_isSign (l0 : Nat) (l1 : Int) (M : xM) : Option Int :=
  if M l0 7 = 3 then
    if M l0 10 = l1 then
      some (1)
    else
      some (0)
  else
    some (0)
set_option maxRecDepth 100000 in
set_option maxHeartbeats 4000000 in
theorem s_A_isSign {d : Nat} {sc : List Int} {z z' : xS} {out : xO} (qs : List xI) {cs : List Prop} (hq : qs.all (xqb 7 false y_A_isSign.2.2.1 y_A_isSign.2.1) = true) (h : xN false sc qs z = some (z', cs)) (hc : xAll cs) (hE : z'.2.2.2.2.2 ≤ 174) (k : XR false d 174 sc y_A_isSign z' out) : XR false d 174 sc y_A_isSign z out := XR.seg 7 false rfl (fun q => by cases q) qs hq h hc hE k
set_option maxRecDepth 100000 in
set_option maxHeartbeats 4000000 in
theorem o_A_isSign {sc : List Int} {R : xR} {M : xM} {l0 : Nat} {l1 : Int} {out : Int} (h : f_A_isSign l0 l1 M = some out) : XR false 0 174 sc y_A_isSign (0, [(0, (vR 7 l0)), (1, (vI l1))], [], R, M, 174) ((some (vI out)), R, M) := by
  unfold f_A_isSign at h
  refine s_A_isSign [(0, .aload_n 0, 0, 0), (1, .getfield 37, 7, 7), (4, .iconst 3, 0, 3)] (by decide +kernel) (z' := (5, [(0, (vR 7 l0)), (1, (vI l1))], [(vI 3), (vI (M l0 7))], R, M, 174)) (cs := []) (by rfl) trivial (Nat.le_refl _) ?_
  rcases xif_ex h with ⟨c_1, h⟩ | ⟨c_1, h⟩
  · skip
    refine s_A_isSign [(5, .if_icmp .ne 15, 0, (-1)), (8, .aload_n 0, 0, 0), (9, .getfield 47, 7, 10), (12, .iload_n 1, 0, 0)] (by decide +kernel) (z' := (13, [(0, (vR 7 l0)), (1, (vI l1))], [(vI l1), (vI (M l0 10))], R, M, 174)) (cs := [¬ (M l0 7 ≠ 3)]) (by rfl) ⟨fun q => q c_1, trivial⟩ (Nat.le_refl _) ?_
    rcases xif_ex h with ⟨c_2, h⟩ | ⟨c_2, h⟩
    · skip
      refine s_A_isSign [(13, .if_icmp .ne 7, 0, (-1)), (16, .iconst 1, 0, 1), (17, .goto 4, 0, 21)] (by decide +kernel) (z' := (21, [(0, (vR 7 l0)), (1, (vI l1))], [(vI 1)], R, M, 174)) (cs := [¬ (M l0 10 ≠ l1)]) (by rfl) ⟨fun q => q c_2, trivial⟩ (Nat.le_refl _) ?_
      obtain rfl := Option.some.inj h
      exact XR.retI .boolean rfl (xnar_z (by decide)) (by decide +kernel)
    · skip
      refine s_A_isSign [(13, .if_icmp .ne 7, 0, 20), (20, .iconst 0, 0, 0)] (by decide +kernel) (z' := (21, [(0, (vR 7 l0)), (1, (vI l1))], [(vI 0)], R, M, 174)) (cs := [M l0 10 ≠ l1]) (by rfl) ⟨c_2, trivial⟩ (Nat.le_refl _) ?_
      obtain rfl := Option.some.inj h
      exact XR.retI .boolean rfl (xnar_z (by decide)) (by decide +kernel)
  · skip
    refine s_A_isSign [(5, .if_icmp .ne 15, 0, 20), (20, .iconst 0, 0, 0)] (by decide +kernel) (z' := (21, [(0, (vR 7 l0)), (1, (vI l1))], [(vI 0)], R, M, 174)) (cs := [M l0 7 ≠ 3]) (by rfl) ⟨c_1, trivial⟩ (Nat.le_refl _) ?_
    obtain rfl := Option.some.inj h
    exact XR.retI .boolean rfl (xnar_z (by decide)) (by decide +kernel)
set_option maxRecDepth 100000 in
set_option maxHeartbeats 4000000 in
theorem c_A_isSign {sc : List Int} {R : xR} {M : xM} {l0 : Nat} {l1 : Int} {out : Int} (h : f_A_isSign l0 l1 M = some out) : XC false 0 sc y_A_isSign [(vR 7 l0), (vI l1)] R M 174 174 ((some (vI out)), R, M) := XC.of (by decide) (Nat.le_of_ble_eq_true rfl) (Nat.le_refl _) (Nat.le_refl _) (o_A_isSign h)
def f_A_wrong (l0 : Nat) (l1 : Int) (M : xM) : Option (Int × xM) :=
  xl (xu M l0 12 l1) fun M_1 =>
  xl (xu M_1 l0 13 (M_1 l0 6)) fun M_2 =>
  some (0, M_2)
set_option maxRecDepth 100000 in
set_option maxHeartbeats 4000000 in
theorem s_A_wrong {d : Nat} {sc : List Int} {z z' : xS} {out : xO} (qs : List xI) {cs : List Prop} (hq : qs.all (xqb 7 false y_A_wrong.2.2.1 y_A_wrong.2.1) = true) (h : xN false sc qs z = some (z', cs)) (hc : xAll cs) (hE : z'.2.2.2.2.2 ≤ 174) (k : XR false d 174 sc y_A_wrong z' out) : XR false d 174 sc y_A_wrong z out := XR.seg 7 false rfl (fun q => by cases q) qs hq h hc hE k
set_option maxRecDepth 100000 in
set_option maxHeartbeats 4000000 in
theorem o_A_wrong {sc : List Int} {R : xR} {M : xM} {l0 : Nat} {l1 : Int} {out : Int × xM} (h : f_A_wrong l0 l1 M = some out) : XR false 0 174 sc y_A_wrong (0, [(0, (vR 7 l0)), (1, (vI l1))], [], R, M, 174) ((some (vI out.1)), R, out.2) := by
  unfold f_A_wrong at h
  obtain ⟨M_1, hM_1, h⟩ := xl_ex h
  obtain ⟨M_2, hM_2, h⟩ := xl_ex h
  refine s_A_wrong [(0, .aload_n 0, 0, 0), (1, .iload_n 1, 0, 0), (2, .putfield 53, 7, 12), (5, .aload_n 0, 0, 0), (6, .aload_n 0, 0, 0), (7, .getfield 34, 7, 6), (10, .putfield 56, 7, 13), (13, .iconst 0, 0, 0)] (by decide +kernel) (z' := (14, [(0, (vR 7 l0)), (1, (vI l1))], [(vI 0)], R, M_2, 174)) (cs := []) (by subst hM_1; subst hM_2; rfl) trivial (Nat.le_refl _) ?_
  obtain rfl := Option.some.inj h
  exact XR.retI .boolean rfl (xnar_z (by decide)) (by decide +kernel)
set_option maxRecDepth 100000 in
set_option maxHeartbeats 4000000 in
theorem c_A_wrong {sc : List Int} {R : xR} {M : xM} {l0 : Nat} {l1 : Int} {out : Int × xM} (h : f_A_wrong l0 l1 M = some out) : XC false 0 sc y_A_wrong [(vR 7 l0), (vI l1)] R M 174 174 ((some (vI out.1)), R, out.2) := XC.of (by decide) (Nat.le_of_ble_eq_true rfl) (Nat.le_refl _) (Nat.le_refl _) (o_A_wrong h)
def f_A_isLetter (R : xR) (l0 : Nat) (l1 : Int) (M : xM) : Option Int :=
  xch (0 ≤ l1 ∧ l1 < 600) <|
  if M (R l0 0) (Int.toNat l1) < 97 then
    some (0)
  else
    if 122 < M (R l0 0) (Int.toNat l1) then
      some (0)
    else
      some (1)
set_option maxRecDepth 100000 in
set_option maxHeartbeats 4000000 in
theorem s_A_isLetter {d : Nat} {sc : List Int} {z z' : xS} {out : xO} (qs : List xI) {cs : List Prop} (hq : qs.all (xqb 7 false y_A_isLetter.2.2.1 y_A_isLetter.2.1) = true) (h : xN false sc qs z = some (z', cs)) (hc : xAll cs) (hE : z'.2.2.2.2.2 ≤ 174) (k : XR false d 174 sc y_A_isLetter z' out) : XR false d 174 sc y_A_isLetter z out := XR.seg 7 false rfl (fun q => by cases q) qs hq h hc hE k
set_option maxRecDepth 100000 in
set_option maxHeartbeats 4000000 in
theorem o_A_isLetter {sc : List Int} {R : xR} {M : xM} {l0 : Nat} {l1 : Int} {out : Int} (h : f_A_isLetter R l0 l1 M = some out) : XR false 0 174 sc y_A_isLetter (0, [(0, (vR 7 l0)), (1, (vI l1))], [], R, M, 174) ((some (vI out)), R, M) := by
  unfold f_A_isLetter at h
  obtain ⟨c_1, h⟩ := xch_ex h
  refine s_A_isLetter [(0, .aload_n 0, 0, 0), (1, .getfield 9, 7, 0), (4, .iload_n 1, 0, 0), (5, .baload, 2, 0), (6, .bipush 97, 0, 97)] (by decide +kernel) (z' := (8, [(0, (vR 7 l0)), (1, (vI l1))], [(vI 97), (vI (M (R l0 0) (Int.toNat l1)))], R, M, 174)) (cs := [xar 39 2, xidx l1 (xan 39)]) (by rfl) ⟨xar_39, xix_39 c_1, trivial⟩ (Nat.le_refl _) ?_
  rcases xif_ex h with ⟨c_2, h⟩ | ⟨c_2, h⟩
  · skip
    refine s_A_isLetter [(8, .if_icmp .lt 18, 0, 26), (26, .iconst 0, 0, 0)] (by decide +kernel) (z' := (27, [(0, (vR 7 l0)), (1, (vI l1))], [(vI 0)], R, M, 174)) (cs := [M (R l0 0) (Int.toNat l1) < 97]) (by rfl) ⟨c_2, trivial⟩ (Nat.le_refl _) ?_
    obtain rfl := Option.some.inj h
    exact XR.retI .boolean rfl (xnar_z (by decide)) (by decide +kernel)
  · skip
    refine s_A_isLetter [(8, .if_icmp .lt 18, 0, (-1)), (11, .aload_n 0, 0, 0), (12, .getfield 9, 7, 0), (15, .iload_n 1, 0, 0), (16, .baload, 2, 0), (17, .bipush 122, 0, 122)] (by decide +kernel) (z' := (19, [(0, (vR 7 l0)), (1, (vI l1))], [(vI 122), (vI (M (R l0 0) (Int.toNat l1)))], R, M, 174)) (cs := [¬ (M (R l0 0) (Int.toNat l1) < 97), xar 39 2, xidx l1 (xan 39)]) (by rfl) ⟨c_2, xar_39, xix_39 c_1, trivial⟩ (Nat.le_refl _) ?_
    rcases xif_ex h with ⟨c_3, h⟩ | ⟨c_3, h⟩
    · skip
      refine s_A_isLetter [(19, .if_icmp .gt 7, 0, 26), (26, .iconst 0, 0, 0)] (by decide +kernel) (z' := (27, [(0, (vR 7 l0)), (1, (vI l1))], [(vI 0)], R, M, 174)) (cs := [122 < M (R l0 0) (Int.toNat l1)]) (by rfl) ⟨c_3, trivial⟩ (Nat.le_refl _) ?_
      obtain rfl := Option.some.inj h
      exact XR.retI .boolean rfl (xnar_z (by decide)) (by decide +kernel)
    · skip
      refine s_A_isLetter [(19, .if_icmp .gt 7, 0, (-1)), (22, .iconst 1, 0, 1), (23, .goto 4, 0, 27)] (by decide +kernel) (z' := (27, [(0, (vR 7 l0)), (1, (vI l1))], [(vI 1)], R, M, 174)) (cs := [¬ (122 < M (R l0 0) (Int.toNat l1))]) (by rfl) ⟨c_3, trivial⟩ (Nat.le_refl _) ?_
      obtain rfl := Option.some.inj h
      exact XR.retI .boolean rfl (xnar_z (by decide)) (by decide +kernel)
set_option maxRecDepth 100000 in
set_option maxHeartbeats 4000000 in
theorem c_A_isLetter {sc : List Int} {R : xR} {M : xM} {l0 : Nat} {l1 : Int} {out : Int} (h : f_A_isLetter R l0 l1 M = some out) : XC false 0 sc y_A_isLetter [(vR 7 l0), (vI l1)] R M 174 174 ((some (vI out)), R, M) := XC.of (by decide) (Nat.le_of_ble_eq_true rfl) (Nat.le_refl _) (Nat.le_refl _) (o_A_isLetter h)
def A_scanWord_J74 (R : xR) (l0 : Nat) (rc : xM → Option xM) (q87 : xM → Option xM) (M : xM) : Option xM :=
  xl (xu M l0 3 (w32 ((M l0 3) + 1))) fun M_10 =>
  rc M_10
def A_scanWord_F10 (R : xR) (l0 : Nat) (q87 : xM → Option xM) : Nat → xM → Option xM
  | 0, _ => none
  | n + 1, M =>
    if M l0 3 < M l0 2 then
      xb1 (f_A_isLetter R l0 (M l0 3) M) fun r_4 =>
      if r_4 = 0 then
        q87 M
      else
        if w32 ((M l0 3) - (M l0 6)) < 8 then
          xch (0 ≤ M l0 3 ∧ M l0 3 < 600) <|
          xl (xu M l0 8 (w64 ((w64 ((M l0 8) * 32)) + (w32 ((w32 ((M (R l0 0) (Int.toNat (M l0 3))) - 97)) + 1))))) fun M_9 =>
          A_scanWord_J74 R l0 (A_scanWord_F10 R l0 q87 n) q87 M_9
        else
          A_scanWord_J74 R l0 (A_scanWord_F10 R l0 q87 n) q87 M
    else
      q87 M
def A_scanWord_J87 (R : xR) (l0 : Nat) (M : xM) : Option xM :=
  if 8 < w32 ((M l0 3) - (M l0 6)) then
    xl (xu M l0 8 0) fun M_13 =>
    some (M_13)
  else
    some (M)
def f_A_scanWord (R : xR) (l0 : Nat) (M : xM) : Option xM :=
  xl (xu M l0 7 1) fun M_1 =>
  xl (xu M_1 l0 8 0) fun M_2 =>
  A_scanWord_F10 R l0
    (fun (M_11 : xM) =>
      A_scanWord_J87 R l0 M_11)
    xfu M_2
set_option maxRecDepth 100000 in
set_option maxHeartbeats 4000000 in
theorem s_A_scanWord {d : Nat} {sc : List Int} {z z' : xS} {out : xO} (qs : List xI) {cs : List Prop} (hq : qs.all (xqb 7 false y_A_scanWord.2.2.1 y_A_scanWord.2.1) = true) (h : xN false sc qs z = some (z', cs)) (hc : xAll cs) (hE : z'.2.2.2.2.2 ≤ 174) (k : XR false d 174 sc y_A_scanWord z' out) : XR false d 174 sc y_A_scanWord z out := XR.seg 7 false rfl (fun q => by cases q) qs hq h hc hE k
set_option maxRecDepth 100000 in
set_option maxHeartbeats 4000000 in
theorem o_A_scanWord_J74 {sc : List Int} {R : xR}   {l0 : Nat}  {rc : xM → Option xM} {q87 : xM → Option xM} (hrc : ∀ (M : xM) (out : xM), rc M = some out → XR false 1 174 sc y_A_scanWord (10, [(0, (vR 7 l0))], [], R, M, 174) (none, R, out)) (hq87 : ∀ (M : xM) (out : xM), q87 M = some out → XR false 1 174 sc y_A_scanWord (87, [(0, (vR 7 l0))], [], R, M, 174) (none, R, out)) {M : xM} {out : xM} (h : A_scanWord_J74 R l0 rc q87 M = some out) : XR false 1 174 sc y_A_scanWord (74, [(0, (vR 7 l0))], [], R, M, 174) (none, R, out) := by
  unfold A_scanWord_J74 at h
  obtain ⟨M_10, hM_10, h⟩ := xl_ex h
  refine s_A_scanWord [(74, .aload_n 0, 0, 0), (75, .dup, 0, 0), (76, .getfield 22, 7, 3), (79, .iconst 1, 0, 1), (80, .iadd, 0, 0), (81, .putfield 22, 7, 3), (84, .goto (-74), 0, 10)] (by decide +kernel) (z' := (10, [(0, (vR 7 l0))], [], R, M_10, 174)) (cs := []) (by subst hM_10; rfl) trivial (Nat.le_refl _) ?_
  exact hrc M_10 _ h
set_option maxRecDepth 100000 in
set_option maxHeartbeats 4000000 in
theorem o_A_scanWord_F10 {sc : List Int} {R : xR}   {l0 : Nat}  {q87 : xM → Option xM} (hq87 : ∀ (M : xM) (out : xM), q87 M = some out → XR false 1 174 sc y_A_scanWord (87, [(0, (vR 7 l0))], [], R, M, 174) (none, R, out)) : ∀ (n : Nat) (M : xM) (out : xM), A_scanWord_F10 R l0 q87 n M = some out → XR false 1 174 sc y_A_scanWord (10, [(0, (vR 7 l0))], [], R, M, 174) (none, R, out) := by
  intro n
  induction n with
  | zero => intro M out h; exact (xno h).elim
  | succ n ih =>
    intro M out h
    rw [A_scanWord_F10] at h
    refine s_A_scanWord [(10, .aload_n 0, 0, 0), (11, .getfield 22, 7, 3), (14, .aload_n 0, 0, 0), (15, .getfield 19, 7, 2)] (by decide +kernel) (z' := (18, [(0, (vR 7 l0))], [(vI (M l0 2)), (vI (M l0 3))], R, M, 174)) (cs := []) (by rfl) trivial (Nat.le_refl _) ?_
    rcases xif_ex h with ⟨c_3, h⟩ | ⟨c_3, h⟩
    · skip
      refine s_A_scanWord [(18, .if_icmp .ge 69, 0, (-1)), (21, .aload_n 0, 0, 0), (22, .aload_n 0, 0, 0), (23, .getfield 22, 7, 3)] (by decide +kernel) (z' := (26, [(0, (vR 7 l0))], [(vI (M l0 3)), (vR 7 l0)], R, M, 174)) (cs := [¬ (M l0 2 ≤ M l0 3)]) (by rfl) ⟨Int.not_le.mpr c_3, trivial⟩ (Nat.le_refl _) ?_
      obtain ⟨r_4, e_5, h⟩ := xb1_ex h
      refine XR.callV 7 rfl (rest := []) m_A_isLetter k_7_62 7 l0 (Or.inl ⟨by decide, rfl⟩) [(vI (M l0 3))] rfl rfl (c_A_isLetter e_5) (by decide) (Nat.le_of_ble_eq_true rfl) (by decide +kernel) (Nat.le_refl _) (Nat.le_refl _) ?_
      show XR false 1 174 sc y_A_scanWord (29, [(0, (vR 7 l0))], [(vI r_4)], R, M, 174) _
      rcases xif_ex h with ⟨c_6, h⟩ | ⟨c_6, h⟩
      · skip
        refine s_A_scanWord [(29, .ifCond .eq 58, 0, 87)] (by decide +kernel) (z' := (87, [(0, (vR 7 l0))], [], R, M, 174)) (cs := [r_4 = 0]) (by rfl) ⟨c_6, trivial⟩ (Nat.le_refl _) ?_
        exact hq87 M _ h
      · skip
        refine s_A_scanWord [(29, .ifCond .eq 58, 0, (-1)), (32, .aload_n 0, 0, 0), (33, .getfield 22, 7, 3), (36, .aload_n 0, 0, 0), (37, .getfield 34, 7, 6), (40, .isub, 0, 0), (41, .bipush 8, 0, 8)] (by decide +kernel) (z' := (43, [(0, (vR 7 l0))], [(vI 8), (vI (w32 ((M l0 3) - (M l0 6))))], R, M, 174)) (cs := [¬ (r_4 = 0)]) (by rfl) ⟨c_6, trivial⟩ (Nat.le_refl _) ?_
        rcases xif_ex h with ⟨c_7, h⟩ | ⟨c_7, h⟩
        · skip
          obtain ⟨c_8, h⟩ := xch_ex h
          obtain ⟨M_9, hM_9, h⟩ := xl_ex h
          refine s_A_scanWord [(43, .if_icmp .ge 31, 0, (-1)), (46, .aload_n 0, 0, 0), (47, .aload_n 0, 0, 0), (48, .getfield 40, 7, 8), (51, .ldc2_w 85, 0, 32), (54, .lmul, 0, 0), (55, .aload_n 0, 0, 0), (56, .getfield 9, 7, 0), (59, .aload_n 0, 0, 0), (60, .getfield 22, 7, 3), (63, .baload, 2, 0), (64, .bipush 97, 0, 97), (66, .isub, 0, 0), (67, .iconst 1, 0, 1), (68, .iadd, 0, 0), (69, .i2l, 0, 0), (70, .ladd, 0, 0), (71, .putfield 40, 7, 8)] (by decide +kernel) (z' := (74, [(0, (vR 7 l0))], [], R, M_9, 174)) (cs := [¬ (8 ≤ w32 ((M l0 3) - (M l0 6))), xar 39 2, xidx (M l0 3) (xan 39)]) (by subst hM_9; rfl) ⟨Int.not_le.mpr c_7, xar_39, xix_39 c_8, trivial⟩ (Nat.le_refl _) ?_
          exact o_A_scanWord_J74 ih hq87 h
        · skip
          refine s_A_scanWord [(43, .if_icmp .ge 31, 0, 74)] (by decide +kernel) (z' := (74, [(0, (vR 7 l0))], [], R, M, 174)) (cs := [8 ≤ w32 ((M l0 3) - (M l0 6))]) (by rfl) ⟨Int.not_lt.mp c_7, trivial⟩ (Nat.le_refl _) ?_
          exact o_A_scanWord_J74 ih hq87 h
    · skip
      refine s_A_scanWord [(18, .if_icmp .ge 69, 0, 87)] (by decide +kernel) (z' := (87, [(0, (vR 7 l0))], [], R, M, 174)) (cs := [M l0 2 ≤ M l0 3]) (by rfl) ⟨Int.not_lt.mp c_3, trivial⟩ (Nat.le_refl _) ?_
      exact hq87 M _ h
set_option maxRecDepth 100000 in
set_option maxHeartbeats 4000000 in
theorem o_A_scanWord_J87 {sc : List Int} {R : xR}   {l0 : Nat}  {M : xM} {out : xM} (h : A_scanWord_J87 R l0  M = some out) : XR false 1 174 sc y_A_scanWord (87, [(0, (vR 7 l0))], [], R, M, 174) (none, R, out) := by
  unfold A_scanWord_J87 at h
  refine s_A_scanWord [(87, .aload_n 0, 0, 0), (88, .getfield 22, 7, 3), (91, .aload_n 0, 0, 0), (92, .getfield 34, 7, 6), (95, .isub, 0, 0), (96, .bipush 8, 0, 8)] (by decide +kernel) (z' := (98, [(0, (vR 7 l0))], [(vI 8), (vI (w32 ((M l0 3) - (M l0 6))))], R, M, 174)) (cs := []) (by rfl) trivial (Nat.le_refl _) ?_
  rcases xif_ex h with ⟨c_12, h⟩ | ⟨c_12, h⟩
  · skip
    obtain ⟨M_13, hM_13, h⟩ := xl_ex h
    refine s_A_scanWord [(98, .if_icmp .le 8, 0, (-1)), (101, .aload_n 0, 0, 0), (102, .lconst 0, 0, 0), (103, .putfield 40, 7, 8)] (by decide +kernel) (z' := (106, [(0, (vR 7 l0))], [], R, M_13, 174)) (cs := [¬ (w32 ((M l0 3) - (M l0 6)) ≤ 8)]) (by subst hM_13; rfl) ⟨Int.not_le.mpr c_12, trivial⟩ (Nat.le_refl _) ?_
    obtain rfl := Option.some.inj h
    exact XR.retV rfl (by decide +kernel)
  · skip
    refine s_A_scanWord [(98, .if_icmp .le 8, 0, 106)] (by decide +kernel) (z' := (106, [(0, (vR 7 l0))], [], R, M, 174)) (cs := [w32 ((M l0 3) - (M l0 6)) ≤ 8]) (by rfl) ⟨Int.not_lt.mp c_12, trivial⟩ (Nat.le_refl _) ?_
    obtain rfl := Option.some.inj h
    exact XR.retV rfl (by decide +kernel)
set_option maxRecDepth 100000 in
set_option maxHeartbeats 4000000 in
theorem o_A_scanWord {sc : List Int} {R : xR} {M : xM} {l0 : Nat} {out : xM} (h : f_A_scanWord R l0 M = some out) : XR false 1 174 sc y_A_scanWord (0, [(0, (vR 7 l0))], [], R, M, 174) (none, R, out) := by
  unfold f_A_scanWord at h
  obtain ⟨M_1, hM_1, h⟩ := xl_ex h
  obtain ⟨M_2, hM_2, h⟩ := xl_ex h
  refine s_A_scanWord [(0, .aload_n 0, 0, 0), (1, .iconst 1, 0, 1), (2, .putfield 37, 7, 7), (5, .aload_n 0, 0, 0), (6, .lconst 0, 0, 0), (7, .putfield 40, 7, 8)] (by decide +kernel) (z' := (10, [(0, (vR 7 l0))], [], R, M_2, 174)) (cs := []) (by subst hM_1; subst hM_2; rfl) trivial (Nat.le_refl _) ?_
  refine o_A_scanWord_F10 ?_ xfu M_2 _ h
  · intro M_11 out h
    exact o_A_scanWord_J87  h
set_option maxRecDepth 100000 in
set_option maxHeartbeats 4000000 in
theorem c_A_scanWord {sc : List Int} {R : xR} {M : xM} {l0 : Nat} {out : xM} (h : f_A_scanWord R l0 M = some out) : XC false 1 sc y_A_scanWord [(vR 7 l0)] R M 174 174 (none, R, out) := XC.of (by decide) (Nat.le_of_ble_eq_true rfl) (Nat.le_refl _) (Nat.le_refl _) (o_A_scanWord h)
def A_keyOf_J70 (R : xR) (l0 : Nat) (l1 : Int) (rc : Int → Int → Int → Option Int) (v3 : Int) (v5 : Int) (v6 : Int) : Option Int :=
  xl (w32 (v6 + 1)) fun v6_9 =>
  rc v3 v5 v6_9
def A_keyOf_F8 (R : xR) (l0 : Nat) (l1 : Int) : Nat → Int → Int → Int → Option Int
  | 0, _, _, _ => none
  | n + 1, v3, v5, v6 =>
    xb1 (f_S_length (R l0 5)) fun r_1 =>
    if v6 < r_1 then
      xb1 (f_S_charAt (R l0 5) v6) fun r_4 =>
      if r_4 = 32 then
        if v3 = l1 then
          some (v5)
        else
          xl (w32 (v5 + 1)) fun v5_8 =>
          A_keyOf_J70 R l0 l1 (A_keyOf_F8 R l0 l1  n) 0 v5_8 v6
      else
        xl (w64 ((w64 (v3 * 32)) + (w32 ((w32 (r_4 - 97)) + 1)))) fun v3_10 =>
        A_keyOf_J70 R l0 l1 (A_keyOf_F8 R l0 l1  n) v3_10 v5 v6
    else
      some (-1)
def f_A_keyOf (R : xR) (l0 : Nat) (l1 : Int) : Option Int :=
  A_keyOf_F8 R l0 l1
    xfu 0 0 0
set_option maxRecDepth 100000 in
set_option maxHeartbeats 4000000 in
theorem s_A_keyOf {d : Nat} {sc : List Int} {z z' : xS} {out : xO} (qs : List xI) {cs : List Prop} (hq : qs.all (xqb 7 false y_A_keyOf.2.2.1 y_A_keyOf.2.1) = true) (h : xN false sc qs z = some (z', cs)) (hc : xAll cs) (hE : z'.2.2.2.2.2 ≤ 174) (k : XR false d 174 sc y_A_keyOf z' out) : XR false d 174 sc y_A_keyOf z out := XR.seg 7 false rfl (fun q => by cases q) qs hq h hc hE k
set_option maxRecDepth 100000 in
set_option maxHeartbeats 4000000 in
theorem o_A_keyOf_J70 {sc : List Int} {R : xR} {M : xM}  {l0 : Nat} {l1 : Int}  {rc : Int → Int → Int → Option Int} (hrc : ∀ (w3 : Int) (w5 : Int) (w6 : Int) (out : Int), rc w3 w5 w6 = some out → XR false 4 174 sc y_A_keyOf (8, [(0, (vR 7 l0)), (1, (vL l1)), (3, (vL w3)), (5, (vI w5)), (6, (vI w6))], [], R, M, 174) ((some (vI out)), R, M)) {v3 : Int} {v5 : Int} {v6 : Int} {out : Int} (h : A_keyOf_J70 R l0 l1 rc v3 v5 v6 = some out) : XR false 4 174 sc y_A_keyOf (70, [(0, (vR 7 l0)), (1, (vL l1)), (3, (vL v3)), (5, (vI v5)), (6, (vI v6))], [], R, M, 174) ((some (vI out)), R, M) := by
  unfold A_keyOf_J70 at h
  obtain ⟨v6_9, hv6_9, h⟩ := xl_ex h
  refine s_A_keyOf [(70, .iinc 6 1, 0, 0), (73, .goto (-65), 0, 8)] (by decide +kernel) (z' := (8, [(6, (vI v6_9)), (0, (vR 7 l0)), (1, (vL l1)), (3, (vL v3)), (5, (vI v5))], [], R, M, 174)) (cs := []) (by subst hv6_9; rfl) trivial (Nat.le_refl _) ?_
  refine XR.pick [1, 2, 3, 4, 0] (ls' := [(0, (vR 7 l0)), (1, (vL l1)), (3, (vL v3)), (5, (vI v5)), (6, (vI v6_9))]) rfl ?_
  exact hrc v3 v5 v6_9 _ h
set_option maxRecDepth 100000 in
set_option maxHeartbeats 4000000 in
theorem o_A_keyOf_F8 {sc : List Int} {R : xR} {M : xM}  {l0 : Nat} {l1 : Int}  : ∀ (n : Nat) (v3 : Int) (v5 : Int) (v6 : Int) (out : Int), A_keyOf_F8 R l0 l1  n v3 v5 v6 = some out → XR false 4 174 sc y_A_keyOf (8, [(0, (vR 7 l0)), (1, (vL l1)), (3, (vL v3)), (5, (vI v5)), (6, (vI v6))], [], R, M, 174) ((some (vI out)), R, M) := by
  intro n
  induction n with
  | zero => intro v3 v5 v6 out h; exact (xno h).elim
  | succ n ih =>
    intro v3 v5 v6 out h
    rw [A_keyOf_F8] at h
    refine s_A_keyOf [(8, .iload 6, 0, 0), (10, .aload_n 0, 0, 0), (11, .getfield 31, 7, 5)] (by decide +kernel) (z' := (14, [(0, (vR 7 l0)), (1, (vL l1)), (3, (vL v3)), (5, (vI v5)), (6, (vI v6))], [(vR 99 (R l0 5)), (vI v6)], R, M, 174)) (cs := []) (by rfl) trivial (Nat.le_refl _) ?_
    obtain ⟨r_1, e_2, h⟩ := xb1_ex h
    refine XR.callV 7 rfl (rest := [(vI v6)]) m_S_length k_7_87 99 (R l0 5) (Or.inr ⟨rfl, rfl⟩) [] rfl rfl (c_S_length e_2) (by decide) (Nat.le_of_ble_eq_true rfl) (by decide +kernel) (Nat.le_refl _) (Nat.le_refl _) ?_
    show XR false 4 174 sc y_A_keyOf (17, [(0, (vR 7 l0)), (1, (vL l1)), (3, (vL v3)), (5, (vI v5)), (6, (vI v6))], [(vI r_1), (vI v6)], R, M, 174) _
    rcases xif_ex h with ⟨c_3, h⟩ | ⟨c_3, h⟩
    · skip
      refine s_A_keyOf [(17, .if_icmp .ge 59, 0, (-1)), (20, .aload_n 0, 0, 0), (21, .getfield 31, 7, 5), (24, .iload 6, 0, 0)] (by decide +kernel) (z' := (26, [(0, (vR 7 l0)), (1, (vL l1)), (3, (vL v3)), (5, (vI v5)), (6, (vI v6))], [(vI v6), (vR 99 (R l0 5))], R, M, 174)) (cs := [¬ (r_1 ≤ v6)]) (by rfl) ⟨Int.not_le.mpr c_3, trivial⟩ (Nat.le_refl _) ?_
      obtain ⟨r_4, e_5, h⟩ := xb1_ex h
      refine XR.callV 7 rfl (rest := []) m_S_charAt k_7_91 99 (R l0 5) (Or.inr ⟨rfl, rfl⟩) [(vI v6)] rfl rfl (c_S_charAt e_5) (by decide) (Nat.le_of_ble_eq_true rfl) (by decide +kernel) (Nat.le_refl _) (Nat.le_refl _) ?_
      show XR false 4 174 sc y_A_keyOf (29, [(0, (vR 7 l0)), (1, (vL l1)), (3, (vL v3)), (5, (vI v5)), (6, (vI v6))], [(vI r_4)], R, M, 174) _
      refine s_A_keyOf [(29, .istore 7, 0, 0), (31, .iload 7, 0, 0), (33, .bipush 32, 0, 32)] (by decide +kernel) (z' := (35, [(7, (vI r_4)), (0, (vR 7 l0)), (1, (vL l1)), (3, (vL v3)), (5, (vI v5)), (6, (vI v6))], [(vI 32), (vI r_4)], R, M, 174)) (cs := []) (by rfl) trivial (Nat.le_refl _) ?_
      rcases xif_ex h with ⟨c_6, h⟩ | ⟨c_6, h⟩
      · skip
        refine s_A_keyOf [(35, .if_icmp .eq 21, 0, 56), (56, .lload_n 3, 0, 0), (57, .lload_n 1, 0, 0), (58, .lcmp, 0, 0)] (by decide +kernel) (z' := (59, [(7, (vI r_4)), (0, (vR 7 l0)), (1, (vL l1)), (3, (vL v3)), (5, (vI v5)), (6, (vI v6))], [(vI (xcmp v3 l1))], R, M, 174)) (cs := [r_4 = 32]) (by rfl) ⟨c_6, trivial⟩ (Nat.le_refl _) ?_
        rcases xif_ex h with ⟨c_7, h⟩ | ⟨c_7, h⟩
        · skip
          refine s_A_keyOf [(59, .ifCond .ne 6, 0, (-1)), (62, .iload 5, 0, 0)] (by decide +kernel) (z' := (64, [(7, (vI r_4)), (0, (vR 7 l0)), (1, (vL l1)), (3, (vL v3)), (5, (vI v5)), (6, (vI v6))], [(vI v5)], R, M, 174)) (cs := [¬ (xcmp v3 l1 ≠ 0)]) (by rfl) ⟨fun q => q (xcmp_eq.mpr c_7), trivial⟩ (Nat.le_refl _) ?_
          obtain rfl := Option.some.inj h
          exact XR.retI .int rfl rfl (by decide +kernel)
        · skip
          obtain ⟨v5_8, hv5_8, h⟩ := xl_ex h
          refine s_A_keyOf [(59, .ifCond .ne 6, 0, 65), (65, .lconst 0, 0, 0), (66, .lstore_n 3, 0, 0), (67, .iinc 5 1, 0, 0)] (by decide +kernel) (z' := (70, [(5, (vI v5_8)), (3, (vL 0)), (7, (vI r_4)), (0, (vR 7 l0)), (1, (vL l1)), (6, (vI v6))], [], R, M, 174)) (cs := [xcmp v3 l1 ≠ 0]) (by subst hv5_8; rfl) ⟨fun q => c_7 (xcmp_eq.mp q), trivial⟩ (Nat.le_refl _) ?_
          refine XR.pick [3, 4, 1, 0, 5] (ls' := [(0, (vR 7 l0)), (1, (vL l1)), (3, (vL 0)), (5, (vI v5_8)), (6, (vI v6))]) rfl ?_
          exact o_A_keyOf_J70 ih h
      · skip
        obtain ⟨v3_10, hv3_10, h⟩ := xl_ex h
        refine s_A_keyOf [(35, .if_icmp .eq 21, 0, (-1)), (38, .lload_n 3, 0, 0), (39, .ldc2_w 85, 0, 32), (42, .lmul, 0, 0), (43, .iload 7, 0, 0), (45, .bipush 97, 0, 97), (47, .isub, 0, 0), (48, .iconst 1, 0, 1), (49, .iadd, 0, 0), (50, .i2l, 0, 0), (51, .ladd, 0, 0), (52, .lstore_n 3, 0, 0), (53, .goto 17, 0, 70)] (by decide +kernel) (z' := (70, [(3, (vL v3_10)), (7, (vI r_4)), (0, (vR 7 l0)), (1, (vL l1)), (5, (vI v5)), (6, (vI v6))], [], R, M, 174)) (cs := [¬ (r_4 = 32)]) (by subst hv3_10; rfl) ⟨c_6, trivial⟩ (Nat.le_refl _) ?_
        refine XR.pick [2, 3, 0, 4, 5] (ls' := [(0, (vR 7 l0)), (1, (vL l1)), (3, (vL v3_10)), (5, (vI v5)), (6, (vI v6))]) rfl ?_
        exact o_A_keyOf_J70 ih h
    · skip
      refine s_A_keyOf [(17, .if_icmp .ge 59, 0, 76), (76, .iconst (-1), 0, (-1))] (by decide +kernel) (z' := (77, [(0, (vR 7 l0)), (1, (vL l1)), (3, (vL v3)), (5, (vI v5)), (6, (vI v6))], [(vI (-1))], R, M, 174)) (cs := [r_1 ≤ v6]) (by rfl) ⟨Int.not_lt.mp c_3, trivial⟩ (Nat.le_refl _) ?_
      obtain rfl := Option.some.inj h
      exact XR.retI .int rfl rfl (by decide +kernel)
set_option maxRecDepth 100000 in
set_option maxHeartbeats 4000000 in
theorem o_A_keyOf {sc : List Int} {R : xR} {M : xM} {l0 : Nat} {l1 : Int} {out : Int} (h : f_A_keyOf R l0 l1 = some out) : XR false 4 174 sc y_A_keyOf (0, [(0, (vR 7 l0)), (1, (vL l1))], [], R, M, 174) ((some (vI out)), R, M) := by
  unfold f_A_keyOf at h
  refine s_A_keyOf [(0, .lconst 0, 0, 0), (1, .lstore_n 3, 0, 0), (2, .iconst 0, 0, 0), (3, .istore 5, 0, 0), (5, .iconst 0, 0, 0), (6, .istore 6, 0, 0)] (by decide +kernel) (z' := (8, [(6, (vI 0)), (5, (vI 0)), (3, (vL 0)), (0, (vR 7 l0)), (1, (vL l1))], [], R, M, 174)) (cs := []) (by rfl) trivial (Nat.le_refl _) ?_
  refine XR.pick [3, 4, 2, 1, 0] (ls' := [(0, (vR 7 l0)), (1, (vL l1)), (3, (vL 0)), (5, (vI 0)), (6, (vI 0))]) rfl ?_
  refine o_A_keyOf_F8  xfu 0 0 0 _ h
set_option maxRecDepth 100000 in
set_option maxHeartbeats 4000000 in
theorem c_A_keyOf {sc : List Int} {R : xR} {M : xM} {l0 : Nat} {l1 : Int} {out : Int} (h : f_A_keyOf R l0 l1 = some out) : XC false 4 sc y_A_keyOf [(vR 7 l0), (vL l1)] R M 174 174 ((some (vI out)), R, M) := XC.of (by decide) (Nat.le_of_ble_eq_true rfl) (Nat.le_refl _) (Nat.le_refl _) (o_A_keyOf h)
def f_A_isDigit (R : xR) (l0 : Nat) (l1 : Int) (M : xM) : Option Int :=
  xch (0 ≤ l1 ∧ l1 < 600) <|
  if M (R l0 0) (Int.toNat l1) < 48 then
    some (0)
  else
    if 57 < M (R l0 0) (Int.toNat l1) then
      some (0)
    else
      some (1)
set_option maxRecDepth 100000 in
set_option maxHeartbeats 4000000 in
theorem s_A_isDigit {d : Nat} {sc : List Int} {z z' : xS} {out : xO} (qs : List xI) {cs : List Prop} (hq : qs.all (xqb 7 false y_A_isDigit.2.2.1 y_A_isDigit.2.1) = true) (h : xN false sc qs z = some (z', cs)) (hc : xAll cs) (hE : z'.2.2.2.2.2 ≤ 174) (k : XR false d 174 sc y_A_isDigit z' out) : XR false d 174 sc y_A_isDigit z out := XR.seg 7 false rfl (fun q => by cases q) qs hq h hc hE k
set_option maxRecDepth 100000 in
set_option maxHeartbeats 4000000 in
theorem o_A_isDigit {sc : List Int} {R : xR} {M : xM} {l0 : Nat} {l1 : Int} {out : Int} (h : f_A_isDigit R l0 l1 M = some out) : XR false 0 174 sc y_A_isDigit (0, [(0, (vR 7 l0)), (1, (vI l1))], [], R, M, 174) ((some (vI out)), R, M) := by
  unfold f_A_isDigit at h
  obtain ⟨c_1, h⟩ := xch_ex h
  refine s_A_isDigit [(0, .aload_n 0, 0, 0), (1, .getfield 9, 7, 0), (4, .iload_n 1, 0, 0), (5, .baload, 2, 0), (6, .bipush 48, 0, 48)] (by decide +kernel) (z' := (8, [(0, (vR 7 l0)), (1, (vI l1))], [(vI 48), (vI (M (R l0 0) (Int.toNat l1)))], R, M, 174)) (cs := [xar 39 2, xidx l1 (xan 39)]) (by rfl) ⟨xar_39, xix_39 c_1, trivial⟩ (Nat.le_refl _) ?_
  rcases xif_ex h with ⟨c_2, h⟩ | ⟨c_2, h⟩
  · skip
    refine s_A_isDigit [(8, .if_icmp .lt 18, 0, 26), (26, .iconst 0, 0, 0)] (by decide +kernel) (z' := (27, [(0, (vR 7 l0)), (1, (vI l1))], [(vI 0)], R, M, 174)) (cs := [M (R l0 0) (Int.toNat l1) < 48]) (by rfl) ⟨c_2, trivial⟩ (Nat.le_refl _) ?_
    obtain rfl := Option.some.inj h
    exact XR.retI .boolean rfl (xnar_z (by decide)) (by decide +kernel)
  · skip
    refine s_A_isDigit [(8, .if_icmp .lt 18, 0, (-1)), (11, .aload_n 0, 0, 0), (12, .getfield 9, 7, 0), (15, .iload_n 1, 0, 0), (16, .baload, 2, 0), (17, .bipush 57, 0, 57)] (by decide +kernel) (z' := (19, [(0, (vR 7 l0)), (1, (vI l1))], [(vI 57), (vI (M (R l0 0) (Int.toNat l1)))], R, M, 174)) (cs := [¬ (M (R l0 0) (Int.toNat l1) < 48), xar 39 2, xidx l1 (xan 39)]) (by rfl) ⟨c_2, xar_39, xix_39 c_1, trivial⟩ (Nat.le_refl _) ?_
    rcases xif_ex h with ⟨c_3, h⟩ | ⟨c_3, h⟩
    · skip
      refine s_A_isDigit [(19, .if_icmp .gt 7, 0, 26), (26, .iconst 0, 0, 0)] (by decide +kernel) (z' := (27, [(0, (vR 7 l0)), (1, (vI l1))], [(vI 0)], R, M, 174)) (cs := [57 < M (R l0 0) (Int.toNat l1)]) (by rfl) ⟨c_3, trivial⟩ (Nat.le_refl _) ?_
      obtain rfl := Option.some.inj h
      exact XR.retI .boolean rfl (xnar_z (by decide)) (by decide +kernel)
    · skip
      refine s_A_isDigit [(19, .if_icmp .gt 7, 0, (-1)), (22, .iconst 1, 0, 1), (23, .goto 4, 0, 27)] (by decide +kernel) (z' := (27, [(0, (vR 7 l0)), (1, (vI l1))], [(vI 1)], R, M, 174)) (cs := [¬ (57 < M (R l0 0) (Int.toNat l1))]) (by rfl) ⟨c_3, trivial⟩ (Nat.le_refl _) ?_
      obtain rfl := Option.some.inj h
      exact XR.retI .boolean rfl (xnar_z (by decide)) (by decide +kernel)
set_option maxRecDepth 100000 in
set_option maxHeartbeats 4000000 in
theorem c_A_isDigit {sc : List Int} {R : xR} {M : xM} {l0 : Nat} {l1 : Int} {out : Int} (h : f_A_isDigit R l0 l1 M = some out) : XC false 0 sc y_A_isDigit [(vR 7 l0), (vI l1)] R M 174 174 ((some (vI out)), R, M) := XC.of (by decide) (Nat.le_of_ble_eq_true rfl) (Nat.le_refl _) (Nat.le_refl _) (o_A_isDigit h)
def A_scanNumber_J64 (R : xR) (l0 : Nat) (rc : xM → Option xM) (q77 : xM → Option xM) (M : xM) : Option xM :=
  xl (xu M l0 3 (w32 ((M l0 3) + 1))) fun M_9 =>
  rc M_9
def A_scanNumber_F5 (R : xR) (l0 : Nat) (q77 : xM → Option xM) : Nat → xM → Option xM
  | 0, _ => none
  | n + 1, M =>
    if M l0 3 < M l0 2 then
      xb1 (f_A_isDigit R l0 (M l0 3) M) fun r_3 =>
      if r_3 = 0 then
        q77 M
      else
        if w32 ((M l0 3) - (M l0 6)) < 4 then
          xch (0 ≤ M l0 3 ∧ M l0 3 < 600) <|
          xl (xu M l0 10 (w32 ((w32 ((M l0 10) * 10)) + (w32 ((M (R l0 0) (Int.toNat (M l0 3))) - 48))))) fun M_8 =>
          A_scanNumber_J64 R l0 (A_scanNumber_F5 R l0 q77 n) q77 M_8
        else
          A_scanNumber_J64 R l0 (A_scanNumber_F5 R l0 q77 n) q77 M
    else
      q77 M
def A_scanNumber_J96 (R : xR) (s0 : Int) (s1 : Nat) (M : xM) : Option xM :=
  xl (xu M s1 7 s0) fun M_12 =>
  some (M_12)
def A_scanNumber_J77 (R : xR) (l0 : Nat) (M : xM) : Option xM :=
  if 4 < w32 ((M l0 3) - (M l0 6)) then
    A_scanNumber_J96 R 4 l0 M
  else
    A_scanNumber_J96 R 2 l0 M
def f_A_scanNumber (R : xR) (l0 : Nat) (M : xM) : Option xM :=
  xl (xu M l0 10 0) fun M_1 =>
  A_scanNumber_F5 R l0
    (fun (M_10 : xM) =>
      A_scanNumber_J77 R l0 M_10)
    xfu M_1
set_option maxRecDepth 100000 in
set_option maxHeartbeats 4000000 in
theorem s_A_scanNumber {d : Nat} {sc : List Int} {z z' : xS} {out : xO} (qs : List xI) {cs : List Prop} (hq : qs.all (xqb 7 false y_A_scanNumber.2.2.1 y_A_scanNumber.2.1) = true) (h : xN false sc qs z = some (z', cs)) (hc : xAll cs) (hE : z'.2.2.2.2.2 ≤ 174) (k : XR false d 174 sc y_A_scanNumber z' out) : XR false d 174 sc y_A_scanNumber z out := XR.seg 7 false rfl (fun q => by cases q) qs hq h hc hE k
set_option maxRecDepth 100000 in
set_option maxHeartbeats 4000000 in
theorem o_A_scanNumber_J64 {sc : List Int} {R : xR}   {l0 : Nat}  {rc : xM → Option xM} {q77 : xM → Option xM} (hrc : ∀ (M : xM) (out : xM), rc M = some out → XR false 1 174 sc y_A_scanNumber (5, [(0, (vR 7 l0))], [], R, M, 174) (none, R, out)) (hq77 : ∀ (M : xM) (out : xM), q77 M = some out → XR false 1 174 sc y_A_scanNumber (77, [(0, (vR 7 l0))], [], R, M, 174) (none, R, out)) {M : xM} {out : xM} (h : A_scanNumber_J64 R l0 rc q77 M = some out) : XR false 1 174 sc y_A_scanNumber (64, [(0, (vR 7 l0))], [], R, M, 174) (none, R, out) := by
  unfold A_scanNumber_J64 at h
  obtain ⟨M_9, hM_9, h⟩ := xl_ex h
  refine s_A_scanNumber [(64, .aload_n 0, 0, 0), (65, .dup, 0, 0), (66, .getfield 22, 7, 3), (69, .iconst 1, 0, 1), (70, .iadd, 0, 0), (71, .putfield 22, 7, 3), (74, .goto (-69), 0, 5)] (by decide +kernel) (z' := (5, [(0, (vR 7 l0))], [], R, M_9, 174)) (cs := []) (by subst hM_9; rfl) trivial (Nat.le_refl _) ?_
  exact hrc M_9 _ h
set_option maxRecDepth 100000 in
set_option maxHeartbeats 4000000 in
theorem o_A_scanNumber_F5 {sc : List Int} {R : xR}   {l0 : Nat}  {q77 : xM → Option xM} (hq77 : ∀ (M : xM) (out : xM), q77 M = some out → XR false 1 174 sc y_A_scanNumber (77, [(0, (vR 7 l0))], [], R, M, 174) (none, R, out)) : ∀ (n : Nat) (M : xM) (out : xM), A_scanNumber_F5 R l0 q77 n M = some out → XR false 1 174 sc y_A_scanNumber (5, [(0, (vR 7 l0))], [], R, M, 174) (none, R, out) := by
  intro n
  induction n with
  | zero => intro M out h; exact (xno h).elim
  | succ n ih =>
    intro M out h
    rw [A_scanNumber_F5] at h
    refine s_A_scanNumber [(5, .aload_n 0, 0, 0), (6, .getfield 22, 7, 3), (9, .aload_n 0, 0, 0), (10, .getfield 19, 7, 2)] (by decide +kernel) (z' := (13, [(0, (vR 7 l0))], [(vI (M l0 2)), (vI (M l0 3))], R, M, 174)) (cs := []) (by rfl) trivial (Nat.le_refl _) ?_
    rcases xif_ex h with ⟨c_2, h⟩ | ⟨c_2, h⟩
    · skip
      refine s_A_scanNumber [(13, .if_icmp .ge 64, 0, (-1)), (16, .aload_n 0, 0, 0), (17, .aload_n 0, 0, 0), (18, .getfield 22, 7, 3)] (by decide +kernel) (z' := (21, [(0, (vR 7 l0))], [(vI (M l0 3)), (vR 7 l0)], R, M, 174)) (cs := [¬ (M l0 2 ≤ M l0 3)]) (by rfl) ⟨Int.not_le.mpr c_2, trivial⟩ (Nat.le_refl _) ?_
      obtain ⟨r_3, e_4, h⟩ := xb1_ex h
      refine XR.callV 7 rfl (rest := []) m_A_isDigit k_7_73 7 l0 (Or.inl ⟨by decide, rfl⟩) [(vI (M l0 3))] rfl rfl (c_A_isDigit e_4) (by decide) (Nat.le_of_ble_eq_true rfl) (by decide +kernel) (Nat.le_refl _) (Nat.le_refl _) ?_
      show XR false 1 174 sc y_A_scanNumber (24, [(0, (vR 7 l0))], [(vI r_3)], R, M, 174) _
      rcases xif_ex h with ⟨c_5, h⟩ | ⟨c_5, h⟩
      · skip
        refine s_A_scanNumber [(24, .ifCond .eq 53, 0, 77)] (by decide +kernel) (z' := (77, [(0, (vR 7 l0))], [], R, M, 174)) (cs := [r_3 = 0]) (by rfl) ⟨c_5, trivial⟩ (Nat.le_refl _) ?_
        exact hq77 M _ h
      · skip
        refine s_A_scanNumber [(24, .ifCond .eq 53, 0, (-1)), (27, .aload_n 0, 0, 0), (28, .getfield 22, 7, 3), (31, .aload_n 0, 0, 0), (32, .getfield 34, 7, 6), (35, .isub, 0, 0), (36, .iconst 4, 0, 4)] (by decide +kernel) (z' := (37, [(0, (vR 7 l0))], [(vI 4), (vI (w32 ((M l0 3) - (M l0 6))))], R, M, 174)) (cs := [¬ (r_3 = 0)]) (by rfl) ⟨c_5, trivial⟩ (Nat.le_refl _) ?_
        rcases xif_ex h with ⟨c_6, h⟩ | ⟨c_6, h⟩
        · skip
          obtain ⟨c_7, h⟩ := xch_ex h
          obtain ⟨M_8, hM_8, h⟩ := xl_ex h
          refine s_A_scanNumber [(37, .if_icmp .ge 27, 0, (-1)), (40, .aload_n 0, 0, 0), (41, .aload_n 0, 0, 0), (42, .getfield 47, 7, 10), (45, .bipush 10, 0, 10), (47, .imul, 0, 0), (48, .aload_n 0, 0, 0), (49, .getfield 9, 7, 0), (52, .aload_n 0, 0, 0), (53, .getfield 22, 7, 3), (56, .baload, 2, 0), (57, .bipush 48, 0, 48), (59, .isub, 0, 0), (60, .iadd, 0, 0), (61, .putfield 47, 7, 10)] (by decide +kernel) (z' := (64, [(0, (vR 7 l0))], [], R, M_8, 174)) (cs := [¬ (4 ≤ w32 ((M l0 3) - (M l0 6))), xar 39 2, xidx (M l0 3) (xan 39)]) (by subst hM_8; rfl) ⟨Int.not_le.mpr c_6, xar_39, xix_39 c_7, trivial⟩ (Nat.le_refl _) ?_
          exact o_A_scanNumber_J64 ih hq77 h
        · skip
          refine s_A_scanNumber [(37, .if_icmp .ge 27, 0, 64)] (by decide +kernel) (z' := (64, [(0, (vR 7 l0))], [], R, M, 174)) (cs := [4 ≤ w32 ((M l0 3) - (M l0 6))]) (by rfl) ⟨Int.not_lt.mp c_6, trivial⟩ (Nat.le_refl _) ?_
          exact o_A_scanNumber_J64 ih hq77 h
    · skip
      refine s_A_scanNumber [(13, .if_icmp .ge 64, 0, 77)] (by decide +kernel) (z' := (77, [(0, (vR 7 l0))], [], R, M, 174)) (cs := [M l0 2 ≤ M l0 3]) (by rfl) ⟨Int.not_lt.mp c_2, trivial⟩ (Nat.le_refl _) ?_
      exact hq77 M _ h
set_option maxRecDepth 100000 in
set_option maxHeartbeats 4000000 in
theorem o_A_scanNumber_J96 {sc : List Int} {R : xR}     {s0 : Int} {s1 : Nat} {M : xM} {out : xM} (h : A_scanNumber_J96 R  s0 s1 M = some out) : XR false 1 174 sc y_A_scanNumber (96, [], [(vI s0), (vR 7 s1)], R, M, 174) (none, R, out) := by
  unfold A_scanNumber_J96 at h
  obtain ⟨M_12, hM_12, h⟩ := xl_ex h
  refine s_A_scanNumber [(96, .putfield 37, 7, 7)] (by decide +kernel) (z' := (99, [], [], R, M_12, 174)) (cs := []) (by subst hM_12; rfl) trivial (Nat.le_refl _) ?_
  obtain rfl := Option.some.inj h
  exact XR.retV rfl (by decide +kernel)
set_option maxRecDepth 100000 in
set_option maxHeartbeats 4000000 in
theorem o_A_scanNumber_J77 {sc : List Int} {R : xR}   {l0 : Nat}  {M : xM} {out : xM} (h : A_scanNumber_J77 R l0  M = some out) : XR false 1 174 sc y_A_scanNumber (77, [(0, (vR 7 l0))], [], R, M, 174) (none, R, out) := by
  unfold A_scanNumber_J77 at h
  refine s_A_scanNumber [(77, .aload_n 0, 0, 0), (78, .aload_n 0, 0, 0), (79, .getfield 22, 7, 3), (82, .aload_n 0, 0, 0), (83, .getfield 34, 7, 6), (86, .isub, 0, 0), (87, .iconst 4, 0, 4)] (by decide +kernel) (z' := (88, [(0, (vR 7 l0))], [(vI 4), (vI (w32 ((M l0 3) - (M l0 6)))), (vR 7 l0)], R, M, 174)) (cs := []) (by rfl) trivial (Nat.le_refl _) ?_
  rcases xif_ex h with ⟨c_11, h⟩ | ⟨c_11, h⟩
  · skip
    refine s_A_scanNumber [(88, .if_icmp .le 7, 0, (-1)), (91, .iconst 4, 0, 4), (92, .goto 4, 0, 96)] (by decide +kernel) (z' := (96, [(0, (vR 7 l0))], [(vI 4), (vR 7 l0)], R, M, 174)) (cs := [¬ (w32 ((M l0 3) - (M l0 6)) ≤ 4)]) (by rfl) ⟨Int.not_le.mpr c_11, trivial⟩ (Nat.le_refl _) ?_
    refine XR.pick [] (ls' := []) rfl ?_
    exact o_A_scanNumber_J96  h
  · skip
    refine s_A_scanNumber [(88, .if_icmp .le 7, 0, 95), (95, .iconst 2, 0, 2)] (by decide +kernel) (z' := (96, [(0, (vR 7 l0))], [(vI 2), (vR 7 l0)], R, M, 174)) (cs := [w32 ((M l0 3) - (M l0 6)) ≤ 4]) (by rfl) ⟨Int.not_lt.mp c_11, trivial⟩ (Nat.le_refl _) ?_
    refine XR.pick [] (ls' := []) rfl ?_
    exact o_A_scanNumber_J96  h
set_option maxRecDepth 100000 in
set_option maxHeartbeats 4000000 in
theorem o_A_scanNumber {sc : List Int} {R : xR} {M : xM} {l0 : Nat} {out : xM} (h : f_A_scanNumber R l0 M = some out) : XR false 1 174 sc y_A_scanNumber (0, [(0, (vR 7 l0))], [], R, M, 174) (none, R, out) := by
  unfold f_A_scanNumber at h
  obtain ⟨M_1, hM_1, h⟩ := xl_ex h
  refine s_A_scanNumber [(0, .aload_n 0, 0, 0), (1, .iconst 0, 0, 0), (2, .putfield 47, 7, 10)] (by decide +kernel) (z' := (5, [(0, (vR 7 l0))], [], R, M_1, 174)) (cs := []) (by subst hM_1; rfl) trivial (Nat.le_refl _) ?_
  refine o_A_scanNumber_F5 ?_ xfu M_1 _ h
  · intro M_10 out h
    exact o_A_scanNumber_J77  h
set_option maxRecDepth 100000 in
set_option maxHeartbeats 4000000 in
theorem c_A_scanNumber {sc : List Int} {R : xR} {M : xM} {l0 : Nat} {out : xM} (h : f_A_scanNumber R l0 M = some out) : XC false 1 sc y_A_scanNumber [(vR 7 l0)] R M 174 174 (none, R, out) := XC.of (by decide) (Nat.le_of_ble_eq_true rfl) (Nat.le_refl _) (Nat.le_refl _) (o_A_scanNumber h)
def A_advance_J39 (R : xR) (l0 : Nat) (rc : xM → Option xM) (q52 : xM → Option xM) (M : xM) : Option xM :=
  xl (xu M l0 3 (w32 ((M l0 3) + 1))) fun M_4 =>
  rc M_4
def A_advance_F0 (R : xR) (l0 : Nat) (q52 : xM → Option xM) : Nat → xM → Option xM
  | 0, _ => none
  | n + 1, M =>
    if M l0 3 < M l0 2 then
      xch (0 ≤ M l0 3 ∧ M l0 3 < 600) <|
      if M (R l0 0) (Int.toNat (M l0 3)) = 32 then
        A_advance_J39 R l0 (A_advance_F0 R l0 q52 n) q52 M
      else
        if M (R l0 0) (Int.toNat (M l0 3)) = 10 then
          A_advance_J39 R l0 (A_advance_F0 R l0 q52 n) q52 M
        else
          q52 M
    else
      q52 M
def A_advance_J170 (R : xR) (l0 : Nat) (s0 : Int) (s1 : Nat) (M : xM) : Option xM :=
  xl (xu M s1 7 s0) fun M_21 =>
  xl (xu M_21 l0 3 (w32 ((M_21 l0 3) + 1))) fun M_22 =>
  some (M_22)
def A_advance_J52 (R : xR) (l0 : Nat) (M : xM) : Option xM :=
  xl (xu M l0 6 (M l0 3)) fun M_7 =>
  xl (xu M_7 l0 9 (-1)) fun M_8 =>
  if M_8 l0 3 < M_8 l0 2 then
    xb1 (f_A_isLetter R l0 (M_8 l0 3) M_8) fun r_10 =>
    if r_10 = 0 then
      xb1 (f_A_isDigit R l0 (M_8 l0 3) M_8) fun r_13 =>
      if r_13 = 0 then
        xch (0 ≤ M_8 l0 3 ∧ M_8 l0 3 < 600) <|
        xl (xu M_8 l0 10 (xand (M_8 (R l0 0) (Int.toNat (M_8 l0 3))) 255)) fun M_17 =>
        xb1 (f_S_indexOf_II (R l0 4) (xi2c (M_17 l0 10))) fun r_18 =>
        if r_18 < 0 then
          A_advance_J170 R l0 4 l0 M_17
        else
          A_advance_J170 R l0 3 l0 M_17
      else
        xb1 (f_A_scanNumber R l0 M_8) fun M_23 =>
        some (M_23)
    else
      xb1 (f_A_scanWord R l0 M_8) fun M_25 =>
      xb1 (f_A_keyOf R l0 (M_25 l0 8)) fun r_27 =>
      xl (xu M_25 l0 9 r_27) fun M_29 =>
      some (M_29)
  else
    xl (xu M_8 l0 7 0) fun M_30 =>
    some (M_30)
def f_A_advance (R : xR) (l0 : Nat) (M : xM) : Option xM :=
  A_advance_F0 R l0
    (fun (M_6 : xM) =>
      A_advance_J52 R l0 M_6)
    xfu M
set_option maxRecDepth 100000 in
set_option maxHeartbeats 4000000 in
theorem s_A_advance {d : Nat} {sc : List Int} {z z' : xS} {out : xO} (qs : List xI) {cs : List Prop} (hq : qs.all (xqb 7 false y_A_advance.2.2.1 y_A_advance.2.1) = true) (h : xN false sc qs z = some (z', cs)) (hc : xAll cs) (hE : z'.2.2.2.2.2 ≤ 174) (k : XR false d 174 sc y_A_advance z' out) : XR false d 174 sc y_A_advance z out := XR.seg 7 false rfl (fun q => by cases q) qs hq h hc hE k
set_option maxRecDepth 100000 in
set_option maxHeartbeats 4000000 in
theorem o_A_advance_J39 {sc : List Int} {R : xR}   {l0 : Nat}  {rc : xM → Option xM} {q52 : xM → Option xM} (hrc : ∀ (M : xM) (out : xM), rc M = some out → XR false 5 174 sc y_A_advance (0, [(0, (vR 7 l0))], [], R, M, 174) (none, R, out)) (hq52 : ∀ (M : xM) (out : xM), q52 M = some out → XR false 5 174 sc y_A_advance (52, [(0, (vR 7 l0))], [], R, M, 174) (none, R, out)) {M : xM} {out : xM} (h : A_advance_J39 R l0 rc q52 M = some out) : XR false 5 174 sc y_A_advance (39, [(0, (vR 7 l0))], [], R, M, 174) (none, R, out) := by
  unfold A_advance_J39 at h
  obtain ⟨M_4, hM_4, h⟩ := xl_ex h
  refine s_A_advance [(39, .aload_n 0, 0, 0), (40, .dup, 0, 0), (41, .getfield 22, 7, 3), (44, .iconst 1, 0, 1), (45, .iadd, 0, 0), (46, .putfield 22, 7, 3), (49, .goto (-49), 0, 0)] (by decide +kernel) (z' := (0, [(0, (vR 7 l0))], [], R, M_4, 174)) (cs := []) (by subst hM_4; rfl) trivial (Nat.le_refl _) ?_
  exact hrc M_4 _ h
set_option maxRecDepth 100000 in
set_option maxHeartbeats 4000000 in
theorem o_A_advance_F0 {sc : List Int} {R : xR}   {l0 : Nat}  {q52 : xM → Option xM} (hq52 : ∀ (M : xM) (out : xM), q52 M = some out → XR false 5 174 sc y_A_advance (52, [(0, (vR 7 l0))], [], R, M, 174) (none, R, out)) : ∀ (n : Nat) (M : xM) (out : xM), A_advance_F0 R l0 q52 n M = some out → XR false 5 174 sc y_A_advance (0, [(0, (vR 7 l0))], [], R, M, 174) (none, R, out) := by
  intro n
  induction n with
  | zero => intro M out h; exact (xno h).elim
  | succ n ih =>
    intro M out h
    rw [A_advance_F0] at h
    refine s_A_advance [(0, .aload_n 0, 0, 0), (1, .getfield 22, 7, 3), (4, .aload_n 0, 0, 0), (5, .getfield 19, 7, 2)] (by decide +kernel) (z' := (8, [(0, (vR 7 l0))], [(vI (M l0 2)), (vI (M l0 3))], R, M, 174)) (cs := []) (by rfl) trivial (Nat.le_refl _) ?_
    rcases xif_ex h with ⟨c_1, h⟩ | ⟨c_1, h⟩
    · skip
      obtain ⟨c_2, h⟩ := xch_ex h
      refine s_A_advance [(8, .if_icmp .ge 44, 0, (-1)), (11, .aload_n 0, 0, 0), (12, .getfield 9, 7, 0), (15, .aload_n 0, 0, 0), (16, .getfield 22, 7, 3), (19, .baload, 2, 0), (20, .bipush 32, 0, 32)] (by decide +kernel) (z' := (22, [(0, (vR 7 l0))], [(vI 32), (vI (M (R l0 0) (Int.toNat (M l0 3))))], R, M, 174)) (cs := [¬ (M l0 2 ≤ M l0 3), xar 39 2, xidx (M l0 3) (xan 39)]) (by rfl) ⟨Int.not_le.mpr c_1, xar_39, xix_39 c_2, trivial⟩ (Nat.le_refl _) ?_
      rcases xif_ex h with ⟨c_3, h⟩ | ⟨c_3, h⟩
      · skip
        refine s_A_advance [(22, .if_icmp .eq 17, 0, 39)] (by decide +kernel) (z' := (39, [(0, (vR 7 l0))], [], R, M, 174)) (cs := [M (R l0 0) (Int.toNat (M l0 3)) = 32]) (by rfl) ⟨c_3, trivial⟩ (Nat.le_refl _) ?_
        exact o_A_advance_J39 ih hq52 h
      · skip
        refine s_A_advance [(22, .if_icmp .eq 17, 0, (-1)), (25, .aload_n 0, 0, 0), (26, .getfield 9, 7, 0), (29, .aload_n 0, 0, 0), (30, .getfield 22, 7, 3), (33, .baload, 2, 0), (34, .bipush 10, 0, 10)] (by decide +kernel) (z' := (36, [(0, (vR 7 l0))], [(vI 10), (vI (M (R l0 0) (Int.toNat (M l0 3))))], R, M, 174)) (cs := [¬ (M (R l0 0) (Int.toNat (M l0 3)) = 32), xar 39 2, xidx (M l0 3) (xan 39)]) (by rfl) ⟨c_3, xar_39, xix_39 c_2, trivial⟩ (Nat.le_refl _) ?_
        rcases xif_ex h with ⟨c_5, h⟩ | ⟨c_5, h⟩
        · skip
          refine s_A_advance [(36, .if_icmp .ne 16, 0, (-1))] (by decide +kernel) (z' := (39, [(0, (vR 7 l0))], [], R, M, 174)) (cs := [¬ (M (R l0 0) (Int.toNat (M l0 3)) ≠ 10)]) (by rfl) ⟨fun q => q c_5, trivial⟩ (Nat.le_refl _) ?_
          exact o_A_advance_J39 ih hq52 h
        · skip
          refine s_A_advance [(36, .if_icmp .ne 16, 0, 52)] (by decide +kernel) (z' := (52, [(0, (vR 7 l0))], [], R, M, 174)) (cs := [M (R l0 0) (Int.toNat (M l0 3)) ≠ 10]) (by rfl) ⟨c_5, trivial⟩ (Nat.le_refl _) ?_
          exact hq52 M _ h
    · skip
      refine s_A_advance [(8, .if_icmp .ge 44, 0, 52)] (by decide +kernel) (z' := (52, [(0, (vR 7 l0))], [], R, M, 174)) (cs := [M l0 2 ≤ M l0 3]) (by rfl) ⟨Int.not_lt.mp c_1, trivial⟩ (Nat.le_refl _) ?_
      exact hq52 M _ h
set_option maxRecDepth 100000 in
set_option maxHeartbeats 4000000 in
theorem o_A_advance_J170 {sc : List Int} {R : xR}   {l0 : Nat}  {s0 : Int} {s1 : Nat} {M : xM} {out : xM} (h : A_advance_J170 R l0  s0 s1 M = some out) : XR false 5 174 sc y_A_advance (170, [(0, (vR 7 l0))], [(vI s0), (vR 7 s1)], R, M, 174) (none, R, out) := by
  unfold A_advance_J170 at h
  obtain ⟨M_21, hM_21, h⟩ := xl_ex h
  obtain ⟨M_22, hM_22, h⟩ := xl_ex h
  refine s_A_advance [(170, .putfield 37, 7, 7), (173, .aload_n 0, 0, 0), (174, .dup, 0, 0), (175, .getfield 22, 7, 3), (178, .iconst 1, 0, 1), (179, .iadd, 0, 0), (180, .putfield 22, 7, 3)] (by decide +kernel) (z' := (183, [(0, (vR 7 l0))], [], R, M_22, 174)) (cs := []) (by subst hM_21; subst hM_22; rfl) trivial (Nat.le_refl _) ?_
  obtain rfl := Option.some.inj h
  exact XR.retV rfl (by decide +kernel)
set_option maxRecDepth 100000 in
set_option maxHeartbeats 4000000 in
theorem o_A_advance_J52 {sc : List Int} {R : xR}   {l0 : Nat}  {M : xM} {out : xM} (h : A_advance_J52 R l0  M = some out) : XR false 5 174 sc y_A_advance (52, [(0, (vR 7 l0))], [], R, M, 174) (none, R, out) := by
  unfold A_advance_J52 at h
  obtain ⟨M_7, hM_7, h⟩ := xl_ex h
  obtain ⟨M_8, hM_8, h⟩ := xl_ex h
  refine s_A_advance [(52, .aload_n 0, 0, 0), (53, .aload_n 0, 0, 0), (54, .getfield 22, 7, 3), (57, .putfield 34, 7, 6), (60, .aload_n 0, 0, 0), (61, .iconst (-1), 0, (-1)), (62, .putfield 44, 7, 9), (65, .aload_n 0, 0, 0), (66, .getfield 22, 7, 3), (69, .aload_n 0, 0, 0), (70, .getfield 19, 7, 2)] (by decide +kernel) (z' := (73, [(0, (vR 7 l0))], [(vI (M_8 l0 2)), (vI (M_8 l0 3))], R, M_8, 174)) (cs := []) (by subst hM_7; subst hM_8; rfl) trivial (Nat.le_refl _) ?_
  rcases xif_ex h with ⟨c_9, h⟩ | ⟨c_9, h⟩
  · skip
    refine s_A_advance [(73, .if_icmp .lt 11, 0, 84), (84, .aload_n 0, 0, 0), (85, .aload_n 0, 0, 0), (86, .getfield 22, 7, 3)] (by decide +kernel) (z' := (89, [(0, (vR 7 l0))], [(vI (M_8 l0 3)), (vR 7 l0)], R, M_8, 174)) (cs := [M_8 l0 3 < M_8 l0 2]) (by rfl) ⟨c_9, trivial⟩ (Nat.le_refl _) ?_
    obtain ⟨r_10, e_11, h⟩ := xb1_ex h
    refine XR.callV 7 rfl (rest := []) m_A_isLetter k_7_62 7 l0 (Or.inl ⟨by decide, rfl⟩) [(vI (M_8 l0 3))] rfl rfl (c_A_isLetter e_11) (by decide) (Nat.le_of_ble_eq_true rfl) (by decide +kernel) (Nat.le_refl _) (Nat.le_refl _) ?_
    show XR false 5 174 sc y_A_advance (92, [(0, (vR 7 l0))], [(vI r_10)], R, M_8, 174) _
    rcases xif_ex h with ⟨c_12, h⟩ | ⟨c_12, h⟩
    · skip
      refine s_A_advance [(92, .ifCond .eq 22, 0, 114), (114, .aload_n 0, 0, 0), (115, .aload_n 0, 0, 0), (116, .getfield 22, 7, 3)] (by decide +kernel) (z' := (119, [(0, (vR 7 l0))], [(vI (M_8 l0 3)), (vR 7 l0)], R, M_8, 174)) (cs := [r_10 = 0]) (by rfl) ⟨c_12, trivial⟩ (Nat.le_refl _) ?_
      obtain ⟨r_13, e_14, h⟩ := xb1_ex h
      refine XR.callV 7 rfl (rest := []) m_A_isDigit k_7_73 7 l0 (Or.inl ⟨by decide, rfl⟩) [(vI (M_8 l0 3))] rfl rfl (c_A_isDigit e_14) (by decide) (Nat.le_of_ble_eq_true rfl) (by decide +kernel) (Nat.le_refl _) (Nat.le_refl _) ?_
      show XR false 5 174 sc y_A_advance (122, [(0, (vR 7 l0))], [(vI r_13)], R, M_8, 174) _
      rcases xif_ex h with ⟨c_15, h⟩ | ⟨c_15, h⟩
      · skip
        obtain ⟨c_16, h⟩ := xch_ex h
        obtain ⟨M_17, hM_17, h⟩ := xl_ex h
        refine s_A_advance [(122, .ifCond .eq 10, 0, 132), (132, .aload_n 0, 0, 0), (133, .aload_n 0, 0, 0), (134, .getfield 9, 7, 0), (137, .aload_n 0, 0, 0), (138, .getfield 22, 7, 3), (141, .baload, 2, 0), (142, .sipush 255, 0, 255), (145, .iand, 0, 0), (146, .putfield 47, 7, 10), (149, .aload_n 0, 0, 0), (150, .aload_n 0, 0, 0), (151, .getfield 27, 7, 4), (154, .aload_n 0, 0, 0), (155, .getfield 47, 7, 10), (158, .i2c, 0, 0)] (by decide +kernel) (z' := (159, [(0, (vR 7 l0))], [(vI (xi2c (M_17 l0 10))), (vR 99 (R l0 4)), (vR 7 l0)], R, M_17, 174)) (cs := [r_13 = 0, xar 39 2, xidx (M_8 l0 3) (xan 39)]) (by subst hM_17; rfl) ⟨c_15, xar_39, xix_39 c_16, trivial⟩ (Nat.le_refl _) ?_
        obtain ⟨r_18, e_19, h⟩ := xb1_ex h
        refine XR.callV 7 rfl (rest := [(vR 7 l0)]) m_S_indexOf_II k_7_79 99 (R l0 4) (Or.inr ⟨rfl, rfl⟩) [(vI (xi2c (M_17 l0 10)))] rfl rfl (c_S_indexOf_II e_19) (by decide) (Nat.le_of_ble_eq_true rfl) (by decide +kernel) (Nat.le_refl _) (Nat.le_refl _) ?_
        show XR false 5 174 sc y_A_advance (162, [(0, (vR 7 l0))], [(vI r_18), (vR 7 l0)], R, M_17, 174) _
        rcases xif_ex h with ⟨c_20, h⟩ | ⟨c_20, h⟩
        · skip
          refine s_A_advance [(162, .ifCond .lt 7, 0, 169), (169, .iconst 4, 0, 4)] (by decide +kernel) (z' := (170, [(0, (vR 7 l0))], [(vI 4), (vR 7 l0)], R, M_17, 174)) (cs := [r_18 < 0]) (by rfl) ⟨c_20, trivial⟩ (Nat.le_refl _) ?_
          exact o_A_advance_J170  h
        · skip
          refine s_A_advance [(162, .ifCond .lt 7, 0, (-1)), (165, .iconst 3, 0, 3), (166, .goto 4, 0, 170)] (by decide +kernel) (z' := (170, [(0, (vR 7 l0))], [(vI 3), (vR 7 l0)], R, M_17, 174)) (cs := [¬ (r_18 < 0)]) (by rfl) ⟨c_20, trivial⟩ (Nat.le_refl _) ?_
          exact o_A_advance_J170  h
      · skip
        refine s_A_advance [(122, .ifCond .eq 10, 0, (-1)), (125, .aload_n 0, 0, 0)] (by decide +kernel) (z' := (126, [(0, (vR 7 l0))], [(vR 7 l0)], R, M_8, 174)) (cs := [¬ (r_13 = 0)]) (by rfl) ⟨c_15, trivial⟩ (Nat.le_refl _) ?_
        obtain ⟨M_23, e_24, h⟩ := xb1_ex h
        refine XR.callV 7 rfl (rest := []) m_A_scanNumber k_7_76 7 l0 (Or.inl ⟨by decide, rfl⟩) [] rfl rfl (c_A_scanNumber e_24) (by decide) (Nat.le_of_ble_eq_true rfl) (by decide +kernel) (Nat.le_refl _) (Nat.le_refl _) ?_
        show XR false 5 174 sc y_A_advance (129, [(0, (vR 7 l0))], [], R, M_23, 174) _
        refine s_A_advance [(129, .goto 54, 0, 183)] (by decide +kernel) (z' := (183, [(0, (vR 7 l0))], [], R, M_23, 174)) (cs := []) (by rfl) trivial (Nat.le_refl _) ?_
        obtain rfl := Option.some.inj h
        exact XR.retV rfl (by decide +kernel)
    · skip
      refine s_A_advance [(92, .ifCond .eq 22, 0, (-1)), (95, .aload_n 0, 0, 0)] (by decide +kernel) (z' := (96, [(0, (vR 7 l0))], [(vR 7 l0)], R, M_8, 174)) (cs := [¬ (r_10 = 0)]) (by rfl) ⟨c_12, trivial⟩ (Nat.le_refl _) ?_
      obtain ⟨M_25, e_26, h⟩ := xb1_ex h
      refine XR.callV 7 rfl (rest := []) m_A_scanWord k_7_66 7 l0 (Or.inl ⟨by decide, rfl⟩) [] rfl rfl (c_A_scanWord e_26) (by decide) (Nat.le_of_ble_eq_true rfl) (by decide +kernel) (Nat.le_refl _) (Nat.le_refl _) ?_
      show XR false 5 174 sc y_A_advance (99, [(0, (vR 7 l0))], [], R, M_25, 174) _
      refine s_A_advance [(99, .aload_n 0, 0, 0), (100, .aload_n 0, 0, 0), (101, .aload_n 0, 0, 0), (102, .getfield 40, 7, 8)] (by decide +kernel) (z' := (105, [(0, (vR 7 l0))], [(vL (M_25 l0 8)), (vR 7 l0), (vR 7 l0)], R, M_25, 174)) (cs := []) (by rfl) trivial (Nat.le_refl _) ?_
      obtain ⟨r_27, e_28, h⟩ := xb1_ex h
      refine XR.callV 7 rfl (rest := [(vR 7 l0)]) m_A_keyOf k_7_69 7 l0 (Or.inl ⟨by decide, rfl⟩) [(vL (M_25 l0 8))] rfl rfl (c_A_keyOf e_28) (by decide) (Nat.le_of_ble_eq_true rfl) (by decide +kernel) (Nat.le_refl _) (Nat.le_refl _) ?_
      show XR false 5 174 sc y_A_advance (108, [(0, (vR 7 l0))], [(vI r_27), (vR 7 l0)], R, M_25, 174) _
      obtain ⟨M_29, hM_29, h⟩ := xl_ex h
      refine s_A_advance [(108, .putfield 44, 7, 9), (111, .goto 72, 0, 183)] (by decide +kernel) (z' := (183, [(0, (vR 7 l0))], [], R, M_29, 174)) (cs := []) (by subst hM_29; rfl) trivial (Nat.le_refl _) ?_
      obtain rfl := Option.some.inj h
      exact XR.retV rfl (by decide +kernel)
  · skip
    obtain ⟨M_30, hM_30, h⟩ := xl_ex h
    refine s_A_advance [(73, .if_icmp .lt 11, 0, (-1)), (76, .aload_n 0, 0, 0), (77, .iconst 0, 0, 0), (78, .putfield 37, 7, 7), (81, .goto 102, 0, 183)] (by decide +kernel) (z' := (183, [(0, (vR 7 l0))], [], R, M_30, 174)) (cs := [¬ (M_8 l0 3 < M_8 l0 2)]) (by subst hM_30; rfl) ⟨c_9, trivial⟩ (Nat.le_refl _) ?_
    obtain rfl := Option.some.inj h
    exact XR.retV rfl (by decide +kernel)
set_option maxRecDepth 100000 in
set_option maxHeartbeats 4000000 in
theorem o_A_advance {sc : List Int} {R : xR} {M : xM} {l0 : Nat} {out : xM} (h : f_A_advance R l0 M = some out) : XR false 5 174 sc y_A_advance (0, [(0, (vR 7 l0))], [], R, M, 174) (none, R, out) := by
  unfold f_A_advance at h
  refine o_A_advance_F0 ?_ xfu M _ h
  · intro M_6 out h
    exact o_A_advance_J52  h
set_option maxRecDepth 100000 in
set_option maxHeartbeats 4000000 in
theorem c_A_advance {sc : List Int} {R : xR} {M : xM} {l0 : Nat} {out : xM} (h : f_A_advance R l0 M = some out) : XC false 5 sc y_A_advance [(vR 7 l0)] R M 174 174 (none, R, out) := XC.of (by decide) (Nat.le_of_ble_eq_true rfl) (Nat.le_refl _) (Nat.le_refl _) (o_A_advance h)
def f_A_stands (l0 : Nat) (l1 : Int) (M : xM) : Option (Int × xM) :=
  if M l0 7 = 4 then
    xb2 (f_A_wrong l0 1 M) fun r_2 M_3 =>
    xch (r_2 = 0 ∨ r_2 = 1) <|
    some (r_2, M_3)
  else
    if l1 = 0 then
      xb2 (f_A_wrong l0 2 M) fun r_7 M_8 =>
      if r_7 = 0 then
        some (0, M_8)
      else
        some (1, M_8)
    else
      some (1, M)
set_option maxRecDepth 100000 in
set_option maxHeartbeats 4000000 in
theorem s_A_stands {d : Nat} {sc : List Int} {z z' : xS} {out : xO} (qs : List xI) {cs : List Prop} (hq : qs.all (xqb 7 false y_A_stands.2.2.1 y_A_stands.2.1) = true) (h : xN false sc qs z = some (z', cs)) (hc : xAll cs) (hE : z'.2.2.2.2.2 ≤ 174) (k : XR false d 174 sc y_A_stands z' out) : XR false d 174 sc y_A_stands z out := XR.seg 7 false rfl (fun q => by cases q) qs hq h hc hE k
set_option maxRecDepth 100000 in
set_option maxHeartbeats 4000000 in
theorem o_A_stands {sc : List Int} {R : xR} {M : xM} {l0 : Nat} {l1 : Int} {out : Int × xM} (h : f_A_stands l0 l1 M = some out) : XR false 1 174 sc y_A_stands (0, [(0, (vR 7 l0)), (1, (vI l1))], [], R, M, 174) ((some (vI out.1)), R, out.2) := by
  unfold f_A_stands at h
  refine s_A_stands [(0, .aload_n 0, 0, 0), (1, .getfield 37, 7, 7), (4, .iconst 4, 0, 4)] (by decide +kernel) (z' := (5, [(0, (vR 7 l0)), (1, (vI l1))], [(vI 4), (vI (M l0 7))], R, M, 174)) (cs := []) (by rfl) trivial (Nat.le_refl _) ?_
  rcases xif_ex h with ⟨c_1, h⟩ | ⟨c_1, h⟩
  · skip
    refine s_A_stands [(5, .if_icmp .ne 9, 0, (-1)), (8, .aload_n 0, 0, 0), (9, .iconst 1, 0, 1)] (by decide +kernel) (z' := (10, [(0, (vR 7 l0)), (1, (vI l1))], [(vI 1), (vR 7 l0)], R, M, 174)) (cs := [¬ (M l0 7 ≠ 4)]) (by rfl) ⟨fun q => q c_1, trivial⟩ (Nat.le_refl _) ?_
    obtain ⟨r_2, M_3, e_4, h⟩ := xb2_ex h
    refine XR.callV 7 rfl (rest := []) m_A_wrong k_7_95 7 l0 (Or.inl ⟨by decide, rfl⟩) [(vI 1)] rfl rfl (c_A_wrong e_4) (by decide) (Nat.le_of_ble_eq_true rfl) (by decide +kernel) (Nat.le_refl _) (Nat.le_refl _) ?_
    show XR false 1 174 sc y_A_stands (13, [(0, (vR 7 l0)), (1, (vI l1))], [(vI r_2)], R, M_3, 174) _
    obtain ⟨c_5, h⟩ := xch_ex h
    obtain rfl := Option.some.inj h
    exact XR.retI .boolean rfl (xnar_z c_5) (by decide +kernel)
  · skip
    refine s_A_stands [(5, .if_icmp .ne 9, 0, 14), (14, .iload_n 1, 0, 0)] (by decide +kernel) (z' := (15, [(0, (vR 7 l0)), (1, (vI l1))], [(vI l1)], R, M, 174)) (cs := [M l0 7 ≠ 4]) (by rfl) ⟨c_1, trivial⟩ (Nat.le_refl _) ?_
    rcases xif_ex h with ⟨c_6, h⟩ | ⟨c_6, h⟩
    · skip
      refine s_A_stands [(15, .ifCond .ne 11, 0, (-1)), (18, .aload_n 0, 0, 0), (19, .iconst 2, 0, 2)] (by decide +kernel) (z' := (20, [(0, (vR 7 l0)), (1, (vI l1))], [(vI 2), (vR 7 l0)], R, M, 174)) (cs := [¬ (l1 ≠ 0)]) (by rfl) ⟨fun q => q c_6, trivial⟩ (Nat.le_refl _) ?_
      obtain ⟨r_7, M_8, e_9, h⟩ := xb2_ex h
      refine XR.callV 7 rfl (rest := []) m_A_wrong k_7_95 7 l0 (Or.inl ⟨by decide, rfl⟩) [(vI 2)] rfl rfl (c_A_wrong e_9) (by decide) (Nat.le_of_ble_eq_true rfl) (by decide +kernel) (Nat.le_refl _) (Nat.le_refl _) ?_
      show XR false 1 174 sc y_A_stands (23, [(0, (vR 7 l0)), (1, (vI l1))], [(vI r_7)], R, M_8, 174) _
      rcases xif_ex h with ⟨c_10, h⟩ | ⟨c_10, h⟩
      · skip
        refine s_A_stands [(23, .ifCond .eq 7, 0, 30), (30, .iconst 0, 0, 0)] (by decide +kernel) (z' := (31, [(0, (vR 7 l0)), (1, (vI l1))], [(vI 0)], R, M_8, 174)) (cs := [r_7 = 0]) (by rfl) ⟨c_10, trivial⟩ (Nat.le_refl _) ?_
        obtain rfl := Option.some.inj h
        exact XR.retI .boolean rfl (xnar_z (by decide)) (by decide +kernel)
      · skip
        refine s_A_stands [(23, .ifCond .eq 7, 0, (-1)), (26, .iconst 1, 0, 1), (27, .goto 4, 0, 31)] (by decide +kernel) (z' := (31, [(0, (vR 7 l0)), (1, (vI l1))], [(vI 1)], R, M_8, 174)) (cs := [¬ (r_7 = 0)]) (by rfl) ⟨c_10, trivial⟩ (Nat.le_refl _) ?_
        obtain rfl := Option.some.inj h
        exact XR.retI .boolean rfl (xnar_z (by decide)) (by decide +kernel)
    · skip
      refine s_A_stands [(15, .ifCond .ne 11, 0, 26), (26, .iconst 1, 0, 1), (27, .goto 4, 0, 31)] (by decide +kernel) (z' := (31, [(0, (vR 7 l0)), (1, (vI l1))], [(vI 1)], R, M, 174)) (cs := [l1 ≠ 0]) (by rfl) ⟨c_6, trivial⟩ (Nat.le_refl _) ?_
      obtain rfl := Option.some.inj h
      exact XR.retI .boolean rfl (xnar_z (by decide)) (by decide +kernel)
set_option maxRecDepth 100000 in
set_option maxHeartbeats 4000000 in
theorem c_A_stands {sc : List Int} {R : xR} {M : xM} {l0 : Nat} {l1 : Int} {out : Int × xM} (h : f_A_stands l0 l1 M = some out) : XC false 1 sc y_A_stands [(vR 7 l0), (vI l1)] R M 174 174 ((some (vI out.1)), R, out.2) := XC.of (by decide) (Nat.le_of_ble_eq_true rfl) (Nat.le_refl _) (Nat.le_refl _) (o_A_stands h)
def f_A_takeSign (R : xR) (l0 : Nat) (l1 : Int) (M : xM) : Option (Int × xM) :=
  xb1 (f_A_isSign l0 l1 M) fun r_1 =>
  xb2 (f_A_stands l0 r_1 M) fun r_3 M_4 =>
  if r_3 = 0 then
    some (0, M_4)
  else
    xb1 (f_A_advance R l0 M_4) fun M_7 =>
    some (1, M_7)
set_option maxRecDepth 100000 in
set_option maxHeartbeats 4000000 in
theorem s_A_takeSign {d : Nat} {sc : List Int} {z z' : xS} {out : xO} (qs : List xI) {cs : List Prop} (hq : qs.all (xqb 7 false y_A_takeSign.2.2.1 y_A_takeSign.2.1) = true) (h : xN false sc qs z = some (z', cs)) (hc : xAll cs) (hE : z'.2.2.2.2.2 ≤ 174) (k : XR false d 174 sc y_A_takeSign z' out) : XR false d 174 sc y_A_takeSign z out := XR.seg 7 false rfl (fun q => by cases q) qs hq h hc hE k
set_option maxRecDepth 100000 in
set_option maxHeartbeats 4000000 in
theorem o_A_takeSign {sc : List Int} {R : xR} {M : xM} {l0 : Nat} {l1 : Int} {out : Int × xM} (h : f_A_takeSign R l0 l1 M = some out) : XR false 6 174 sc y_A_takeSign (0, [(0, (vR 7 l0)), (1, (vI l1))], [], R, M, 174) ((some (vI out.1)), R, out.2) := by
  unfold f_A_takeSign at h
  refine s_A_takeSign [(0, .aload_n 0, 0, 0), (1, .aload_n 0, 0, 0), (2, .iload_n 1, 0, 0)] (by decide +kernel) (z' := (3, [(0, (vR 7 l0)), (1, (vI l1))], [(vI l1), (vR 7 l0), (vR 7 l0)], R, M, 174)) (cs := []) (by rfl) trivial (Nat.le_refl _) ?_
  obtain ⟨r_1, e_2, h⟩ := xb1_ex h
  refine XR.callV 7 rfl (rest := [(vR 7 l0)]) m_A_isSign k_7_102 7 l0 (Or.inl ⟨by decide, rfl⟩) [(vI l1)] rfl rfl (c_A_isSign e_2) (by decide) (Nat.le_of_ble_eq_true rfl) (by decide +kernel) (Nat.le_refl _) (Nat.le_refl _) ?_
  show XR false 6 174 sc y_A_takeSign (6, [(0, (vR 7 l0)), (1, (vI l1))], [(vI r_1), (vR 7 l0)], R, M, 174) _
  obtain ⟨r_3, M_4, e_5, h⟩ := xb2_ex h
  refine XR.callV 7 rfl (rest := []) m_A_stands k_7_98 7 l0 (Or.inl ⟨by decide, rfl⟩) [(vI r_1)] rfl rfl (c_A_stands e_5) (by decide) (Nat.le_of_ble_eq_true rfl) (by decide +kernel) (Nat.le_refl _) (Nat.le_refl _) ?_
  show XR false 6 174 sc y_A_takeSign (9, [(0, (vR 7 l0)), (1, (vI l1))], [(vI r_3)], R, M_4, 174) _
  rcases xif_ex h with ⟨c_6, h⟩ | ⟨c_6, h⟩
  · skip
    refine s_A_takeSign [(9, .ifCond .ne 5, 0, (-1)), (12, .iconst 0, 0, 0)] (by decide +kernel) (z' := (13, [(0, (vR 7 l0)), (1, (vI l1))], [(vI 0)], R, M_4, 174)) (cs := [¬ (r_3 ≠ 0)]) (by rfl) ⟨fun q => q c_6, trivial⟩ (Nat.le_refl _) ?_
    obtain rfl := Option.some.inj h
    exact XR.retI .boolean rfl (xnar_z (by decide)) (by decide +kernel)
  · skip
    refine s_A_takeSign [(9, .ifCond .ne 5, 0, 14), (14, .aload_n 0, 0, 0)] (by decide +kernel) (z' := (15, [(0, (vR 7 l0)), (1, (vI l1))], [(vR 7 l0)], R, M_4, 174)) (cs := [r_3 ≠ 0]) (by rfl) ⟨c_6, trivial⟩ (Nat.le_refl _) ?_
    obtain ⟨M_7, e_8, h⟩ := xb1_ex h
    refine XR.callV 7 rfl (rest := []) m_A_advance k_7_59 7 l0 (Or.inl ⟨by decide, rfl⟩) [] rfl rfl (c_A_advance e_8) (by decide) (Nat.le_of_ble_eq_true rfl) (by decide +kernel) (Nat.le_refl _) (Nat.le_refl _) ?_
    show XR false 6 174 sc y_A_takeSign (18, [(0, (vR 7 l0)), (1, (vI l1))], [], R, M_7, 174) _
    refine s_A_takeSign [(18, .iconst 1, 0, 1)] (by decide +kernel) (z' := (19, [(0, (vR 7 l0)), (1, (vI l1))], [(vI 1)], R, M_7, 174)) (cs := []) (by rfl) trivial (Nat.le_refl _) ?_
    obtain rfl := Option.some.inj h
    exact XR.retI .boolean rfl (xnar_z (by decide)) (by decide +kernel)
set_option maxRecDepth 100000 in
set_option maxHeartbeats 4000000 in
theorem c_A_takeSign {sc : List Int} {R : xR} {M : xM} {l0 : Nat} {l1 : Int} {out : Int × xM} (h : f_A_takeSign R l0 l1 M = some out) : XC false 6 sc y_A_takeSign [(vR 7 l0), (vI l1)] R M 174 174 ((some (vI out.1)), R, out.2) := XC.of (by decide) (Nat.le_of_ble_eq_true rfl) (Nat.le_refl _) (Nat.le_refl _) (o_A_takeSign h)
def A_takeKey_J14 (R : xR) (l0 : Nat) (s0 : Int) (s1 : Nat) (M : xM) : Option (Int × xM) :=
  xb2 (f_A_stands s1 s0 M) fun r_2 M_3 =>
  if r_2 = 0 then
    some (0, M_3)
  else
    xb1 (f_A_advance R l0 M_3) fun M_6 =>
    some (1, M_6)
def f_A_takeKey (R : xR) (l0 : Nat) (l1 : Int) (M : xM) : Option (Int × xM) :=
  if M l0 9 = l1 then
    A_takeKey_J14 R l0 1 l0 M
  else
    A_takeKey_J14 R l0 0 l0 M
set_option maxRecDepth 100000 in
set_option maxHeartbeats 4000000 in
theorem s_A_takeKey {d : Nat} {sc : List Int} {z z' : xS} {out : xO} (qs : List xI) {cs : List Prop} (hq : qs.all (xqb 7 false y_A_takeKey.2.2.1 y_A_takeKey.2.1) = true) (h : xN false sc qs z = some (z', cs)) (hc : xAll cs) (hE : z'.2.2.2.2.2 ≤ 174) (k : XR false d 174 sc y_A_takeKey z' out) : XR false d 174 sc y_A_takeKey z out := XR.seg 7 false rfl (fun q => by cases q) qs hq h hc hE k
set_option maxRecDepth 100000 in
set_option maxHeartbeats 4000000 in
theorem o_A_takeKey_J14 {sc : List Int} {R : xR}   {l0 : Nat}  {s0 : Int} {s1 : Nat} {M : xM} {out : Int × xM} (h : A_takeKey_J14 R l0  s0 s1 M = some out) : XR false 6 174 sc y_A_takeKey (14, [(0, (vR 7 l0))], [(vI s0), (vR 7 s1)], R, M, 174) ((some (vI out.1)), R, out.2) := by
  unfold A_takeKey_J14 at h
  obtain ⟨r_2, M_3, e_4, h⟩ := xb2_ex h
  refine XR.callV 7 rfl (rest := []) m_A_stands k_7_98 7 s1 (Or.inl ⟨by decide, rfl⟩) [(vI s0)] rfl rfl (c_A_stands e_4) (by decide) (Nat.le_of_ble_eq_true rfl) (by decide +kernel) (Nat.le_refl _) (Nat.le_refl _) ?_
  show XR false 6 174 sc y_A_takeKey (17, [(0, (vR 7 l0))], [(vI r_2)], R, M_3, 174) _
  rcases xif_ex h with ⟨c_5, h⟩ | ⟨c_5, h⟩
  · skip
    refine s_A_takeKey [(17, .ifCond .ne 5, 0, (-1)), (20, .iconst 0, 0, 0)] (by decide +kernel) (z' := (21, [(0, (vR 7 l0))], [(vI 0)], R, M_3, 174)) (cs := [¬ (r_2 ≠ 0)]) (by rfl) ⟨fun q => q c_5, trivial⟩ (Nat.le_refl _) ?_
    obtain rfl := Option.some.inj h
    exact XR.retI .boolean rfl (xnar_z (by decide)) (by decide +kernel)
  · skip
    refine s_A_takeKey [(17, .ifCond .ne 5, 0, 22), (22, .aload_n 0, 0, 0)] (by decide +kernel) (z' := (23, [(0, (vR 7 l0))], [(vR 7 l0)], R, M_3, 174)) (cs := [r_2 ≠ 0]) (by rfl) ⟨c_5, trivial⟩ (Nat.le_refl _) ?_
    obtain ⟨M_6, e_7, h⟩ := xb1_ex h
    refine XR.callV 7 rfl (rest := []) m_A_advance k_7_59 7 l0 (Or.inl ⟨by decide, rfl⟩) [] rfl rfl (c_A_advance e_7) (by decide) (Nat.le_of_ble_eq_true rfl) (by decide +kernel) (Nat.le_refl _) (Nat.le_refl _) ?_
    show XR false 6 174 sc y_A_takeKey (26, [(0, (vR 7 l0))], [], R, M_6, 174) _
    refine s_A_takeKey [(26, .iconst 1, 0, 1)] (by decide +kernel) (z' := (27, [(0, (vR 7 l0))], [(vI 1)], R, M_6, 174)) (cs := []) (by rfl) trivial (Nat.le_refl _) ?_
    obtain rfl := Option.some.inj h
    exact XR.retI .boolean rfl (xnar_z (by decide)) (by decide +kernel)
set_option maxRecDepth 100000 in
set_option maxHeartbeats 4000000 in
theorem o_A_takeKey {sc : List Int} {R : xR} {M : xM} {l0 : Nat} {l1 : Int} {out : Int × xM} (h : f_A_takeKey R l0 l1 M = some out) : XR false 6 174 sc y_A_takeKey (0, [(0, (vR 7 l0)), (1, (vI l1))], [], R, M, 174) ((some (vI out.1)), R, out.2) := by
  unfold f_A_takeKey at h
  refine s_A_takeKey [(0, .aload_n 0, 0, 0), (1, .aload_n 0, 0, 0), (2, .getfield 44, 7, 9), (5, .iload_n 1, 0, 0)] (by decide +kernel) (z' := (6, [(0, (vR 7 l0)), (1, (vI l1))], [(vI l1), (vI (M l0 9)), (vR 7 l0)], R, M, 174)) (cs := []) (by rfl) trivial (Nat.le_refl _) ?_
  rcases xif_ex h with ⟨c_1, h⟩ | ⟨c_1, h⟩
  · skip
    refine s_A_takeKey [(6, .if_icmp .ne 7, 0, (-1)), (9, .iconst 1, 0, 1), (10, .goto 4, 0, 14)] (by decide +kernel) (z' := (14, [(0, (vR 7 l0)), (1, (vI l1))], [(vI 1), (vR 7 l0)], R, M, 174)) (cs := [¬ (M l0 9 ≠ l1)]) (by rfl) ⟨fun q => q c_1, trivial⟩ (Nat.le_refl _) ?_
    refine XR.pick [0] (ls' := [(0, (vR 7 l0))]) rfl ?_
    exact o_A_takeKey_J14  h
  · skip
    refine s_A_takeKey [(6, .if_icmp .ne 7, 0, 13), (13, .iconst 0, 0, 0)] (by decide +kernel) (z' := (14, [(0, (vR 7 l0)), (1, (vI l1))], [(vI 0), (vR 7 l0)], R, M, 174)) (cs := [M l0 9 ≠ l1]) (by rfl) ⟨c_1, trivial⟩ (Nat.le_refl _) ?_
    refine XR.pick [0] (ls' := [(0, (vR 7 l0))]) rfl ?_
    exact o_A_takeKey_J14  h
set_option maxRecDepth 100000 in
set_option maxHeartbeats 4000000 in
theorem c_A_takeKey {sc : List Int} {R : xR} {M : xM} {l0 : Nat} {l1 : Int} {out : Int × xM} (h : f_A_takeKey R l0 l1 M = some out) : XC false 6 sc y_A_takeKey [(vR 7 l0), (vI l1)] R M 174 174 ((some (vI out.1)), R, out.2) := XC.of (by decide) (Nat.le_of_ble_eq_true rfl) (Nat.le_refl _) (Nat.le_refl _) (o_A_takeKey h)
def A_takeNumber_J14 (R : xR) (l0 : Nat) (l1 : Int) (l2 : Int) (l3 : Int) (s0 : Int) (s1 : Nat) (M : xM) : Option (Int × xM) :=
  xb2 (f_A_stands s1 s0 M) fun r_2 M_3 =>
  if r_2 = 0 then
    some (0, M_3)
  else
    if M_3 l0 10 < l1 then
      xb2 (f_A_wrong l0 l3 M_3) fun r_7 M_8 =>
      xch (r_7 = 0 ∨ r_7 = 1) <|
      some (r_7, M_8)
    else
      if l2 < M_3 l0 10 then
        xb2 (f_A_wrong l0 l3 M_3) fun r_12 M_13 =>
        xch (r_12 = 0 ∨ r_12 = 1) <|
        some (r_12, M_13)
      else
        xl (xu M_3 l0 11 (M_3 l0 10)) fun M_16 =>
        xb1 (f_A_advance R l0 M_16) fun M_17 =>
        some (1, M_17)
def f_A_takeNumber (R : xR) (l0 : Nat) (l1 : Int) (l2 : Int) (l3 : Int) (M : xM) : Option (Int × xM) :=
  if M l0 7 = 2 then
    A_takeNumber_J14 R l0 l1 l2 l3 1 l0 M
  else
    A_takeNumber_J14 R l0 l1 l2 l3 0 l0 M
set_option maxRecDepth 100000 in
set_option maxHeartbeats 4000000 in
theorem s_A_takeNumber {d : Nat} {sc : List Int} {z z' : xS} {out : xO} (qs : List xI) {cs : List Prop} (hq : qs.all (xqb 7 false y_A_takeNumber.2.2.1 y_A_takeNumber.2.1) = true) (h : xN false sc qs z = some (z', cs)) (hc : xAll cs) (hE : z'.2.2.2.2.2 ≤ 174) (k : XR false d 174 sc y_A_takeNumber z' out) : XR false d 174 sc y_A_takeNumber z out := XR.seg 7 false rfl (fun q => by cases q) qs hq h hc hE k
set_option maxRecDepth 100000 in
set_option maxHeartbeats 4000000 in
theorem o_A_takeNumber_J14 {sc : List Int} {R : xR}   {l0 : Nat} {l1 : Int} {l2 : Int} {l3 : Int}  {s0 : Int} {s1 : Nat} {M : xM} {out : Int × xM} (h : A_takeNumber_J14 R l0 l1 l2 l3  s0 s1 M = some out) : XR false 6 174 sc y_A_takeNumber (14, [(0, (vR 7 l0)), (1, (vI l1)), (2, (vI l2)), (3, (vI l3))], [(vI s0), (vR 7 s1)], R, M, 174) ((some (vI out.1)), R, out.2) := by
  unfold A_takeNumber_J14 at h
  obtain ⟨r_2, M_3, e_4, h⟩ := xb2_ex h
  refine XR.callV 7 rfl (rest := []) m_A_stands k_7_98 7 s1 (Or.inl ⟨by decide, rfl⟩) [(vI s0)] rfl rfl (c_A_stands e_4) (by decide) (Nat.le_of_ble_eq_true rfl) (by decide +kernel) (Nat.le_refl _) (Nat.le_refl _) ?_
  show XR false 6 174 sc y_A_takeNumber (17, [(0, (vR 7 l0)), (1, (vI l1)), (2, (vI l2)), (3, (vI l3))], [(vI r_2)], R, M_3, 174) _
  rcases xif_ex h with ⟨c_5, h⟩ | ⟨c_5, h⟩
  · skip
    refine s_A_takeNumber [(17, .ifCond .ne 5, 0, (-1)), (20, .iconst 0, 0, 0)] (by decide +kernel) (z' := (21, [(0, (vR 7 l0)), (1, (vI l1)), (2, (vI l2)), (3, (vI l3))], [(vI 0)], R, M_3, 174)) (cs := [¬ (r_2 ≠ 0)]) (by rfl) ⟨fun q => q c_5, trivial⟩ (Nat.le_refl _) ?_
    obtain rfl := Option.some.inj h
    exact XR.retI .boolean rfl (xnar_z (by decide)) (by decide +kernel)
  · skip
    refine s_A_takeNumber [(17, .ifCond .ne 5, 0, 22), (22, .aload_n 0, 0, 0), (23, .getfield 47, 7, 10), (26, .iload_n 1, 0, 0)] (by decide +kernel) (z' := (27, [(0, (vR 7 l0)), (1, (vI l1)), (2, (vI l2)), (3, (vI l3))], [(vI l1), (vI (M_3 l0 10))], R, M_3, 174)) (cs := [r_2 ≠ 0]) (by rfl) ⟨c_5, trivial⟩ (Nat.le_refl _) ?_
    rcases xif_ex h with ⟨c_6, h⟩ | ⟨c_6, h⟩
    · skip
      refine s_A_takeNumber [(27, .if_icmp .lt 11, 0, 38), (38, .aload_n 0, 0, 0), (39, .iload_n 3, 0, 0)] (by decide +kernel) (z' := (40, [(0, (vR 7 l0)), (1, (vI l1)), (2, (vI l2)), (3, (vI l3))], [(vI l3), (vR 7 l0)], R, M_3, 174)) (cs := [M_3 l0 10 < l1]) (by rfl) ⟨c_6, trivial⟩ (Nat.le_refl _) ?_
      obtain ⟨r_7, M_8, e_9, h⟩ := xb2_ex h
      refine XR.callV 7 rfl (rest := []) m_A_wrong k_7_95 7 l0 (Or.inl ⟨by decide, rfl⟩) [(vI l3)] rfl rfl (c_A_wrong e_9) (by decide) (Nat.le_of_ble_eq_true rfl) (by decide +kernel) (Nat.le_refl _) (Nat.le_refl _) ?_
      show XR false 6 174 sc y_A_takeNumber (43, [(0, (vR 7 l0)), (1, (vI l1)), (2, (vI l2)), (3, (vI l3))], [(vI r_7)], R, M_8, 174) _
      obtain ⟨c_10, h⟩ := xch_ex h
      obtain rfl := Option.some.inj h
      exact XR.retI .boolean rfl (xnar_z c_10) (by decide +kernel)
    · skip
      refine s_A_takeNumber [(27, .if_icmp .lt 11, 0, (-1)), (30, .aload_n 0, 0, 0), (31, .getfield 47, 7, 10), (34, .iload_n 2, 0, 0)] (by decide +kernel) (z' := (35, [(0, (vR 7 l0)), (1, (vI l1)), (2, (vI l2)), (3, (vI l3))], [(vI l2), (vI (M_3 l0 10))], R, M_3, 174)) (cs := [¬ (M_3 l0 10 < l1)]) (by rfl) ⟨c_6, trivial⟩ (Nat.le_refl _) ?_
      rcases xif_ex h with ⟨c_11, h⟩ | ⟨c_11, h⟩
      · skip
        refine s_A_takeNumber [(35, .if_icmp .le 9, 0, (-1)), (38, .aload_n 0, 0, 0), (39, .iload_n 3, 0, 0)] (by decide +kernel) (z' := (40, [(0, (vR 7 l0)), (1, (vI l1)), (2, (vI l2)), (3, (vI l3))], [(vI l3), (vR 7 l0)], R, M_3, 174)) (cs := [¬ (M_3 l0 10 ≤ l2)]) (by rfl) ⟨Int.not_le.mpr c_11, trivial⟩ (Nat.le_refl _) ?_
        obtain ⟨r_12, M_13, e_14, h⟩ := xb2_ex h
        refine XR.callV 7 rfl (rest := []) m_A_wrong k_7_95 7 l0 (Or.inl ⟨by decide, rfl⟩) [(vI l3)] rfl rfl (c_A_wrong e_14) (by decide) (Nat.le_of_ble_eq_true rfl) (by decide +kernel) (Nat.le_refl _) (Nat.le_refl _) ?_
        show XR false 6 174 sc y_A_takeNumber (43, [(0, (vR 7 l0)), (1, (vI l1)), (2, (vI l2)), (3, (vI l3))], [(vI r_12)], R, M_13, 174) _
        obtain ⟨c_15, h⟩ := xch_ex h
        obtain rfl := Option.some.inj h
        exact XR.retI .boolean rfl (xnar_z c_15) (by decide +kernel)
      · skip
        obtain ⟨M_16, hM_16, h⟩ := xl_ex h
        refine s_A_takeNumber [(35, .if_icmp .le 9, 0, 44), (44, .aload_n 0, 0, 0), (45, .aload_n 0, 0, 0), (46, .getfield 47, 7, 10), (49, .putfield 50, 7, 11), (52, .aload_n 0, 0, 0)] (by decide +kernel) (z' := (53, [(0, (vR 7 l0)), (1, (vI l1)), (2, (vI l2)), (3, (vI l3))], [(vR 7 l0)], R, M_16, 174)) (cs := [M_3 l0 10 ≤ l2]) (by subst hM_16; rfl) ⟨Int.not_lt.mp c_11, trivial⟩ (Nat.le_refl _) ?_
        obtain ⟨M_17, e_18, h⟩ := xb1_ex h
        refine XR.callV 7 rfl (rest := []) m_A_advance k_7_59 7 l0 (Or.inl ⟨by decide, rfl⟩) [] rfl rfl (c_A_advance e_18) (by decide) (Nat.le_of_ble_eq_true rfl) (by decide +kernel) (Nat.le_refl _) (Nat.le_refl _) ?_
        show XR false 6 174 sc y_A_takeNumber (56, [(0, (vR 7 l0)), (1, (vI l1)), (2, (vI l2)), (3, (vI l3))], [], R, M_17, 174) _
        refine s_A_takeNumber [(56, .iconst 1, 0, 1)] (by decide +kernel) (z' := (57, [(0, (vR 7 l0)), (1, (vI l1)), (2, (vI l2)), (3, (vI l3))], [(vI 1)], R, M_17, 174)) (cs := []) (by rfl) trivial (Nat.le_refl _) ?_
        obtain rfl := Option.some.inj h
        exact XR.retI .boolean rfl (xnar_z (by decide)) (by decide +kernel)
set_option maxRecDepth 100000 in
set_option maxHeartbeats 4000000 in
theorem o_A_takeNumber {sc : List Int} {R : xR} {M : xM} {l0 : Nat} {l1 : Int} {l2 : Int} {l3 : Int} {out : Int × xM} (h : f_A_takeNumber R l0 l1 l2 l3 M = some out) : XR false 6 174 sc y_A_takeNumber (0, [(0, (vR 7 l0)), (1, (vI l1)), (2, (vI l2)), (3, (vI l3))], [], R, M, 174) ((some (vI out.1)), R, out.2) := by
  unfold f_A_takeNumber at h
  refine s_A_takeNumber [(0, .aload_n 0, 0, 0), (1, .aload_n 0, 0, 0), (2, .getfield 37, 7, 7), (5, .iconst 2, 0, 2)] (by decide +kernel) (z' := (6, [(0, (vR 7 l0)), (1, (vI l1)), (2, (vI l2)), (3, (vI l3))], [(vI 2), (vI (M l0 7)), (vR 7 l0)], R, M, 174)) (cs := []) (by rfl) trivial (Nat.le_refl _) ?_
  rcases xif_ex h with ⟨c_1, h⟩ | ⟨c_1, h⟩
  · skip
    refine s_A_takeNumber [(6, .if_icmp .ne 7, 0, (-1)), (9, .iconst 1, 0, 1), (10, .goto 4, 0, 14)] (by decide +kernel) (z' := (14, [(0, (vR 7 l0)), (1, (vI l1)), (2, (vI l2)), (3, (vI l3))], [(vI 1), (vR 7 l0)], R, M, 174)) (cs := [¬ (M l0 7 ≠ 2)]) (by rfl) ⟨fun q => q c_1, trivial⟩ (Nat.le_refl _) ?_
    exact o_A_takeNumber_J14  h
  · skip
    refine s_A_takeNumber [(6, .if_icmp .ne 7, 0, 13), (13, .iconst 0, 0, 0)] (by decide +kernel) (z' := (14, [(0, (vR 7 l0)), (1, (vI l1)), (2, (vI l2)), (3, (vI l3))], [(vI 0), (vR 7 l0)], R, M, 174)) (cs := [M l0 7 ≠ 2]) (by rfl) ⟨c_1, trivial⟩ (Nat.le_refl _) ?_
    exact o_A_takeNumber_J14  h
set_option maxRecDepth 100000 in
set_option maxHeartbeats 4000000 in
theorem c_A_takeNumber {sc : List Int} {R : xR} {M : xM} {l0 : Nat} {l1 : Int} {l2 : Int} {l3 : Int} {out : Int × xM} (h : f_A_takeNumber R l0 l1 l2 l3 M = some out) : XC false 6 sc y_A_takeNumber [(vR 7 l0), (vI l1), (vI l2), (vI l3)] R M 174 174 ((some (vI out.1)), R, out.2) := XC.of (by decide) (Nat.le_of_ble_eq_true rfl) (Nat.le_refl _) (Nat.le_refl _) (o_A_takeNumber h)
def f_A_isName (l0 : Nat) (M : xM) : Option Int :=
  if M l0 7 = 1 then
    if M l0 8 = 0 then
      some (0)
    else
      if M l0 9 = -1 then
        some (1)
      else
        some (0)
  else
    some (0)
set_option maxRecDepth 100000 in
set_option maxHeartbeats 4000000 in
theorem s_A_isName {d : Nat} {sc : List Int} {z z' : xS} {out : xO} (qs : List xI) {cs : List Prop} (hq : qs.all (xqb 7 false y_A_isName.2.2.1 y_A_isName.2.1) = true) (h : xN false sc qs z = some (z', cs)) (hc : xAll cs) (hE : z'.2.2.2.2.2 ≤ 174) (k : XR false d 174 sc y_A_isName z' out) : XR false d 174 sc y_A_isName z out := XR.seg 7 false rfl (fun q => by cases q) qs hq h hc hE k
set_option maxRecDepth 100000 in
set_option maxHeartbeats 4000000 in
theorem o_A_isName {sc : List Int} {R : xR} {M : xM} {l0 : Nat} {out : Int} (h : f_A_isName l0 M = some out) : XR false 0 174 sc y_A_isName (0, [(0, (vR 7 l0))], [], R, M, 174) ((some (vI out)), R, M) := by
  unfold f_A_isName at h
  refine s_A_isName [(0, .aload_n 0, 0, 0), (1, .getfield 37, 7, 7), (4, .iconst 1, 0, 1)] (by decide +kernel) (z' := (5, [(0, (vR 7 l0))], [(vI 1), (vI (M l0 7))], R, M, 174)) (cs := []) (by rfl) trivial (Nat.le_refl _) ?_
  rcases xif_ex h with ⟨c_1, h⟩ | ⟨c_1, h⟩
  · skip
    refine s_A_isName [(5, .if_icmp .ne 24, 0, (-1)), (8, .aload_n 0, 0, 0), (9, .getfield 40, 7, 8), (12, .lconst 0, 0, 0), (13, .lcmp, 0, 0)] (by decide +kernel) (z' := (14, [(0, (vR 7 l0))], [(vI (xcmp (M l0 8) 0))], R, M, 174)) (cs := [¬ (M l0 7 ≠ 1)]) (by rfl) ⟨fun q => q c_1, trivial⟩ (Nat.le_refl _) ?_
    rcases xif_ex h with ⟨c_2, h⟩ | ⟨c_2, h⟩
    · skip
      refine s_A_isName [(14, .ifCond .eq 15, 0, 29), (29, .iconst 0, 0, 0)] (by decide +kernel) (z' := (30, [(0, (vR 7 l0))], [(vI 0)], R, M, 174)) (cs := [xcmp (M l0 8) 0 = 0]) (by rfl) ⟨xcmp_eq.mpr c_2, trivial⟩ (Nat.le_refl _) ?_
      obtain rfl := Option.some.inj h
      exact XR.retI .boolean rfl (xnar_z (by decide)) (by decide +kernel)
    · skip
      refine s_A_isName [(14, .ifCond .eq 15, 0, (-1)), (17, .aload_n 0, 0, 0), (18, .getfield 44, 7, 9), (21, .iconst (-1), 0, (-1))] (by decide +kernel) (z' := (22, [(0, (vR 7 l0))], [(vI (-1)), (vI (M l0 9))], R, M, 174)) (cs := [¬ (xcmp (M l0 8) 0 = 0)]) (by rfl) ⟨fun q => c_2 (xcmp_eq.mp q), trivial⟩ (Nat.le_refl _) ?_
      rcases xif_ex h with ⟨c_3, h⟩ | ⟨c_3, h⟩
      · skip
        refine s_A_isName [(22, .if_icmp .ne 7, 0, (-1)), (25, .iconst 1, 0, 1), (26, .goto 4, 0, 30)] (by decide +kernel) (z' := (30, [(0, (vR 7 l0))], [(vI 1)], R, M, 174)) (cs := [¬ (M l0 9 ≠ -1)]) (by rfl) ⟨fun q => q c_3, trivial⟩ (Nat.le_refl _) ?_
        obtain rfl := Option.some.inj h
        exact XR.retI .boolean rfl (xnar_z (by decide)) (by decide +kernel)
      · skip
        refine s_A_isName [(22, .if_icmp .ne 7, 0, 29), (29, .iconst 0, 0, 0)] (by decide +kernel) (z' := (30, [(0, (vR 7 l0))], [(vI 0)], R, M, 174)) (cs := [M l0 9 ≠ -1]) (by rfl) ⟨c_3, trivial⟩ (Nat.le_refl _) ?_
        obtain rfl := Option.some.inj h
        exact XR.retI .boolean rfl (xnar_z (by decide)) (by decide +kernel)
  · skip
    refine s_A_isName [(5, .if_icmp .ne 24, 0, 29), (29, .iconst 0, 0, 0)] (by decide +kernel) (z' := (30, [(0, (vR 7 l0))], [(vI 0)], R, M, 174)) (cs := [M l0 7 ≠ 1]) (by rfl) ⟨c_1, trivial⟩ (Nat.le_refl _) ?_
    obtain rfl := Option.some.inj h
    exact XR.retI .boolean rfl (xnar_z (by decide)) (by decide +kernel)
set_option maxRecDepth 100000 in
set_option maxHeartbeats 4000000 in
theorem c_A_isName {sc : List Int} {R : xR} {M : xM} {l0 : Nat} {out : Int} (h : f_A_isName l0 M = some out) : XC false 0 sc y_A_isName [(vR 7 l0)] R M 174 174 ((some (vI out)), R, M) := XC.of (by decide) (Nat.le_of_ble_eq_true rfl) (Nat.le_refl _) (Nat.le_refl _) (o_A_isName h)
def A_append_F3 (R : xR) (l0 : Nat) (l1 : Int) : Nat → Int → xM → Option xM
  | 0, _, _ => none
  | n + 1, v2, M =>
    if v2 < 0 then
      some (M)
    else
      if M l0 1 < 600 then
        xch (0 ≤ M l0 1 ∧ M l0 1 < 600) <|
        xl (xu M (R l0 0) (Int.toNat (M l0 1)) (w8 (w8 (xshr l1 v2)))) fun M_4 =>
        xl (xu M_4 l0 1 (w32 ((M_4 l0 1) + 1))) fun M_5 =>
        xl (w32 (v2 + (-8))) fun v2_6 =>
        A_append_F3 R l0 l1  n v2_6 M_5
      else
        some (M)
def f_A_append (R : xR) (l0 : Nat) (l1 : Int) (M : xM) : Option xM :=
  A_append_F3 R l0 l1
    xfu 24 M
set_option maxRecDepth 100000 in
set_option maxHeartbeats 4000000 in
theorem s_A_append {d : Nat} {sc : List Int} {z z' : xS} {out : xO} (qs : List xI) {cs : List Prop} (hq : qs.all (xqb 7 false y_A_append.2.2.1 y_A_append.2.1) = true) (h : xN false sc qs z = some (z', cs)) (hc : xAll cs) (hE : z'.2.2.2.2.2 ≤ 174) (k : XR false d 174 sc y_A_append z' out) : XR false d 174 sc y_A_append z out := XR.seg 7 false rfl (fun q => by cases q) qs hq h hc hE k
set_option maxRecDepth 100000 in
set_option maxHeartbeats 4000000 in
theorem o_A_append_F3 {sc : List Int} {R : xR}   {l0 : Nat} {l1 : Int}  : ∀ (n : Nat) (v2 : Int) (M : xM) (out : xM), A_append_F3 R l0 l1  n v2 M = some out → XR false 0 174 sc y_A_append (3, [(0, (vR 7 l0)), (1, (vI l1)), (2, (vI v2))], [], R, M, 174) (none, R, out) := by
  intro n
  induction n with
  | zero => intro v2 M out h; exact (xno h).elim
  | succ n ih =>
    intro v2 M out h
    rw [A_append_F3] at h
    refine s_A_append [(3, .iload_n 2, 0, 0)] (by decide +kernel) (z' := (4, [(0, (vR 7 l0)), (1, (vI l1)), (2, (vI v2))], [(vI v2)], R, M, 174)) (cs := []) (by rfl) trivial (Nat.le_refl _) ?_
    rcases xif_ex h with ⟨c_1, h⟩ | ⟨c_1, h⟩
    · skip
      refine s_A_append [(4, .ifCond .lt 42, 0, 46)] (by decide +kernel) (z' := (46, [(0, (vR 7 l0)), (1, (vI l1)), (2, (vI v2))], [], R, M, 174)) (cs := [v2 < 0]) (by rfl) ⟨c_1, trivial⟩ (Nat.le_refl _) ?_
      obtain rfl := Option.some.inj h
      exact XR.retV rfl (by decide +kernel)
    · skip
      refine s_A_append [(4, .ifCond .lt 42, 0, (-1)), (7, .aload_n 0, 0, 0), (8, .getfield 15, 7, 1), (11, .sipush 600, 0, 600)] (by decide +kernel) (z' := (14, [(0, (vR 7 l0)), (1, (vI l1)), (2, (vI v2))], [(vI 600), (vI (M l0 1))], R, M, 174)) (cs := [¬ (v2 < 0)]) (by rfl) ⟨c_1, trivial⟩ (Nat.le_refl _) ?_
      rcases xif_ex h with ⟨c_2, h⟩ | ⟨c_2, h⟩
      · skip
        obtain ⟨c_3, h⟩ := xch_ex h
        obtain ⟨M_4, hM_4, h⟩ := xl_ex h
        obtain ⟨M_5, hM_5, h⟩ := xl_ex h
        obtain ⟨v2_6, hv2_6, h⟩ := xl_ex h
        refine s_A_append [(14, .if_icmp .ge 32, 0, (-1)), (17, .aload_n 0, 0, 0), (18, .getfield 9, 7, 0), (21, .aload_n 0, 0, 0), (22, .getfield 15, 7, 1), (25, .iload_n 1, 0, 0), (26, .iload_n 2, 0, 0), (27, .ishr, 0, 0), (28, .i2b, 0, 0), (29, .bastore, 2, 0), (30, .aload_n 0, 0, 0), (31, .dup, 0, 0), (32, .getfield 15, 7, 1), (35, .iconst 1, 0, 1), (36, .iadd, 0, 0), (37, .putfield 15, 7, 1), (40, .iinc 2 (-8), 0, 0), (43, .goto (-40), 0, 3)] (by decide +kernel) (z' := (3, [(2, (vI v2_6)), (0, (vR 7 l0)), (1, (vI l1))], [], R, M_5, 174)) (cs := [¬ (600 ≤ M l0 1), xar 39 2, xidx (M l0 1) (xan 39)]) (by subst hM_4; subst hM_5; subst hv2_6; rfl) ⟨Int.not_le.mpr c_2, xar_39, xix_39 c_3, trivial⟩ (Nat.le_refl _) ?_
        refine XR.pick [1, 2, 0] (ls' := [(0, (vR 7 l0)), (1, (vI l1)), (2, (vI v2_6))]) rfl ?_
        exact ih v2_6 M_5 _ h
      · skip
        refine s_A_append [(14, .if_icmp .ge 32, 0, 46)] (by decide +kernel) (z' := (46, [(0, (vR 7 l0)), (1, (vI l1)), (2, (vI v2))], [], R, M, 174)) (cs := [600 ≤ M l0 1]) (by rfl) ⟨Int.not_lt.mp c_2, trivial⟩ (Nat.le_refl _) ?_
        obtain rfl := Option.some.inj h
        exact XR.retV rfl (by decide +kernel)
set_option maxRecDepth 100000 in
set_option maxHeartbeats 4000000 in
theorem o_A_append {sc : List Int} {R : xR} {M : xM} {l0 : Nat} {l1 : Int} {out : xM} (h : f_A_append R l0 l1 M = some out) : XR false 0 174 sc y_A_append (0, [(0, (vR 7 l0)), (1, (vI l1))], [], R, M, 174) (none, R, out) := by
  unfold f_A_append at h
  refine s_A_append [(0, .bipush 24, 0, 24), (2, .istore_n 2, 0, 0)] (by decide +kernel) (z' := (3, [(2, (vI 24)), (0, (vR 7 l0)), (1, (vI l1))], [], R, M, 174)) (cs := []) (by rfl) trivial (Nat.le_refl _) ?_
  refine XR.pick [1, 2, 0] (ls' := [(0, (vR 7 l0)), (1, (vI l1)), (2, (vI 24))]) rfl ?_
  refine o_A_append_F3  xfu 24 M _ h
set_option maxRecDepth 100000 in
set_option maxHeartbeats 4000000 in
theorem c_A_append {sc : List Int} {R : xR} {M : xM} {l0 : Nat} {l1 : Int} {out : xM} (h : f_A_append R l0 l1 M = some out) : XC false 0 sc y_A_append [(vR 7 l0), (vI l1)] R M 174 174 (none, R, out) := XC.of (by decide) (Nat.le_of_ble_eq_true rfl) (Nat.le_refl _) (Nat.le_refl _) (o_A_append h)
def f_A_hasRoom (l0 : Nat) (M : xM) : Option Int :=
  if 600 < w32 ((M l0 1) + 20) then
    some (0)
  else
    some (1)
set_option maxRecDepth 100000 in
set_option maxHeartbeats 4000000 in
theorem s_A_hasRoom {d : Nat} {sc : List Int} {z z' : xS} {out : xO} (qs : List xI) {cs : List Prop} (hq : qs.all (xqb 7 false y_A_hasRoom.2.2.1 y_A_hasRoom.2.1) = true) (h : xN false sc qs z = some (z', cs)) (hc : xAll cs) (hE : z'.2.2.2.2.2 ≤ 174) (k : XR false d 174 sc y_A_hasRoom z' out) : XR false d 174 sc y_A_hasRoom z out := XR.seg 7 false rfl (fun q => by cases q) qs hq h hc hE k
set_option maxRecDepth 100000 in
set_option maxHeartbeats 4000000 in
theorem o_A_hasRoom {sc : List Int} {R : xR} {M : xM} {l0 : Nat} {out : Int} (h : f_A_hasRoom l0 M = some out) : XR false 0 174 sc y_A_hasRoom (0, [(0, (vR 7 l0))], [], R, M, 174) ((some (vI out)), R, M) := by
  unfold f_A_hasRoom at h
  refine s_A_hasRoom [(0, .aload_n 0, 0, 0), (1, .getfield 15, 7, 1), (4, .bipush 20, 0, 20), (6, .iadd, 0, 0), (7, .sipush 600, 0, 600)] (by decide +kernel) (z' := (10, [(0, (vR 7 l0))], [(vI 600), (vI (w32 ((M l0 1) + 20)))], R, M, 174)) (cs := []) (by rfl) trivial (Nat.le_refl _) ?_
  rcases xif_ex h with ⟨c_1, h⟩ | ⟨c_1, h⟩
  · skip
    refine s_A_hasRoom [(10, .if_icmp .gt 7, 0, 17), (17, .iconst 0, 0, 0)] (by decide +kernel) (z' := (18, [(0, (vR 7 l0))], [(vI 0)], R, M, 174)) (cs := [600 < w32 ((M l0 1) + 20)]) (by rfl) ⟨c_1, trivial⟩ (Nat.le_refl _) ?_
    obtain rfl := Option.some.inj h
    exact XR.retI .boolean rfl (xnar_z (by decide)) (by decide +kernel)
  · skip
    refine s_A_hasRoom [(10, .if_icmp .gt 7, 0, (-1)), (13, .iconst 1, 0, 1), (14, .goto 4, 0, 18)] (by decide +kernel) (z' := (18, [(0, (vR 7 l0))], [(vI 1)], R, M, 174)) (cs := [¬ (600 < w32 ((M l0 1) + 20))]) (by rfl) ⟨c_1, trivial⟩ (Nat.le_refl _) ?_
    obtain rfl := Option.some.inj h
    exact XR.retI .boolean rfl (xnar_z (by decide)) (by decide +kernel)
set_option maxRecDepth 100000 in
set_option maxHeartbeats 4000000 in
theorem c_A_hasRoom {sc : List Int} {R : xR} {M : xM} {l0 : Nat} {out : Int} (h : f_A_hasRoom l0 M = some out) : XC false 0 sc y_A_hasRoom [(vR 7 l0)] R M 174 174 ((some (vI out)), R, M) := XC.of (by decide) (Nat.le_of_ble_eq_true rfl) (Nat.le_refl _) (Nat.le_refl _) (o_A_hasRoom h)
def f_A_open (R : xR) (l0 : Nat) (l1 : Int) (l2 : Nat) (l3 : Nat) (M : xM) : Option (xR × xM) :=
  xl (xu M l0 2 l1) fun M_1 =>
  xl (xu M_1 l0 3 0) fun M_2 =>
  xl (xu M_2 l0 1 0) fun M_3 =>
  xl (xu R l0 4 l2) fun R_4 =>
  xl (xu R_4 l0 5 l3) fun R_5 =>
  xl (xu M_3 l0 12 0) fun M_6 =>
  xl (xu M_6 l0 13 (-1)) fun M_7 =>
  xb1 (f_A_advance R_5 l0 M_7) fun M_8 =>
  some (R_5, M_8)
set_option maxRecDepth 100000 in
set_option maxHeartbeats 4000000 in
theorem s_A_open {d : Nat} {sc : List Int} {z z' : xS} {out : xO} (qs : List xI) {cs : List Prop} (hq : qs.all (xqb 7 false y_A_open.2.2.1 y_A_open.2.1) = true) (h : xN false sc qs z = some (z', cs)) (hc : xAll cs) (hE : z'.2.2.2.2.2 ≤ 174) (k : XR false d 174 sc y_A_open z' out) : XR false d 174 sc y_A_open z out := XR.seg 7 false rfl (fun q => by cases q) qs hq h hc hE k
set_option maxRecDepth 100000 in
set_option maxHeartbeats 4000000 in
theorem o_A_open {sc : List Int} {R : xR} {M : xM} {l0 : Nat} {l1 : Int} {l2 : Nat} {l3 : Nat} {out : xR × xM} (h : f_A_open R l0 l1 l2 l3 M = some out) : XR false 6 174 sc y_A_open (0, [(0, (vR 7 l0)), (1, (vI l1)), (2, (vR 99 l2)), (3, (vR 99 l3))], [], R, M, 174) (none, out.1, out.2) := by
  unfold f_A_open at h
  obtain ⟨M_1, hM_1, h⟩ := xl_ex h
  obtain ⟨M_2, hM_2, h⟩ := xl_ex h
  obtain ⟨M_3, hM_3, h⟩ := xl_ex h
  obtain ⟨R_4, hR_4, h⟩ := xl_ex h
  obtain ⟨R_5, hR_5, h⟩ := xl_ex h
  obtain ⟨M_6, hM_6, h⟩ := xl_ex h
  obtain ⟨M_7, hM_7, h⟩ := xl_ex h
  refine s_A_open [(0, .aload_n 0, 0, 0), (1, .iload_n 1, 0, 0), (2, .putfield 19, 7, 2), (5, .aload_n 0, 0, 0), (6, .iconst 0, 0, 0), (7, .putfield 22, 7, 3), (10, .aload_n 0, 0, 0), (11, .iconst 0, 0, 0), (12, .putfield 15, 7, 1), (15, .aload_n 0, 0, 0), (16, .aload_n 2, 0, 0), (17, .putfield 27, 7, 4), (20, .aload_n 0, 0, 0), (21, .aload_n 3, 0, 0), (22, .putfield 31, 7, 5), (25, .aload_n 0, 0, 0), (26, .iconst 0, 0, 0), (27, .putfield 53, 7, 12), (30, .aload_n 0, 0, 0), (31, .iconst (-1), 0, (-1)), (32, .putfield 56, 7, 13), (35, .aload_n 0, 0, 0)] (by decide +kernel) (z' := (36, [(0, (vR 7 l0)), (1, (vI l1)), (2, (vR 99 l2)), (3, (vR 99 l3))], [(vR 7 l0)], R_5, M_7, 174)) (cs := []) (by subst hM_1; subst hM_2; subst hM_3; subst hR_4; subst hR_5; subst hM_6; subst hM_7; rfl) trivial (Nat.le_refl _) ?_
  obtain ⟨M_8, e_9, h⟩ := xb1_ex h
  refine XR.callV 7 rfl (rest := []) m_A_advance k_7_59 7 l0 (Or.inl ⟨by decide, rfl⟩) [] rfl rfl (c_A_advance e_9) (by decide) (Nat.le_of_ble_eq_true rfl) (by decide +kernel) (Nat.le_refl _) (Nat.le_refl _) ?_
  show XR false 6 174 sc y_A_open (39, [(0, (vR 7 l0)), (1, (vI l1)), (2, (vR 99 l2)), (3, (vR 99 l3))], [], R_5, M_8, 174) _
  obtain rfl := Option.some.inj h
  exact XR.retV rfl (by decide +kernel)
set_option maxRecDepth 100000 in
set_option maxHeartbeats 4000000 in
theorem c_A_open {sc : List Int} {R : xR} {M : xM} {l0 : Nat} {l1 : Int} {l2 : Nat} {l3 : Nat} {out : xR × xM} (h : f_A_open R l0 l1 l2 l3 M = some out) : XC false 6 sc y_A_open [(vR 7 l0), (vI l1), (vR 99 l2), (vR 99 l3)] R M 174 174 (none, out.1, out.2) := XC.of (by decide) (Nat.le_of_ble_eq_true rfl) (Nat.le_refl _) (Nat.le_refl _) (o_A_open h)
