def M_hour_F2 (R : xR) (l0 : Nat) (l1 : Int) (q21 : xM → Option xM) : Nat → Int → xM → Option xM
  | 0, _, _ => none
  | n + 1, v2, M =>
    if v2 < 32 then
      xch (0 ≤ v2 ∧ v2 < 32) <|
      xl (xu M (R l0 81) (Int.toNat v2) 0) fun M_3 =>
      xl (w32 (v2 + 1)) fun v2_4 =>
      M_hour_F2 R l0 l1 q21 n v2_4 M_3
    else
      q21 M
def M_hour_F41 (R : xR) (l0 : Nat) (l1 : Int) (q80 : Int → xM → Option xM) : Nat → Int → Int → xM → Option xM
  | 0, _, _, _ => none
  | n + 1, v2, v3, M =>
    if v3 < M l0 31 then
      xch (0 ≤ v3 ∧ v3 < 4) <|
      xch (0 ≤ w32 ((w32 (4 * (M (R l0 39) (Int.toNat v3)))) + v2) ∧ w32 ((w32 (4 * (M (R l0 39) (Int.toNat v3)))) + v2) < 32) <|
      xb1 (f_M_portionsOf R l0 v3 l1 v2 M) fun r_12 =>
      xl (xu M (R l0 81) (Int.toNat (w32 ((w32 (4 * (M (R l0 39) (Int.toNat v3)))) + v2))) (w32 ((M (R l0 81) (Int.toNat (w32 ((w32 (4 * (M (R l0 39) (Int.toNat v3)))) + v2)))) + r_12))) fun M_14 =>
      xl (w32 (v3 + 1)) fun v3_15 =>
      M_hour_F41 R l0 l1 q80 n v2 v3_15 M_14
    else
      q80 v2 M
def M_hour_F23 (R : xR) (l0 : Nat) (l1 : Int) (q86 : xM → Option xM) : Nat → Int → xM → Option xM
  | 0, _, _ => none
  | n + 1, v2, M =>
    if v2 < 4 then
      xch (0 ≤ w32 ((w32 (4 * l1)) + v2) ∧ w32 ((w32 (4 * l1)) + v2) < 192) <|
      xl (xu M (R l0 80) (Int.toNat (w32 ((w32 (4 * l1)) + v2))) 0) fun M_8 =>
      M_hour_F41 R l0 l1
        (fun (v2_16 : Int) (M_17 : xM) =>
          xl (w32 (v2_16 + 1)) fun v2_18 =>
          M_hour_F23 R l0 l1 q86 n v2_18 M_17)
        xfu v2 0 M_8
    else
      q86 M
def M_hour_F98 (R : xR) (l0 : Nat) (l1 : Int) (q120 : Int → xM → Option xM) : Nat → Int → Int → xM → Option xM
  | 0, _, _, _ => none
  | n + 1, v2, v3, M =>
    if v3 < 4 then
      xch (0 ≤ w32 ((w32 (4 * v2)) + v3) ∧ w32 ((w32 (4 * v2)) + v3) < 32) <|
      xl (xu M (R l0 83) (Int.toNat (w32 ((w32 (4 * v2)) + v3))) 0) fun M_23 =>
      xl (w32 (v3 + 1)) fun v3_24 =>
      M_hour_F98 R l0 l1 q120 n v2 v3_24 M_23
    else
      q120 v2 M
def M_hour_J253 (R : xR) (l0 : Nat) (l1 : Int) (rc : Int → Int → Int → xM → Option xM) (q290 : Int → xM → Option xM) (v2 : Int) (v3 : Int) (v4 : Int) (v5 : Int) (M : xM) : Option xM :=
  xch (0 ≤ v5 ∧ v5 < 32) <|
  xb1 (f_M_sends R l0 v2 v4 l1 (w32 ((w32 ((M (R l0 81) (Int.toNat v5)) - (M (R l0 82) (Int.toNat v5)))) + (M (R l0 83) (Int.toNat v5)))) M) fun M_45 =>
  xl (w32 (v4 + 1)) fun v4_47 =>
  rc v2 v3 v4_47 M_45
def M_hour_F143 (R : xR) (l0 : Nat) (l1 : Int) (q290 : Int → xM → Option xM) : Nat → Int → Int → Int → xM → Option xM
  | 0, _, _, _, _ => none
  | n + 1, v2, v3, v4, M =>
    if v4 < 4 then
      xl (w32 ((w32 (4 * v2)) + v4)) fun v5_33 =>
      xch (0 ≤ v5_33 ∧ v5_33 < 32) <|
      xb1 (f_M_holdsNow R l0 v2 v4 l1 v3 M) fun r_35 =>
      xl (w32 ((w32 ((M (R l0 81) (Int.toNat v5_33)) * r_35)) + (M (R l0 86) (Int.toNat v5_33)))) fun v6_37 =>
      xl (xu M (R l0 82) (Int.toNat v5_33) (w32 (Int.tdiv v6_37 100))) fun M_38 =>
      xl (xu M_38 (R l0 86) (Int.toNat v5_33) (Int.tmod v6_37 100)) fun M_39 =>
      xb1 (f_M_hasLayer R l0 v2 M_39) fun r_40 =>
      if r_40 = 0 then
        xl (xu M_39 (R l0 85) (Int.toNat v5_33) (w32 ((M_39 (R l0 85) (Int.toNat v5_33)) + (M_39 (R l0 82) (Int.toNat v5_33))))) fun M_43 =>
        M_hour_J253 R l0 l1 (M_hour_F143 R l0 l1 q290 n) q290 v2 v3 v4 v5_33 M_43
      else
        xl (xu M_39 (R l0 84) (Int.toNat v5_33) (w32 ((M_39 (R l0 84) (Int.toNat v5_33)) + (M_39 (R l0 82) (Int.toNat v5_33))))) fun M_48 =>
        M_hour_J253 R l0 l1 (M_hour_F143 R l0 l1 q290 n) q290 v2 v3 v4 v5_33 M_48
    else
      q290 v2 M
def M_hour_J134 (R : xR) (l0 : Nat) (l1 : Int) (rc : Int → xM → Option xM) (v2 : Int) (M : xM) : Option xM :=
  xb1 (f_M_layerOf R l0 v2 M) fun r_30 =>
  M_hour_F143 R l0 l1
    (fun (v2_49 : Int) (M_50 : xM) =>
      xl (w32 (v2_49 + 1)) fun v2_51 =>
      rc v2_51 M_50)
    xfu v2 r_30 0 M
def M_hour_F88 (R : xR) (l0 : Nat) (l1 : Int) : Nat → Int → xM → Option xM
  | 0, _, _ => none
  | n + 1, v2, M =>
    if v2 < M l0 30 then
      M_hour_F98 R l0 l1
        (fun (v2_25 : Int) (M_26 : xM) =>
          xb1 (f_M_isKnocked R l0 v2_25 l1 M_26) fun r_27 =>
          if r_27 = 0 then
            M_hour_J134 R l0 l1 (M_hour_F88 R l0 l1  n) v2_25 M_26
          else
            xb1 (f_M_knocked R l0 v2_25 M_26) fun M_52 =>
            M_hour_J134 R l0 l1 (M_hour_F88 R l0 l1  n) v2_25 M_52)
        xfu v2 0 M
    else
      some (M)
def f_M_hour (R : xR) (l0 : Nat) (l1 : Int) (M : xM) : Option xM :=
  M_hour_F2 R l0 l1
    (fun (M_5 : xM) =>
      M_hour_F23 R l0 l1
        (fun (M_19 : xM) =>
          M_hour_F88 R l0 l1
            xfu 0 M_19)
        xfu 0 M_5)
    xfu 0 M
set_option maxRecDepth 100000 in
set_option maxHeartbeats 4000000 in
theorem s_M_hour {d : Nat} {sc : List Int} {z z' : xS} {out : xO} (qs : List xI) {cs : List Prop} (hq : qs.all (xqb 10 false y_M_hour.2.2.1 y_M_hour.2.1) = true) (h : xN false sc qs z = some (z', cs)) (hc : xAll cs) (hE : z'.2.2.2.2.2 ≤ 174) (k : XR false d 174 sc y_M_hour z' out) : XR false d 174 sc y_M_hour z out := XR.seg 10 false rfl (fun q => by cases q) qs hq h hc hE k
set_option maxRecDepth 100000 in
set_option maxHeartbeats 4000000 in
theorem o_M_hour_F2 {sc : List Int} {R : xR}   {l0 : Nat} {l1 : Int}  {q21 : xM → Option xM} (hq21 : ∀ (M : xM) (out : xM), q21 M = some out → XR false 2 174 sc y_M_hour (21, [(0, (vR 10 l0)), (1, (vI l1))], [], R, M, 174) (none, R, out)) : ∀ (n : Nat) (v2 : Int) (M : xM) (out : xM), M_hour_F2 R l0 l1 q21 n v2 M = some out → XR false 2 174 sc y_M_hour (2, [(0, (vR 10 l0)), (1, (vI l1)), (2, (vI v2))], [], R, M, 174) (none, R, out) := by
  intro n
  induction n with
  | zero => intro v2 M out h; exact (xno h).elim
  | succ n ih =>
    intro v2 M out h
    rw [M_hour_F2] at h
    refine s_M_hour [(2, .iload_n 2, 0, 0), (3, .bipush 32, 0, 32)] (by decide +kernel) (z' := (5, [(0, (vR 10 l0)), (1, (vI l1)), (2, (vI v2))], [(vI 32), (vI v2)], R, M, 174)) (cs := []) (by rfl) trivial (Nat.le_refl _) ?_
    rcases xif_ex h with ⟨c_1, h⟩ | ⟨c_1, h⟩
    · skip
      obtain ⟨c_2, h⟩ := xch_ex h
      obtain ⟨M_3, hM_3, h⟩ := xl_ex h
      obtain ⟨v2_4, hv2_4, h⟩ := xl_ex h
      refine s_M_hour [(5, .if_icmp .ge 16, 0, (-1)), (8, .aload_n 0, 0, 0), (9, .getfield 184, 10, 81), (12, .iload_n 2, 0, 0), (13, .iconst 0, 0, 0), (14, .iastore, 0, 0), (15, .iinc 2 1, 0, 0), (18, .goto (-16), 0, 2)] (by decide +kernel) (z' := (2, [(2, (vI v2_4)), (0, (vR 10 l0)), (1, (vI l1))], [], R, M_3, 174)) (cs := [¬ (32 ≤ v2), xar 27 0, xidx v2 (xan 27)]) (by subst hM_3; subst hv2_4; rfl) ⟨Int.not_le.mpr c_1, xar_27, xix_27 c_2, trivial⟩ (Nat.le_refl _) ?_
      refine XR.pick [1, 2, 0] (ls' := [(0, (vR 10 l0)), (1, (vI l1)), (2, (vI v2_4))]) rfl ?_
      exact ih v2_4 M_3 _ h
    · skip
      refine s_M_hour [(5, .if_icmp .ge 16, 0, 21)] (by decide +kernel) (z' := (21, [(0, (vR 10 l0)), (1, (vI l1)), (2, (vI v2))], [], R, M, 174)) (cs := [32 ≤ v2]) (by rfl) ⟨Int.not_lt.mp c_1, trivial⟩ (Nat.le_refl _) ?_
      refine XR.pick [0, 1] (ls' := [(0, (vR 10 l0)), (1, (vI l1))]) rfl ?_
      exact hq21 M _ h
set_option maxRecDepth 100000 in
set_option maxHeartbeats 4000000 in
theorem o_M_hour_F41 {sc : List Int} {R : xR}   {l0 : Nat} {l1 : Int}  {q80 : Int → xM → Option xM} (hq80 : ∀ (w2 : Int) (M : xM) (out : xM), q80 w2 M = some out → XR false 2 174 sc y_M_hour (80, [(0, (vR 10 l0)), (1, (vI l1)), (2, (vI w2))], [], R, M, 174) (none, R, out)) : ∀ (n : Nat) (v2 : Int) (v3 : Int) (M : xM) (out : xM), M_hour_F41 R l0 l1 q80 n v2 v3 M = some out → XR false 2 174 sc y_M_hour (41, [(0, (vR 10 l0)), (1, (vI l1)), (2, (vI v2)), (3, (vI v3))], [], R, M, 174) (none, R, out) := by
  intro n
  induction n with
  | zero => intro v2 v3 M out h; exact (xno h).elim
  | succ n ih =>
    intro v2 v3 M out h
    rw [M_hour_F41] at h
    refine s_M_hour [(41, .iload_n 3, 0, 0), (42, .aload_n 0, 0, 0), (43, .getfield 396, 10, 31)] (by decide +kernel) (z' := (46, [(0, (vR 10 l0)), (1, (vI l1)), (2, (vI v2)), (3, (vI v3))], [(vI (M l0 31)), (vI v3)], R, M, 174)) (cs := []) (by rfl) trivial (Nat.le_refl _) ?_
    rcases xif_ex h with ⟨c_9, h⟩ | ⟨c_9, h⟩
    · skip
      obtain ⟨c_10, h⟩ := xch_ex h
      obtain ⟨c_11, h⟩ := xch_ex h
      refine s_M_hour [(46, .if_icmp .ge 34, 0, (-1)), (49, .aload_n 0, 0, 0), (50, .getfield 184, 10, 81), (53, .iconst 4, 0, 4), (54, .aload_n 0, 0, 0), (55, .getfield 88, 10, 39), (58, .iload_n 3, 0, 0), (59, .iaload, 0, 0), (60, .imul, 0, 0), (61, .iload_n 2, 0, 0), (62, .iadd, 0, 0), (63, .dup2, 0, 0), (64, .iaload, 0, 0), (65, .aload_n 0, 0, 0), (66, .iload_n 3, 0, 0), (67, .iload_n 1, 0, 0), (68, .iload_n 2, 0, 0)] (by decide +kernel) (z' := (69, [(0, (vR 10 l0)), (1, (vI l1)), (2, (vI v2)), (3, (vI v3))], [(vI v2), (vI l1), (vI v3), (vR 10 l0), (vI (M (R l0 81) (Int.toNat (w32 ((w32 (4 * (M (R l0 39) (Int.toNat v3)))) + v2))))), (vI (w32 ((w32 (4 * (M (R l0 39) (Int.toNat v3)))) + v2))), (vR 27 (R l0 81))], R, M, 174)) (cs := [¬ (M l0 31 ≤ v3), xar 34 0, xidx v3 (xan 34), xar 27 0, xidx (w32 ((w32 (4 * (M (R l0 39) (Int.toNat v3)))) + v2)) (xan 27)]) (by rfl) ⟨Int.not_le.mpr c_9, xar_34, xix_34 c_10, xar_27, xix_27 c_11, trivial⟩ (Nat.le_refl _) ?_
      obtain ⟨r_12, e_13, h⟩ := xb1_ex h
      refine XR.callV 10 rfl (rest := [(vI (M (R l0 81) (Int.toNat (w32 ((w32 (4 * (M (R l0 39) (Int.toNat v3)))) + v2))))), (vI (w32 ((w32 (4 * (M (R l0 39) (Int.toNat v3)))) + v2))), (vR 27 (R l0 81))]) m_M_portionsOf k_10_474 10 l0 (Or.inl ⟨by decide, rfl⟩) [(vI v3), (vI l1), (vI v2)] rfl rfl (c_M_portionsOf e_13) (by decide) (Nat.le_of_ble_eq_true rfl) (by decide +kernel) (Nat.le_refl _) (Nat.le_refl _) ?_
      show XR false 2 174 sc y_M_hour (72, [(0, (vR 10 l0)), (1, (vI l1)), (2, (vI v2)), (3, (vI v3))], [(vI r_12), (vI (M (R l0 81) (Int.toNat (w32 ((w32 (4 * (M (R l0 39) (Int.toNat v3)))) + v2))))), (vI (w32 ((w32 (4 * (M (R l0 39) (Int.toNat v3)))) + v2))), (vR 27 (R l0 81))], R, M, 174) _
      obtain ⟨M_14, hM_14, h⟩ := xl_ex h
      obtain ⟨v3_15, hv3_15, h⟩ := xl_ex h
      refine s_M_hour [(72, .iadd, 0, 0), (73, .iastore, 0, 0), (74, .iinc 3 1, 0, 0), (77, .goto (-36), 0, 41)] (by decide +kernel) (z' := (41, [(3, (vI v3_15)), (0, (vR 10 l0)), (1, (vI l1)), (2, (vI v2))], [], R, M_14, 174)) (cs := [xar 27 0, xidx (w32 ((w32 (4 * (M (R l0 39) (Int.toNat v3)))) + v2)) (xan 27)]) (by subst hM_14; subst hv3_15; rfl) ⟨xar_27, xix_27 c_11, trivial⟩ (Nat.le_refl _) ?_
      refine XR.pick [1, 2, 3, 0] (ls' := [(0, (vR 10 l0)), (1, (vI l1)), (2, (vI v2)), (3, (vI v3_15))]) rfl ?_
      exact ih v2 v3_15 M_14 _ h
    · skip
      refine s_M_hour [(46, .if_icmp .ge 34, 0, 80)] (by decide +kernel) (z' := (80, [(0, (vR 10 l0)), (1, (vI l1)), (2, (vI v2)), (3, (vI v3))], [], R, M, 174)) (cs := [M l0 31 ≤ v3]) (by rfl) ⟨Int.not_lt.mp c_9, trivial⟩ (Nat.le_refl _) ?_
      refine XR.pick [0, 1, 2] (ls' := [(0, (vR 10 l0)), (1, (vI l1)), (2, (vI v2))]) rfl ?_
      exact hq80 v2 M _ h
set_option maxRecDepth 100000 in
set_option maxHeartbeats 4000000 in
theorem o_M_hour_F23 {sc : List Int} {R : xR}   {l0 : Nat} {l1 : Int}  {q86 : xM → Option xM} (hq86 : ∀ (M : xM) (out : xM), q86 M = some out → XR false 2 174 sc y_M_hour (86, [(0, (vR 10 l0)), (1, (vI l1))], [], R, M, 174) (none, R, out)) : ∀ (n : Nat) (v2 : Int) (M : xM) (out : xM), M_hour_F23 R l0 l1 q86 n v2 M = some out → XR false 2 174 sc y_M_hour (23, [(0, (vR 10 l0)), (1, (vI l1)), (2, (vI v2))], [], R, M, 174) (none, R, out) := by
  intro n
  induction n with
  | zero => intro v2 M out h; exact (xno h).elim
  | succ n ih =>
    intro v2 M out h
    rw [M_hour_F23] at h
    refine s_M_hour [(23, .iload_n 2, 0, 0), (24, .iconst 4, 0, 4)] (by decide +kernel) (z' := (25, [(0, (vR 10 l0)), (1, (vI l1)), (2, (vI v2))], [(vI 4), (vI v2)], R, M, 174)) (cs := []) (by rfl) trivial (Nat.le_refl _) ?_
    rcases xif_ex h with ⟨c_6, h⟩ | ⟨c_6, h⟩
    · skip
      obtain ⟨c_7, h⟩ := xch_ex h
      obtain ⟨M_8, hM_8, h⟩ := xl_ex h
      refine s_M_hour [(25, .if_icmp .ge 61, 0, (-1)), (28, .aload_n 0, 0, 0), (29, .getfield 181, 10, 80), (32, .iconst 4, 0, 4), (33, .iload_n 1, 0, 0), (34, .imul, 0, 0), (35, .iload_n 2, 0, 0), (36, .iadd, 0, 0), (37, .iconst 0, 0, 0), (38, .iastore, 0, 0), (39, .iconst 0, 0, 0), (40, .istore_n 3, 0, 0)] (by decide +kernel) (z' := (41, [(3, (vI 0)), (0, (vR 10 l0)), (1, (vI l1)), (2, (vI v2))], [], R, M_8, 174)) (cs := [¬ (4 ≤ v2), xar 26 0, xidx (w32 ((w32 (4 * l1)) + v2)) (xan 26)]) (by subst hM_8; rfl) ⟨Int.not_le.mpr c_6, xar_26, xix_26 c_7, trivial⟩ (Nat.le_refl _) ?_
      refine XR.pick [1, 2, 3, 0] (ls' := [(0, (vR 10 l0)), (1, (vI l1)), (2, (vI v2)), (3, (vI 0))]) rfl ?_
      refine o_M_hour_F41 ?_ xfu v2 0 M_8 _ h
      · intro v2_16 M_17 out h
        obtain ⟨v2_18, hv2_18, h⟩ := xl_ex h
        refine s_M_hour [(80, .iinc 2 1, 0, 0), (83, .goto (-60), 0, 23)] (by decide +kernel) (z' := (23, [(2, (vI v2_18)), (0, (vR 10 l0)), (1, (vI l1))], [], R, M_17, 174)) (cs := []) (by subst hv2_18; rfl) trivial (Nat.le_refl _) ?_
        refine XR.pick [1, 2, 0] (ls' := [(0, (vR 10 l0)), (1, (vI l1)), (2, (vI v2_18))]) rfl ?_
        exact ih v2_18 M_17 _ h
    · skip
      refine s_M_hour [(25, .if_icmp .ge 61, 0, 86)] (by decide +kernel) (z' := (86, [(0, (vR 10 l0)), (1, (vI l1)), (2, (vI v2))], [], R, M, 174)) (cs := [4 ≤ v2]) (by rfl) ⟨Int.not_lt.mp c_6, trivial⟩ (Nat.le_refl _) ?_
      refine XR.pick [0, 1] (ls' := [(0, (vR 10 l0)), (1, (vI l1))]) rfl ?_
      exact hq86 M _ h
set_option maxRecDepth 100000 in
set_option maxHeartbeats 4000000 in
theorem o_M_hour_F98 {sc : List Int} {R : xR}   {l0 : Nat} {l1 : Int}  {q120 : Int → xM → Option xM} (hq120 : ∀ (w2 : Int) (M : xM) (out : xM), q120 w2 M = some out → XR false 2 174 sc y_M_hour (120, [(0, (vR 10 l0)), (1, (vI l1)), (2, (vI w2))], [], R, M, 174) (none, R, out)) : ∀ (n : Nat) (v2 : Int) (v3 : Int) (M : xM) (out : xM), M_hour_F98 R l0 l1 q120 n v2 v3 M = some out → XR false 2 174 sc y_M_hour (98, [(0, (vR 10 l0)), (1, (vI l1)), (2, (vI v2)), (3, (vI v3))], [], R, M, 174) (none, R, out) := by
  intro n
  induction n with
  | zero => intro v2 v3 M out h; exact (xno h).elim
  | succ n ih =>
    intro v2 v3 M out h
    rw [M_hour_F98] at h
    refine s_M_hour [(98, .iload_n 3, 0, 0), (99, .iconst 4, 0, 4)] (by decide +kernel) (z' := (100, [(0, (vR 10 l0)), (1, (vI l1)), (2, (vI v2)), (3, (vI v3))], [(vI 4), (vI v3)], R, M, 174)) (cs := []) (by rfl) trivial (Nat.le_refl _) ?_
    rcases xif_ex h with ⟨c_21, h⟩ | ⟨c_21, h⟩
    · skip
      obtain ⟨c_22, h⟩ := xch_ex h
      obtain ⟨M_23, hM_23, h⟩ := xl_ex h
      obtain ⟨v3_24, hv3_24, h⟩ := xl_ex h
      refine s_M_hour [(100, .if_icmp .ge 20, 0, (-1)), (103, .aload_n 0, 0, 0), (104, .getfield 190, 10, 83), (107, .iconst 4, 0, 4), (108, .iload_n 2, 0, 0), (109, .imul, 0, 0), (110, .iload_n 3, 0, 0), (111, .iadd, 0, 0), (112, .iconst 0, 0, 0), (113, .iastore, 0, 0), (114, .iinc 3 1, 0, 0), (117, .goto (-19), 0, 98)] (by decide +kernel) (z' := (98, [(3, (vI v3_24)), (0, (vR 10 l0)), (1, (vI l1)), (2, (vI v2))], [], R, M_23, 174)) (cs := [¬ (4 ≤ v3), xar 27 0, xidx (w32 ((w32 (4 * v2)) + v3)) (xan 27)]) (by subst hM_23; subst hv3_24; rfl) ⟨Int.not_le.mpr c_21, xar_27, xix_27 c_22, trivial⟩ (Nat.le_refl _) ?_
      refine XR.pick [1, 2, 3, 0] (ls' := [(0, (vR 10 l0)), (1, (vI l1)), (2, (vI v2)), (3, (vI v3_24))]) rfl ?_
      exact ih v2 v3_24 M_23 _ h
    · skip
      refine s_M_hour [(100, .if_icmp .ge 20, 0, 120)] (by decide +kernel) (z' := (120, [(0, (vR 10 l0)), (1, (vI l1)), (2, (vI v2)), (3, (vI v3))], [], R, M, 174)) (cs := [4 ≤ v3]) (by rfl) ⟨Int.not_lt.mp c_21, trivial⟩ (Nat.le_refl _) ?_
      refine XR.pick [0, 1, 2] (ls' := [(0, (vR 10 l0)), (1, (vI l1)), (2, (vI v2))]) rfl ?_
      exact hq120 v2 M _ h
set_option maxRecDepth 100000 in
set_option maxHeartbeats 4000000 in
theorem o_M_hour_J253 {sc : List Int} {R : xR}   {l0 : Nat} {l1 : Int}  {rc : Int → Int → Int → xM → Option xM} {q290 : Int → xM → Option xM} (hrc : ∀ (w2 : Int) (w3 : Int) (w4 : Int) (M : xM) (out : xM), rc w2 w3 w4 M = some out → XR false 2 174 sc y_M_hour (143, [(0, (vR 10 l0)), (1, (vI l1)), (2, (vI w2)), (3, (vI w3)), (4, (vI w4))], [], R, M, 174) (none, R, out)) (hq290 : ∀ (w2 : Int) (M : xM) (out : xM), q290 w2 M = some out → XR false 2 174 sc y_M_hour (290, [(0, (vR 10 l0)), (1, (vI l1)), (2, (vI w2))], [], R, M, 174) (none, R, out)) {v2 : Int} {v3 : Int} {v4 : Int} {v5 : Int} {M : xM} {out : xM} (h : M_hour_J253 R l0 l1 rc q290 v2 v3 v4 v5 M = some out) : XR false 2 174 sc y_M_hour (253, [(0, (vR 10 l0)), (1, (vI l1)), (2, (vI v2)), (3, (vI v3)), (4, (vI v4)), (5, (vI v5))], [], R, M, 174) (none, R, out) := by
  unfold M_hour_J253 at h
  obtain ⟨c_44, h⟩ := xch_ex h
  refine s_M_hour [(253, .aload_n 0, 0, 0), (254, .iload_n 2, 0, 0), (255, .iload 4, 0, 0), (257, .iload_n 1, 0, 0), (258, .aload_n 0, 0, 0), (259, .getfield 184, 10, 81), (262, .iload 5, 0, 0), (264, .iaload, 0, 0), (265, .aload_n 0, 0, 0), (266, .getfield 187, 10, 82), (269, .iload 5, 0, 0), (271, .iaload, 0, 0), (272, .isub, 0, 0), (273, .aload_n 0, 0, 0), (274, .getfield 190, 10, 83), (277, .iload 5, 0, 0), (279, .iaload, 0, 0), (280, .iadd, 0, 0)] (by decide +kernel) (z' := (281, [(0, (vR 10 l0)), (1, (vI l1)), (2, (vI v2)), (3, (vI v3)), (4, (vI v4)), (5, (vI v5))], [(vI (w32 ((w32 ((M (R l0 81) (Int.toNat v5)) - (M (R l0 82) (Int.toNat v5)))) + (M (R l0 83) (Int.toNat v5))))), (vI l1), (vI v4), (vI v2), (vR 10 l0)], R, M, 174)) (cs := [xar 27 0, xidx v5 (xan 27), xar 27 0, xidx v5 (xan 27), xar 27 0, xidx v5 (xan 27)]) (by rfl) ⟨xar_27, xix_27 c_44, xar_27, xix_27 c_44, xar_27, xix_27 c_44, trivial⟩ (Nat.le_refl _) ?_
  obtain ⟨M_45, e_46, h⟩ := xb1_ex h
  refine XR.callV 10 rfl (rest := []) m_M_sends k_10_491 10 l0 (Or.inl ⟨by decide, rfl⟩) [(vI v2), (vI v4), (vI l1), (vI (w32 ((w32 ((M (R l0 81) (Int.toNat v5)) - (M (R l0 82) (Int.toNat v5)))) + (M (R l0 83) (Int.toNat v5)))))] rfl rfl (c_M_sends e_46) (by decide) (Nat.le_of_ble_eq_true rfl) (by decide +kernel) (Nat.le_refl _) (Nat.le_refl _) ?_
  show XR false 2 174 sc y_M_hour (284, [(0, (vR 10 l0)), (1, (vI l1)), (2, (vI v2)), (3, (vI v3)), (4, (vI v4)), (5, (vI v5))], [], R, M_45, 174) _
  obtain ⟨v4_47, hv4_47, h⟩ := xl_ex h
  refine s_M_hour [(284, .iinc 4 1, 0, 0), (287, .goto (-144), 0, 143)] (by decide +kernel) (z' := (143, [(4, (vI v4_47)), (0, (vR 10 l0)), (1, (vI l1)), (2, (vI v2)), (3, (vI v3)), (5, (vI v5))], [], R, M_45, 174)) (cs := []) (by subst hv4_47; rfl) trivial (Nat.le_refl _) ?_
  refine XR.pick [1, 2, 3, 4, 0] (ls' := [(0, (vR 10 l0)), (1, (vI l1)), (2, (vI v2)), (3, (vI v3)), (4, (vI v4_47))]) rfl ?_
  exact hrc v2 v3 v4_47 M_45 _ h
set_option maxRecDepth 100000 in
set_option maxHeartbeats 4000000 in
theorem o_M_hour_F143 {sc : List Int} {R : xR}   {l0 : Nat} {l1 : Int}  {q290 : Int → xM → Option xM} (hq290 : ∀ (w2 : Int) (M : xM) (out : xM), q290 w2 M = some out → XR false 2 174 sc y_M_hour (290, [(0, (vR 10 l0)), (1, (vI l1)), (2, (vI w2))], [], R, M, 174) (none, R, out)) : ∀ (n : Nat) (v2 : Int) (v3 : Int) (v4 : Int) (M : xM) (out : xM), M_hour_F143 R l0 l1 q290 n v2 v3 v4 M = some out → XR false 2 174 sc y_M_hour (143, [(0, (vR 10 l0)), (1, (vI l1)), (2, (vI v2)), (3, (vI v3)), (4, (vI v4))], [], R, M, 174) (none, R, out) := by
  intro n
  induction n with
  | zero => intro v2 v3 v4 M out h; exact (xno h).elim
  | succ n ih =>
    intro v2 v3 v4 M out h
    rw [M_hour_F143] at h
    refine s_M_hour [(143, .iload 4, 0, 0), (145, .iconst 4, 0, 4)] (by decide +kernel) (z' := (146, [(0, (vR 10 l0)), (1, (vI l1)), (2, (vI v2)), (3, (vI v3)), (4, (vI v4))], [(vI 4), (vI v4)], R, M, 174)) (cs := []) (by rfl) trivial (Nat.le_refl _) ?_
    rcases xif_ex h with ⟨c_32, h⟩ | ⟨c_32, h⟩
    · skip
      obtain ⟨v5_33, hv5_33, h⟩ := xl_ex h
      obtain ⟨c_34, h⟩ := xch_ex h
      refine s_M_hour [(146, .if_icmp .ge 144, 0, (-1)), (149, .iconst 4, 0, 4), (150, .iload_n 2, 0, 0), (151, .imul, 0, 0), (152, .iload 4, 0, 0), (154, .iadd, 0, 0), (155, .istore 5, 0, 0), (157, .aload_n 0, 0, 0), (158, .getfield 184, 10, 81), (161, .iload 5, 0, 0), (163, .iaload, 0, 0), (164, .aload_n 0, 0, 0), (165, .iload_n 2, 0, 0), (166, .iload 4, 0, 0), (168, .iload_n 1, 0, 0), (169, .iload_n 3, 0, 0)] (by decide +kernel) (z' := (170, [(5, (vI v5_33)), (0, (vR 10 l0)), (1, (vI l1)), (2, (vI v2)), (3, (vI v3)), (4, (vI v4))], [(vI v3), (vI l1), (vI v4), (vI v2), (vR 10 l0), (vI (M (R l0 81) (Int.toNat v5_33)))], R, M, 174)) (cs := [¬ (4 ≤ v4), xar 27 0, xidx v5_33 (xan 27)]) (by subst hv5_33; rfl) ⟨Int.not_le.mpr c_32, xar_27, xix_27 c_34, trivial⟩ (Nat.le_refl _) ?_
      obtain ⟨r_35, e_36, h⟩ := xb1_ex h
      refine XR.callV 10 rfl (rest := [(vI (M (R l0 81) (Int.toNat v5_33)))]) m_M_holdsNow k_10_487 10 l0 (Or.inl ⟨by decide, rfl⟩) [(vI v2), (vI v4), (vI l1), (vI v3)] rfl rfl (c_M_holdsNow e_36) (by decide) (Nat.le_of_ble_eq_true rfl) (by decide +kernel) (Nat.le_refl _) (Nat.le_refl _) ?_
      show XR false 2 174 sc y_M_hour (173, [(5, (vI v5_33)), (0, (vR 10 l0)), (1, (vI l1)), (2, (vI v2)), (3, (vI v3)), (4, (vI v4))], [(vI r_35), (vI (M (R l0 81) (Int.toNat v5_33)))], R, M, 174) _
      obtain ⟨v6_37, hv6_37, h⟩ := xl_ex h
      obtain ⟨M_38, hM_38, h⟩ := xl_ex h
      obtain ⟨M_39, hM_39, h⟩ := xl_ex h
      refine s_M_hour [(173, .imul, 0, 0), (174, .aload_n 0, 0, 0), (175, .getfield 199, 10, 86), (178, .iload 5, 0, 0), (180, .iaload, 0, 0), (181, .iadd, 0, 0), (182, .istore 6, 0, 0), (184, .aload_n 0, 0, 0), (185, .getfield 187, 10, 82), (188, .iload 5, 0, 0), (190, .iload 6, 0, 0), (192, .bipush 100, 0, 100), (194, .idiv, 0, 0), (195, .iastore, 0, 0), (196, .aload_n 0, 0, 0), (197, .getfield 199, 10, 86), (200, .iload 5, 0, 0), (202, .iload 6, 0, 0), (204, .bipush 100, 0, 100), (206, .irem, 0, 0), (207, .iastore, 0, 0), (208, .aload_n 0, 0, 0), (209, .iload_n 2, 0, 0)] (by decide +kernel) (z' := (210, [(6, (vI v6_37)), (5, (vI v5_33)), (0, (vR 10 l0)), (1, (vI l1)), (2, (vI v2)), (3, (vI v3)), (4, (vI v4))], [(vI v2), (vR 10 l0)], R, M_39, 174)) (cs := [xar 27 0, xidx v5_33 (xan 27), (100 : Int) ≠ 0, xar 27 0, xidx v5_33 (xan 27), (100 : Int) ≠ 0, xar 27 0, xidx v5_33 (xan 27)]) (by subst hv6_37; subst hM_38; subst hM_39; rfl) ⟨xar_27, xix_27 c_34, by decide, xar_27, xix_27 c_34, by decide, xar_27, xix_27 c_34, trivial⟩ (Nat.le_refl _) ?_
      obtain ⟨r_40, e_41, h⟩ := xb1_ex h
      refine XR.callV 10 rfl (rest := []) m_M_hasLayer k_10_448 10 l0 (Or.inl ⟨by decide, rfl⟩) [(vI v2)] rfl rfl (c_M_hasLayer e_41) (by decide) (Nat.le_of_ble_eq_true rfl) (by decide +kernel) (Nat.le_refl _) (Nat.le_refl _) ?_
      show XR false 2 174 sc y_M_hour (213, [(6, (vI v6_37)), (5, (vI v5_33)), (0, (vR 10 l0)), (1, (vI l1)), (2, (vI v2)), (3, (vI v3)), (4, (vI v4))], [(vI r_40)], R, M_39, 174) _
      rcases xif_ex h with ⟨c_42, h⟩ | ⟨c_42, h⟩
      · skip
        obtain ⟨M_43, hM_43, h⟩ := xl_ex h
        refine s_M_hour [(213, .ifCond .eq 23, 0, 236), (236, .aload_n 0, 0, 0), (237, .getfield 196, 10, 85), (240, .iload 5, 0, 0), (242, .dup2, 0, 0), (243, .iaload, 0, 0), (244, .aload_n 0, 0, 0), (245, .getfield 187, 10, 82), (248, .iload 5, 0, 0), (250, .iaload, 0, 0), (251, .iadd, 0, 0), (252, .iastore, 0, 0)] (by decide +kernel) (z' := (253, [(6, (vI v6_37)), (5, (vI v5_33)), (0, (vR 10 l0)), (1, (vI l1)), (2, (vI v2)), (3, (vI v3)), (4, (vI v4))], [], R, M_43, 174)) (cs := [r_40 = 0, xar 27 0, xidx v5_33 (xan 27), xar 27 0, xidx v5_33 (xan 27), xar 27 0, xidx v5_33 (xan 27)]) (by subst hM_43; rfl) ⟨c_42, xar_27, xix_27 c_34, xar_27, xix_27 c_34, xar_27, xix_27 c_34, trivial⟩ (Nat.le_refl _) ?_
        refine XR.pick [2, 3, 4, 5, 6, 1] (ls' := [(0, (vR 10 l0)), (1, (vI l1)), (2, (vI v2)), (3, (vI v3)), (4, (vI v4)), (5, (vI v5_33))]) rfl ?_
        exact o_M_hour_J253 ih hq290 h
      · skip
        obtain ⟨M_48, hM_48, h⟩ := xl_ex h
        refine s_M_hour [(213, .ifCond .eq 23, 0, (-1)), (216, .aload_n 0, 0, 0), (217, .getfield 193, 10, 84), (220, .iload 5, 0, 0), (222, .dup2, 0, 0), (223, .iaload, 0, 0), (224, .aload_n 0, 0, 0), (225, .getfield 187, 10, 82), (228, .iload 5, 0, 0), (230, .iaload, 0, 0), (231, .iadd, 0, 0), (232, .iastore, 0, 0), (233, .goto 20, 0, 253)] (by decide +kernel) (z' := (253, [(6, (vI v6_37)), (5, (vI v5_33)), (0, (vR 10 l0)), (1, (vI l1)), (2, (vI v2)), (3, (vI v3)), (4, (vI v4))], [], R, M_48, 174)) (cs := [¬ (r_40 = 0), xar 27 0, xidx v5_33 (xan 27), xar 27 0, xidx v5_33 (xan 27), xar 27 0, xidx v5_33 (xan 27)]) (by subst hM_48; rfl) ⟨c_42, xar_27, xix_27 c_34, xar_27, xix_27 c_34, xar_27, xix_27 c_34, trivial⟩ (Nat.le_refl _) ?_
        refine XR.pick [2, 3, 4, 5, 6, 1] (ls' := [(0, (vR 10 l0)), (1, (vI l1)), (2, (vI v2)), (3, (vI v3)), (4, (vI v4)), (5, (vI v5_33))]) rfl ?_
        exact o_M_hour_J253 ih hq290 h
    · skip
      refine s_M_hour [(146, .if_icmp .ge 144, 0, 290)] (by decide +kernel) (z' := (290, [(0, (vR 10 l0)), (1, (vI l1)), (2, (vI v2)), (3, (vI v3)), (4, (vI v4))], [], R, M, 174)) (cs := [4 ≤ v4]) (by rfl) ⟨Int.not_lt.mp c_32, trivial⟩ (Nat.le_refl _) ?_
      refine XR.pick [0, 1, 2] (ls' := [(0, (vR 10 l0)), (1, (vI l1)), (2, (vI v2))]) rfl ?_
      exact hq290 v2 M _ h
set_option maxRecDepth 100000 in
set_option maxHeartbeats 4000000 in
theorem o_M_hour_J134 {sc : List Int} {R : xR}   {l0 : Nat} {l1 : Int}  {rc : Int → xM → Option xM} (hrc : ∀ (w2 : Int) (M : xM) (out : xM), rc w2 M = some out → XR false 2 174 sc y_M_hour (88, [(0, (vR 10 l0)), (1, (vI l1)), (2, (vI w2))], [], R, M, 174) (none, R, out)) {v2 : Int} {M : xM} {out : xM} (h : M_hour_J134 R l0 l1 rc v2 M = some out) : XR false 2 174 sc y_M_hour (134, [(0, (vR 10 l0)), (1, (vI l1)), (2, (vI v2))], [], R, M, 174) (none, R, out) := by
  unfold M_hour_J134 at h
  refine s_M_hour [(134, .aload_n 0, 0, 0), (135, .iload_n 2, 0, 0)] (by decide +kernel) (z' := (136, [(0, (vR 10 l0)), (1, (vI l1)), (2, (vI v2))], [(vI v2), (vR 10 l0)], R, M, 174)) (cs := []) (by rfl) trivial (Nat.le_refl _) ?_
  obtain ⟨r_30, e_31, h⟩ := xb1_ex h
  refine XR.callV 10 rfl (rest := []) m_M_layerOf k_10_484 10 l0 (Or.inl ⟨by decide, rfl⟩) [(vI v2)] rfl rfl (c_M_layerOf e_31) (by decide) (Nat.le_of_ble_eq_true rfl) (by decide +kernel) (Nat.le_refl _) (Nat.le_refl _) ?_
  show XR false 2 174 sc y_M_hour (139, [(0, (vR 10 l0)), (1, (vI l1)), (2, (vI v2))], [(vI r_30)], R, M, 174) _
  refine s_M_hour [(139, .istore_n 3, 0, 0), (140, .iconst 0, 0, 0), (141, .istore 4, 0, 0)] (by decide +kernel) (z' := (143, [(4, (vI 0)), (3, (vI r_30)), (0, (vR 10 l0)), (1, (vI l1)), (2, (vI v2))], [], R, M, 174)) (cs := []) (by rfl) trivial (Nat.le_refl _) ?_
  refine XR.pick [2, 3, 4, 1, 0] (ls' := [(0, (vR 10 l0)), (1, (vI l1)), (2, (vI v2)), (3, (vI r_30)), (4, (vI 0))]) rfl ?_
  refine o_M_hour_F143 ?_ xfu v2 r_30 0 M _ h
  · intro v2_49 M_50 out h
    obtain ⟨v2_51, hv2_51, h⟩ := xl_ex h
    refine s_M_hour [(290, .iinc 2 1, 0, 0), (293, .goto (-205), 0, 88)] (by decide +kernel) (z' := (88, [(2, (vI v2_51)), (0, (vR 10 l0)), (1, (vI l1))], [], R, M_50, 174)) (cs := []) (by subst hv2_51; rfl) trivial (Nat.le_refl _) ?_
    refine XR.pick [1, 2, 0] (ls' := [(0, (vR 10 l0)), (1, (vI l1)), (2, (vI v2_51))]) rfl ?_
    exact hrc v2_51 M_50 _ h
set_option maxRecDepth 100000 in
set_option maxHeartbeats 4000000 in
theorem o_M_hour_F88 {sc : List Int} {R : xR}   {l0 : Nat} {l1 : Int}  : ∀ (n : Nat) (v2 : Int) (M : xM) (out : xM), M_hour_F88 R l0 l1  n v2 M = some out → XR false 2 174 sc y_M_hour (88, [(0, (vR 10 l0)), (1, (vI l1)), (2, (vI v2))], [], R, M, 174) (none, R, out) := by
  intro n
  induction n with
  | zero => intro v2 M out h; exact (xno h).elim
  | succ n ih =>
    intro v2 M out h
    rw [M_hour_F88] at h
    refine s_M_hour [(88, .iload_n 2, 0, 0), (89, .aload_n 0, 0, 0), (90, .getfield 393, 10, 30)] (by decide +kernel) (z' := (93, [(0, (vR 10 l0)), (1, (vI l1)), (2, (vI v2))], [(vI (M l0 30)), (vI v2)], R, M, 174)) (cs := []) (by rfl) trivial (Nat.le_refl _) ?_
    rcases xif_ex h with ⟨c_20, h⟩ | ⟨c_20, h⟩
    · skip
      refine s_M_hour [(93, .if_icmp .ge 203, 0, (-1)), (96, .iconst 0, 0, 0), (97, .istore_n 3, 0, 0)] (by decide +kernel) (z' := (98, [(3, (vI 0)), (0, (vR 10 l0)), (1, (vI l1)), (2, (vI v2))], [], R, M, 174)) (cs := [¬ (M l0 30 ≤ v2)]) (by rfl) ⟨Int.not_le.mpr c_20, trivial⟩ (Nat.le_refl _) ?_
      refine XR.pick [1, 2, 3, 0] (ls' := [(0, (vR 10 l0)), (1, (vI l1)), (2, (vI v2)), (3, (vI 0))]) rfl ?_
      refine o_M_hour_F98 ?_ xfu v2 0 M _ h
      · intro v2_25 M_26 out h
        refine s_M_hour [(120, .aload_n 0, 0, 0), (121, .iload_n 2, 0, 0), (122, .iload_n 1, 0, 0)] (by decide +kernel) (z' := (123, [(0, (vR 10 l0)), (1, (vI l1)), (2, (vI v2_25))], [(vI l1), (vI v2_25), (vR 10 l0)], R, M_26, 174)) (cs := []) (by rfl) trivial (Nat.le_refl _) ?_
        obtain ⟨r_27, e_28, h⟩ := xb1_ex h
        refine XR.callV 10 rfl (rest := []) m_M_isKnocked k_10_478 10 l0 (Or.inl ⟨by decide, rfl⟩) [(vI v2_25), (vI l1)] rfl rfl (c_M_isKnocked e_28) (by decide) (Nat.le_of_ble_eq_true rfl) (by decide +kernel) (Nat.le_refl _) (Nat.le_refl _) ?_
        show XR false 2 174 sc y_M_hour (126, [(0, (vR 10 l0)), (1, (vI l1)), (2, (vI v2_25))], [(vI r_27)], R, M_26, 174) _
        rcases xif_ex h with ⟨c_29, h⟩ | ⟨c_29, h⟩
        · skip
          refine s_M_hour [(126, .ifCond .eq 8, 0, 134)] (by decide +kernel) (z' := (134, [(0, (vR 10 l0)), (1, (vI l1)), (2, (vI v2_25))], [], R, M_26, 174)) (cs := [r_27 = 0]) (by rfl) ⟨c_29, trivial⟩ (Nat.le_refl _) ?_
          exact o_M_hour_J134 ih h
        · skip
          refine s_M_hour [(126, .ifCond .eq 8, 0, (-1)), (129, .aload_n 0, 0, 0), (130, .iload_n 2, 0, 0)] (by decide +kernel) (z' := (131, [(0, (vR 10 l0)), (1, (vI l1)), (2, (vI v2_25))], [(vI v2_25), (vR 10 l0)], R, M_26, 174)) (cs := [¬ (r_27 = 0)]) (by rfl) ⟨c_29, trivial⟩ (Nat.le_refl _) ?_
          obtain ⟨M_52, e_53, h⟩ := xb1_ex h
          refine XR.callV 10 rfl (rest := []) m_M_knocked k_10_481 10 l0 (Or.inl ⟨by decide, rfl⟩) [(vI v2_25)] rfl rfl (c_M_knocked e_53) (by decide) (Nat.le_of_ble_eq_true rfl) (by decide +kernel) (Nat.le_refl _) (Nat.le_refl _) ?_
          show XR false 2 174 sc y_M_hour (134, [(0, (vR 10 l0)), (1, (vI l1)), (2, (vI v2_25))], [], R, M_52, 174) _
          exact o_M_hour_J134 ih h
    · skip
      refine s_M_hour [(93, .if_icmp .ge 203, 0, 296)] (by decide +kernel) (z' := (296, [(0, (vR 10 l0)), (1, (vI l1)), (2, (vI v2))], [], R, M, 174)) (cs := [M l0 30 ≤ v2]) (by rfl) ⟨Int.not_lt.mp c_20, trivial⟩ (Nat.le_refl _) ?_
      obtain rfl := Option.some.inj h
      exact XR.retV rfl (by decide +kernel)
set_option maxRecDepth 100000 in
set_option maxHeartbeats 4000000 in
theorem o_M_hour {sc : List Int} {R : xR} {M : xM} {l0 : Nat} {l1 : Int} {out : xM} (h : f_M_hour R l0 l1 M = some out) : XR false 2 174 sc y_M_hour (0, [(0, (vR 10 l0)), (1, (vI l1))], [], R, M, 174) (none, R, out) := by
  unfold f_M_hour at h
  refine s_M_hour [(0, .iconst 0, 0, 0), (1, .istore_n 2, 0, 0)] (by decide +kernel) (z' := (2, [(2, (vI 0)), (0, (vR 10 l0)), (1, (vI l1))], [], R, M, 174)) (cs := []) (by rfl) trivial (Nat.le_refl _) ?_
  refine XR.pick [1, 2, 0] (ls' := [(0, (vR 10 l0)), (1, (vI l1)), (2, (vI 0))]) rfl ?_
  refine o_M_hour_F2 ?_ xfu 0 M _ h
  · intro M_5 out h
    refine s_M_hour [(21, .iconst 0, 0, 0), (22, .istore_n 2, 0, 0)] (by decide +kernel) (z' := (23, [(2, (vI 0)), (0, (vR 10 l0)), (1, (vI l1))], [], R, M_5, 174)) (cs := []) (by rfl) trivial (Nat.le_refl _) ?_
    refine XR.pick [1, 2, 0] (ls' := [(0, (vR 10 l0)), (1, (vI l1)), (2, (vI 0))]) rfl ?_
    refine o_M_hour_F23 ?_ xfu 0 M_5 _ h
    · intro M_19 out h
      refine s_M_hour [(86, .iconst 0, 0, 0), (87, .istore_n 2, 0, 0)] (by decide +kernel) (z' := (88, [(2, (vI 0)), (0, (vR 10 l0)), (1, (vI l1))], [], R, M_19, 174)) (cs := []) (by rfl) trivial (Nat.le_refl _) ?_
      refine XR.pick [1, 2, 0] (ls' := [(0, (vR 10 l0)), (1, (vI l1)), (2, (vI 0))]) rfl ?_
      refine o_M_hour_F88  xfu 0 M_19 _ h
set_option maxRecDepth 100000 in
set_option maxHeartbeats 4000000 in
theorem c_M_hour {sc : List Int} {R : xR} {M : xM} {l0 : Nat} {l1 : Int} {out : xM} (h : f_M_hour R l0 l1 M = some out) : XC false 2 sc y_M_hour [(vR 10 l0), (vI l1)] R M 174 174 (none, R, out) := XC.of (by decide) (Nat.le_of_ble_eq_true rfl) (Nat.le_refl _) (Nat.le_refl _) (o_M_hour h)
def M_steps_F2 (R : xR) (l0 : Nat) (l1 : Int) (q35 : xM → Option xM) : Nat → Int → xM → Option xM
  | 0, _, _ => none
  | n + 1, v2, M =>
    if v2 < 32 then
      xch (0 ≤ v2 ∧ v2 < 32) <|
      xl (xu M (R l0 84) (Int.toNat v2) 0) fun M_3 =>
      xl (xu M_3 (R l0 85) (Int.toNat v2) 0) fun M_4 =>
      xl (xu M_4 (R l0 86) (Int.toNat v2) 0) fun M_5 =>
      xl (w32 (v2 + 1)) fun v2_6 =>
      M_steps_F2 R l0 l1 q35 n v2_6 M_5
    else
      q35 M
def M_steps_F37 (R : xR) (l0 : Nat) (l1 : Int) : Nat → Int → xM → Option xM
  | 0, _, _ => none
  | n + 1, v2, M =>
    if l1 < v2 then
      some (M)
    else
      xb1 (f_M_hour R l0 v2 M) fun M_9 =>
      xl (w32 (v2 + 1)) fun v2_11 =>
      M_steps_F37 R l0 l1  n v2_11 M_9
def f_M_steps (R : xR) (l0 : Nat) (l1 : Int) (M : xM) : Option xM :=
  M_steps_F2 R l0 l1
    (fun (M_7 : xM) =>
      M_steps_F37 R l0 l1
        xfu 0 M_7)
    xfu 0 M
set_option maxRecDepth 100000 in
set_option maxHeartbeats 4000000 in
theorem s_M_steps {d : Nat} {sc : List Int} {z z' : xS} {out : xO} (qs : List xI) {cs : List Prop} (hq : qs.all (xqb 10 false y_M_steps.2.2.1 y_M_steps.2.1) = true) (h : xN false sc qs z = some (z', cs)) (hc : xAll cs) (hE : z'.2.2.2.2.2 ≤ 174) (k : XR false d 174 sc y_M_steps z' out) : XR false d 174 sc y_M_steps z out := XR.seg 10 false rfl (fun q => by cases q) qs hq h hc hE k
set_option maxRecDepth 100000 in
set_option maxHeartbeats 4000000 in
theorem o_M_steps_F2 {sc : List Int} {R : xR}   {l0 : Nat} {l1 : Int}  {q35 : xM → Option xM} (hq35 : ∀ (M : xM) (out : xM), q35 M = some out → XR false 3 174 sc y_M_steps (35, [(0, (vR 10 l0)), (1, (vI l1))], [], R, M, 174) (none, R, out)) : ∀ (n : Nat) (v2 : Int) (M : xM) (out : xM), M_steps_F2 R l0 l1 q35 n v2 M = some out → XR false 3 174 sc y_M_steps (2, [(0, (vR 10 l0)), (1, (vI l1)), (2, (vI v2))], [], R, M, 174) (none, R, out) := by
  intro n
  induction n with
  | zero => intro v2 M out h; exact (xno h).elim
  | succ n ih =>
    intro v2 M out h
    rw [M_steps_F2] at h
    refine s_M_steps [(2, .iload_n 2, 0, 0), (3, .bipush 32, 0, 32)] (by decide +kernel) (z' := (5, [(0, (vR 10 l0)), (1, (vI l1)), (2, (vI v2))], [(vI 32), (vI v2)], R, M, 174)) (cs := []) (by rfl) trivial (Nat.le_refl _) ?_
    rcases xif_ex h with ⟨c_1, h⟩ | ⟨c_1, h⟩
    · skip
      obtain ⟨c_2, h⟩ := xch_ex h
      obtain ⟨M_3, hM_3, h⟩ := xl_ex h
      obtain ⟨M_4, hM_4, h⟩ := xl_ex h
      obtain ⟨M_5, hM_5, h⟩ := xl_ex h
      obtain ⟨v2_6, hv2_6, h⟩ := xl_ex h
      refine s_M_steps [(5, .if_icmp .ge 30, 0, (-1)), (8, .aload_n 0, 0, 0), (9, .getfield 193, 10, 84), (12, .iload_n 2, 0, 0), (13, .iconst 0, 0, 0), (14, .iastore, 0, 0), (15, .aload_n 0, 0, 0), (16, .getfield 196, 10, 85), (19, .iload_n 2, 0, 0), (20, .iconst 0, 0, 0), (21, .iastore, 0, 0), (22, .aload_n 0, 0, 0), (23, .getfield 199, 10, 86), (26, .iload_n 2, 0, 0), (27, .iconst 0, 0, 0), (28, .iastore, 0, 0), (29, .iinc 2 1, 0, 0), (32, .goto (-30), 0, 2)] (by decide +kernel) (z' := (2, [(2, (vI v2_6)), (0, (vR 10 l0)), (1, (vI l1))], [], R, M_5, 174)) (cs := [¬ (32 ≤ v2), xar 27 0, xidx v2 (xan 27), xar 27 0, xidx v2 (xan 27), xar 27 0, xidx v2 (xan 27)]) (by subst hM_3; subst hM_4; subst hM_5; subst hv2_6; rfl) ⟨Int.not_le.mpr c_1, xar_27, xix_27 c_2, xar_27, xix_27 c_2, xar_27, xix_27 c_2, trivial⟩ (Nat.le_refl _) ?_
      refine XR.pick [1, 2, 0] (ls' := [(0, (vR 10 l0)), (1, (vI l1)), (2, (vI v2_6))]) rfl ?_
      exact ih v2_6 M_5 _ h
    · skip
      refine s_M_steps [(5, .if_icmp .ge 30, 0, 35)] (by decide +kernel) (z' := (35, [(0, (vR 10 l0)), (1, (vI l1)), (2, (vI v2))], [], R, M, 174)) (cs := [32 ≤ v2]) (by rfl) ⟨Int.not_lt.mp c_1, trivial⟩ (Nat.le_refl _) ?_
      refine XR.pick [0, 1] (ls' := [(0, (vR 10 l0)), (1, (vI l1))]) rfl ?_
      exact hq35 M _ h
set_option maxRecDepth 100000 in
set_option maxHeartbeats 4000000 in
theorem o_M_steps_F37 {sc : List Int} {R : xR}   {l0 : Nat} {l1 : Int}  : ∀ (n : Nat) (v2 : Int) (M : xM) (out : xM), M_steps_F37 R l0 l1  n v2 M = some out → XR false 3 174 sc y_M_steps (37, [(0, (vR 10 l0)), (1, (vI l1)), (2, (vI v2))], [], R, M, 174) (none, R, out) := by
  intro n
  induction n with
  | zero => intro v2 M out h; exact (xno h).elim
  | succ n ih =>
    intro v2 M out h
    rw [M_steps_F37] at h
    refine s_M_steps [(37, .iload_n 2, 0, 0), (38, .iload_n 1, 0, 0)] (by decide +kernel) (z' := (39, [(0, (vR 10 l0)), (1, (vI l1)), (2, (vI v2))], [(vI l1), (vI v2)], R, M, 174)) (cs := []) (by rfl) trivial (Nat.le_refl _) ?_
    rcases xif_ex h with ⟨c_8, h⟩ | ⟨c_8, h⟩
    · skip
      refine s_M_steps [(39, .if_icmp .gt 14, 0, 53)] (by decide +kernel) (z' := (53, [(0, (vR 10 l0)), (1, (vI l1)), (2, (vI v2))], [], R, M, 174)) (cs := [l1 < v2]) (by rfl) ⟨c_8, trivial⟩ (Nat.le_refl _) ?_
      obtain rfl := Option.some.inj h
      exact XR.retV rfl (by decide +kernel)
    · skip
      refine s_M_steps [(39, .if_icmp .gt 14, 0, (-1)), (42, .aload_n 0, 0, 0), (43, .iload_n 2, 0, 0)] (by decide +kernel) (z' := (44, [(0, (vR 10 l0)), (1, (vI l1)), (2, (vI v2))], [(vI v2), (vR 10 l0)], R, M, 174)) (cs := [¬ (l1 < v2)]) (by rfl) ⟨c_8, trivial⟩ (Nat.le_refl _) ?_
      obtain ⟨M_9, e_10, h⟩ := xb1_ex h
      refine XR.callV 10 rfl (rest := []) m_M_hour k_10_495 10 l0 (Or.inl ⟨by decide, rfl⟩) [(vI v2)] rfl rfl (c_M_hour e_10) (by decide) (Nat.le_of_ble_eq_true rfl) (by decide +kernel) (Nat.le_refl _) (Nat.le_refl _) ?_
      show XR false 3 174 sc y_M_steps (47, [(0, (vR 10 l0)), (1, (vI l1)), (2, (vI v2))], [], R, M_9, 174) _
      obtain ⟨v2_11, hv2_11, h⟩ := xl_ex h
      refine s_M_steps [(47, .iinc 2 1, 0, 0), (50, .goto (-13), 0, 37)] (by decide +kernel) (z' := (37, [(2, (vI v2_11)), (0, (vR 10 l0)), (1, (vI l1))], [], R, M_9, 174)) (cs := []) (by subst hv2_11; rfl) trivial (Nat.le_refl _) ?_
      refine XR.pick [1, 2, 0] (ls' := [(0, (vR 10 l0)), (1, (vI l1)), (2, (vI v2_11))]) rfl ?_
      exact ih v2_11 M_9 _ h
set_option maxRecDepth 100000 in
set_option maxHeartbeats 4000000 in
theorem o_M_steps {sc : List Int} {R : xR} {M : xM} {l0 : Nat} {l1 : Int} {out : xM} (h : f_M_steps R l0 l1 M = some out) : XR false 3 174 sc y_M_steps (0, [(0, (vR 10 l0)), (1, (vI l1))], [], R, M, 174) (none, R, out) := by
  unfold f_M_steps at h
  refine s_M_steps [(0, .iconst 0, 0, 0), (1, .istore_n 2, 0, 0)] (by decide +kernel) (z' := (2, [(2, (vI 0)), (0, (vR 10 l0)), (1, (vI l1))], [], R, M, 174)) (cs := []) (by rfl) trivial (Nat.le_refl _) ?_
  refine XR.pick [1, 2, 0] (ls' := [(0, (vR 10 l0)), (1, (vI l1)), (2, (vI 0))]) rfl ?_
  refine o_M_steps_F2 ?_ xfu 0 M _ h
  · intro M_7 out h
    refine s_M_steps [(35, .iconst 0, 0, 0), (36, .istore_n 2, 0, 0)] (by decide +kernel) (z' := (37, [(2, (vI 0)), (0, (vR 10 l0)), (1, (vI l1))], [], R, M_7, 174)) (cs := []) (by rfl) trivial (Nat.le_refl _) ?_
    refine XR.pick [1, 2, 0] (ls' := [(0, (vR 10 l0)), (1, (vI l1)), (2, (vI 0))]) rfl ?_
    refine o_M_steps_F37  xfu 0 M_7 _ h
set_option maxRecDepth 100000 in
set_option maxHeartbeats 4000000 in
theorem c_M_steps {sc : List Int} {R : xR} {M : xM} {l0 : Nat} {l1 : Int} {out : xM} (h : f_M_steps R l0 l1 M = some out) : XC false 3 sc y_M_steps [(vR 10 l0), (vI l1)] R M 174 174 (none, R, out) := XC.of (by decide) (Nat.le_of_ble_eq_true rfl) (Nat.le_refl _) (Nat.le_refl _) (o_M_steps h)
def M_at_J160 (R : xR) (l0 : Nat) (l1 : Int) (l3 : Int) (l4 : Int) (rc : Int → Int → xM → Option (Int × xM)) (v6 : Int) (s0 : Int) (s1 : Int) (M : xM) : Option (Int × xM) :=
  xl (w32 (s1 + s0)) fun v5_29 =>
  xl (w32 (v6 + 1)) fun v6_30 =>
  rc v5_29 v6_30 M
def M_at_J139 (R : xR) (l0 : Nat) (l1 : Int) (l3 : Int) (l4 : Int) (rc : Int → Int → xM → Option (Int × xM)) (v5 : Int) (v6 : Int) (s0 : Int) (M : xM) : Option (Int × xM) :=
  if l3 = -1 then
    M_at_J160 R l0 l1 l3 l4 rc v6 s0 v5 M
  else
    if l3 = v6 then
      M_at_J160 R l0 l1 l3 l4 rc v6 s0 v5 M
    else
      M_at_J160 R l0 l1 l3 l4 rc v6 0 v5 M
def M_at_F55 (R : xR) (l0 : Nat) (l1 : Int) (l3 : Int) (l4 : Int) : Nat → Int → Int → xM → Option (Int × xM)
  | 0, _, _, _ => none
  | n + 1, v5, v6, M =>
    if v6 < 4 then
      xl (w32 ((w32 (4 * l1)) + v6)) fun v7_25 =>
      if l4 = 0 then
        xch (0 ≤ v7_25 ∧ v7_25 < 32) <|
        M_at_J139 R l0 l1 l3 l4 (M_at_F55 R l0 l1 l3 l4  n) v5 v6 (M (R l0 81) (Int.toNat v7_25)) M
      else
        if l4 = 1 then
          xch (0 ≤ v7_25 ∧ v7_25 < 32) <|
          M_at_J139 R l0 l1 l3 l4 (M_at_F55 R l0 l1 l3 l4  n) v5 v6 (M (R l0 82) (Int.toNat v7_25)) M
        else
          if l4 = 2 then
            xch (0 ≤ v7_25 ∧ v7_25 < 32) <|
            M_at_J139 R l0 l1 l3 l4 (M_at_F55 R l0 l1 l3 l4  n) v5 v6 (M (R l0 83) (Int.toNat v7_25)) M
          else
            if l4 = 3 then
              xch (0 ≤ v7_25 ∧ v7_25 < 32) <|
              M_at_J139 R l0 l1 l3 l4 (M_at_F55 R l0 l1 l3 l4  n) v5 v6 (M (R l0 84) (Int.toNat v7_25)) M
            else
              xch (0 ≤ v7_25 ∧ v7_25 < 32) <|
              M_at_J139 R l0 l1 l3 l4 (M_at_F55 R l0 l1 l3 l4  n) v5 v6 (M (R l0 85) (Int.toNat v7_25)) M
    else
      xb2 (f_M_gives l0 v5 M) fun r_39 M_40 =>
      some (r_39, M_40)
def M_at_J27 (R : xR) (l0 : Nat) (l1 : Int) (l2 : Int) (l3 : Int) (l4 : Int) (M : xM) : Option (Int × xM) :=
  if l4 < 0 then
    xb2 (f_M_refuse l0 1 M) fun r_15 M_16 =>
    some (r_15, M_16)
  else
    if 4 < l4 then
      xb2 (f_M_refuse l0 1 M) fun r_19 M_20 =>
      some (r_19, M_20)
    else
      xb1 (f_M_steps R l0 l2 M) fun M_22 =>
      M_at_F55 R l0 l1 l3 l4
        xfu 0 0 M_22
def f_M_at (R : xR) (l0 : Nat) (l1 : Int) (l2 : Int) (l3 : Int) (l4 : Int) (M : xM) : Option (Int × xM) :=
  xb1 (f_M_isCleaner l0 l1 M) fun r_1 =>
  if r_1 = 0 then
    xb2 (f_M_refuse l0 1 M) fun r_4 M_5 =>
    some (r_4, M_5)
  else
    xb1 (f_M_isHour l2) fun r_7 =>
    if r_7 = 0 then
      xb2 (f_M_refuse l0 1 M) fun r_10 M_11 =>
      some (r_10, M_11)
    else
      if l3 = -1 then
        M_at_J27 R l0 l1 l2 l3 l4 M
      else
        xb1 (f_M_isSize l3) fun r_42 =>
        if r_42 = 0 then
          xb2 (f_M_refuse l0 1 M) fun r_45 M_46 =>
          some (r_45, M_46)
        else
          M_at_J27 R l0 l1 l2 l3 l4 M
set_option maxRecDepth 100000 in
set_option maxHeartbeats 4000000 in
theorem s_M_at {d : Nat} {sc : List Int} {z z' : xS} {out : xO} (qs : List xI) {cs : List Prop} (hq : qs.all (xqb 10 false y_M_at.2.2.1 y_M_at.2.1) = true) (h : xN false sc qs z = some (z', cs)) (hc : xAll cs) (hE : z'.2.2.2.2.2 ≤ 174) (k : XR false d 174 sc y_M_at z' out) : XR false d 174 sc y_M_at z out := XR.seg 10 false rfl (fun q => by cases q) qs hq h hc hE k
set_option maxRecDepth 100000 in
set_option maxHeartbeats 4000000 in
theorem o_M_at_J160 {sc : List Int} {R : xR}   {l0 : Nat} {l1 : Int} {l3 : Int} {l4 : Int}  {rc : Int → Int → xM → Option (Int × xM)} (hrc : ∀ (w5 : Int) (w6 : Int) (M : xM) (out : Int × xM), rc w5 w6 M = some out → XR false 4 174 sc y_M_at (55, [(0, (vR 10 l0)), (1, (vI l1)), (3, (vI l3)), (4, (vI l4)), (5, (vI w5)), (6, (vI w6))], [], R, M, 174) ((some (vI out.1)), R, out.2)) {v6 : Int} {s0 : Int} {s1 : Int} {M : xM} {out : Int × xM} (h : M_at_J160 R l0 l1 l3 l4 rc v6 s0 s1 M = some out) : XR false 4 174 sc y_M_at (160, [(0, (vR 10 l0)), (1, (vI l1)), (3, (vI l3)), (4, (vI l4)), (6, (vI v6))], [(vI s0), (vI s1)], R, M, 174) ((some (vI out.1)), R, out.2) := by
  unfold M_at_J160 at h
  obtain ⟨v5_29, hv5_29, h⟩ := xl_ex h
  obtain ⟨v6_30, hv6_30, h⟩ := xl_ex h
  refine s_M_at [(160, .iadd, 0, 0), (161, .istore 5, 0, 0), (163, .iinc 6 1, 0, 0), (166, .goto (-111), 0, 55)] (by decide +kernel) (z' := (55, [(6, (vI v6_30)), (5, (vI v5_29)), (0, (vR 10 l0)), (1, (vI l1)), (3, (vI l3)), (4, (vI l4))], [], R, M, 174)) (cs := []) (by subst hv5_29; subst hv6_30; rfl) trivial (Nat.le_refl _) ?_
  refine XR.pick [2, 3, 4, 5, 1, 0] (ls' := [(0, (vR 10 l0)), (1, (vI l1)), (3, (vI l3)), (4, (vI l4)), (5, (vI v5_29)), (6, (vI v6_30))]) rfl ?_
  exact hrc v5_29 v6_30 M _ h
set_option maxRecDepth 100000 in
set_option maxHeartbeats 4000000 in
theorem o_M_at_J139 {sc : List Int} {R : xR}   {l0 : Nat} {l1 : Int} {l3 : Int} {l4 : Int}  {rc : Int → Int → xM → Option (Int × xM)} (hrc : ∀ (w5 : Int) (w6 : Int) (M : xM) (out : Int × xM), rc w5 w6 M = some out → XR false 4 174 sc y_M_at (55, [(0, (vR 10 l0)), (1, (vI l1)), (3, (vI l3)), (4, (vI l4)), (5, (vI w5)), (6, (vI w6))], [], R, M, 174) ((some (vI out.1)), R, out.2)) {v5 : Int} {v6 : Int} {s0 : Int} {M : xM} {out : Int × xM} (h : M_at_J139 R l0 l1 l3 l4 rc v5 v6 s0 M = some out) : XR false 4 174 sc y_M_at (139, [(0, (vR 10 l0)), (1, (vI l1)), (3, (vI l3)), (4, (vI l4)), (5, (vI v5)), (6, (vI v6))], [(vI s0)], R, M, 174) ((some (vI out.1)), R, out.2) := by
  unfold M_at_J139 at h
  refine s_M_at [(139, .istore 8, 0, 0), (141, .iload 5, 0, 0), (143, .iload_n 3, 0, 0), (144, .iconst (-1), 0, (-1))] (by decide +kernel) (z' := (145, [(8, (vI s0)), (0, (vR 10 l0)), (1, (vI l1)), (3, (vI l3)), (4, (vI l4)), (5, (vI v5)), (6, (vI v6))], [(vI (-1)), (vI l3), (vI v5)], R, M, 174)) (cs := []) (by rfl) trivial (Nat.le_refl _) ?_
  rcases xif_ex h with ⟨c_28, h⟩ | ⟨c_28, h⟩
  · skip
    refine s_M_at [(145, .if_icmp .eq 9, 0, 154), (154, .iload 8, 0, 0), (156, .goto 4, 0, 160)] (by decide +kernel) (z' := (160, [(8, (vI s0)), (0, (vR 10 l0)), (1, (vI l1)), (3, (vI l3)), (4, (vI l4)), (5, (vI v5)), (6, (vI v6))], [(vI s0), (vI v5)], R, M, 174)) (cs := [l3 = -1]) (by rfl) ⟨c_28, trivial⟩ (Nat.le_refl _) ?_
    refine XR.pick [1, 2, 3, 4, 6] (ls' := [(0, (vR 10 l0)), (1, (vI l1)), (3, (vI l3)), (4, (vI l4)), (6, (vI v6))]) rfl ?_
    exact o_M_at_J160 hrc h
  · skip
    refine s_M_at [(145, .if_icmp .eq 9, 0, (-1)), (148, .iload_n 3, 0, 0), (149, .iload 6, 0, 0)] (by decide +kernel) (z' := (151, [(8, (vI s0)), (0, (vR 10 l0)), (1, (vI l1)), (3, (vI l3)), (4, (vI l4)), (5, (vI v5)), (6, (vI v6))], [(vI v6), (vI l3), (vI v5)], R, M, 174)) (cs := [¬ (l3 = -1)]) (by rfl) ⟨c_28, trivial⟩ (Nat.le_refl _) ?_
    rcases xif_ex h with ⟨c_31, h⟩ | ⟨c_31, h⟩
    · skip
      refine s_M_at [(151, .if_icmp .ne 8, 0, (-1)), (154, .iload 8, 0, 0), (156, .goto 4, 0, 160)] (by decide +kernel) (z' := (160, [(8, (vI s0)), (0, (vR 10 l0)), (1, (vI l1)), (3, (vI l3)), (4, (vI l4)), (5, (vI v5)), (6, (vI v6))], [(vI s0), (vI v5)], R, M, 174)) (cs := [¬ (l3 ≠ v6)]) (by rfl) ⟨fun q => q c_31, trivial⟩ (Nat.le_refl _) ?_
      refine XR.pick [1, 2, 3, 4, 6] (ls' := [(0, (vR 10 l0)), (1, (vI l1)), (3, (vI l3)), (4, (vI l4)), (6, (vI v6))]) rfl ?_
      exact o_M_at_J160 hrc h
    · skip
      refine s_M_at [(151, .if_icmp .ne 8, 0, 159), (159, .iconst 0, 0, 0)] (by decide +kernel) (z' := (160, [(8, (vI s0)), (0, (vR 10 l0)), (1, (vI l1)), (3, (vI l3)), (4, (vI l4)), (5, (vI v5)), (6, (vI v6))], [(vI 0), (vI v5)], R, M, 174)) (cs := [l3 ≠ v6]) (by rfl) ⟨c_31, trivial⟩ (Nat.le_refl _) ?_
      refine XR.pick [1, 2, 3, 4, 6] (ls' := [(0, (vR 10 l0)), (1, (vI l1)), (3, (vI l3)), (4, (vI l4)), (6, (vI v6))]) rfl ?_
      exact o_M_at_J160 hrc h
set_option maxRecDepth 100000 in
set_option maxHeartbeats 4000000 in
theorem o_M_at_F55 {sc : List Int} {R : xR}   {l0 : Nat} {l1 : Int} {l3 : Int} {l4 : Int}  : ∀ (n : Nat) (v5 : Int) (v6 : Int) (M : xM) (out : Int × xM), M_at_F55 R l0 l1 l3 l4  n v5 v6 M = some out → XR false 4 174 sc y_M_at (55, [(0, (vR 10 l0)), (1, (vI l1)), (3, (vI l3)), (4, (vI l4)), (5, (vI v5)), (6, (vI v6))], [], R, M, 174) ((some (vI out.1)), R, out.2) := by
  intro n
  induction n with
  | zero => intro v5 v6 M out h; exact (xno h).elim
  | succ n ih =>
    intro v5 v6 M out h
    rw [M_at_F55] at h
    refine s_M_at [(55, .iload 6, 0, 0), (57, .iconst 4, 0, 4)] (by decide +kernel) (z' := (58, [(0, (vR 10 l0)), (1, (vI l1)), (3, (vI l3)), (4, (vI l4)), (5, (vI v5)), (6, (vI v6))], [(vI 4), (vI v6)], R, M, 174)) (cs := []) (by rfl) trivial (Nat.le_refl _) ?_
    rcases xif_ex h with ⟨c_24, h⟩ | ⟨c_24, h⟩
    · skip
      obtain ⟨v7_25, hv7_25, h⟩ := xl_ex h
      refine s_M_at [(58, .if_icmp .ge 111, 0, (-1)), (61, .iconst 4, 0, 4), (62, .iload_n 1, 0, 0), (63, .imul, 0, 0), (64, .iload 6, 0, 0), (66, .iadd, 0, 0), (67, .istore 7, 0, 0), (69, .iload 4, 0, 0)] (by decide +kernel) (z' := (71, [(7, (vI v7_25)), (0, (vR 10 l0)), (1, (vI l1)), (3, (vI l3)), (4, (vI l4)), (5, (vI v5)), (6, (vI v6))], [(vI l4)], R, M, 174)) (cs := [¬ (4 ≤ v6)]) (by subst hv7_25; rfl) ⟨Int.not_le.mpr c_24, trivial⟩ (Nat.le_refl _) ?_
      rcases xif_ex h with ⟨c_26, h⟩ | ⟨c_26, h⟩
      · skip
        obtain ⟨c_27, h⟩ := xch_ex h
        refine s_M_at [(71, .ifCond .ne 13, 0, (-1)), (74, .aload_n 0, 0, 0), (75, .getfield 184, 10, 81), (78, .iload 7, 0, 0), (80, .iaload, 0, 0), (81, .goto 58, 0, 139)] (by decide +kernel) (z' := (139, [(7, (vI v7_25)), (0, (vR 10 l0)), (1, (vI l1)), (3, (vI l3)), (4, (vI l4)), (5, (vI v5)), (6, (vI v6))], [(vI (M (R l0 81) (Int.toNat v7_25)))], R, M, 174)) (cs := [¬ (l4 ≠ 0), xar 27 0, xidx v7_25 (xan 27)]) (by rfl) ⟨fun q => q c_26, xar_27, xix_27 c_27, trivial⟩ (Nat.le_refl _) ?_
        refine XR.pick [1, 2, 3, 4, 5, 6] (ls' := [(0, (vR 10 l0)), (1, (vI l1)), (3, (vI l3)), (4, (vI l4)), (5, (vI v5)), (6, (vI v6))]) rfl ?_
        exact o_M_at_J139 ih h
      · skip
        refine s_M_at [(71, .ifCond .ne 13, 0, 84), (84, .iload 4, 0, 0), (86, .iconst 1, 0, 1)] (by decide +kernel) (z' := (87, [(7, (vI v7_25)), (0, (vR 10 l0)), (1, (vI l1)), (3, (vI l3)), (4, (vI l4)), (5, (vI v5)), (6, (vI v6))], [(vI 1), (vI l4)], R, M, 174)) (cs := [l4 ≠ 0]) (by rfl) ⟨c_26, trivial⟩ (Nat.le_refl _) ?_
        rcases xif_ex h with ⟨c_32, h⟩ | ⟨c_32, h⟩
        · skip
          obtain ⟨c_33, h⟩ := xch_ex h
          refine s_M_at [(87, .if_icmp .ne 13, 0, (-1)), (90, .aload_n 0, 0, 0), (91, .getfield 187, 10, 82), (94, .iload 7, 0, 0), (96, .iaload, 0, 0), (97, .goto 42, 0, 139)] (by decide +kernel) (z' := (139, [(7, (vI v7_25)), (0, (vR 10 l0)), (1, (vI l1)), (3, (vI l3)), (4, (vI l4)), (5, (vI v5)), (6, (vI v6))], [(vI (M (R l0 82) (Int.toNat v7_25)))], R, M, 174)) (cs := [¬ (l4 ≠ 1), xar 27 0, xidx v7_25 (xan 27)]) (by rfl) ⟨fun q => q c_32, xar_27, xix_27 c_33, trivial⟩ (Nat.le_refl _) ?_
          refine XR.pick [1, 2, 3, 4, 5, 6] (ls' := [(0, (vR 10 l0)), (1, (vI l1)), (3, (vI l3)), (4, (vI l4)), (5, (vI v5)), (6, (vI v6))]) rfl ?_
          exact o_M_at_J139 ih h
        · skip
          refine s_M_at [(87, .if_icmp .ne 13, 0, 100), (100, .iload 4, 0, 0), (102, .iconst 2, 0, 2)] (by decide +kernel) (z' := (103, [(7, (vI v7_25)), (0, (vR 10 l0)), (1, (vI l1)), (3, (vI l3)), (4, (vI l4)), (5, (vI v5)), (6, (vI v6))], [(vI 2), (vI l4)], R, M, 174)) (cs := [l4 ≠ 1]) (by rfl) ⟨c_32, trivial⟩ (Nat.le_refl _) ?_
          rcases xif_ex h with ⟨c_34, h⟩ | ⟨c_34, h⟩
          · skip
            obtain ⟨c_35, h⟩ := xch_ex h
            refine s_M_at [(103, .if_icmp .ne 13, 0, (-1)), (106, .aload_n 0, 0, 0), (107, .getfield 190, 10, 83), (110, .iload 7, 0, 0), (112, .iaload, 0, 0), (113, .goto 26, 0, 139)] (by decide +kernel) (z' := (139, [(7, (vI v7_25)), (0, (vR 10 l0)), (1, (vI l1)), (3, (vI l3)), (4, (vI l4)), (5, (vI v5)), (6, (vI v6))], [(vI (M (R l0 83) (Int.toNat v7_25)))], R, M, 174)) (cs := [¬ (l4 ≠ 2), xar 27 0, xidx v7_25 (xan 27)]) (by rfl) ⟨fun q => q c_34, xar_27, xix_27 c_35, trivial⟩ (Nat.le_refl _) ?_
            refine XR.pick [1, 2, 3, 4, 5, 6] (ls' := [(0, (vR 10 l0)), (1, (vI l1)), (3, (vI l3)), (4, (vI l4)), (5, (vI v5)), (6, (vI v6))]) rfl ?_
            exact o_M_at_J139 ih h
          · skip
            refine s_M_at [(103, .if_icmp .ne 13, 0, 116), (116, .iload 4, 0, 0), (118, .iconst 3, 0, 3)] (by decide +kernel) (z' := (119, [(7, (vI v7_25)), (0, (vR 10 l0)), (1, (vI l1)), (3, (vI l3)), (4, (vI l4)), (5, (vI v5)), (6, (vI v6))], [(vI 3), (vI l4)], R, M, 174)) (cs := [l4 ≠ 2]) (by rfl) ⟨c_34, trivial⟩ (Nat.le_refl _) ?_
            rcases xif_ex h with ⟨c_36, h⟩ | ⟨c_36, h⟩
            · skip
              obtain ⟨c_37, h⟩ := xch_ex h
              refine s_M_at [(119, .if_icmp .ne 13, 0, (-1)), (122, .aload_n 0, 0, 0), (123, .getfield 193, 10, 84), (126, .iload 7, 0, 0), (128, .iaload, 0, 0), (129, .goto 10, 0, 139)] (by decide +kernel) (z' := (139, [(7, (vI v7_25)), (0, (vR 10 l0)), (1, (vI l1)), (3, (vI l3)), (4, (vI l4)), (5, (vI v5)), (6, (vI v6))], [(vI (M (R l0 84) (Int.toNat v7_25)))], R, M, 174)) (cs := [¬ (l4 ≠ 3), xar 27 0, xidx v7_25 (xan 27)]) (by rfl) ⟨fun q => q c_36, xar_27, xix_27 c_37, trivial⟩ (Nat.le_refl _) ?_
              refine XR.pick [1, 2, 3, 4, 5, 6] (ls' := [(0, (vR 10 l0)), (1, (vI l1)), (3, (vI l3)), (4, (vI l4)), (5, (vI v5)), (6, (vI v6))]) rfl ?_
              exact o_M_at_J139 ih h
            · skip
              obtain ⟨c_38, h⟩ := xch_ex h
              refine s_M_at [(119, .if_icmp .ne 13, 0, 132), (132, .aload_n 0, 0, 0), (133, .getfield 196, 10, 85), (136, .iload 7, 0, 0), (138, .iaload, 0, 0)] (by decide +kernel) (z' := (139, [(7, (vI v7_25)), (0, (vR 10 l0)), (1, (vI l1)), (3, (vI l3)), (4, (vI l4)), (5, (vI v5)), (6, (vI v6))], [(vI (M (R l0 85) (Int.toNat v7_25)))], R, M, 174)) (cs := [l4 ≠ 3, xar 27 0, xidx v7_25 (xan 27)]) (by rfl) ⟨c_36, xar_27, xix_27 c_38, trivial⟩ (Nat.le_refl _) ?_
              refine XR.pick [1, 2, 3, 4, 5, 6] (ls' := [(0, (vR 10 l0)), (1, (vI l1)), (3, (vI l3)), (4, (vI l4)), (5, (vI v5)), (6, (vI v6))]) rfl ?_
              exact o_M_at_J139 ih h
    · skip
      refine s_M_at [(58, .if_icmp .ge 111, 0, 169), (169, .aload_n 0, 0, 0), (170, .iload 5, 0, 0)] (by decide +kernel) (z' := (172, [(0, (vR 10 l0)), (1, (vI l1)), (3, (vI l3)), (4, (vI l4)), (5, (vI v5)), (6, (vI v6))], [(vI v5), (vR 10 l0)], R, M, 174)) (cs := [4 ≤ v6]) (by rfl) ⟨Int.not_lt.mp c_24, trivial⟩ (Nat.le_refl _) ?_
      obtain ⟨r_39, M_40, e_41, h⟩ := xb2_ex h
      refine XR.callV 10 rfl (rest := []) m_M_gives k_10_405 10 l0 (Or.inl ⟨by decide, rfl⟩) [(vI v5)] rfl rfl (c_M_gives e_41) (by decide) (Nat.le_of_ble_eq_true rfl) (by decide +kernel) (Nat.le_refl _) (Nat.le_refl _) ?_
      show XR false 4 174 sc y_M_at (175, [(0, (vR 10 l0)), (1, (vI l1)), (3, (vI l3)), (4, (vI l4)), (5, (vI v5)), (6, (vI v6))], [(vI r_39)], R, M_40, 174) _
      obtain rfl := Option.some.inj h
      exact XR.retI .int rfl rfl (by decide +kernel)
set_option maxRecDepth 100000 in
set_option maxHeartbeats 4000000 in
theorem o_M_at_J27 {sc : List Int} {R : xR}   {l0 : Nat} {l1 : Int} {l2 : Int} {l3 : Int} {l4 : Int}  {M : xM} {out : Int × xM} (h : M_at_J27 R l0 l1 l2 l3 l4  M = some out) : XR false 4 174 sc y_M_at (27, [(0, (vR 10 l0)), (1, (vI l1)), (2, (vI l2)), (3, (vI l3)), (4, (vI l4))], [], R, M, 174) ((some (vI out.1)), R, out.2) := by
  unfold M_at_J27 at h
  refine s_M_at [(27, .iload 4, 0, 0)] (by decide +kernel) (z' := (29, [(0, (vR 10 l0)), (1, (vI l1)), (2, (vI l2)), (3, (vI l3)), (4, (vI l4))], [(vI l4)], R, M, 174)) (cs := []) (by rfl) trivial (Nat.le_refl _) ?_
  rcases xif_ex h with ⟨c_14, h⟩ | ⟨c_14, h⟩
  · skip
    refine s_M_at [(29, .ifCond .lt 9, 0, 38), (38, .aload_n 0, 0, 0), (39, .iconst 1, 0, 1)] (by decide +kernel) (z' := (40, [(0, (vR 10 l0)), (1, (vI l1)), (2, (vI l2)), (3, (vI l3)), (4, (vI l4))], [(vI 1), (vR 10 l0)], R, M, 174)) (cs := [l4 < 0]) (by rfl) ⟨c_14, trivial⟩ (Nat.le_refl _) ?_
    obtain ⟨r_15, M_16, e_17, h⟩ := xb2_ex h
    refine XR.callV 10 rfl (rest := []) m_M_refuse k_10_377 10 l0 (Or.inl ⟨by decide, rfl⟩) [(vI 1)] rfl rfl (c_M_refuse e_17) (by decide) (Nat.le_of_ble_eq_true rfl) (by decide +kernel) (Nat.le_refl _) (Nat.le_refl _) ?_
    show XR false 4 174 sc y_M_at (43, [(0, (vR 10 l0)), (1, (vI l1)), (2, (vI l2)), (3, (vI l3)), (4, (vI l4))], [(vI r_15)], R, M_16, 174) _
    obtain rfl := Option.some.inj h
    exact XR.retI .int rfl rfl (by decide +kernel)
  · skip
    refine s_M_at [(29, .ifCond .lt 9, 0, (-1)), (32, .iload 4, 0, 0), (34, .iconst 4, 0, 4)] (by decide +kernel) (z' := (35, [(0, (vR 10 l0)), (1, (vI l1)), (2, (vI l2)), (3, (vI l3)), (4, (vI l4))], [(vI 4), (vI l4)], R, M, 174)) (cs := [¬ (l4 < 0)]) (by rfl) ⟨c_14, trivial⟩ (Nat.le_refl _) ?_
    rcases xif_ex h with ⟨c_18, h⟩ | ⟨c_18, h⟩
    · skip
      refine s_M_at [(35, .if_icmp .le 9, 0, (-1)), (38, .aload_n 0, 0, 0), (39, .iconst 1, 0, 1)] (by decide +kernel) (z' := (40, [(0, (vR 10 l0)), (1, (vI l1)), (2, (vI l2)), (3, (vI l3)), (4, (vI l4))], [(vI 1), (vR 10 l0)], R, M, 174)) (cs := [¬ (l4 ≤ 4)]) (by rfl) ⟨Int.not_le.mpr c_18, trivial⟩ (Nat.le_refl _) ?_
      obtain ⟨r_19, M_20, e_21, h⟩ := xb2_ex h
      refine XR.callV 10 rfl (rest := []) m_M_refuse k_10_377 10 l0 (Or.inl ⟨by decide, rfl⟩) [(vI 1)] rfl rfl (c_M_refuse e_21) (by decide) (Nat.le_of_ble_eq_true rfl) (by decide +kernel) (Nat.le_refl _) (Nat.le_refl _) ?_
      show XR false 4 174 sc y_M_at (43, [(0, (vR 10 l0)), (1, (vI l1)), (2, (vI l2)), (3, (vI l3)), (4, (vI l4))], [(vI r_19)], R, M_20, 174) _
      obtain rfl := Option.some.inj h
      exact XR.retI .int rfl rfl (by decide +kernel)
    · skip
      refine s_M_at [(35, .if_icmp .le 9, 0, 44), (44, .aload_n 0, 0, 0), (45, .iload_n 2, 0, 0)] (by decide +kernel) (z' := (46, [(0, (vR 10 l0)), (1, (vI l1)), (2, (vI l2)), (3, (vI l3)), (4, (vI l4))], [(vI l2), (vR 10 l0)], R, M, 174)) (cs := [l4 ≤ 4]) (by rfl) ⟨Int.not_lt.mp c_18, trivial⟩ (Nat.le_refl _) ?_
      obtain ⟨M_22, e_23, h⟩ := xb1_ex h
      refine XR.callV 10 rfl (rest := []) m_M_steps k_10_498 10 l0 (Or.inl ⟨by decide, rfl⟩) [(vI l2)] rfl rfl (c_M_steps e_23) (by decide) (Nat.le_of_ble_eq_true rfl) (by decide +kernel) (Nat.le_refl _) (Nat.le_refl _) ?_
      show XR false 4 174 sc y_M_at (49, [(0, (vR 10 l0)), (1, (vI l1)), (2, (vI l2)), (3, (vI l3)), (4, (vI l4))], [], R, M_22, 174) _
      refine s_M_at [(49, .iconst 0, 0, 0), (50, .istore 5, 0, 0), (52, .iconst 0, 0, 0), (53, .istore 6, 0, 0)] (by decide +kernel) (z' := (55, [(6, (vI 0)), (5, (vI 0)), (0, (vR 10 l0)), (1, (vI l1)), (2, (vI l2)), (3, (vI l3)), (4, (vI l4))], [], R, M_22, 174)) (cs := []) (by rfl) trivial (Nat.le_refl _) ?_
      refine XR.pick [2, 3, 5, 6, 1, 0] (ls' := [(0, (vR 10 l0)), (1, (vI l1)), (3, (vI l3)), (4, (vI l4)), (5, (vI 0)), (6, (vI 0))]) rfl ?_
      refine o_M_at_F55  xfu 0 0 M_22 _ h
set_option maxRecDepth 100000 in
set_option maxHeartbeats 4000000 in
theorem o_M_at {sc : List Int} {R : xR} {M : xM} {l0 : Nat} {l1 : Int} {l2 : Int} {l3 : Int} {l4 : Int} {out : Int × xM} (h : f_M_at R l0 l1 l2 l3 l4 M = some out) : XR false 4 174 sc y_M_at (0, [(0, (vR 10 l0)), (1, (vI l1)), (2, (vI l2)), (3, (vI l3)), (4, (vI l4))], [], R, M, 174) ((some (vI out.1)), R, out.2) := by
  unfold f_M_at at h
  refine s_M_at [(0, .aload_n 0, 0, 0), (1, .iload_n 1, 0, 0)] (by decide +kernel) (z' := (2, [(0, (vR 10 l0)), (1, (vI l1)), (2, (vI l2)), (3, (vI l3)), (4, (vI l4))], [(vI l1), (vR 10 l0)], R, M, 174)) (cs := []) (by rfl) trivial (Nat.le_refl _) ?_
  obtain ⟨r_1, e_2, h⟩ := xb1_ex h
  refine XR.callV 10 rfl (rest := []) m_M_isCleaner k_10_430 10 l0 (Or.inl ⟨by decide, rfl⟩) [(vI l1)] rfl rfl (c_M_isCleaner e_2) (by decide) (Nat.le_of_ble_eq_true rfl) (by decide +kernel) (Nat.le_refl _) (Nat.le_refl _) ?_
  show XR false 4 174 sc y_M_at (5, [(0, (vR 10 l0)), (1, (vI l1)), (2, (vI l2)), (3, (vI l3)), (4, (vI l4))], [(vI r_1)], R, M, 174) _
  rcases xif_ex h with ⟨c_3, h⟩ | ⟨c_3, h⟩
  · skip
    refine s_M_at [(5, .ifCond .eq 33, 0, 38), (38, .aload_n 0, 0, 0), (39, .iconst 1, 0, 1)] (by decide +kernel) (z' := (40, [(0, (vR 10 l0)), (1, (vI l1)), (2, (vI l2)), (3, (vI l3)), (4, (vI l4))], [(vI 1), (vR 10 l0)], R, M, 174)) (cs := [r_1 = 0]) (by rfl) ⟨c_3, trivial⟩ (Nat.le_refl _) ?_
    obtain ⟨r_4, M_5, e_6, h⟩ := xb2_ex h
    refine XR.callV 10 rfl (rest := []) m_M_refuse k_10_377 10 l0 (Or.inl ⟨by decide, rfl⟩) [(vI 1)] rfl rfl (c_M_refuse e_6) (by decide) (Nat.le_of_ble_eq_true rfl) (by decide +kernel) (Nat.le_refl _) (Nat.le_refl _) ?_
    show XR false 4 174 sc y_M_at (43, [(0, (vR 10 l0)), (1, (vI l1)), (2, (vI l2)), (3, (vI l3)), (4, (vI l4))], [(vI r_4)], R, M_5, 174) _
    obtain rfl := Option.some.inj h
    exact XR.retI .int rfl rfl (by decide +kernel)
  · skip
    refine s_M_at [(5, .ifCond .eq 33, 0, (-1)), (8, .iload_n 2, 0, 0)] (by decide +kernel) (z' := (9, [(0, (vR 10 l0)), (1, (vI l1)), (2, (vI l2)), (3, (vI l3)), (4, (vI l4))], [(vI l2)], R, M, 174)) (cs := [¬ (r_1 = 0)]) (by rfl) ⟨c_3, trivial⟩ (Nat.le_refl _) ?_
    obtain ⟨r_7, e_8, h⟩ := xb1_ex h
    refine XR.callS 10 rfl (rest := []) m_M_isHour k_10_436 [(vI l2)] rfl rfl (c_M_isHour e_8) (by decide) (Nat.le_of_ble_eq_true rfl) (by decide +kernel) (Nat.le_refl _) (Nat.le_refl _) ?_
    show XR false 4 174 sc y_M_at (12, [(0, (vR 10 l0)), (1, (vI l1)), (2, (vI l2)), (3, (vI l3)), (4, (vI l4))], [(vI r_7)], R, M, 174) _
    rcases xif_ex h with ⟨c_9, h⟩ | ⟨c_9, h⟩
    · skip
      refine s_M_at [(12, .ifCond .eq 26, 0, 38), (38, .aload_n 0, 0, 0), (39, .iconst 1, 0, 1)] (by decide +kernel) (z' := (40, [(0, (vR 10 l0)), (1, (vI l1)), (2, (vI l2)), (3, (vI l3)), (4, (vI l4))], [(vI 1), (vR 10 l0)], R, M, 174)) (cs := [r_7 = 0]) (by rfl) ⟨c_9, trivial⟩ (Nat.le_refl _) ?_
      obtain ⟨r_10, M_11, e_12, h⟩ := xb2_ex h
      refine XR.callV 10 rfl (rest := []) m_M_refuse k_10_377 10 l0 (Or.inl ⟨by decide, rfl⟩) [(vI 1)] rfl rfl (c_M_refuse e_12) (by decide) (Nat.le_of_ble_eq_true rfl) (by decide +kernel) (Nat.le_refl _) (Nat.le_refl _) ?_
      show XR false 4 174 sc y_M_at (43, [(0, (vR 10 l0)), (1, (vI l1)), (2, (vI l2)), (3, (vI l3)), (4, (vI l4))], [(vI r_10)], R, M_11, 174) _
      obtain rfl := Option.some.inj h
      exact XR.retI .int rfl rfl (by decide +kernel)
    · skip
      refine s_M_at [(12, .ifCond .eq 26, 0, (-1)), (15, .iload_n 3, 0, 0), (16, .iconst (-1), 0, (-1))] (by decide +kernel) (z' := (17, [(0, (vR 10 l0)), (1, (vI l1)), (2, (vI l2)), (3, (vI l3)), (4, (vI l4))], [(vI (-1)), (vI l3)], R, M, 174)) (cs := [¬ (r_7 = 0)]) (by rfl) ⟨c_9, trivial⟩ (Nat.le_refl _) ?_
      rcases xif_ex h with ⟨c_13, h⟩ | ⟨c_13, h⟩
      · skip
        refine s_M_at [(17, .if_icmp .eq 10, 0, 27)] (by decide +kernel) (z' := (27, [(0, (vR 10 l0)), (1, (vI l1)), (2, (vI l2)), (3, (vI l3)), (4, (vI l4))], [], R, M, 174)) (cs := [l3 = -1]) (by rfl) ⟨c_13, trivial⟩ (Nat.le_refl _) ?_
        exact o_M_at_J27  h
      · skip
        refine s_M_at [(17, .if_icmp .eq 10, 0, (-1)), (20, .iload_n 3, 0, 0)] (by decide +kernel) (z' := (21, [(0, (vR 10 l0)), (1, (vI l1)), (2, (vI l2)), (3, (vI l3)), (4, (vI l4))], [(vI l3)], R, M, 174)) (cs := [¬ (l3 = -1)]) (by rfl) ⟨c_13, trivial⟩ (Nat.le_refl _) ?_
        obtain ⟨r_42, e_43, h⟩ := xb1_ex h
        refine XR.callS 10 rfl (rest := []) m_M_isSize k_10_439 [(vI l3)] rfl rfl (c_M_isSize e_43) (by decide) (Nat.le_of_ble_eq_true rfl) (by decide +kernel) (Nat.le_refl _) (Nat.le_refl _) ?_
        show XR false 4 174 sc y_M_at (24, [(0, (vR 10 l0)), (1, (vI l1)), (2, (vI l2)), (3, (vI l3)), (4, (vI l4))], [(vI r_42)], R, M, 174) _
        rcases xif_ex h with ⟨c_44, h⟩ | ⟨c_44, h⟩
        · skip
          refine s_M_at [(24, .ifCond .eq 14, 0, 38), (38, .aload_n 0, 0, 0), (39, .iconst 1, 0, 1)] (by decide +kernel) (z' := (40, [(0, (vR 10 l0)), (1, (vI l1)), (2, (vI l2)), (3, (vI l3)), (4, (vI l4))], [(vI 1), (vR 10 l0)], R, M, 174)) (cs := [r_42 = 0]) (by rfl) ⟨c_44, trivial⟩ (Nat.le_refl _) ?_
          obtain ⟨r_45, M_46, e_47, h⟩ := xb2_ex h
          refine XR.callV 10 rfl (rest := []) m_M_refuse k_10_377 10 l0 (Or.inl ⟨by decide, rfl⟩) [(vI 1)] rfl rfl (c_M_refuse e_47) (by decide) (Nat.le_of_ble_eq_true rfl) (by decide +kernel) (Nat.le_refl _) (Nat.le_refl _) ?_
          show XR false 4 174 sc y_M_at (43, [(0, (vR 10 l0)), (1, (vI l1)), (2, (vI l2)), (3, (vI l3)), (4, (vI l4))], [(vI r_45)], R, M_46, 174) _
          obtain rfl := Option.some.inj h
          exact XR.retI .int rfl rfl (by decide +kernel)
        · skip
          refine s_M_at [(24, .ifCond .eq 14, 0, (-1))] (by decide +kernel) (z' := (27, [(0, (vR 10 l0)), (1, (vI l1)), (2, (vI l2)), (3, (vI l3)), (4, (vI l4))], [], R, M, 174)) (cs := [¬ (r_42 = 0)]) (by rfl) ⟨c_44, trivial⟩ (Nat.le_refl _) ?_
          exact o_M_at_J27  h
set_option maxRecDepth 100000 in
set_option maxHeartbeats 4000000 in
theorem c_M_at {sc : List Int} {R : xR} {M : xM} {l0 : Nat} {l1 : Int} {l2 : Int} {l3 : Int} {l4 : Int} {out : Int × xM} (h : f_M_at R l0 l1 l2 l3 l4 M = some out) : XC false 4 sc y_M_at [(vR 10 l0), (vI l1), (vI l2), (vI l3), (vI l4)] R M 174 174 ((some (vI out.1)), R, out.2) := XC.of (by decide) (Nat.le_of_ble_eq_true rfl) (Nat.le_refl _) (Nat.le_refl _) (o_M_at h)
def f_M_byteAt (R : xR) (l0 : Nat) (l1 : Int) (M : xM) : Option Int :=
  if l1 < M l0 7 then
    xch (0 ≤ l1 ∧ l1 < 600) <|
    some (xand (M (R l0 5) (Int.toNat l1)) 255)
  else
    some (-1)
set_option maxRecDepth 100000 in
set_option maxHeartbeats 4000000 in
theorem s_M_byteAt {d : Nat} {sc : List Int} {z z' : xS} {out : xO} (qs : List xI) {cs : List Prop} (hq : qs.all (xqb 10 false y_M_byteAt.2.2.1 y_M_byteAt.2.1) = true) (h : xN false sc qs z = some (z', cs)) (hc : xAll cs) (hE : z'.2.2.2.2.2 ≤ 174) (k : XR false d 174 sc y_M_byteAt z' out) : XR false d 174 sc y_M_byteAt z out := XR.seg 10 false rfl (fun q => by cases q) qs hq h hc hE k
set_option maxRecDepth 100000 in
set_option maxHeartbeats 4000000 in
theorem o_M_byteAt {sc : List Int} {R : xR} {M : xM} {l0 : Nat} {l1 : Int} {out : Int} (h : f_M_byteAt R l0 l1 M = some out) : XR false 0 174 sc y_M_byteAt (0, [(0, (vR 10 l0)), (1, (vI l1))], [], R, M, 174) ((some (vI out)), R, M) := by
  unfold f_M_byteAt at h
  refine s_M_byteAt [(0, .iload_n 1, 0, 0), (1, .aload_n 0, 0, 0), (2, .getfield 274, 10, 7)] (by decide +kernel) (z' := (5, [(0, (vR 10 l0)), (1, (vI l1))], [(vI (M l0 7)), (vI l1)], R, M, 174)) (cs := []) (by rfl) trivial (Nat.le_refl _) ?_
  rcases xif_ex h with ⟨c_1, h⟩ | ⟨c_1, h⟩
  · skip
    obtain ⟨c_2, h⟩ := xch_ex h
    refine s_M_byteAt [(5, .if_icmp .ge 16, 0, (-1)), (8, .aload_n 0, 0, 0), (9, .getfield 24, 10, 5), (12, .iload_n 1, 0, 0), (13, .baload, 2, 0), (14, .sipush 255, 0, 255), (17, .iand, 0, 0), (18, .goto 4, 0, 22)] (by decide +kernel) (z' := (22, [(0, (vR 10 l0)), (1, (vI l1))], [(vI (xand (M (R l0 5) (Int.toNat l1)) 255))], R, M, 174)) (cs := [¬ (M l0 7 ≤ l1), xar 39 2, xidx l1 (xan 39)]) (by rfl) ⟨Int.not_le.mpr c_1, xar_39, xix_39 c_2, trivial⟩ (Nat.le_refl _) ?_
    obtain rfl := Option.some.inj h
    exact XR.retI .int rfl rfl (by decide +kernel)
  · skip
    refine s_M_byteAt [(5, .if_icmp .ge 16, 0, 21), (21, .iconst (-1), 0, (-1))] (by decide +kernel) (z' := (22, [(0, (vR 10 l0)), (1, (vI l1))], [(vI (-1))], R, M, 174)) (cs := [M l0 7 ≤ l1]) (by rfl) ⟨Int.not_lt.mp c_1, trivial⟩ (Nat.le_refl _) ?_
    obtain rfl := Option.some.inj h
    exact XR.retI .int rfl rfl (by decide +kernel)
set_option maxRecDepth 100000 in
set_option maxHeartbeats 4000000 in
theorem c_M_byteAt {sc : List Int} {R : xR} {M : xM} {l0 : Nat} {l1 : Int} {out : Int} (h : f_M_byteAt R l0 l1 M = some out) : XC false 0 sc y_M_byteAt [(vR 10 l0), (vI l1)] R M 174 174 ((some (vI out)), R, M) := XC.of (by decide) (Nat.le_of_ble_eq_true rfl) (Nat.le_refl _) (Nat.le_refl _) (o_M_byteAt h)
def f_M_isSmall (l0 : Int) : Option Int :=
  if l0 < 97 then
    some (0)
  else
    if 122 < l0 then
      some (0)
    else
      some (1)
set_option maxRecDepth 100000 in
set_option maxHeartbeats 4000000 in
theorem s_M_isSmall {d : Nat} {sc : List Int} {z z' : xS} {out : xO} (qs : List xI) {cs : List Prop} (hq : qs.all (xqb 10 false y_M_isSmall.2.2.1 y_M_isSmall.2.1) = true) (h : xN false sc qs z = some (z', cs)) (hc : xAll cs) (hE : z'.2.2.2.2.2 ≤ 174) (k : XR false d 174 sc y_M_isSmall z' out) : XR false d 174 sc y_M_isSmall z out := XR.seg 10 false rfl (fun q => by cases q) qs hq h hc hE k
set_option maxRecDepth 100000 in
set_option maxHeartbeats 4000000 in
theorem o_M_isSmall {sc : List Int} {R : xR} {M : xM} {l0 : Int} {out : Int} (h : f_M_isSmall l0 = some out) : XR false 0 174 sc y_M_isSmall (0, [(0, (vI l0))], [], R, M, 174) ((some (vI out)), R, M) := by
  unfold f_M_isSmall at h
  refine s_M_isSmall [(0, .iload_n 0, 0, 0), (1, .bipush 97, 0, 97)] (by decide +kernel) (z' := (3, [(0, (vI l0))], [(vI 97), (vI l0)], R, M, 174)) (cs := []) (by rfl) trivial (Nat.le_refl _) ?_
  rcases xif_ex h with ⟨c_1, h⟩ | ⟨c_1, h⟩
  · skip
    refine s_M_isSmall [(3, .if_icmp .lt 13, 0, 16), (16, .iconst 0, 0, 0)] (by decide +kernel) (z' := (17, [(0, (vI l0))], [(vI 0)], R, M, 174)) (cs := [l0 < 97]) (by rfl) ⟨c_1, trivial⟩ (Nat.le_refl _) ?_
    obtain rfl := Option.some.inj h
    exact XR.retI .boolean rfl (xnar_z (by decide)) (by decide +kernel)
  · skip
    refine s_M_isSmall [(3, .if_icmp .lt 13, 0, (-1)), (6, .iload_n 0, 0, 0), (7, .bipush 122, 0, 122)] (by decide +kernel) (z' := (9, [(0, (vI l0))], [(vI 122), (vI l0)], R, M, 174)) (cs := [¬ (l0 < 97)]) (by rfl) ⟨c_1, trivial⟩ (Nat.le_refl _) ?_
    rcases xif_ex h with ⟨c_2, h⟩ | ⟨c_2, h⟩
    · skip
      refine s_M_isSmall [(9, .if_icmp .gt 7, 0, 16), (16, .iconst 0, 0, 0)] (by decide +kernel) (z' := (17, [(0, (vI l0))], [(vI 0)], R, M, 174)) (cs := [122 < l0]) (by rfl) ⟨c_2, trivial⟩ (Nat.le_refl _) ?_
      obtain rfl := Option.some.inj h
      exact XR.retI .boolean rfl (xnar_z (by decide)) (by decide +kernel)
    · skip
      refine s_M_isSmall [(9, .if_icmp .gt 7, 0, (-1)), (12, .iconst 1, 0, 1), (13, .goto 4, 0, 17)] (by decide +kernel) (z' := (17, [(0, (vI l0))], [(vI 1)], R, M, 174)) (cs := [¬ (122 < l0)]) (by rfl) ⟨c_2, trivial⟩ (Nat.le_refl _) ?_
      obtain rfl := Option.some.inj h
      exact XR.retI .boolean rfl (xnar_z (by decide)) (by decide +kernel)
set_option maxRecDepth 100000 in
set_option maxHeartbeats 4000000 in
theorem c_M_isSmall {sc : List Int} {R : xR} {M : xM} {l0 : Int} {out : Int} (h : f_M_isSmall l0 = some out) : XC false 0 sc y_M_isSmall [(vI l0)] R M 174 174 ((some (vI out)), R, M) := XC.of (by decide) (Nat.le_of_ble_eq_true rfl) (Nat.le_refl _) (Nat.le_refl _) (o_M_isSmall h)
def f_M_isDigit (l0 : Int) : Option Int :=
  if l0 < 48 then
    some (0)
  else
    if 57 < l0 then
      some (0)
    else
      some (1)
set_option maxRecDepth 100000 in
set_option maxHeartbeats 4000000 in
theorem s_M_isDigit {d : Nat} {sc : List Int} {z z' : xS} {out : xO} (qs : List xI) {cs : List Prop} (hq : qs.all (xqb 10 false y_M_isDigit.2.2.1 y_M_isDigit.2.1) = true) (h : xN false sc qs z = some (z', cs)) (hc : xAll cs) (hE : z'.2.2.2.2.2 ≤ 174) (k : XR false d 174 sc y_M_isDigit z' out) : XR false d 174 sc y_M_isDigit z out := XR.seg 10 false rfl (fun q => by cases q) qs hq h hc hE k
set_option maxRecDepth 100000 in
set_option maxHeartbeats 4000000 in
theorem o_M_isDigit {sc : List Int} {R : xR} {M : xM} {l0 : Int} {out : Int} (h : f_M_isDigit l0 = some out) : XR false 0 174 sc y_M_isDigit (0, [(0, (vI l0))], [], R, M, 174) ((some (vI out)), R, M) := by
  unfold f_M_isDigit at h
  refine s_M_isDigit [(0, .iload_n 0, 0, 0), (1, .bipush 48, 0, 48)] (by decide +kernel) (z' := (3, [(0, (vI l0))], [(vI 48), (vI l0)], R, M, 174)) (cs := []) (by rfl) trivial (Nat.le_refl _) ?_
  rcases xif_ex h with ⟨c_1, h⟩ | ⟨c_1, h⟩
  · skip
    refine s_M_isDigit [(3, .if_icmp .lt 13, 0, 16), (16, .iconst 0, 0, 0)] (by decide +kernel) (z' := (17, [(0, (vI l0))], [(vI 0)], R, M, 174)) (cs := [l0 < 48]) (by rfl) ⟨c_1, trivial⟩ (Nat.le_refl _) ?_
    obtain rfl := Option.some.inj h
    exact XR.retI .boolean rfl (xnar_z (by decide)) (by decide +kernel)
  · skip
    refine s_M_isDigit [(3, .if_icmp .lt 13, 0, (-1)), (6, .iload_n 0, 0, 0), (7, .bipush 57, 0, 57)] (by decide +kernel) (z' := (9, [(0, (vI l0))], [(vI 57), (vI l0)], R, M, 174)) (cs := [¬ (l0 < 48)]) (by rfl) ⟨c_1, trivial⟩ (Nat.le_refl _) ?_
    rcases xif_ex h with ⟨c_2, h⟩ | ⟨c_2, h⟩
    · skip
      refine s_M_isDigit [(9, .if_icmp .gt 7, 0, 16), (16, .iconst 0, 0, 0)] (by decide +kernel) (z' := (17, [(0, (vI l0))], [(vI 0)], R, M, 174)) (cs := [57 < l0]) (by rfl) ⟨c_2, trivial⟩ (Nat.le_refl _) ?_
      obtain rfl := Option.some.inj h
      exact XR.retI .boolean rfl (xnar_z (by decide)) (by decide +kernel)
    · skip
      refine s_M_isDigit [(9, .if_icmp .gt 7, 0, (-1)), (12, .iconst 1, 0, 1), (13, .goto 4, 0, 17)] (by decide +kernel) (z' := (17, [(0, (vI l0))], [(vI 1)], R, M, 174)) (cs := [¬ (57 < l0)]) (by rfl) ⟨c_2, trivial⟩ (Nat.le_refl _) ?_
      obtain rfl := Option.some.inj h
      exact XR.retI .boolean rfl (xnar_z (by decide)) (by decide +kernel)
set_option maxRecDepth 100000 in
set_option maxHeartbeats 4000000 in
theorem c_M_isDigit {sc : List Int} {R : xR} {M : xM} {l0 : Int} {out : Int} (h : f_M_isDigit l0 = some out) : XC false 0 sc y_M_isDigit [(vI l0)] R M 174 174 ((some (vI out)), R, M) := XC.of (by decide) (Nat.le_of_ble_eq_true rfl) (Nat.le_refl _) (Nat.le_refl _) (o_M_isDigit h)
def f_M_isLawSign (l0 : Int) : Option Int :=
  if l0 = 58 then
    some (1)
  else
    if l0 = 59 then
      some (1)
    else
      if l0 = 43 then
        some (1)
      else
        if l0 = 45 then
          some (1)
        else
          if l0 = 42 then
            some (1)
          else
            if l0 = 40 then
              some (1)
            else
              if l0 = 41 then
                some (1)
              else
                some (0)
set_option maxRecDepth 100000 in
set_option maxHeartbeats 4000000 in
theorem s_M_isLawSign {d : Nat} {sc : List Int} {z z' : xS} {out : xO} (qs : List xI) {cs : List Prop} (hq : qs.all (xqb 10 false y_M_isLawSign.2.2.1 y_M_isLawSign.2.1) = true) (h : xN false sc qs z = some (z', cs)) (hc : xAll cs) (hE : z'.2.2.2.2.2 ≤ 174) (k : XR false d 174 sc y_M_isLawSign z' out) : XR false d 174 sc y_M_isLawSign z out := XR.seg 10 false rfl (fun q => by cases q) qs hq h hc hE k
set_option maxRecDepth 100000 in
set_option maxHeartbeats 4000000 in
theorem o_M_isLawSign {sc : List Int} {R : xR} {M : xM} {l0 : Int} {out : Int} (h : f_M_isLawSign l0 = some out) : XR false 0 174 sc y_M_isLawSign (0, [(0, (vI l0))], [], R, M, 174) ((some (vI out)), R, M) := by
  unfold f_M_isLawSign at h
  refine s_M_isLawSign [(0, .iload_n 0, 0, 0), (1, .bipush 58, 0, 58)] (by decide +kernel) (z' := (3, [(0, (vI l0))], [(vI 58), (vI l0)], R, M, 174)) (cs := []) (by rfl) trivial (Nat.le_refl _) ?_
  rcases xif_ex h with ⟨c_1, h⟩ | ⟨c_1, h⟩
  · skip
    refine s_M_isLawSign [(3, .if_icmp .eq 39, 0, 42), (42, .iconst 1, 0, 1), (43, .goto 4, 0, 47)] (by decide +kernel) (z' := (47, [(0, (vI l0))], [(vI 1)], R, M, 174)) (cs := [l0 = 58]) (by rfl) ⟨c_1, trivial⟩ (Nat.le_refl _) ?_
    obtain rfl := Option.some.inj h
    exact XR.retI .boolean rfl (xnar_z (by decide)) (by decide +kernel)
  · skip
    refine s_M_isLawSign [(3, .if_icmp .eq 39, 0, (-1)), (6, .iload_n 0, 0, 0), (7, .bipush 59, 0, 59)] (by decide +kernel) (z' := (9, [(0, (vI l0))], [(vI 59), (vI l0)], R, M, 174)) (cs := [¬ (l0 = 58)]) (by rfl) ⟨c_1, trivial⟩ (Nat.le_refl _) ?_
    rcases xif_ex h with ⟨c_2, h⟩ | ⟨c_2, h⟩
    · skip
      refine s_M_isLawSign [(9, .if_icmp .eq 33, 0, 42), (42, .iconst 1, 0, 1), (43, .goto 4, 0, 47)] (by decide +kernel) (z' := (47, [(0, (vI l0))], [(vI 1)], R, M, 174)) (cs := [l0 = 59]) (by rfl) ⟨c_2, trivial⟩ (Nat.le_refl _) ?_
      obtain rfl := Option.some.inj h
      exact XR.retI .boolean rfl (xnar_z (by decide)) (by decide +kernel)
    · skip
      refine s_M_isLawSign [(9, .if_icmp .eq 33, 0, (-1)), (12, .iload_n 0, 0, 0), (13, .bipush 43, 0, 43)] (by decide +kernel) (z' := (15, [(0, (vI l0))], [(vI 43), (vI l0)], R, M, 174)) (cs := [¬ (l0 = 59)]) (by rfl) ⟨c_2, trivial⟩ (Nat.le_refl _) ?_
      rcases xif_ex h with ⟨c_3, h⟩ | ⟨c_3, h⟩
      · skip
        refine s_M_isLawSign [(15, .if_icmp .eq 27, 0, 42), (42, .iconst 1, 0, 1), (43, .goto 4, 0, 47)] (by decide +kernel) (z' := (47, [(0, (vI l0))], [(vI 1)], R, M, 174)) (cs := [l0 = 43]) (by rfl) ⟨c_3, trivial⟩ (Nat.le_refl _) ?_
        obtain rfl := Option.some.inj h
        exact XR.retI .boolean rfl (xnar_z (by decide)) (by decide +kernel)
      · skip
        refine s_M_isLawSign [(15, .if_icmp .eq 27, 0, (-1)), (18, .iload_n 0, 0, 0), (19, .bipush 45, 0, 45)] (by decide +kernel) (z' := (21, [(0, (vI l0))], [(vI 45), (vI l0)], R, M, 174)) (cs := [¬ (l0 = 43)]) (by rfl) ⟨c_3, trivial⟩ (Nat.le_refl _) ?_
        rcases xif_ex h with ⟨c_4, h⟩ | ⟨c_4, h⟩
        · skip
          refine s_M_isLawSign [(21, .if_icmp .eq 21, 0, 42), (42, .iconst 1, 0, 1), (43, .goto 4, 0, 47)] (by decide +kernel) (z' := (47, [(0, (vI l0))], [(vI 1)], R, M, 174)) (cs := [l0 = 45]) (by rfl) ⟨c_4, trivial⟩ (Nat.le_refl _) ?_
          obtain rfl := Option.some.inj h
          exact XR.retI .boolean rfl (xnar_z (by decide)) (by decide +kernel)
        · skip
          refine s_M_isLawSign [(21, .if_icmp .eq 21, 0, (-1)), (24, .iload_n 0, 0, 0), (25, .bipush 42, 0, 42)] (by decide +kernel) (z' := (27, [(0, (vI l0))], [(vI 42), (vI l0)], R, M, 174)) (cs := [¬ (l0 = 45)]) (by rfl) ⟨c_4, trivial⟩ (Nat.le_refl _) ?_
          rcases xif_ex h with ⟨c_5, h⟩ | ⟨c_5, h⟩
          · skip
            refine s_M_isLawSign [(27, .if_icmp .eq 15, 0, 42), (42, .iconst 1, 0, 1), (43, .goto 4, 0, 47)] (by decide +kernel) (z' := (47, [(0, (vI l0))], [(vI 1)], R, M, 174)) (cs := [l0 = 42]) (by rfl) ⟨c_5, trivial⟩ (Nat.le_refl _) ?_
            obtain rfl := Option.some.inj h
            exact XR.retI .boolean rfl (xnar_z (by decide)) (by decide +kernel)
          · skip
            refine s_M_isLawSign [(27, .if_icmp .eq 15, 0, (-1)), (30, .iload_n 0, 0, 0), (31, .bipush 40, 0, 40)] (by decide +kernel) (z' := (33, [(0, (vI l0))], [(vI 40), (vI l0)], R, M, 174)) (cs := [¬ (l0 = 42)]) (by rfl) ⟨c_5, trivial⟩ (Nat.le_refl _) ?_
            rcases xif_ex h with ⟨c_6, h⟩ | ⟨c_6, h⟩
            · skip
              refine s_M_isLawSign [(33, .if_icmp .eq 9, 0, 42), (42, .iconst 1, 0, 1), (43, .goto 4, 0, 47)] (by decide +kernel) (z' := (47, [(0, (vI l0))], [(vI 1)], R, M, 174)) (cs := [l0 = 40]) (by rfl) ⟨c_6, trivial⟩ (Nat.le_refl _) ?_
              obtain rfl := Option.some.inj h
              exact XR.retI .boolean rfl (xnar_z (by decide)) (by decide +kernel)
            · skip
              refine s_M_isLawSign [(33, .if_icmp .eq 9, 0, (-1)), (36, .iload_n 0, 0, 0), (37, .bipush 41, 0, 41)] (by decide +kernel) (z' := (39, [(0, (vI l0))], [(vI 41), (vI l0)], R, M, 174)) (cs := [¬ (l0 = 40)]) (by rfl) ⟨c_6, trivial⟩ (Nat.le_refl _) ?_
              rcases xif_ex h with ⟨c_7, h⟩ | ⟨c_7, h⟩
              · skip
                refine s_M_isLawSign [(39, .if_icmp .ne 7, 0, (-1)), (42, .iconst 1, 0, 1), (43, .goto 4, 0, 47)] (by decide +kernel) (z' := (47, [(0, (vI l0))], [(vI 1)], R, M, 174)) (cs := [¬ (l0 ≠ 41)]) (by rfl) ⟨fun q => q c_7, trivial⟩ (Nat.le_refl _) ?_
                obtain rfl := Option.some.inj h
                exact XR.retI .boolean rfl (xnar_z (by decide)) (by decide +kernel)
              · skip
                refine s_M_isLawSign [(39, .if_icmp .ne 7, 0, 46), (46, .iconst 0, 0, 0)] (by decide +kernel) (z' := (47, [(0, (vI l0))], [(vI 0)], R, M, 174)) (cs := [l0 ≠ 41]) (by rfl) ⟨c_7, trivial⟩ (Nat.le_refl _) ?_
                obtain rfl := Option.some.inj h
                exact XR.retI .boolean rfl (xnar_z (by decide)) (by decide +kernel)
set_option maxRecDepth 100000 in
set_option maxHeartbeats 4000000 in
theorem c_M_isLawSign {sc : List Int} {R : xR} {M : xM} {l0 : Int} {out : Int} (h : f_M_isLawSign l0 = some out) : XC false 0 sc y_M_isLawSign [(vI l0)] R M 174 174 ((some (vI out)), R, M) := XC.of (by decide) (Nat.le_of_ble_eq_true rfl) (Nat.le_refl _) (Nat.le_refl _) (o_M_isLawSign h)
