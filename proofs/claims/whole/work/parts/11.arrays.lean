theorem xan_le (k : Nat) : xan k ≤ 1000 := by
  unfold xan
  have h : ∀ q ∈ xaL, q.2 ≤ 1000 := by decide
  by_cases hk : k - 20 < xaL.length
  · rw [List.getD_eq_getElem?_getD, List.getElem?_eq_getElem hk]
    exact h _ (List.getElem_mem hk)
  · rw [List.getD_eq_getElem?_getD, List.getElem?_eq_none (by omega)]
    exact Nat.zero_le _
theorem xtys_at (g : xG) {e : Nat} (h : e < 4) : (xtys g)[e]? = some (gA g e, xty e) := by
  match e, h with
  | 0, _ => rfl
  | 1, _ => rfl
  | 2, _ => rfl
  | 3, _ => rfl
theorem xlg_arr {j k : Nat} (h : 20 ≤ xk j) : xlg j k = (xae (xk j) == 1) := by
  unfold xlg
  rw [if_neg (by omega)]
theorem xlg_obj {j k a : Nat} (h : xk j = a) (ha : a < 20) : xlg j k = (xfc a k == 2) := by
  unfold xlg
  rw [h, if_pos ha]
theorem xsn_at : ∀ j, j < 8 → 1 ≤ j → xsLen.getD (j - 1) 0 = xsn j ∧ xsn j < 200 := by decide
theorem xsb_at : ∀ j, j < 8 → 1 ≤ j → ∀ i, i < 200 → ((xsByt.getD (j - 1) []).getD i 0 = Int32.ofInt (xsb j i)) ∧ -2147483648 ≤ xsb j i ∧ xsb j i < 2147483648 := by decide +kernel
theorem xref_ty {ty : FieldType} {q : Nat} (h : refKind ty = true) : narrow ty (.ref q) = .ref q ∧ fits ty (.ref q) = true := by
  cases ty <;> first | exact ⟨rfl, rfl⟩ | cases h
theorem xfit_z {v : Int} (h : v = 0 ∨ v = 1) : fits .boolean (.int (Int32.ofInt v)) = true := by
  rcases h with rfl | rfl <;> rfl
theorem xupd_i {M : xM} {j k : Nat} {v : Int} : upd (fun q => Int32.ofInt (M j q)) k (Int32.ofInt v) = fun q => Int32.ofInt (xu M j k v j q) := by
  funext q
  unfold upd xu
  by_cases h : q = k
  · rw [if_pos h, if_pos ⟨rfl, h⟩]
  · rw [if_neg h, if_neg (fun x => h x.2)]
theorem xupd_l {M : xM} {j k : Nat} {v : Int} : vp_updL (fun q => Int64.ofInt (M j q)) k (Int64.ofInt v) = fun q => Int64.ofInt (xu M j k v j q) := by
  funext q
  unfold vp_updL xu
  by_cases h : q = k
  · rw [if_pos h, if_pos ⟨rfl, h⟩]
  · rw [if_neg h, if_neg (fun x => h x.2)]
theorem xu_oth {α : Type} (f : Nat → Nat → α) {c i a b : Nat} (v : α) (h : a ≠ c) : xu f c i v a b = f a b := xu_ne f v (fun q => h q.1)
set_option maxHeartbeats 4000000 in
theorem x2_arr {cm : Bool} {d E : Nat} {sc : List Int} {y : xY} {X : xX} {g : xG} {n0 : Nat} {Q : State → Prop} {o : Nat} {ini : Bool} (hC : xCx d E sc y X g n0) (hy : y.1.cls = xown o) (hini : ini = true → y.1.name = "<init>") {pc : Nat} {i : Instr} {a : Nat} {b : Int} (hq : xqb o ini y.2.2.1 y.2.1 (pc, i, a, b) = true) {ls : xL} {st : List xV} {R : xR} {M : xM} {nx : Nat} {z' : xS} {cs : List Prop} (hfam : match i with | .arraylength => True | .iaload => True | .laload => True | .baload => True | _ => False) (h : x2 cm sc pc i a b ls st R M nx = some (z', cs)) (hc : xAll cs) (hE : z'.2.2.2.2.2 ≤ E) (k : xW cm y.2.2.1 X g n0 Q z') : xW cm y.2.2.1 X g n0 Q (pc, ls, st, R, M, nx) := by
  obtain ⟨p, l, e, Rm, s, m, args, below, meth, c⟩ := X
  obtain ⟨hx, hb, hml, hown, hts, hF, hNs, hfr, hlo, hnm, hrt, hlk, hce, hsl, hE4⟩ := hC
  obtain ⟨hK, hKS, hKR, hXs, hgs, hgb, hsc, hZc, hZf, hfm⟩ := hF
  obtain ⟨n, hd, hn⟩ := xqb_spec hq
  rw [hy] at hown
  intro H locs cells slots mls hP hS hcl hsz hl hls hst
  dsimp only at hP hS hcl hsz hl hls hst ⊢
  cases i
  case arraylength =>
    simp only [x2] at h
    simp only [xnb, Bool.and_eq_true, Nat.beq_eq, Nat.blt_eq, decide_eq_true_eq] at hn
    subst hn
    split at h
    · rename_i kd j r
      have hr : ∀ v ∈ r, xok nx v := fun v q => hst v (List.mem_cons_of_mem _ q)
      have hv1 : xvr nx kd j := hst _ List.mem_cons_self
      split at h
      · cases h
        obtain ⟨rfl, -⟩ := hc
        obtain ⟨xs, hX1, hX2⟩ := hXs
        rw [List.map_cons, show xc g (Sum.inr (97, j)) = .ref (gs g) from rfl]
        refine va_slen hx hb hX1 (by omega) (by unfold xA; omega) hS hd ?_
        have k1 := k H locs cells slots mls hP hS hcl hsz hl hls (List.forall_mem_cons.mpr ⟨⟨by omega, by omega⟩, hr⟩)
        rw [← xnat_i]
        exact k1
      · cases h
        obtain ⟨rfl, -⟩ := hc
        have hj := hv1.2 (Or.inl rfl)
        have hn1 := xsn_at j (by omega) hj.1
        have hT := ((hKS.1 (j - 1) (by omega)).2.2.2)
        rw [hn1.1] at hT
        rw [List.map_cons, show xc g (Sum.inr (98, j)) = .ref (gV g (j - 1)) from rfl]
        exact va_tlen hx hb hT hS (xnat_i _).symm hd (k H locs cells slots mls hP hS hcl hsz hl hls (List.forall_mem_cons.mpr ⟨⟨by omega, by have := hn1.2; omega⟩, hr⟩))
      · cases h
        obtain ⟨⟨hk1, hk2, hk3⟩, -⟩ := hc
        obtain ⟨hj1, hj2, hj3⟩ := hv1.1 hk2
        have hat := hP.2.2.1 j hj1 hj2
        rw [xE_arr hj3 hk1] at hat
        rw [List.map_cons, xc_obj hk2]
        have hbd := xan_le kd
        exact va_alen hx hb hK (xPone hat) 0 (xae kd) rfl (xtys_at g hk3) (xnat_i _).symm hd (k H locs cells slots mls hP hS hcl hsz hl hls (List.forall_mem_cons.mpr ⟨⟨by omega, by omega⟩, hr⟩))
    · cases h
  case iaload =>
    simp only [x2] at h
    simp only [xnb, Bool.and_eq_true, Nat.beq_eq, Nat.blt_eq, decide_eq_true_eq] at hn
    subst hn
    split at h
    · rename_i x kd j r
      have hr : ∀ v ∈ r, xok nx v := fun v q => hst v (List.mem_cons_of_mem _ (List.mem_cons_of_mem _ q))
      have hx1 : xi32 x := hst _ List.mem_cons_self
      have hv1 : xvr nx kd j := hst _ (List.mem_cons_of_mem _ List.mem_cons_self)
      split at h
      · cases h
        obtain ⟨rfl, hk2, -⟩ := hc
        obtain ⟨xs, hX1, hX2⟩ := hXs
        rw [List.map_cons, List.map_cons, show xc g (Sum.inr (97, j)) = .ref (gs g) from rfl]
        refine va_sld hx hb hX1 (by omega) (by unfold xA; omega) hS (xn_in hx1 hk2) hd ?_
        rw [xn_clamp hx1]
        have e1 := hX2 x.toNat (by have := hk2.1; have := hk2.2; omega)
        have k1 := k H locs cells slots mls hP hS hcl hsz hl hls (List.forall_mem_cons.mpr ⟨by show xi32 _; rw [e1]; exact xi32_of _, hr⟩)
        have e2 : Int32.ofInt (sc.getD x.toNat 0) = xs x.toNat := by rw [e1, xback]
        rw [← e2]
        exact k1
      · cases h
        obtain ⟨hk1, hk2, -⟩ := hc
        obtain ⟨hj1, hj2, hj3⟩ := hv1.1 hk1.1.2
        have hat := hP.2.2.1 j hj1 hj2
        rw [xE_arrI hj3 hk1.1.1 hk1.2 (by decide)] at hat
        rw [List.map_cons, List.map_cons, xc_obj hk1.1.2]
        refine va_iald hx hb hK (xPone hat) 0 0 rfl (xtys_at g (by decide)) (xn_in hx1 hk2) hd ?_
        have hm := (hP.2.2.2.2 j x.toNat).1 (by rw [xlg_arr (by rw [hj3]; exact hk1.1.1), hj3, hk1.2]; rfl)
        have k1 := k H locs cells slots mls hP hS hcl hsz hl hls (List.forall_mem_cons.mpr ⟨hm, hr⟩)
        rw [xn_clamp hx1]
        exact k1
    · cases h
  case laload =>
    simp only [x2] at h
    simp only [xnb, Bool.and_eq_true, Nat.beq_eq, Nat.blt_eq, decide_eq_true_eq] at hn
    subst hn
    split at h
    · rename_i x kd j r
      have hr : ∀ v ∈ r, xok nx v := fun v q => hst v (List.mem_cons_of_mem _ (List.mem_cons_of_mem _ q))
      have hx1 : xi32 x := hst _ List.mem_cons_self
      have hv1 : xvr nx kd j := hst _ (List.mem_cons_of_mem _ List.mem_cons_self)
      cases h
      obtain ⟨hk1, hk2, -⟩ := hc
      obtain ⟨hj1, hj2, hj3⟩ := hv1.1 hk1.1.2
      have hat := hP.2.2.1 j hj1 hj2
      rw [xE_arrL hj3 hk1.1.1 hk1.2] at hat
      rw [List.map_cons, List.map_cons, xc_obj hk1.1.2]
      refine va_lald hx hb hK (xPone hat) 0 1 rfl (xtys_at g (by decide)) (xn_in hx1 hk2) hd ?_
      have hm := (hP.2.2.2.2 j x.toNat).2 (by rw [xlg_arr (by rw [hj3]; exact hk1.1.1), hj3, hk1.2]; rfl)
      have k1 := k H locs cells slots mls hP hS hcl hsz hl hls (List.forall_mem_cons.mpr ⟨hm, hr⟩)
      rw [xn_clamp hx1]
      exact k1
    · cases h
  case baload =>
    simp only [x2] at h
    simp only [xnb, Bool.and_eq_true, Nat.beq_eq, Nat.blt_eq, decide_eq_true_eq] at hn
    subst hn
    split at h
    · rename_i x kd j r
      have hr : ∀ v ∈ r, xok nx v := fun v q => hst v (List.mem_cons_of_mem _ (List.mem_cons_of_mem _ q))
      have hx1 : xi32 x := hst _ List.mem_cons_self
      have hv1 : xvr nx kd j := hst _ (List.mem_cons_of_mem _ List.mem_cons_self)
      split at h
      · cases h
        obtain ⟨rfl, hk2, -⟩ := hc
        have hj := hv1.2 (Or.inl rfl)
        have hn1 := xsn_at j (by omega) hj.1
        have hT := ((hKS.1 (j - 1) (by omega)).2.2.2)
        rw [hn1.1] at hT
        rw [List.map_cons, List.map_cons, show xc g (Sum.inr (98, j)) = .ref (gV g (j - 1)) from rfl]
        have hb1 := xsb_at j (by omega) hj.1 x.toNat (by have := hk2.1; have := hk2.2; have := hn1.2; omega)
        exact va_tb hx hb hT hS (xn_in hx1 hk2) (v := .int (Int32.ofInt (xsb j x.toNat))) (by rw [xn_clamp hx1, hb1.1]) hd (k H locs cells slots mls hP hS hcl hsz hl hls (List.forall_mem_cons.mpr ⟨hb1.2, hr⟩))
      · cases h
        obtain ⟨hk1, hk2, -⟩ := hc
        obtain ⟨hj1, hj2, hj3⟩ := hv1.1 hk1.1.2
        have hat := hP.2.2.1 j hj1 hj2
        rw [xE_arrI hj3 hk1.1.1 hk1.2 (by decide)] at hat
        rw [List.map_cons, List.map_cons, xc_obj hk1.1.2]
        refine va_zald hx hb hK (xPone hat) 0 3 rfl (xtys_at g (by decide)) (xn_in hx1 hk2) hd ?_
        have hm := (hP.2.2.2.2 j x.toNat).1 (by rw [xlg_arr (by rw [hj3]; exact hk1.1.1), hj3, hk1.2]; rfl)
        have k1 := k H locs cells slots mls hP hS hcl hsz hl hls (List.forall_mem_cons.mpr ⟨hm, hr⟩)
        rw [xn_clamp hx1]
        exact k1
      · cases h
        obtain ⟨hk1, hk2, -⟩ := hc
        obtain ⟨hj1, hj2, hj3⟩ := hv1.1 hk1.1.2
        have hat := hP.2.2.1 j hj1 hj2
        rw [xE_arrI hj3 hk1.1.1 hk1.2 (by decide)] at hat
        rw [List.map_cons, List.map_cons, xc_obj hk1.1.2]
        refine va_bald hx hb hK (xPone hat) 0 2 rfl (xtys_at g (by decide)) (xn_in hx1 hk2) hd ?_
        have hm := (hP.2.2.2.2 j x.toNat).1 (by rw [xlg_arr (by rw [hj3]; exact hk1.1.1), hj3, hk1.2]; rfl)
        have k1 := k H locs cells slots mls hP hS hcl hsz hl hls (List.forall_mem_cons.mpr ⟨hm, hr⟩)
        rw [xn_clamp hx1]
        exact k1
    · cases h
  all_goals exact hfam.elim
set_option maxHeartbeats 4000000 in
theorem x2_ars {cm : Bool} {d E : Nat} {sc : List Int} {y : xY} {X : xX} {g : xG} {n0 : Nat} {Q : State → Prop} {o : Nat} {ini : Bool} (hC : xCx d E sc y X g n0) (hy : y.1.cls = xown o) (hini : ini = true → y.1.name = "<init>") {pc : Nat} {i : Instr} {a : Nat} {b : Int} (hq : xqb o ini y.2.2.1 y.2.1 (pc, i, a, b) = true) {ls : xL} {st : List xV} {R : xR} {M : xM} {nx : Nat} {z' : xS} {cs : List Prop} (hfam : match i with | .iastore => True | .lastore => True | .bastore => True | _ => False) (h : x2 cm sc pc i a b ls st R M nx = some (z', cs)) (hc : xAll cs) (hE : z'.2.2.2.2.2 ≤ E) (k : xW cm y.2.2.1 X g n0 Q z') : xW cm y.2.2.1 X g n0 Q (pc, ls, st, R, M, nx) := by
  obtain ⟨p, l, e, Rm, s, m, args, below, meth, c⟩ := X
  obtain ⟨hx, hb, hml, hown, hts, hF, hNs, hfr, hlo, hnm, hrt, hlk, hce, hsl, hE4⟩ := hC
  obtain ⟨hK, hKS, hKR, hXs, hgs, hgb, hsc, hZc, hZf, hfm⟩ := hF
  obtain ⟨n, hd, hn⟩ := xqb_spec hq
  rw [hy] at hown
  intro H locs cells slots mls hP hS hcl hsz hl hls hst
  dsimp only at hP hS hcl hsz hl hls hst ⊢
  cases i
  case iastore =>
    simp only [x2] at h
    simp only [xnb, Bool.and_eq_true, Nat.beq_eq, Nat.blt_eq, decide_eq_true_eq] at hn
    subst hn
    split at h
    · rename_i v x kd j r
      have hr : ∀ v ∈ r, xok nx v := fun v q => hst v (List.mem_cons_of_mem _ (List.mem_cons_of_mem _ (List.mem_cons_of_mem _ q)))
      have hv2 := hst _ List.mem_cons_self
      have hx1 : xi32 x := hst _ (List.mem_cons_of_mem _ List.mem_cons_self)
      have hv1 : xvr nx kd j := hst _ (List.mem_cons_of_mem _ (List.mem_cons_of_mem _ List.mem_cons_self))
      cases h
      obtain ⟨hk1, hk2, -⟩ := hc
      obtain ⟨hj1, hj2, hj3⟩ := hv1.1 hk1.1.2
      have hat := hP.2.2.1 j hj1 hj2
      rw [xE_arrI hj3 hk1.1.1 hk1.2 (by decide)] at hat
      rw [List.map_cons, List.map_cons, List.map_cons, xc_obj hk1.1.2]
      refine xast_i hx hb hK 0 hat (A := xA g) (by show gb g + 1 ≤ gb g + j; omega) hS (xtys_at g (by decide)) (xn_in hx1 hk2) hd ?_
      intro H1 locs1 hat1 hz1 ho1 hS1
      rw [xn_clamp hx1, xupd_i] at hat1
      refine k H1 locs1 cells slots mls (xP_set hP hz1 ho1 ?_ (fun i k q => xu_oth M _ q) (fun _ _ _ => rfl) hP.2.2.2.1 (xMr_set hP.2.2.2.2 ?_ ?_)) hS1 hcl hsz hl hls hr
      · rw [xE_arrI hj3 hk1.1.1 hk1.2 (by decide)]; exact hat1
      · exact fun _ => hv2
      · intro q; rw [xlg_arr (by rw [hj3]; exact hk1.1.1), hj3, hk1.2] at q; cases q
    · cases h
  case lastore =>
    simp only [x2] at h
    simp only [xnb, Bool.and_eq_true, Nat.beq_eq, Nat.blt_eq, decide_eq_true_eq] at hn
    subst hn
    split at h
    · rename_i v x kd j r
      have hr : ∀ v ∈ r, xok nx v := fun v q => hst v (List.mem_cons_of_mem _ (List.mem_cons_of_mem _ (List.mem_cons_of_mem _ q)))
      have hv2 := hst _ List.mem_cons_self
      have hx1 : xi32 x := hst _ (List.mem_cons_of_mem _ List.mem_cons_self)
      have hv1 : xvr nx kd j := hst _ (List.mem_cons_of_mem _ (List.mem_cons_of_mem _ List.mem_cons_self))
      cases h
      obtain ⟨hk1, hk2, -⟩ := hc
      obtain ⟨hj1, hj2, hj3⟩ := hv1.1 hk1.1.2
      have hat := hP.2.2.1 j hj1 hj2
      rw [xE_arrL hj3 hk1.1.1 hk1.2] at hat
      rw [List.map_cons, List.map_cons, List.map_cons, xc_obj hk1.1.2]
      refine xast_l hx hb hK 1 hat (A := xA g) (by show gb g + 1 ≤ gb g + j; omega) hS (xtys_at g (by decide)) (xn_in hx1 hk2) hd ?_
      intro H1 locs1 hat1 hz1 ho1 hS1
      rw [xn_clamp hx1, xupd_l] at hat1
      refine k H1 locs1 cells slots mls (xP_set hP hz1 ho1 ?_ (fun i k q => xu_oth M _ q) (fun _ _ _ => rfl) hP.2.2.2.1 (xMr_set hP.2.2.2.2 ?_ ?_)) hS1 hcl hsz hl hls hr
      · rw [xE_arrL hj3 hk1.1.1 hk1.2]; exact hat1
      · intro q; rw [xlg_arr (by rw [hj3]; exact hk1.1.1), hj3, hk1.2] at q; cases q
      · exact fun _ => hv2
    · cases h
  case bastore =>
    simp only [x2] at h
    simp only [xnb, Bool.and_eq_true, Nat.beq_eq, Nat.blt_eq, decide_eq_true_eq] at hn
    subst hn
    split at h
    · rename_i v x kd j r
      have hr : ∀ v ∈ r, xok nx v := fun v q => hst v (List.mem_cons_of_mem _ (List.mem_cons_of_mem _ (List.mem_cons_of_mem _ q)))
      have hv2 := hst _ List.mem_cons_self
      have hx1 : xi32 x := hst _ (List.mem_cons_of_mem _ List.mem_cons_self)
      have hv1 : xvr nx kd j := hst _ (List.mem_cons_of_mem _ (List.mem_cons_of_mem _ List.mem_cons_self))
      split at h
      · cases h
        obtain ⟨hk1, hk2, hk3, -⟩ := hc
        obtain ⟨hj1, hj2, hj3⟩ := hv1.1 hk1.1.2
        have hat := hP.2.2.1 j hj1 hj2
        rw [xE_arrI hj3 hk1.1.1 hk1.2 (by decide)] at hat
        rw [List.map_cons, List.map_cons, List.map_cons, xc_obj hk1.1.2]
        refine xast_z hx hb hK 3 hat (A := xA g) (by show gb g + 1 ≤ gb g + j; omega) hS (xtys_at g (by decide)) (xn_in hx1 hk2) (xnar_z hk3) hd ?_
        intro H1 locs1 hat1 hz1 ho1 hS1
        rw [xn_clamp hx1, xupd_i] at hat1
        refine k H1 locs1 cells slots mls (xP_set hP hz1 ho1 ?_ (fun i k q => xu_oth M _ q) (fun _ _ _ => rfl) hP.2.2.2.1 (xMr_set hP.2.2.2.2 ?_ ?_)) hS1 hcl hsz hl hls hr
        · rw [xE_arrI hj3 hk1.1.1 hk1.2 (by decide)]; exact hat1
        · exact fun _ => hv2
        · intro q; rw [xlg_arr (by rw [hj3]; exact hk1.1.1), hj3, hk1.2] at q; cases q
      · cases h
        obtain ⟨hk1, hk2, -⟩ := hc
        obtain ⟨hj1, hj2, hj3⟩ := hv1.1 hk1.1.2
        have hat := hP.2.2.1 j hj1 hj2
        rw [xE_arrI hj3 hk1.1.1 hk1.2 (by decide)] at hat
        rw [List.map_cons, List.map_cons, List.map_cons, xc_obj hk1.1.2]
        refine xast_b hx hb hK 2 hat (A := xA g) (by show gb g + 1 ≤ gb g + j; omega) hS (xtys_at g (by decide)) (xn_in hx1 hk2) (xnar_b v) hd ?_
        intro H1 locs1 hat1 hz1 ho1 hS1
        rw [xn_clamp hx1, xupd_i] at hat1
        refine k H1 locs1 cells slots mls (xP_set hP hz1 ho1 ?_ (fun i k q => xu_oth M _ q) (fun _ _ _ => rfl) hP.2.2.2.1 (xMr_set hP.2.2.2.2 ?_ ?_)) hS1 hcl hsz hl hls hr
        · rw [xE_arrI hj3 hk1.1.1 hk1.2 (by decide)]; exact hat1
        · exact fun _ => xi32_w8 _
        · intro q; rw [xlg_arr (by rw [hj3]; exact hk1.1.1), hj3, hk1.2] at q; cases q
    · cases h
  all_goals exact hfam.elim
