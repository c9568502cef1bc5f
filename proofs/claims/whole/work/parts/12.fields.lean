theorem xfv_at {g : xG} {R : xR} {M : xM} {j a k : Nat} (h : xk j = a) : xfv g R M j k = match xfc a k with
  | 0 => .int (Int32.ofInt (M j k))
  | 1 => .int (Int32.ofInt (M j k))
  | 2 => .long (Int64.ofInt (M j k))
  | f + 3 => if R j k = 0 then .null else .ref (xad g f (R j k)) := by
  unfold xfv
  rw [h]
  rfl
theorem xfs_at {g : xG} {R : xR} {M : xM} {j N k : Nat} (hk : k < N) : ((List.range N).map (xfv g R M j))[k]? = some (xfv g R M j k) := by simp [hk]
theorem xfs_len {g : xG} {R : xR} {M : xM} {j N : Nat} : ((List.range N).map (xfv g R M j)).length = N := by simp
set_option maxRecDepth 20000 in
theorem xfc_kind : ∀ a, a < 11 → ∀ k, k < xnf a → xfc a k < 93 ∨ xfc a k = 102 := by decide +kernel
set_option maxHeartbeats 4000000 in
theorem x2_get {cm : Bool} {d E : Nat} {sc : List Int} {y : xY} {X : xX} {g : xG} {n0 : Nat} {Q : State → Prop} {o : Nat} {ini : Bool} (hC : xCx d E sc y X g n0) (hy : y.1.cls = xown o) (hini : ini = true → y.1.name = "<init>") {pc : Nat} {i : Instr} {a : Nat} {b : Int} (hq : xqb o ini y.2.2.1 y.2.1 (pc, i, a, b) = true) {ls : xL} {st : List xV} {R : xR} {M : xM} {nx : Nat} {z' : xS} {cs : List Prop} (hfam : match i with | .getfield _ => True | .getstatic _ => True | _ => False) (h : x2 cm sc pc i a b ls st R M nx = some (z', cs)) (hc : xAll cs) (hE : z'.2.2.2.2.2 ≤ E) (k : xW cm y.2.2.1 X g n0 Q z') : xW cm y.2.2.1 X g n0 Q (pc, ls, st, R, M, nx) := by
  obtain ⟨p, l, e, Rm, s, m, args, below, meth, c⟩ := X
  obtain ⟨hx, hb, hml, hown, hts, hF, hNs, hfr, hlo, hnm, hrt, hlk, hce, hsl, hE4⟩ := hC
  obtain ⟨hK, hKS, hKR, hXs, hgs, hgb, hsc, hZc, hZf, hfm⟩ := hF
  obtain ⟨n, hd, hn⟩ := xqb_spec hq
  rw [hy] at hown
  intro H locs cells slots mls hP hS hcl hsz hl hls hst
  dsimp only at hP hS hcl hsz hl hls hst ⊢
  cases i
  case getfield idx =>
    simp only [x2] at h
    split at h
    · rename_i kd j r
      have hr : ∀ v ∈ r, xok nx v := fun v q => hst v (List.mem_cons_of_mem _ q)
      have hv1 : xvr nx kd j := hst _ List.mem_cons_self
      cases hka : Nat.beq kd a with
      | false => rw [hka] at h; cases h
      | true =>
        rw [hka] at h
        have hka : kd = a := Nat.eq_of_beq_eq_true hka
        subst hka
        dsimp only [cond_true] at h
        cases h99 : Nat.beq kd 99 with
        | true =>
          have h99 : kd = 99 := Nat.eq_of_beq_eq_true h99
          subst h99
          have hj := hv1.2 (Or.inr rfl)
          have hS7 := hKS.1 (j - 1) (by omega)
          rw [List.map_cons, show xc g (Sum.inr (99, j)) = .ref (gK g (j - 1)) from rfl]
          simp only [xnb, show Nat.beq 99 99 = true from rfl, cond_true, Bool.and_eq_true, Nat.beq_eq, Nat.blt_eq, decide_eq_true_eq] at hn
          obtain ⟨rfl, rfl, hn2⟩ := hn
          change cond true _ _ = _ at h
          dsimp only [cond_true] at h
          split at h
          · cases h
            have hn2 : idx = xiVal := Nat.eq_of_beq_eq_true hn2
            subst hn2
            exact vk_getf hx hb hS7.2.2.1 hS hown (hts _ (xstr_in _ (List.mem_of_getElem? (i := 0) rfl))) (fun _ q => q) hd (k H locs cells slots mls hP hS hcl hsz hl hls (List.forall_mem_cons.mpr ⟨⟨fun q => absurd q (by decide), fun _ => hj⟩, hr⟩))
          · cases h
            have hn2 : idx = xiCod := Nat.eq_of_beq_eq_true hn2
            subst hn2
            exact vk_getf hx hb hS7.2.1 hS hown (hts _ (xstr_in _ (List.mem_of_getElem? (i := 1) rfl))) (fun _ q => q) hd (k H locs cells slots mls hP hS hcl hsz hl hls (List.forall_mem_cons.mpr ⟨x0i, hr⟩))
          · cases h
        | false =>
          rw [h99] at h
          dsimp only [cond_false] at h
          simp only [xnb, h99, cond_false, Bool.and_eq_true, Nat.beq_eq, Nat.blt_eq, decide_eq_true_eq] at hn
          obtain ⟨rfl, hn1, hn2, hn3⟩ := hn
          obtain ⟨hj1, hj2, hj3⟩ := hv1.1 (by omega)
          have hat := hP.2.2.1 j hj1 hj2
          rw [xE_obj hj3 (by omega)] at hat
          rw [List.map_cons, xc_obj (by omega)]
          have hCl := xCl_of hn2
          refine va_get (D := gD g) (ci := kd) (C := xown kd) (T := xTT kd) (N := xnf kd) hx hb hts hCl.2.1 hown hK (xPone hat) 0 rfl hCl.1 b.toNat hn3 (hts _ (xfl_in hn1)) (fun _ q => q) (xfs_at hn3) hd ?_
          rw [xfv_at hj3]
          have hlg := xlg_obj (k := b.toNat) hj3 (by omega)
          split at h
          · rename_i hf
            cases h
            rw [hf]
            have hm := (hP.2.2.2.2 j b.toNat).1 (by rw [hlg, hf]; rfl)
            exact k H locs cells slots mls hP hS hcl hsz hl hls (List.forall_mem_cons.mpr ⟨hm, hr⟩)
          · rename_i hf
            cases h
            rw [hf]
            have hm := (hP.2.2.2.2 j b.toNat).1 (by rw [hlg, hf]; rfl)
            exact k H locs cells slots mls hP hS hcl hsz hl hls (List.forall_mem_cons.mpr ⟨hm, hr⟩)
          · rename_i hf
            cases h
            rw [hf]
            have hm := (hP.2.2.2.2 j b.toNat).2 (by rw [hlg, hf]; rfl)
            exact k H locs cells slots mls hP hS hcl hsz hl hls (List.forall_mem_cons.mpr ⟨hm, hr⟩)
          · rename_i f hf
            cases cm with
            | true => cases h
            | false =>
              cases h
              rw [hf]
              have hne : f ≠ 96 := by have := ((xfc_ty kd hn2 b.toNat hn3).2.2.2 (by omega)).2; omega
              rcases hP.2.2.2.1 j b.toNat f hj1 hj2 (by omega) (by rw [hj3]; exact hn3) (by rw [hj3]; exact hf) with ⟨-, q⟩ | ⟨q1, q2⟩
              · cases q
              · have k1 := k H locs cells slots mls hP hS hcl hsz hl hls (List.forall_mem_cons.mpr ⟨q2, hr⟩)
                dsimp only
                rw [if_neg q1]
                rw [List.map_cons, xc_ref hne] at k1
                exact k1
    · cases h
  case getstatic idx =>
    simp only [x2] at h
    simp only [xnb, Bool.and_eq_true, Nat.beq_eq, Nat.blt_eq, decide_eq_true_eq] at hn
    obtain ⟨rfl, rfl, hn2⟩ := hn
    cases a with
    | zero =>
      cases h
      have hn2 : idx = xiCom := by simpa using hn2
      subst hn2
      exact va_gets hx hb hZc hS hown (hts _ (xstr_in _ (List.mem_of_getElem? (i := 2) rfl))) (fun _ q => q) hd (k H locs cells slots mls hP hS hcl hsz hl hls (List.forall_mem_cons.mpr ⟨⟨by decide, by decide⟩, hst⟩))
    | succ a1 =>
      cases h
      have hn2 : idx = xiFor := by simpa using hn2
      subst hn2
      exact va_gets hx hb hZf hS hown (hts _ (xstr_in _ (List.mem_of_getElem? (i := 3) rfl))) (fun _ q => q) hd (k H locs cells slots mls hP hS hcl hsz hl hls (List.forall_mem_cons.mpr ⟨⟨fun q => absurd q (by decide), fun q => absurd q (by decide)⟩, hst⟩))
  all_goals exact hfam.elim
set_option maxHeartbeats 4000000 in
theorem x2_put {cm : Bool} {d E : Nat} {sc : List Int} {y : xY} {X : xX} {g : xG} {n0 : Nat} {Q : State → Prop} {o : Nat} {ini : Bool} (hC : xCx d E sc y X g n0) (hy : y.1.cls = xown o) (hini : ini = true → y.1.name = "<init>") {pc : Nat} {i : Instr} {a : Nat} {b : Int} (hq : xqb o ini y.2.2.1 y.2.1 (pc, i, a, b) = true) {ls : xL} {st : List xV} {R : xR} {M : xM} {nx : Nat} {z' : xS} {cs : List Prop} (hfam : match i with | .putfield _ => True | _ => False) (h : x2 cm sc pc i a b ls st R M nx = some (z', cs)) (hc : xAll cs) (hE : z'.2.2.2.2.2 ≤ E) (k : xW cm y.2.2.1 X g n0 Q z') : xW cm y.2.2.1 X g n0 Q (pc, ls, st, R, M, nx) := by
  obtain ⟨p, l, e, Rm, s, m, args, below, meth, c⟩ := X
  obtain ⟨hx, hb, hml, hown, hts, hF, hNs, hfr, hlo, hnm, hrt, hlk, hce, hsl, hE4⟩ := hC
  obtain ⟨hK, hKS, hKR, hXs, hgs, hgb, hsc, hZc, hZf, hfm⟩ := hF
  obtain ⟨n, hd, hn⟩ := xqb_spec hq
  rw [hy] at hown
  intro H locs cells slots mls hP hS hcl hsz hl hls hst
  dsimp only at hP hS hcl hsz hl hls hst ⊢
  cases i
  case putfield idx =>
    have hn0 := hn
    simp only [xnb, Bool.or_eq_true, Bool.not_eq_true', Bool.and_eq_true, Nat.beq_eq, Nat.blt_eq, decide_eq_true_eq] at hn
    obtain ⟨rfl, hn1, hn2, hn3, hn4⟩ := hn
    have hCl := xCl_of hn2
    have hTy := xfc_ty a hn2 b.toNat hn3
    have hfin : (xTT a b.toNat).2.2.2 = false ∨ (meth.name = "<init>" ∧ (xTT a b.toNat).1 = xown o) := by
      rcases hn4 with q | ⟨q1, q2⟩
      · exact Or.inl q
      · exact Or.inr ⟨by rw [hnm]; exact hini q1, by rw [hCl.2.2.2.2 _ hn3, q2]⟩
    simp only [x2] at h
    split at h
    · rename_i x kd j r
      have hr : ∀ v ∈ r, xok nx v := fun v q => hst v (List.mem_cons_of_mem _ (List.mem_cons_of_mem _ q))
      have hv2 := hst _ List.mem_cons_self
      have hv1 : xvr nx kd j := hst _ (List.mem_cons_of_mem _ List.mem_cons_self)
      cases hka : Nat.beq kd a with
      | false => rw [hka] at h; cases h
      | true =>
        rw [hka] at h
        have hka : kd = a := Nat.eq_of_beq_eq_true hka
        subst hka
        dsimp only [cond_true] at h
        obtain ⟨hj1, hj2, hj3⟩ := hv1.1 (by omega)
        have hlg := xlg_obj (k := b.toNat) hj3 (by omega)
        split at h
        · rename_i hf
          cases h
          have hat := hP.2.2.1 j hj1 hj2
          rw [xE_obj hj3 (by omega)] at hat
          rw [List.map_cons, List.map_cons, xc_obj (k := kd) (by omega)]
          refine xput (D := gD g) (cl := xcl) (A := xA g) (ci := kd) (C := xown kd) (T := xTT kd) (N := xnf kd) hx hb hts hCl.2.1 (xTy kd) hCl.2.2.1 hCl.2.2.2.1 hown hK hat (by show gb g + 1 ≤ gb g + j; omega) hS hCl.1 b.toNat hn3 (hts _ (xfl_in hn1)) hfin (by rw [hTy.1 hf]; rfl) (by rw [hTy.1 hf]; rfl) (by rw [xfs_len]; exact hn3) hd ?_
          intro H1 locs1 hat1 hz1 ho1 hS1
          refine k H1 locs1 cells slots mls (xP_set (M' := xu M j b.toNat x) (R' := R) hP hz1 ho1 ?_ (fun i k q => xu_oth M _ q) (fun _ _ _ => rfl) hP.2.2.2.1 (xMr_set hP.2.2.2.2 ?_ ?_)) hS1 hcl hsz hl hls hr
          · rw [xE_obj hj3 (by omega), xset_map (k := b.toNat) (f := xfv g R M j) (v := xc g (vI x)) ?_ ?_]
            · exact hat1
            · rw [xfv_at hj3, hf]; dsimp only; rw [xu_same]; rfl
            · intro i hi; unfold xfv; rw [xu_ne M _ (fun q => hi q.2)]
          · exact fun _ => hv2
          · intro q; rw [hlg, hf] at q; cases q
        · rename_i hf
          cases h
          have hat := hP.2.2.1 j hj1 hj2
          rw [xE_obj hj3 (by omega)] at hat
          rw [List.map_cons, List.map_cons, xc_obj (k := kd) (by omega)]
          refine xput (D := gD g) (cl := xcl) (A := xA g) (ci := kd) (C := xown kd) (T := xTT kd) (N := xnf kd) hx hb hts hCl.2.1 (xTy kd) hCl.2.2.1 hCl.2.2.2.1 hown hK hat (by show gb g + 1 ≤ gb g + j; omega) hS hCl.1 b.toNat hn3 (hts _ (xfl_in hn1)) hfin (by rw [hTy.2.1 hf]; exact xnar_z hc.1) (by rw [hTy.2.1 hf]; exact xfit_z hc.1) (by rw [xfs_len]; exact hn3) hd ?_
          intro H1 locs1 hat1 hz1 ho1 hS1
          refine k H1 locs1 cells slots mls (xP_set (M' := xu M j b.toNat x) (R' := R) hP hz1 ho1 ?_ (fun i k q => xu_oth M _ q) (fun _ _ _ => rfl) hP.2.2.2.1 (xMr_set hP.2.2.2.2 ?_ ?_)) hS1 hcl hsz hl hls hr
          · rw [xE_obj hj3 (by omega), xset_map (k := b.toNat) (f := xfv g R M j) (v := xc g (vI x)) ?_ ?_]
            · exact hat1
            · rw [xfv_at hj3, hf]; dsimp only; rw [xu_same]; rfl
            · intro i hi; unfold xfv; rw [xu_ne M _ (fun q => hi q.2)]
          · exact fun _ => hv2
          · intro q; rw [hlg, hf] at q; cases q
        · cases h
    · rename_i x kd j r
      have hr : ∀ v ∈ r, xok nx v := fun v q => hst v (List.mem_cons_of_mem _ (List.mem_cons_of_mem _ q))
      have hv2 := hst _ List.mem_cons_self
      have hv1 : xvr nx kd j := hst _ (List.mem_cons_of_mem _ List.mem_cons_self)
      cases hka : Nat.beq kd a with
      | false => rw [hka] at h; cases h
      | true =>
        rw [hka] at h
        have hka : kd = a := Nat.eq_of_beq_eq_true hka
        subst hka
        dsimp only [cond_true] at h
        obtain ⟨hj1, hj2, hj3⟩ := hv1.1 (by omega)
        have hlg := xlg_obj (k := b.toNat) hj3 (by omega)
        split at h
        · rename_i hf
          cases h
          have hat := hP.2.2.1 j hj1 hj2
          rw [xE_obj hj3 (by omega)] at hat
          rw [List.map_cons, List.map_cons, xc_obj (k := kd) (by omega)]
          refine xput (D := gD g) (cl := xcl) (A := xA g) (ci := kd) (C := xown kd) (T := xTT kd) (N := xnf kd) hx hb hts hCl.2.1 (xTy kd) hCl.2.2.1 hCl.2.2.2.1 hown hK hat (by show gb g + 1 ≤ gb g + j; omega) hS hCl.1 b.toNat hn3 (hts _ (xfl_in hn1)) hfin (by rw [hTy.2.2.1 hf]; rfl) (by rw [hTy.2.2.1 hf]; rfl) (by rw [xfs_len]; exact hn3) hd ?_
          intro H1 locs1 hat1 hz1 ho1 hS1
          refine k H1 locs1 cells slots mls (xP_set (M' := xu M j b.toNat x) (R' := R) hP hz1 ho1 ?_ (fun i k q => xu_oth M _ q) (fun _ _ _ => rfl) hP.2.2.2.1 (xMr_set hP.2.2.2.2 ?_ ?_)) hS1 hcl hsz hl hls hr
          · rw [xE_obj hj3 (by omega), xset_map (k := b.toNat) (f := xfv g R M j) (v := xc g (vL x)) ?_ ?_]
            · exact hat1
            · rw [xfv_at hj3, hf]; dsimp only; rw [xu_same]; rfl
            · intro i hi; unfold xfv; rw [xu_ne M _ (fun q => hi q.2)]
          · intro q; rw [hlg, hf] at q; cases q
          · exact fun _ => hv2
        · cases h
    · rename_i fk v kd j r
      have hr : ∀ v ∈ r, xok nx v := fun v q => hst v (List.mem_cons_of_mem _ (List.mem_cons_of_mem _ q))
      have hv2 : xvr nx fk v := hst _ List.mem_cons_self
      have hv1 : xvr nx kd j := hst _ (List.mem_cons_of_mem _ List.mem_cons_self)
      cases hka : (Nat.beq kd a && Nat.beq (xfc a b.toNat) (fk + 3)) with
      | false => rw [hka] at h; cases h
      | true =>
        rw [hka] at h
        rw [Bool.and_eq_true, Nat.beq_eq, Nat.beq_eq] at hka
        obtain ⟨rfl, hf⟩ := hka
        dsimp only [cond_true] at h
        cases h
        obtain ⟨hj1, hj2, hj3⟩ := hv1.1 (by omega)
        have hrt2 := hTy.2.2.2 (by omega)
        have hne : fk ≠ 96 := by have := hrt2.2; omega
        have hat := hP.2.2.1 j hj1 hj2
        rw [xE_obj hj3 (by omega)] at hat
        rw [List.map_cons, List.map_cons, xc_obj (k := kd) (by omega), xc_ref hne]
        refine xput (D := gD g) (cl := xcl) (A := xA g) (ci := kd) (C := xown kd) (T := xTT kd) (N := xnf kd) hx hb hts hCl.2.1 (xTy kd) hCl.2.2.1 hCl.2.2.2.1 hown hK hat (by show gb g + 1 ≤ gb g + j; omega) hS hCl.1 b.toNat hn3 (hts _ (xfl_in hn1)) hfin (xref_ty hrt2.1).1 (xref_ty hrt2.1).2 (by rw [xfs_len]; exact hn3) hd ?_
        intro H1 locs1 hat1 hz1 ho1 hS1
        have hv0 : v ≠ 0 := by
          by_cases q : fk < 90
          · have := (hv2.1 q).1; omega
          · have : fk = 99 := by have := xfc_kind kd hn2 b.toNat hn3; omega
            have := (hv2.2 (Or.inr this)).1; omega
        refine k H1 locs1 cells slots mls (xP_set (M' := M) (R' := xu R j b.toNat v) hP hz1 ho1 ?_ (fun _ _ _ => rfl) (fun i k q => xu_oth R _ q) ?_ hP.2.2.2.2) hS1 hcl hsz hl hls hr
        · rw [xE_obj hj3 (by omega), xset_map (k := b.toNat) (f := xfv g R M j) (v := .ref (xad g fk v)) ?_ ?_]
          · exact hat1
          · rw [xfv_at hj3, hf]; dsimp only; simp only [xu_same, if_neg hv0]
          · intro i hi; unfold xfv; rw [xu_ne R _ (fun q => hi q.2)]
        · intro i k2 f h1 h2 h3 h4 h5
          by_cases q : i = j ∧ k2 = b.toNat
          · obtain ⟨rfl, rfl⟩ := q
            rw [hj3, hf] at h5
            have h5 : fk = f := by omega
            subst h5
            rw [xu_same]
            exact Or.inr ⟨hv0, hv2⟩
          · rw [xu_ne R _ q]
            exact hP.2.2.2.1 i k2 f h1 h2 h3 h4 h5
    · cases h
  all_goals exact hfam.elim
