theorem xsz_succ {n : Nat} (h : n < 174) : xsz (n + 1) = xsz n + xslot (xk n) := by
  have hl : xkL.length = 174 := rfl
  unfold xsz xk
  rw [List.take_succ, List.getElem?_eq_getElem (by omega), List.map_append, List.sum_append, List.getD_eq_getElem?_getD, List.getElem?_eq_getElem (by omega)]
  simp
theorem xsz_mono {a b : Nat} (h : a ≤ b) (hb : b ≤ 174) : xsz a ≤ xsz b := by
  induction b with
  | zero => rw [show a = 0 by omega]; exact Nat.le_refl _
  | succ n ih =>
    by_cases e : a = n + 1
    · rw [e]; exact Nat.le_refl _
    · have := ih (by omega) (by omega)
      rw [xsz_succ (by omega)]
      omega
theorem xvr_mono {a b k i : Nat} (h : a ≤ b) (hv : xvr a k i) : xvr b k i := ⟨fun q => ⟨(hv.1 q).1, by have := (hv.1 q).2.1; omega, (hv.1 q).2.2⟩, hv.2⟩
theorem xok_mono {a b : Nat} {v : xV} (h : a ≤ b) (hv : xok a v) : xok b v := by
  rcases v with (x | x) | ⟨k, i⟩
  · exact hv
  · exact hv
  · exact xvr_mono h hv
theorem xz_same {α : Type} (f : Nat → Nat → α) (c b : Nat) (v : α) : xz f c v c b = v := if_pos rfl
theorem xz_ne {α : Type} (f : Nat → Nat → α) {c a b : Nat} (v : α) (h : a ≠ c) : xz f c v a b = f a b := if_neg h
theorem xdef_ref {ty : FieldType} (h : refKind ty = true) : defaultValue ty = .null := by
  cases ty <;> first | rfl | cases h
theorem xMr_z {M : xM} {n : Nat} (h : xMr M) : xMr (xz M n 0) := by
  intro a b
  by_cases e : a = n
  · subst e
    rw [xz_same]
    exact ⟨fun _ => ⟨by decide, by decide⟩, fun _ => ⟨by decide, by decide⟩⟩
  · rw [xz_ne _ _ e]
    exact h a b
theorem xT_new {R : xR} {n : Nat} (h : xT true R n) : xT true (xz R n 0) (n + 1) := by
  intro i k f h1 h2 h3 h4 h5
  by_cases e : i = n
  · subst e
    rw [xz_same]
    exact Or.inl ⟨rfl, rfl⟩
  · rw [xz_ne _ _ e]
    rcases h i k f h1 (by omega) h3 h4 h5 with q | ⟨q1, q2⟩
    · exact Or.inl q
    · exact Or.inr ⟨q1, xvr_mono (by omega) q2⟩
theorem xT_arr {R : xR} {n : Nat} (h : xT true R n) (hn : 20 ≤ xk n) : xT true R (n + 1) := by
  intro i k f h1 h2 h3 h4 h5
  by_cases e : i = n
  · subst e; omega
  · rcases h i k f h1 (by omega) h3 h4 h5 with q | ⟨q1, q2⟩
    · exact Or.inl q
    · exact Or.inr ⟨q1, xvr_mono (by omega) q2⟩
set_option maxHeartbeats 4000000 in
theorem x2_new {cm : Bool} {d E : Nat} {sc : List Int} {y : xY} {X : xX} {g : xG} {n0 : Nat} {Q : State → Prop} {o : Nat} {ini : Bool} (hC : xCx d E sc y X g n0) (hy : y.1.cls = xown o) (hini : ini = true → y.1.name = "<init>") {pc : Nat} {i : Instr} {a : Nat} {b : Int} (hq : xqb o ini y.2.2.1 y.2.1 (pc, i, a, b) = true) {ls : xL} {st : List xV} {R : xR} {M : xM} {nx : Nat} {z' : xS} {cs : List Prop} (hfam : match i with | .new _ => True | .newarray _ => True | _ => False) (h : x2 cm sc pc i a b ls st R M nx = some (z', cs)) (hc : xAll cs) (hE : z'.2.2.2.2.2 ≤ E) (k : xW cm y.2.2.1 X g n0 Q z') : xW cm y.2.2.1 X g n0 Q (pc, ls, st, R, M, nx) := by
  obtain ⟨p, l, e, Rm, s, m, args, below, meth, c⟩ := X
  obtain ⟨hx, hb, hml, hown, hts, hF, hNs, hfr, hlo, hnm, hrt, hlk, hce, hsl, hE4⟩ := hC
  obtain ⟨hK, hKS, hKR, hXs, hgs, hgb, hsc, hZc, hZf, hfm⟩ := hF
  obtain ⟨n, hd, hn⟩ := xqb_spec hq
  rw [hy] at hown
  intro H locs cells slots mls hP hS hcl hsz hl hls hst
  dsimp only at hP hS hcl hsz hl hls hst ⊢
  cases i
  case new idx =>
    simp only [x2] at h
    simp only [xnb, Bool.and_eq_true, Nat.beq_eq, Nat.blt_eq, decide_eq_true_eq] at hn
    obtain ⟨rfl, hn1, hn2⟩ := hn
    cases cm with
    | false => cases h
    | true =>
      cases h
      obtain ⟨⟨ha, hk⟩, -⟩ := hc
      dsimp only at hE
      have hCl := xCl_of hn2
      have hKn := hK.1 a _ hCl.1
      have hsz1 := xsz_succ (n := nx) (by omega)
      have hsz2 := xsz_mono hE hE4
      have hslo : xslot (xk nx) = xnf a := by unfold xslot; rw [hk, if_pos ha]
      rw [hslo] at hsz1
      refine W.newcK (C := xown a) (n := xnf a) hx hb hown (hts _ (xcn_in hn1)) (hts _ (xins_in hn2)) (hts _ (xini_in (by omega))) rfl hd (by omega) (by omega) hKn.2.1 (hP.2.1 rfl) fun H1 kC hkC e1 z1 o1 => ?_
      have k1 := k H1 locs (cells + 1) (slots + xnf a) mls ?_ ?_ ?_ ?_ hl (fun q hq => xok_mono (by show nx ≤ nx + 1; omega) (hls q hq)) (List.forall_mem_cons.mpr ⟨⟨fun q => ⟨hP.1, by show nx < nx + 1; omega, hk⟩, fun q => absurd q (by omega)⟩, fun q hq => xok_mono (by show nx ≤ nx + 1; omega) (hst q hq)⟩)
      · rw [List.map_cons, xc_obj (by omega)] at k1
        exact k1
      · refine ⟨by show 1 ≤ nx + 1; omega, fun _ => by rw [z1]; show _ = gb g + (nx + 1); omega, fun i h1 h2 => ?_, xT_new hP.2.2.2.1, xMr_z hP.2.2.2.2⟩
        have h2 : i < nx + 1 := h2
        by_cases e : i = nx
        · subst e
          rw [xE_obj hk ha]
          refine ⟨_, hCl.1, (u_born (xTy a) hts hCl.2.1 hKn hkC e1 hCl.2.2.1).to (fun j hj => ?_)⟩
          have hTy := xfc_ty a hn2 j hj
          have hj : j < xnf a := hj
          rw [vp_V, List.getD_eq_getElem?_getD, xfs_at hj, xfv_at hk]
          dsimp only [Option.getD_some]
          simp only [xz_same]
          split
          · rename_i q; rw [hTy.1 q]; rfl
          · rename_i q; rw [hTy.2.1 q]; rfl
          · rename_i q; rw [hTy.2.2.1 q]; rfl
          · rename_i f q; rw [xdef_ref (hTy.2.2.2 (by omega)).1]; rfl
        · rw [xE_same (R := R) (M := M) (fun k => xz_ne _ _ e) (fun k => xz_ne _ _ e)]
          exact (hP.2.2.1 i h1 (by omega)).kept (o1 _ (by show gb g + i < gb g + nx; omega))
      · exact ⟨Nat.le_trans hS.1 (by have := hP.2.1 rfl; omega), fun x h1 h2 => (o1 x (by have := hS.1; have := hP.2.1 rfl; omega)).trans (hS.2.1 x h1 h2), hS.2.2⟩
      · show cells + 1 + n0 = nx + 1; omega
      · show slots + xnf a + xsz n0 = xsz (nx + 1); omega
  case newarray t =>
    simp only [x2] at h
    simp only [xnb, Bool.and_eq_true, Nat.beq_eq, Nat.blt_eq, decide_eq_true_eq] at hn
    obtain ⟨rfl, hn1, hn2⟩ := hn
    cases cm with
    | false => cases h
    | true =>
      dsimp only [cond_true] at h
      split at h
      · rename_i x r
        cases h
        obtain ⟨⟨hk, ha1, ha2, hxa⟩, -⟩ := hc
        dsimp only at hE
        have hr : ∀ v ∈ r, xok nx v := fun v q => hst v (List.mem_cons_of_mem _ q)
        have hx1 : xi32 x := hst _ List.mem_cons_self
        have hsz1 := xsz_succ (n := nx) (by omega)
        have hsz2 := xsz_mono hE hE4
        have hslo : xslot (xk nx) = xan a := by unfold xslot; rw [hk, if_neg (by omega), if_pos ha2]
        rw [hslo] at hsz1
        have hbd := xan_le a
        have htt : newarray.typeOf t = xty (xae a) := by
          rw [hn1]; unfold xtya xty; split <;> rfl
        have hKa := (hK.2 (xae a) _ (xtys_at g hn2)).2
        have hRA : s.vm.findClass ("[" ++ (xty (xae a)).toString) = some (gA g (xae a)) := by
          have : ∀ q, q < 4 → va_RA s (gA g q) (xty q) → s.vm.findClass ("[" ++ (xty q).toString) = some (gA g q) := by
            intro q hq hh
            match q, hq with
            | 0, _ => exact hh
            | 1, _ => exact hh
            | 2, _ => exact hh
            | 3, _ => exact hh
          exact this _ hn2 hKa
        have hby : xan a * componentBytes (newarray.typeOf t) ≤ 536870912 := by
          rw [htt]
          have : ∀ q, q < 4 → componentBytes (xty q) ≤ 8 := by decide
          have h8 := this _ hn2
          have := Nat.mul_le_mul hbd h8
          omega
        have harr : (Cond.arrayClass (newarray.typeOf t)).before args s = true := by rw [htt]; exact hts _ (xarc_in hn2)
        refine va_newaK (N := xan a) hx hb harr rfl hd rfl ?_ ?_ hby (by omega) (by omega) (hP.2.1 rfl) fun H1 cA e1 z1 o1 hAr hNm => ?_
        · rw [Int32.lt_iff_toInt_lt, xtoi hx1]; show ¬ x < 0; omega
        · rw [xn_clamp hx1, hxa]; rfl
        · rw [htt] at hNm e1
          have hcA : cA = gA g (xae a) := Option.some.inj (hNm.symm.trans hRA)
          subst hcA
          have k1 := k H1 locs (cells + 1) (slots + xan a) mls ?_ ?_ ?_ ?_ hl (fun q hq => xok_mono (by show nx ≤ nx + 1; omega) (hls q hq)) (List.forall_mem_cons.mpr ⟨⟨fun q => ⟨hP.1, by show nx < nx + 1; omega, hk⟩, fun q => absurd q (by omega)⟩, fun q hq => xok_mono (by show nx ≤ nx + 1; omega) (hr q hq)⟩)
          · rw [List.map_cons, xc_obj (by omega)] at k1
            exact k1
          · refine ⟨by show 1 ≤ nx + 1; omega, fun _ => by rw [z1]; show _ = gb g + (nx + 1); omega, fun i h1 h2 => ?_, xT_arr hP.2.2.2.1 (by omega), xMr_z hP.2.2.2.2⟩
            have h2 : i < nx + 1 := h2
            by_cases e : i = nx
            · subst e
              rw [xE_arr hk ha1]
              show H1[_]? = some (vp_cell _ _)
              rw [e1]
              by_cases q : xae a = 1
              · rw [if_pos q, vp_cell_l, q]
                simp only [xz_same]
                rfl
              · rw [if_neg q, vp_cell_i]
                simp only [xz_same]
                have : ∀ q, q < 4 → q ≠ 1 → defaultValue (xty q) = .int (Int32.ofInt 0) := by decide
                rw [this _ hn2 q]
            · rw [xE_same (R := R) (M := M) (fun k => xz_ne _ _ e) (fun k => rfl)]
              exact (hP.2.2.1 i h1 (by omega)).kept (o1 _ (by show gb g + i < gb g + nx; omega))
          · exact ⟨Nat.le_trans hS.1 (by have := hP.2.1 rfl; omega), fun x h1 h2 => (o1 x (by have := hS.1; have := hP.2.1 rfl; omega)).trans (hS.2.1 x h1 h2), hS.2.2⟩
          · show cells + 1 + n0 = nx + 1; omega
          · show slots + xan a + xsz n0 = xsz (nx + 1); omega
      · cases h
  all_goals exact hfam.elim
set_option maxHeartbeats 4000000 in
theorem x2_stk {cm : Bool} {d E : Nat} {sc : List Int} {y : xY} {X : xX} {g : xG} {n0 : Nat} {Q : State → Prop} {o : Nat} {ini : Bool} (hC : xCx d E sc y X g n0) (hy : y.1.cls = xown o) (hini : ini = true → y.1.name = "<init>") {pc : Nat} {i : Instr} {a : Nat} {b : Int} (hq : xqb o ini y.2.2.1 y.2.1 (pc, i, a, b) = true) {ls : xL} {st : List xV} {R : xR} {M : xM} {nx : Nat} {z' : xS} {cs : List Prop} (hfam : ∃ r cs', xst i a b st = some (r, cs') ∧ z' = (pc + xln i, ls, r, R, M, nx) ∧ cs = cs') (h : x2 cm sc pc i a b ls st R M nx = some (z', cs)) (hc : xAll cs) (hE : z'.2.2.2.2.2 ≤ E) (k : xW cm y.2.2.1 X g n0 Q z') : xW cm y.2.2.1 X g n0 Q (pc, ls, st, R, M, nx) := by
  obtain ⟨p, l, e, Rm, s, m, args, below, meth, c⟩ := X
  obtain ⟨hx, hb, hml, hown, hts, hF, hNs, hfr, hlo, hnm, hrt, hlk, hce, hsl, hE4⟩ := hC
  obtain ⟨hK, hKS, hKR, hXs, hgs, hgb, hsc, hZc, hZf, hfm⟩ := hF
  obtain ⟨n, hd, hn⟩ := xqb_spec hq
  rw [hy] at hown
  intro H locs cells slots mls hP hS hcl hsz hl hls hst
  dsimp only at hP hS hcl hsz hl hls hst ⊢
  obtain ⟨r, cs', hs1, rfl, rfl⟩ := hfam
  have hln : n = xln i := by
    cases i <;> simp only [xnb, xln, Bool.and_eq_true, Nat.beq_eq] at hn ⊢ <;> first | exact hn | exact hn.1 | (exact absurd hs1 (by simp [xst]))
  subst hln
  refine xst_ok hx hb hown g hfm hs1 hc hst ?_ hd (fun hst' => k H locs cells slots mls hP hS hcl hsz hl hls hst')
  cases i
  case iconst v => simp only [xnb, xr32, Bool.and_eq_true, Nat.beq_eq, decide_eq_true_eq] at hn; exact ⟨hn.2.1, hn.2.2⟩
  case bipush v => simp only [xnb, xr32, Bool.and_eq_true, Nat.beq_eq, decide_eq_true_eq] at hn; exact ⟨hn.2.1, hn.2.2⟩
  case sipush v => simp only [xnb, xr32, Bool.and_eq_true, Nat.beq_eq, decide_eq_true_eq] at hn; exact ⟨hn.2.1, hn.2.2⟩
  case ldc v =>
    rw [xnb, Bool.and_eq_true] at hn
    cases a with
    | zero => exact (xst_in hts hKR hn.2).1 rfl
    | succ j => exact (xst_in hts hKR hn.2).2 j rfl
  case ldc_w v =>
    rw [xnb, Bool.and_eq_true] at hn
    cases a with
    | zero => exact (xst_in hts hKR hn.2).1 rfl
    | succ j => exact (xst_in hts hKR hn.2).2 j rfl
  case lconst v =>
    simp only [xnb, Bool.and_eq_true, Nat.beq_eq, decide_eq_true_eq] at hn
    obtain ⟨-, rfl⟩ := hn
    have := v.isLt
    exact ⟨by apply Int64.toInt_inj.mp; rw [Int64.toInt_ofInt, Int64.toInt_ofNat'], ⟨by omega, by omega⟩⟩
  case ldc2_w v => simp only [xnb, xr64, Bool.and_eq_true, Nat.beq_eq, decide_eq_true_eq] at hn; exact ⟨hts _ (xcl_in hn.2.1), hn.2.2⟩
  all_goals exact trivial
theorem x2_fall {cm : Bool} {sc : List Int} {pc a : Nat} {i : Instr} {b : Int} {ls : xL} {st : List xV} {R : xR} {M : xM} {nx : Nat} {z' : xS} {cs : List Prop} (h : (match xst i a b st with
    | some (r, cs) => xto (pc + xln i) ls r R M nx cs
    | none => none) = some (z', cs)) : ∃ r cs', xst i a b st = some (r, cs') ∧ z' = (pc + xln i, ls, r, R, M, nx) ∧ cs = cs' := by
  split at h
  · rename_i r cs' hs
    cases h
    exact ⟨_, _, hs, rfl, rfl⟩
  · cases h
set_option maxHeartbeats 4000000 in
theorem x2_ok {cm : Bool} {d E : Nat} {sc : List Int} {y : xY} {X : xX} {g : xG} {n0 : Nat} {Q : State → Prop} {o : Nat} {ini : Bool} (hC : xCx d E sc y X g n0) (hy : y.1.cls = xown o) (hini : ini = true → y.1.name = "<init>") {pc : Nat} {i : Instr} {a : Nat} {b : Int} (hq : xqb o ini y.2.2.1 y.2.1 (pc, i, a, b) = true) {ls : xL} {st : List xV} {R : xR} {M : xM} {nx : Nat} {z' : xS} {cs : List Prop} (h : x2 cm sc pc i a b ls st R M nx = some (z', cs)) (hc : xAll cs) (hE : z'.2.2.2.2.2 ≤ E) (k : xW cm y.2.2.1 X g n0 Q z') : xW cm y.2.2.1 X g n0 Q (pc, ls, st, R, M, nx) := by
  cases i

  case iload _ => exact x2_loc hC hy hini hq trivial h hc hE k
  case iload_n _ => exact x2_loc hC hy hini hq trivial h hc hE k
  case lload _ => exact x2_loc hC hy hini hq trivial h hc hE k
  case lload_n _ => exact x2_loc hC hy hini hq trivial h hc hE k
  case aload _ => exact x2_loc hC hy hini hq trivial h hc hE k
  case aload_n _ => exact x2_loc hC hy hini hq trivial h hc hE k
  case istore _ => exact x2_loc hC hy hini hq trivial h hc hE k
  case istore_n _ => exact x2_loc hC hy hini hq trivial h hc hE k
  case lstore _ => exact x2_loc hC hy hini hq trivial h hc hE k
  case lstore_n _ => exact x2_loc hC hy hini hq trivial h hc hE k
  case astore _ => exact x2_loc hC hy hini hq trivial h hc hE k
  case astore_n _ => exact x2_loc hC hy hini hq trivial h hc hE k
  case iinc _ _ => exact x2_loc hC hy hini hq trivial h hc hE k
  case goto _ => exact x2_loc hC hy hini hq trivial h hc hE k
  case ifCond _ _ => exact x2_loc hC hy hini hq trivial h hc hE k
  case if_icmp _ _ => exact x2_loc hC hy hini hq trivial h hc hE k
  case tableswitch _ _ _ _ => exact x2_loc hC hy hini hq trivial h hc hE k
  case arraylength => exact x2_arr hC hy hini hq trivial h hc hE k
  case iaload => exact x2_arr hC hy hini hq trivial h hc hE k
  case laload => exact x2_arr hC hy hini hq trivial h hc hE k
  case baload => exact x2_arr hC hy hini hq trivial h hc hE k
  case iastore => exact x2_ars hC hy hini hq trivial h hc hE k
  case lastore => exact x2_ars hC hy hini hq trivial h hc hE k
  case bastore => exact x2_ars hC hy hini hq trivial h hc hE k
  case getfield _ => exact x2_get hC hy hini hq trivial h hc hE k
  case getstatic _ => exact x2_get hC hy hini hq trivial h hc hE k
  case putfield _ => exact x2_put hC hy hini hq trivial h hc hE k
  case new _ => exact x2_new hC hy hini hq trivial h hc hE k
  case newarray _ => exact x2_new hC hy hini hq trivial h hc hE k
  all_goals exact x2_stk hC hy hini hq (x2_fall (cm := cm) (sc := sc) h) h hc hE k
theorem x2_nx {cm : Bool} {sc : List Int} {pc a : Nat} {i : Instr} {b : Int} {ls : xL} {st : List xV} {R : xR} {M : xM} {nx : Nat} {z' : xS} {cs : List Prop} (h : x2 cm sc pc i a b ls st R M nx = some (z', cs)) : nx ≤ z'.2.2.2.2.2 := by
  unfold x2 at h
  simp only [cond_eq_ite] at h
  split at h
  all_goals (repeat' split at h)
  all_goals first
    | (cases h; first | exact Nat.le_refl _ | exact Nat.le_succ _)
    | cases h
theorem xN_nx {cm : Bool} {sc : List Int} : ∀ {qs : List xI} {z z' : xS} {cs : List Prop}, xN cm sc qs z = some (z', cs) → z.2.2.2.2.2 ≤ z'.2.2.2.2.2 := by
  intro qs
  induction qs with
  | nil => intro z z' cs h; cases h; exact Nat.le_refl _
  | cons q r ih =>
    intro z z' cs h
    unfold xN at h
    split at h
    · rename_i z1 cs1 h1
      split at h
      · rename_i z2 ds h2
        cases h
        refine Nat.le_trans ?_ (ih h2)
        unfold x1 at h1
        cases hb : Nat.beq q.1 z.1 with
        | false => rw [hb] at h1; cases h1
        | true => rw [hb] at h1; exact x2_nx h1
      · cases h
    · cases h
/-- a stretch of instructions -/
theorem xseg {cm : Bool} {d E : Nat} {sc : List Int} {y : xY} {X : xX} {g : xG} {n0 : Nat} {Q : State → Prop} {o : Nat} {ini : Bool} (hC : xCx d E sc y X g n0) (hy : y.1.cls = xown o) (hini : ini = true → y.1.name = "<init>") :
    ∀ (qs : List xI) {z z' : xS} {cs : List Prop}, qs.all (xqb o ini y.2.2.1 y.2.1) = true → xN cm sc qs z = some (z', cs) → xAll cs → z'.2.2.2.2.2 ≤ E → xW cm y.2.2.1 X g n0 Q z' → xW cm y.2.2.1 X g n0 Q z := by
  intro qs
  induction qs with
  | nil => intro z z' cs hq h hc hE k; cases h; exact k
  | cons q r ih =>
    intro z z' cs hq h hc hE k
    rw [List.all_cons, Bool.and_eq_true] at hq
    unfold xN at h
    split at h
    · rename_i z1 cs1 h1
      split at h
      · rename_i z2 ds h2
        cases h
        have hc1 : xAll cs1 ∧ xAll ds := by
          clear h1 ih
          induction cs1 with
          | nil => exact ⟨trivial, hc⟩
          | cons a t iht => exact ⟨⟨hc.1, (iht hc.2).1⟩, (iht hc.2).2⟩
        have k1 := ih hq.2 h2 hc1.2 hE k
        have hle : z1.2.2.2.2.2 ≤ E := Nat.le_trans (xN_nx h2) hE
        obtain ⟨pc, i, a, b⟩ := q
        obtain ⟨pc0, ls, st, R, M, nx⟩ := z
        unfold x1 at h1
        dsimp only at h1
        cases hb : Nat.beq pc pc0 with
        | false => rw [hb] at h1; cases h1
        | true =>
          rw [hb] at h1
          have e := Nat.eq_of_beq_eq_true hb
          subst e
          exact x2_ok hC hy hini hq.1 h1 hc1.1 hle k1
      · cases h
    · cases h
