theorem xc_ref {g : xG} {k i : Nat} (h : k ≠ 96) : xc g (.inr (k, i)) = .ref (xad g k i) := if_neg h
theorem xc_obj {g : xG} {k i : Nat} (h : k < 90) : xc g (.inr (k, i)) = .ref (gb g + i) := by
  rw [xc_ref (by omega)]
  unfold xad
  rw [if_pos h]
theorem xnat_i (n : Nat) : Int32.ofInt (n : Int) = Int32.ofNat n := by
  apply Int32.toInt_inj.mp
  rw [Int32.toInt_ofInt, Int32.toInt_ofNat']
set_option maxHeartbeats 4000000 in
theorem x2_loc {cm : Bool} {d E : Nat} {sc : List Int} {y : xY} {X : xX} {g : xG} {n0 : Nat} {Q : State → Prop} {o : Nat} {ini : Bool} (hC : xCx d E sc y X g n0) (hy : y.1.cls = xown o) (hini : ini = true → y.1.name = "<init>") {pc : Nat} {i : Instr} {a : Nat} {b : Int} (hq : xqb o ini y.2.2.1 y.2.1 (pc, i, a, b) = true) {ls : xL} {st : List xV} {R : xR} {M : xM} {nx : Nat} {z' : xS} {cs : List Prop} (hfam : match i with | .iload _ => True | .iload_n _ => True | .lload _ => True | .lload_n _ => True | .aload _ => True | .aload_n _ => True | .istore _ => True | .istore_n _ => True | .lstore _ => True | .lstore_n _ => True | .astore _ => True | .astore_n _ => True | .iinc _ _ => True | .goto _ => True | .ifCond _ _ => True | .if_icmp _ _ => True | .tableswitch _ _ _ _ => True | _ => False) (h : x2 cm sc pc i a b ls st R M nx = some (z', cs)) (hc : xAll cs) (hE : z'.2.2.2.2.2 ≤ E) (k : xW cm y.2.2.1 X g n0 Q z') : xW cm y.2.2.1 X g n0 Q (pc, ls, st, R, M, nx) := by
  obtain ⟨p, l, e, Rm, s, m, args, below, meth, c⟩ := X
  obtain ⟨hx, hb, hml, hown, hts, hF, hNs, hfr, hlo, hnm, hrt, hlk, hce, hsl, hE4⟩ := hC
  obtain ⟨hK, hKS, hKR, hXs, hgs, hgb, hsc, hZc, hZf, hfm⟩ := hF
  obtain ⟨n, hd, hn⟩ := xqb_spec hq
  rw [hy] at hown
  intro H locs cells slots mls hP hS hcl hsz hl hls hst
  dsimp only at hP hS hcl hsz hl hls hst ⊢
  cases i
  case iload idx =>
    simp only [x2] at h
    simp only [xnb, Bool.and_eq_true, Nat.beq_eq, Nat.blt_eq, decide_eq_true_eq] at hn
    subst hn
    split at h
    · rename_i x hk
      cases h
      have hat := xls_at hl hk
      have k1 := k H locs cells slots mls hP hS hcl hsz hl hls (List.forall_mem_cons.mpr ⟨hls _ (xlk_mem hk), hst⟩)
    
      exact lv_iload hx hb hd hat k1
    · cases h
  case iload_n idx =>
    simp only [x2] at h
    simp only [xnb, Bool.and_eq_true, Nat.beq_eq, Nat.blt_eq, decide_eq_true_eq] at hn
    subst hn
    split at h
    · rename_i x hk
      cases h
      have hat := xls_at hl hk
      have k1 := k H locs cells slots mls hP hS hcl hsz hl hls (List.forall_mem_cons.mpr ⟨hls _ (xlk_mem hk), hst⟩)
    
      exact lv_iload_n hx hb hd rfl hat k1
    · cases h
  case lload idx =>
    simp only [x2] at h
    simp only [xnb, Bool.and_eq_true, Nat.beq_eq, Nat.blt_eq, decide_eq_true_eq] at hn
    subst hn
    split at h
    · rename_i x hk
      cases h
      have hat := xls_at hl hk
      have k1 := k H locs cells slots mls hP hS hcl hsz hl hls (List.forall_mem_cons.mpr ⟨hls _ (xlk_mem hk), hst⟩)
    
      exact lv_lload hx hb hd hat k1
    · cases h
  case lload_n idx =>
    simp only [x2] at h
    simp only [xnb, Bool.and_eq_true, Nat.beq_eq, Nat.blt_eq, decide_eq_true_eq] at hn
    subst hn
    split at h
    · rename_i x hk
      cases h
      have hat := xls_at hl hk
      have k1 := k H locs cells slots mls hP hS hcl hsz hl hls (List.forall_mem_cons.mpr ⟨hls _ (xlk_mem hk), hst⟩)
    
      exact lv_lload_n hx hb hd rfl hat k1
    · cases h
  case aload idx =>
    simp only [x2] at h
    simp only [xnb, Bool.and_eq_true, Nat.beq_eq, Nat.blt_eq, decide_eq_true_eq] at hn
    subst hn
    split at h
    · rename_i x hk
      have hat := xls_at hl hk
      have fin : x.1 ≠ 96 → xW cm y.2.2.1 (p, l, e, Rm, s, m, args, below, meth, c) g n0 Q (pc + 2, ls, .inr x :: st, R, M, nx) → W p l e Rm s m args below meth c H locs cells slots Q (F0 m pc mls (st.map (xc g))) := by
        intro hne k
        rw [show xc g (Sum.inr x) = _ from xc_ref hne] at hat
        have k1 := k H locs cells slots mls hP hS hcl hsz hl hls (List.forall_mem_cons.mpr ⟨hls _ (xlk_mem hk), hst⟩)
        have e1 : (xc g (Sum.inr x) : Value) = _ := xc_ref hne
        simp only [List.map_cons, e1] at k1
        exact lv_aload hx hb hd hat k1
      split at h
      · cases hb96 : Nat.beq x.1 96 with
        | true => rw [hb96] at h; cases h
        | false =>
          rw [hb96] at h
          cases h
          exact fin (fun q => by rw [q] at hb96; cases hb96) k
      · cases h
        exact fin hc.1 k
    · cases h
  case aload_n idx =>
    simp only [x2] at h
    simp only [xnb, Bool.and_eq_true, Nat.beq_eq, Nat.blt_eq, decide_eq_true_eq] at hn
    subst hn
    split at h
    · rename_i x hk
      have hat := xls_at hl hk
      have fin : x.1 ≠ 96 → xW cm y.2.2.1 (p, l, e, Rm, s, m, args, below, meth, c) g n0 Q (pc + 1, ls, .inr x :: st, R, M, nx) → W p l e Rm s m args below meth c H locs cells slots Q (F0 m pc mls (st.map (xc g))) := by
        intro hne k
        rw [show xc g (Sum.inr x) = _ from xc_ref hne] at hat
        have k1 := k H locs cells slots mls hP hS hcl hsz hl hls (List.forall_mem_cons.mpr ⟨hls _ (xlk_mem hk), hst⟩)
        have e1 : (xc g (Sum.inr x) : Value) = _ := xc_ref hne
        simp only [List.map_cons, e1] at k1
        exact lv_aload_n hx hb hd rfl hat k1
      split at h
      · cases hb96 : Nat.beq x.1 96 with
        | true => rw [hb96] at h; cases h
        | false =>
          rw [hb96] at h
          cases h
          exact fin (fun q => by rw [q] at hb96; cases hb96) k
      · cases h
        exact fin hc.1 k
    · cases h
  case istore idx =>
    simp only [x2] at h
    simp only [xnb, Bool.and_eq_true, Nat.beq_eq, Nat.blt_eq, decide_eq_true_eq] at hn
    obtain ⟨rfl, hn2⟩ := hn
    split at h
    · rename_i x r
      cases h
      have hv1 := hst _ List.mem_cons_self
      have hr : ∀ v ∈ r, xok nx v := fun v q => hst v (List.mem_cons_of_mem _ q)
      refine lv_istore hx hb hd hl hn2 (lv' := xcl2 g (xsto idx (vI x) ls)) ?_ (fun mls' hl' => k H locs cells slots mls' hP hS hcl hsz hl' (xsto_ok hls hv1) hr)
      rw [xflt_map1 hfm]
      rfl
    · cases h
  case istore_n idx =>
    simp only [x2] at h
    simp only [xnb, Bool.and_eq_true, Nat.beq_eq, Nat.blt_eq, decide_eq_true_eq] at hn
    obtain ⟨rfl, hn2⟩ := hn
    split at h
    · rename_i x r
      cases h
      have hv1 := hst _ List.mem_cons_self
      have hr : ∀ v ∈ r, xok nx v := fun v q => hst v (List.mem_cons_of_mem _ q)
      refine lv_istore_n hx hb hd rfl hl hn2 (lv' := xcl2 g (xsto idx.val (vI x) ls)) ?_ (fun mls' hl' => k H locs cells slots mls' hP hS hcl hsz hl' (xsto_ok hls hv1) hr)
      rw [xflt_map1 hfm]
      rfl
    · cases h
  case lstore idx =>
    simp only [x2] at h
    simp only [xnb, Bool.and_eq_true, Nat.beq_eq, Nat.blt_eq, decide_eq_true_eq] at hn
    obtain ⟨rfl, hn2⟩ := hn
    split at h
    · rename_i x r
      cases h
      have hv1 := hst _ List.mem_cons_self
      have hr : ∀ v ∈ r, xok nx v := fun v q => hst v (List.mem_cons_of_mem _ q)
      refine lv_lstore hx hb hd hl hn2 (lv' := xcl2 g (xsto idx (vL x) ls)) ?_ (fun mls' hl' => k H locs cells slots mls' hP hS hcl hsz hl' (xsto_ok hls hv1) hr)
      rw [xflt_map2 hfm]
      rfl
    · cases h
  case lstore_n idx =>
    simp only [x2] at h
    simp only [xnb, Bool.and_eq_true, Nat.beq_eq, Nat.blt_eq, decide_eq_true_eq] at hn
    obtain ⟨rfl, hn2⟩ := hn
    split at h
    · rename_i x r
      cases h
      have hv1 := hst _ List.mem_cons_self
      have hr : ∀ v ∈ r, xok nx v := fun v q => hst v (List.mem_cons_of_mem _ q)
      refine lv_lstore_n hx hb hd rfl hl hn2 (lv' := xcl2 g (xsto idx.val (vL x) ls)) ?_ (fun mls' hl' => k H locs cells slots mls' hP hS hcl hsz hl' (xsto_ok hls hv1) hr)
      rw [xflt_map2 hfm]
      rfl
    · cases h
  case astore idx =>
    simp only [x2] at h
    simp only [xnb, Bool.and_eq_true, Nat.beq_eq, Nat.blt_eq, decide_eq_true_eq] at hn
    obtain ⟨rfl, hn2⟩ := hn
    split at h
    · rename_i x r
      cases h
      have hv1 := hst _ List.mem_cons_self
      have hr : ∀ v ∈ r, xok nx v := fun v q => hst v (List.mem_cons_of_mem _ q)
      have e1 : (xc g (Sum.inr x) : Value) = _ := xc_ref hc.1
      simp only [List.map_cons, e1]
      refine lv_astore hx hb hd hl hn2 (lv' := xcl2 g (xsto idx (.inr x) ls)) ?_ (fun mls' hl' => k H locs cells slots mls' hP hS hcl hsz hl' (xsto_ok hls hv1) hr)
      show _ = (idx, xc g (.inr x)) :: xcl2 g (xflt false idx ls)
      rw [xflt_map1 hfm, e1]
    · cases h
  case astore_n idx =>
    simp only [x2] at h
    simp only [xnb, Bool.and_eq_true, Nat.beq_eq, Nat.blt_eq, decide_eq_true_eq] at hn
    obtain ⟨rfl, hn2⟩ := hn
    split at h
    · rename_i x r
      cases h
      have hv1 := hst _ List.mem_cons_self
      have hr : ∀ v ∈ r, xok nx v := fun v q => hst v (List.mem_cons_of_mem _ q)
      have e1 : (xc g (Sum.inr x) : Value) = _ := xc_ref hc.1
      simp only [List.map_cons, e1]
      refine lv_astore_n hx hb hd rfl hl hn2 (lv' := xcl2 g (xsto idx.val (.inr x) ls)) ?_ (fun mls' hl' => k H locs cells slots mls' hP hS hcl hsz hl' (xsto_ok hls hv1) hr)
      show _ = (idx.val, xc g (.inr x)) :: xcl2 g (xflt false idx.val ls)
      rw [xflt_map1 hfm, e1]
    · cases h
  case iinc idx kk =>
    simp only [x2] at h
    simp only [xnb, Bool.and_eq_true, Nat.beq_eq, Nat.blt_eq, decide_eq_true_eq] at hn
    obtain ⟨rfl, hn2⟩ := hn
    split at h
    · rename_i x hk
      cases h
      have hmem : (idx, xc g (vI x)) ∈ xcl2 g ls := List.mem_map.mpr ⟨(idx, vI x), xlk_mem hk, rfl⟩
      obtain ⟨kp, hkp⟩ := List.getElem?_of_mem hmem
      refine lv_iinc hx hb (k := kp) (x := Int32.ofInt x) (v := Int32.ofInt (w32 (x + kk))) hd hl hkp ?_ hn2 (lv' := xcl2 g (xsto idx (vI (w32 (x + kk))) ls)) ?_ (fun mls' hl' => k H locs cells slots mls' hP hS hcl hsz hl' (xsto_ok hls (xi32_w _)) hst)
      · exact xn_add x kk
      · rw [xflt_map1 hfm]; rfl
    · cases h
  case goto f =>
    simp only [x2] at h
    simp only [xnb, Bool.and_eq_true, Nat.beq_eq, Nat.blt_eq, decide_eq_true_eq] at hn
    obtain ⟨rfl, h0, h1⟩ := hn
    cases h
    exact lv_goto hx hb hd (by rw [h1, Int.toNat_of_nonneg h0]) (k H locs cells slots mls hP hS hcl hsz hl hls hst)
  case ifCond cd f =>
    simp only [x2] at h
    split at h
    · rename_i x r
      have hr : ∀ v ∈ r, xok nx v := fun v q => hst v (List.mem_cons_of_mem _ q)
      have hx1 := hst _ List.mem_cons_self
      cases b with
      | ofNat t =>
        simp only [xnb, Bool.and_eq_true, Nat.beq_eq, Nat.blt_eq, decide_eq_true_eq] at hn
        cases h
        obtain ⟨rfl, ht⟩ := hn
        exact xif_t hx hb hx1 hd hc.1 ht (k H locs cells slots mls hP hS hcl hsz hl hls hr)
      | negSucc t =>
        simp only [xnb, Bool.and_eq_true, Nat.beq_eq, Nat.blt_eq, decide_eq_true_eq] at hn
        cases h
        obtain ⟨rfl, ht⟩ := hn
        exact xif_f hx hb hx1 hd hc.1 (Int.toNat_of_nonneg ht).symm (k H locs cells slots mls hP hS hcl hsz hl hls hr)
    · cases h
  case if_icmp cd f =>
    simp only [x2] at h
    split at h
    · rename_i y1 x r
      have hr : ∀ v ∈ r, xok nx v := fun v q => hst v (List.mem_cons_of_mem _ (List.mem_cons_of_mem _ q))
      have hy1 := hst _ List.mem_cons_self
      have hx1 := hst _ (List.mem_cons_of_mem _ List.mem_cons_self)
      cases b with
      | ofNat t =>
        simp only [xnb, Bool.and_eq_true, Nat.beq_eq, Nat.blt_eq, decide_eq_true_eq] at hn
        cases h
        obtain ⟨rfl, ht⟩ := hn
        exact xicmp_t hx hb hx1 hy1 hd hc.1 ht (k H locs cells slots mls hP hS hcl hsz hl hls hr)
      | negSucc t =>
        simp only [xnb, Bool.and_eq_true, Nat.beq_eq, Nat.blt_eq, decide_eq_true_eq] at hn
        cases h
        obtain ⟨rfl, ht⟩ := hn
        exact xicmp_f hx hb hx1 hy1 hd hc.1 (Int.toNat_of_nonneg ht).symm (k H locs cells slots mls hP hS hcl hsz hl hls hr)
    · cases h
  case tableswitch df lo hi fs =>
    simp only [x2] at h
    split at h
    · rename_i x r
      have hr : ∀ v ∈ r, xok nx v := fun v q => hst v (List.mem_cons_of_mem _ q)
      have hx1 : xi32 x := hst _ List.mem_cons_self
      have e1 := xtoi hx1
      cases a with
      | zero =>
        simp only [xnb, Bool.and_eq_true, Nat.beq_eq, Nat.blt_eq, decide_eq_true_eq] at hn
        cases h
        exact lv_tableOut hx hb hd (by rw [e1]; exact hc.1) (by rw [hn.2, Int.toNat_of_nonneg hn.1]) (k H locs cells slots mls hP hS hcl hsz hl hls hr)
      | succ j =>
        simp only [xnb, Bool.and_eq_true, Nat.beq_eq, Nat.blt_eq, decide_eq_true_eq] at hn
        cases h
        obtain ⟨h0, h1, h2⟩ := hn
        have e2 : x = lo + (j : Int) := hc.1
        refine lv_tableIn hx hb hd (by rw [e1]; omega) (by rw [e1]; omega) (off := b - (pc : Int)) ?_ (by rw [Int.toNat_of_nonneg h0]; omega) (k H locs cells slots mls hP hS hcl hsz hl hls hr)
        rw [e1, show (x - lo).toNat = j by omega]
        exact h1
    · cases h
  all_goals exact hfam.elim
