def xwl (g : xG) (R : xR) (M : xM) (nx : Nat) : va_W := (List.range (nx - 1)).map (fun i => (gb g + (i + 1), xE g R M (i + 1)))
theorem xwl_at {g : xG} {R : xR} {M : xM} {nx j : Nat} (h1 : 1 ≤ j) (h2 : j < nx) : (xwl g R M nx)[j - 1]? = some (gb g + j, xE g R M j) := by
  unfold xwl
  rw [List.getElem?_map, List.getElem?_range (by omega)]
  show some (gb g + (j - 1 + 1), xE g R M (j - 1 + 1)) = _
  rw [show j - 1 + 1 = j by omega]
theorem xwl_in {g : xG} {R : xR} {M : xM} {nx k : Nat} {q : Nat × va_E} (h : (xwl g R M nx)[k]? = some q) : k + 1 < nx ∧ q = (gb g + (k + 1), xE g R M (k + 1)) := by
  unfold xwl at h
  rw [List.getElem?_map] at h
  by_cases hk : k < nx - 1
  · rw [List.getElem?_range hk] at h
    cases h
    exact ⟨by omega, rfl⟩
  · rw [List.getElem?_eq_none (by rw [List.length_range]; omega)] at h
    cases h
theorem xwl_P {g : xG} {cm : Bool} {R : xR} {M : xM} {nx : Nat} {H : Heap} (hP : xP g cm R M nx H) : va_P (gD g) xcl (xwl g R M nx) H := by
  intro k q hk
  obtain ⟨h1, rfl⟩ := xwl_in hk
  exact hP.2.2.1 _ (by omega) h1
theorem xwl_D {g : xG} {R : xR} {M : xM} {nx : Nat} : va_D (xA g) (xwl g R M nx) := by
  refine ⟨fun i j a b hi hj hab => ?_, fun k q hk => ?_⟩
  · obtain ⟨-, rfl⟩ := xwl_in hi
    obtain ⟨-, rfl⟩ := xwl_in hj
    have hab : gb g + (i + 1) = gb g + (j + 1) := hab
    omega
  · obtain ⟨-, rfl⟩ := xwl_in hk
    show gb g + 1 ≤ gb g + (k + 1)
    omega
theorem xcpy_oth {M : xM} {c d sp dp n a b : Nat} (h : a ≠ d) : xcpy M c d sp dp n a b = M a b := if_neg (fun q => h q.1)
theorem xMr_cpy {M : xM} {c d sp dp n e : Nat} (h : xMr M) (hc : 20 ≤ xk c ∧ xae (xk c) = e) (hd : 20 ≤ xk d ∧ xae (xk d) = e) : xMr (xcpy M c d sp dp n) := by
  intro a b
  unfold xcpy
  split
  · rename_i q
    have h1 := h c (sp + (b - dp))
    rw [xlg_arr hc.1, hc.2] at h1
    rw [q.1, xlg_arr hd.1, hd.2]
    exact h1
  · exact h a b
set_option maxHeartbeats 4000000 in
theorem XR.copyI {cm : Bool} {d E : Nat} {sc : List Int} {y : xY} {pc : Nat} {ls : xL} {R : xR} {M : xM} {nx : Nat} {out : xO} (o : Nat) (hy : y.1.cls = xown o) {idx : Nat} {rest : List xV} {k0 j0 k1 j1 : Nat} {sp dp n : Int} (hlink : Cond.methodLink (xown o) idx arraycopyName ∈ xws) (hnat : Cond.native arraycopyName ∈ xws) (hsta : Cond.static arraycopyName ∈ xws) (hsys : Cond.initialized "java/lang/System" ∈ xws) (hk0 : xar k0 0) (hk1 : xar k1 0) (h1 : 0 ≤ sp) (h2 : 0 ≤ dp) (h3 : 0 ≤ n) (h4 : sp + n ≤ (xan k0 : Int)) (h5 : dp + n ≤ (xan k1 : Int))
    (hcmf : cm = false) (hd1 : 1 ≤ d) (hroom : xaw rest + (nativeFrameWords "java/lang/System" "arraycopy" 5 + 11) ≤ 60 * d) (hdec : decode y.2.1 pc = .ok (.invokestatic idx, 3)) (k : XR cm d E sc y (pc + 3, ls, rest, R, xcpy M j0 j1 sp.toNat dp.toNat n.toNat, nx) out) : XR cm d E sc y (pc, ls, vI n :: vI dp :: vR k1 j1 :: vI sp :: vR k0 j0 :: rest, R, M, nx) out := by
  intro X g n0 Q hC hR
  have kk := k X g n0 Q hC hR
  obtain ⟨p, l, e, Rm, s, m, args, below, meth, c⟩ := X
  obtain ⟨hx, hb, hml, hown, hts, hF, hNs, hfr, hlo, hnm, hrt, hlk, hce, hsl, hE4⟩ := hC
  have hfm := hF.2.2.2.2.2.2.2.2.2
  rw [hy] at hown
  intro H locs cells slots mls hP hS hcl hsz hl hls hst0
  dsimp only at hP hS hcl hsz hl hls hst0 ⊢
  have hcm : xi32 n := hst0 _ List.mem_cons_self
  have hcd : xi32 dp := hst0 _ (List.mem_of_getElem? (i := 1) rfl)
  have hv1 : xvr nx k1 j1 := hst0 _ (List.mem_of_getElem? (i := 2) rfl)
  have hcs : xi32 sp := hst0 _ (List.mem_of_getElem? (i := 3) rfl)
  have hv0 : xvr nx k0 j0 := hst0 _ (List.mem_of_getElem? (i := 4) rfl)
  have hrest : ∀ v ∈ rest, xok nx v := fun v q => hst0 v (List.mem_cons_of_mem _ (List.mem_cons_of_mem _ (List.mem_cons_of_mem _ (List.mem_cons_of_mem _ (List.mem_cons_of_mem _ q)))))
  obtain ⟨hj1, hj2, hj3⟩ := hv0.1 hk0.1.2
  obtain ⟨hi1, hi2, hi3⟩ := hv1.1 hk1.1.2
  have ha0 := xwl_at (g := g) (R := R) (M := M) hj1 hj2
  have ha1 := xwl_at (g := g) (R := R) (M := M) hi1 hi2
  rw [xE_arrI hj3 hk0.1.1 hk0.2 (by decide)] at ha0
  rw [xE_arrI hi3 hk1.1.1 hk1.2 (by decide)] at ha1
  have hneg : ∀ z : Int, xi32 z → 0 ≤ z → ¬ Int32.ofInt z < 0 := fun z hz h0 q => by
    rw [Int32.lt_iff_toInt_lt, xtoi hz] at q
    have : (0 : Int32).toInt = 0 := rfl
    omega
  simp only [List.map_cons]
  rw [xc_obj hk0.1.2, xc_obj hk1.1.2]
  refine va_copyi hx hb (by rw [hml, hl.1]) hown (hts _ hlink) (hts _ hnat) (hts _ hsta) (hts _ hsys) hF.1 (xwl_P hP) xwl_D hS (j0 - 1) (j1 - 1) 0 0 ha0 ha1 (xtys_at g (by decide)) (xtys_at g (by decide)) rfl (hneg _ hcs h1) (hneg _ hcd h2) (hneg _ hcm h3) (by rw [xn_clamp hcs, xn_clamp hcm]; omega) (by rw [xn_clamp hcd, xn_clamp hcm]; omega) (fun _ _ => rfl) (by omega) (by rw [xaw_sum hfm]; omega) hdec ?_
  intro H1 locs1 hP1 hD1 hS1
  rw [xn_clamp hcs, xn_clamp hcd, xn_clamp hcm] at hP1
  have hlen : j1 - 1 < (xwl g R M nx).length := (List.getElem?_eq_some_iff.mp ha1).1
  have hat1 := hP1 (j1 - 1) _ (by rw [List.getElem?_set_self hlen])
  have hsz1 : cm = true → H1.size = gb g + nx := fun q => ?_
  refine kk H1 locs1 cells slots mls ⟨hP.1, hsz1, fun i h1 h2 => ?_, hP.2.2.2.1, xMr_cpy (e := 0) hP.2.2.2.2 ⟨by rw [hj3]; exact hk0.1.1, by rw [hj3]; exact hk0.2⟩ ⟨by rw [hi3]; exact hk1.1.1, by rw [hi3]; exact hk1.2⟩⟩ hS1 hcl hsz hl hls hrest
  · by_cases q : i = j1
    · subst q
      rw [xE_arrI hi3 hk1.1.1 hk1.2 (by decide)]
      have e : (fun j => Int32.ofInt (xcpy M j0 i sp.toNat dp.toNat n.toNat i j)) = va_cpy (fun q => Int32.ofInt (M j0 q)) (fun q => Int32.ofInt (M i q)) sp.toNat dp.toNat n.toNat := by
        funext q
        unfold xcpy va_cpy
        by_cases z : dp.toNat ≤ q ∧ q < dp.toNat + n.toNat
        · rw [if_pos ⟨rfl, z⟩, if_pos z]
        · rw [if_neg (fun w => z w.2), if_neg z]
      rw [e]
      exact hat1
    · have := hP1 (i - 1) (gb g + i, xE g R M i) (by rw [List.getElem?_set_ne (by omega)]; exact xwl_at h1 h2)
      rw [xE_same (R := R) (M := M) (fun k => xcpy_oth q) (fun _ => rfl)]
      exact this
  · rw [hcmf] at q; cases q
set_option maxHeartbeats 4000000 in
theorem XR.copyL {cm : Bool} {d E : Nat} {sc : List Int} {y : xY} {pc : Nat} {ls : xL} {R : xR} {M : xM} {nx : Nat} {out : xO} (o : Nat) (hy : y.1.cls = xown o) {idx : Nat} {rest : List xV} {k0 j0 k1 j1 : Nat} {sp dp n : Int} (hlink : Cond.methodLink (xown o) idx arraycopyName ∈ xws) (hnat : Cond.native arraycopyName ∈ xws) (hsta : Cond.static arraycopyName ∈ xws) (hsys : Cond.initialized "java/lang/System" ∈ xws) (hk0 : xar k0 1) (hk1 : xar k1 1) (h1 : 0 ≤ sp) (h2 : 0 ≤ dp) (h3 : 0 ≤ n) (h4 : sp + n ≤ (xan k0 : Int)) (h5 : dp + n ≤ (xan k1 : Int))
    (hcmf : cm = false) (hd1 : 1 ≤ d) (hroom : xaw rest + (nativeFrameWords "java/lang/System" "arraycopy" 5 + 11) ≤ 60 * d) (hdec : decode y.2.1 pc = .ok (.invokestatic idx, 3)) (k : XR cm d E sc y (pc + 3, ls, rest, R, xcpy M j0 j1 sp.toNat dp.toNat n.toNat, nx) out) : XR cm d E sc y (pc, ls, vI n :: vI dp :: vR k1 j1 :: vI sp :: vR k0 j0 :: rest, R, M, nx) out := by
  intro X g n0 Q hC hR
  have kk := k X g n0 Q hC hR
  obtain ⟨p, l, e, Rm, s, m, args, below, meth, c⟩ := X
  obtain ⟨hx, hb, hml, hown, hts, hF, hNs, hfr, hlo, hnm, hrt, hlk, hce, hsl, hE4⟩ := hC
  have hfm := hF.2.2.2.2.2.2.2.2.2
  rw [hy] at hown
  intro H locs cells slots mls hP hS hcl hsz hl hls hst0
  dsimp only at hP hS hcl hsz hl hls hst0 ⊢
  have hcm : xi32 n := hst0 _ List.mem_cons_self
  have hcd : xi32 dp := hst0 _ (List.mem_of_getElem? (i := 1) rfl)
  have hv1 : xvr nx k1 j1 := hst0 _ (List.mem_of_getElem? (i := 2) rfl)
  have hcs : xi32 sp := hst0 _ (List.mem_of_getElem? (i := 3) rfl)
  have hv0 : xvr nx k0 j0 := hst0 _ (List.mem_of_getElem? (i := 4) rfl)
  have hrest : ∀ v ∈ rest, xok nx v := fun v q => hst0 v (List.mem_cons_of_mem _ (List.mem_cons_of_mem _ (List.mem_cons_of_mem _ (List.mem_cons_of_mem _ (List.mem_cons_of_mem _ q)))))
  obtain ⟨hj1, hj2, hj3⟩ := hv0.1 hk0.1.2
  obtain ⟨hi1, hi2, hi3⟩ := hv1.1 hk1.1.2
  have ha0 := xwl_at (g := g) (R := R) (M := M) hj1 hj2
  have ha1 := xwl_at (g := g) (R := R) (M := M) hi1 hi2
  rw [xE_arrL hj3 hk0.1.1 hk0.2] at ha0
  rw [xE_arrL hi3 hk1.1.1 hk1.2] at ha1
  have hneg : ∀ z : Int, xi32 z → 0 ≤ z → ¬ Int32.ofInt z < 0 := fun z hz h0 q => by
    rw [Int32.lt_iff_toInt_lt, xtoi hz] at q
    have : (0 : Int32).toInt = 0 := rfl
    omega
  simp only [List.map_cons]
  rw [xc_obj hk0.1.2, xc_obj hk1.1.2]
  refine va_copyl hx hb (by rw [hml, hl.1]) hown (hts _ hlink) (hts _ hnat) (hts _ hsta) (hts _ hsys) hF.1 (xwl_P hP) xwl_D hS (j0 - 1) (j1 - 1) 1 1 ha0 ha1 (xtys_at g (by decide)) (xtys_at g (by decide)) rfl (hneg _ hcs h1) (hneg _ hcd h2) (hneg _ hcm h3) (by rw [xn_clamp hcs, xn_clamp hcm]; omega) (by rw [xn_clamp hcd, xn_clamp hcm]; omega) (fun _ _ => rfl) (by omega) (by rw [xaw_sum hfm]; omega) hdec ?_
  intro H1 locs1 hP1 hD1 hS1
  rw [xn_clamp hcs, xn_clamp hcd, xn_clamp hcm] at hP1
  have hlen : j1 - 1 < (xwl g R M nx).length := (List.getElem?_eq_some_iff.mp ha1).1
  have hat1 := hP1 (j1 - 1) _ (by rw [List.getElem?_set_self hlen])
  have hsz1 : cm = true → H1.size = gb g + nx := fun q => ?_
  refine kk H1 locs1 cells slots mls ⟨hP.1, hsz1, fun i h1 h2 => ?_, hP.2.2.2.1, xMr_cpy (e := 1) hP.2.2.2.2 ⟨by rw [hj3]; exact hk0.1.1, by rw [hj3]; exact hk0.2⟩ ⟨by rw [hi3]; exact hk1.1.1, by rw [hi3]; exact hk1.2⟩⟩ hS1 hcl hsz hl hls hrest
  · by_cases q : i = j1
    · subst q
      rw [xE_arrL hi3 hk1.1.1 hk1.2]
      have e : (fun j => Int64.ofInt (xcpy M j0 i sp.toNat dp.toNat n.toNat i j)) = va_cpy (fun q => Int64.ofInt (M j0 q)) (fun q => Int64.ofInt (M i q)) sp.toNat dp.toNat n.toNat := by
        funext q
        unfold xcpy va_cpy
        by_cases z : dp.toNat ≤ q ∧ q < dp.toNat + n.toNat
        · rw [if_pos ⟨rfl, z⟩, if_pos z]
        · rw [if_neg (fun w => z w.2), if_neg z]
      rw [e]
      exact hat1
    · have := hP1 (i - 1) (gb g + i, xE g R M i) (by rw [List.getElem?_set_ne (by omega)]; exact xwl_at h1 h2)
      rw [xE_same (R := R) (M := M) (fun k => xcpy_oth q) (fun _ => rfl)]
      exact this
  · rw [hcmf] at q; cases q
