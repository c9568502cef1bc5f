/-- what is left: plain functions -/
def LawPure : Prop := ∀ sc : List Int, sc.length ≤ 3072 → (∀ x ∈ sc, xi32 x) → ∃ (R : xR) (M : xM), f_law sc xR0 xM0 = some (1, R, M)
def xRfull (R : xR) : Prop := ∀ i, i < 174 → xk i < 20 → ∀ k, k < xnf (xk i) → 3 ≤ xfc (xk i) k → R i k ≠ 0
set_option maxRecDepth 100000 in
set_option maxHeartbeats 4000000 in
theorem xR0_full : xRfull xR0 := by
  unfold xRfull
  decide +kernel
set_option maxHeartbeats 4000000 in
theorem xW_callI {cm : Bool} {d E : Nat} {sc : List Int} {y : xY} {pc : Nat} {ls : xL} {st : List xV} {R : xR} {M : xM} {nx : Nat} {X : xX} {g : xG} {n0 : Nat} {Q : State → Prop} (hC : xCx d E sc y X g n0) (o : Nat) (hy : y.1.cls = xown o) {y1 : xY} {n idx : Nat} {rest : List xV} {d1 E1 : Nat} {o1 : xO} (hw : xMw 2 y1 n) (hlink : Cond.methodLink (xown o) idx y1.1 ∈ xws) (kd j : Nat) (hkd : kd < 11) (As : List xV) (hn : As.length = n) (hst : st = As.reverse ++ .inr (kd, j) :: rest) (hC1 : XC cm d1 sc y1 (.inr (kd, j) :: As) R M nx E1 o1) (hd1 : d1 + 1 ≤ d) (hcat : xaw rest ≤ 8) (hdec : decode y.2.1 pc = .ok (.invokespecial idx, 3)) (hE1 : nx ≤ E1) (hE2 : E1 ≤ E) (k1 : xW cm y.2.2.1 X g n0 Q (pc + 3, ls, o1.1.toList ++ rest, o1.2.1, o1.2.2, E1)) : xW cm y.2.2.1 X g n0 Q (pc, ls, st, R, M, nx) := by
  obtain ⟨p, l, e, Rm, s, m, args, below, meth, c⟩ := X
  obtain ⟨hx, hb, hml, hown, hts, hF, hNs, hfr, hlo, hnm, hrt, hlk, hce, hsl, hE4⟩ := hC
  have hfm := hF.2.2.2.2.2.2.2.2.2
  rw [hy] at hown
  intro H locs cells slots mls hP hS hcl hsz hl hls hst0
  dsimp only at hP hS hcl hsz hl hls hst0 ⊢
  subst hst
  have hrest : ∀ v ∈ rest, xok nx v := fun v q => hst0 v (List.mem_append_right _ (List.mem_cons_of_mem _ q))
  have hm1 := xsz_mono hE1 (Nat.le_trans hE2 hE4)
  have hm2 := xsz_mono hE2 hE4
  obtain ⟨hw1, hw2, hw3, hw4, hw5⟩ := hw
  have hj : xvr nx kd j := hst0 _ (List.mem_append_right _ List.mem_cons_self)
  have hAs : ∀ a ∈ Sum.inr (kd, j) :: As, xok nx a := List.forall_mem_cons.mpr ⟨hj, fun a q => hst0 a (List.mem_append_left _ (List.mem_reverse.mpr q))⟩
  have hne : kd ≠ 96 := by omega
  have hret : xwd y1 = Cond.code y1.1 y1.2.1 y1.2.2.1 none :: xws := by rw [← hw5.2.2]
  have HR : (xroom d1 nx E1).frames + 1 ≤ Rm.frames ∧ 8 + (y1.2.2.1 + 11) + (xroom d1 nx E1).locals ≤ Rm.locals := ⟨by show d1 + 1 ≤ _; omega, by show 8 + (y1.2.2.1 + 11) + 60 * d1 ≤ _; omega⟩
  have hrun := va_runI (p := p) (e := e) (below := below) (meth := meth) (cells := cells) (slots := slots) (locs := locs) (H := H) (R := Rm) (b := xad g kd j) (bytes := y1.2.1) (maxL := y1.2.2.1) (As := As.map (xc g)) (rest := rest.map (xc g)) (g := F0 m pc mls ((As.reverse ++ .inr (kd, j) :: rest).map (xc g))) (own := xown o) (Ts := xws) ⟨hx, hb, hml, hown, hts⟩ (hC1 l g)
    ⟨callB_of n hts (xgood hw1) hret rfl rfl (hts _ hw2) (hts _ hlink) hw3 HR, hw5.2.1, hts _ hw5.1⟩
    ⟨xFb, fun U hU hW => ⟨by rw [← xc_ref hne]; rfl, by rw [hU]; exact hP, xF_move hW hS hU hF, xNs_move hW hNs, hAs⟩⟩ rfl (by rw [List.length_map]; exact hn) hl.1 (by show ((As.reverse ++ .inr (kd, j) :: rest).map (xc g)) = _; rw [List.map_append, List.map_reverse, List.map_cons, xc_ref hne]) (by rw [xaw_sum hfm]; show 2 * 0 + _ ≤ 8; omega) hdec ⟨by omega, by omega⟩
  refine xcont hrun hS fun H1 locs1 hP1 hS1 hok1 => ?_
  have k2 := k1 H1 locs1 (cells + (E1 - nx)) (slots + (xsz E1 - xsz nx)) mls hP1 hS1 (by show cells + (E1 - nx) + n0 = E1; omega) (by show slots + (xsz E1 - xsz nx) + xsz n0 = xsz E1; omega) hl (fun q hq => xok_mono hE1 (hls q hq)) (fun v hv => by
    rcases List.mem_append.mp hv with h | h
    · exact hok1 v (by cases ho : o1.1 with
        | none => rw [ho] at h; cases h
        | some w => rw [ho] at h; rw [List.mem_singleton.mp h])
    · exact xok_mono hE1 (hrest v h))
  rw [List.map_append] at k2
  exact k2

/-- from the making of things to their use -/
theorem xW_turn {nL : Nat} {X : xX} {g : xG} {n0 : Nat} {Q : State → Prop} {pc : Nat} {ls : xL} {st : List xV} {R : xR} {M : xM} (hR : xRfull R) (h : xW false nL X g n0 Q (pc, ls, st, R, M, 174)) : xW true nL X g n0 Q (pc, ls, st, R, M, 174) := by
  obtain ⟨p, l, e, Rm, s, m, args, below, meth, c⟩ := X
  intro H locs cells slots mls hP hS hcl hsz hl hls hst
  refine h H locs cells slots mls ⟨hP.1, fun q => absurd q (by decide), hP.2.2.1, fun i k f h1 h2 h3 h4 h5 => ?_, hP.2.2.2.2⟩ hS hcl hsz hl hls hst
  have hne : R i k ≠ 0 := hR i h2 h3 k h4 (by omega)
  rcases hP.2.2.2.1 i k f h1 h2 h3 h4 h5 with ⟨q, -⟩ | q
  · exact absurd q hne
  · exact Or.inr q
theorem dq {nm : String} {qs : List xI} (h : qs.all (xqb 11 false 4 code) = true) : qs.all (xqb 11 false (yW nm).2.2.1 (yW nm).2.1) = true := h
theorem x0l : xi64 0 := ⟨by decide, by decide⟩
theorem xsz_174 : xsz 174 = 13213 := by decide +kernel
theorem xsz_1 : xsz 1 = 0 := by decide +kernel
set_option maxRecDepth 100000 in
set_option maxHeartbeats 8000000 in
/-- from the entry, for every script of at most 3072 ints, the law comes to its end with true: out of the plain functions -/
theorem whole_start_of (HP : LawPure) {p : Program} {e : Env} {s : State} {m : MethodId} {below : List Frame} {meth : Method} {c : Code} (l : Launch) {b L : Nat} {xs : Nat → Int32} (hL : L ≤ 3072) (C0 : lw_At p s m meth c b L xs) : W p l e room_1 s m #[Value.ref b] below meth c s.heap [] 0 0 (lw_Z below #[Value.ref b] s) (entryFrame m ([Value.ref b] : List Value).toArray 4) := by
  obtain ⟨g, hgb, hgs, hF, hN, hts⟩ := xfacts hL C0
  obtain ⟨hx, hb, hr, hml, hown, -, -, hbl, hlk, -⟩ := C0
  generalize hsc : ((List.range L).map fun j => (xs j).toInt) = sc at hF
  have hlen : sc.length ≤ 3072 := by rw [← hsc]; simpa using hL
  have hrng : ∀ x ∈ sc, xi32 x := by
    intro x hx
    rw [← hsc] at hx
    obtain ⟨j, -, rfl⟩ := List.mem_map.mp hx
    exact xi32_of _
  obtain ⟨R1, M1, hlaw⟩ := HP sc hlen hrng
  have hfm := hF.2.2.2.2.2.2.2.2.2
  have hC : xCx 54 174 sc (yW meth.name) (p, l, e, room_1, s, m, #[Value.ref b], below, meth, c) g 1 := ⟨hx, hb, hml, hown, hts, hF, hN, by show 54 ≤ 2048; decide, by show 60 * 54 ≤ 84000; decide, rfl, hr, hlk, by show 174 ≤ 1 + 600000; decide, by rw [xsz_174, xsz_1]; show 13213 ≤ 0 + 7302250; decide, Nat.le_refl _⟩
  have hret : ∀ cm : Bool, xRt cm 174 (yW meth.name) (p, l, e, room_1, s, m, #[Value.ref b], below, meth, c) g 1 (lw_Z below #[Value.ref b] s) (some (vI 1), R1, M1) := by
    intro cm H locs cells slots mls pc hP1 hS1 hc1 hs1 hok1 hnr hd
    rw [xsz_174, xsz_1] at hs1
    refine va_forget (fun q hq => ?_) ?_
    · have := hS1.2.2 q hq
      rw [← hgb]
      exact this
    · refine W.widen (k := 600000) (n := 7302250) (by omega) (by omega) ?_
      exact lw_ret hx hb hr hlk hd
  have hl := lv_entry ([Value.ref b]) (n := 4) (Nat.le_of_ble_eq_true rfl)
  rw [lg_entry_eq]
  generalize (lg_sl ([Value.ref b]) ++ List.replicate (4 - (lg_sl ([Value.ref b])).length) Slot.unset).toArray = mls at hl ⊢
  have hbv : xc g (vR 97 0) = .ref b := by rw [← hgs]; rfl
  have hl2 : lv_has mls 4 (xcl2 g [(0, vR 97 0)]) := by
    show lv_has mls 4 [(0, xc g (vR 97 0))]
    rw [hbv]
    exact hl
  have hfin : xW false 4 (p, l, e, room_1, s, m, #[Value.ref b], below, meth, c) g 1 (lw_Z below #[Value.ref b] s) (16, [(0, vR 97 0), (1, vR 9 1), (2, vR 10 104)], [], xR0, xM0, 174) := o_law hlaw _ g 1 _ hC (hret false)
  have h16 := xW_turn xR0_full hfin
  have hgo : xW true 4 (p, l, e, room_1, s, m, #[Value.ref b], below, meth, c) g 1 (lw_Z below #[Value.ref b] s) (0, [(0, vR 97 0)], [], (fun _ _ => 0), (fun _ _ => 0), 1) := by
    refine xseg (o := 11) (ini := false) hC rfl (fun q => by cases q) [(0, .new 7, 9, 0), (3, .dup, 0, 0)] (dq (by decide +kernel)) (z' := (4, [(0, vR 97 0)], [vR 9 1, vR 9 1], xz (fun _ _ => 0) 1 0, xz (fun _ _ => 0) 1 0, 2)) (cs := [9 < 20 ∧ xk 1 = 9]) rfl ⟨by decide, trivial⟩ (by decide) ?_
    refine xW_callI hC 11 rfl (rest := [vR 9 1]) (idx := 9) (n := 0) m_X_init k_11_9 9 1 (by decide) [] rfl rfl (ic_14 (R := xz (fun _ _ => 0) 1 0) (M := xz (fun _ _ => 0) 1 0)) (by decide) (Nat.le_of_ble_eq_true rfl) (dl (by decide +kernel)) (by decide) (by decide) ?_
    refine xseg (o := 11) (ini := false) hC rfl (fun q => by cases q) [(7, .astore_n 1, 0, 0), (8, .new 10, 10, 0), (11, .dup, 0, 0)] (dq (by decide +kernel)) (z' := (12, [(1, vR 9 1), (0, vR 97 0)], [vR 10 104, vR 10 104], xz (iR_14 (xz (fun _ _ => 0) 1 0)) 104 0, xz (iM_14 (xz (fun _ _ => 0) 1 0)) 104 0, 105)) (cs := [9 ≠ 96, 10 < 20 ∧ xk 104 = 10]) rfl ⟨by decide, by decide, trivial⟩ (by decide) ?_
    refine xW_callI hC 11 rfl (rest := [vR 10 104]) (idx := 12) (n := 0) m_M_init k_11_12 10 104 (by decide) [] rfl rfl (ic_15 (R := xz (iR_14 (xz (fun _ _ => 0) 1 0)) 104 0) (M := xz (iM_14 (xz (fun _ _ => 0) 1 0)) 104 0)) (by decide) (Nat.le_of_ble_eq_true rfl) (dl (by decide +kernel)) (by decide) (by decide) ?_
    refine xseg (o := 11) (ini := false) hC rfl (fun q => by cases q) [(15, .astore_n 2, 0, 0)] (dq (by decide +kernel)) (z' := (16, [(2, vR 10 104), (1, vR 9 1), (0, vR 97 0)], [], xR0, xM0, 174)) (cs := [10 ≠ 96]) rfl ⟨by decide, trivial⟩ (by decide) ?_
    intro H locs cells slots mls hP hS hcl hsz hl hls hst
    refine h16 H locs cells slots mls hP hS hcl hsz ⟨hl.1, hl.2.1, fun q hq => hl.2.2 q ?_⟩ (fun q hq => hls q ?_) hst
    · simp only [xcl2, List.map_cons, List.map_nil, List.mem_cons, List.not_mem_nil, or_false] at hq ⊢
      rcases hq with rfl | rfl | rfl <;> simp
    · simp only [List.mem_cons, List.not_mem_nil, or_false] at hq ⊢
      rcases hq with rfl | rfl | rfl <;> simp
  refine hgo s.heap [] 0 0 mls ⟨Nat.le_refl _, fun _ => hgb.symm, fun i h1 h2 => ?_, fun i k f h1 h2 => ?_, fun i k => ⟨fun _ => x0i, fun _ => x0l⟩⟩ va_S.rf rfl (by rw [Nat.zero_add]) hl2 (fun q hq => ?_) (fun v hv => by cases hv)
  · exact absurd h2 (by show ¬ i < 1; omega)
  · exact absurd h2 (by show ¬ i < 1; omega)
  · rw [List.mem_singleton.mp hq]
    exact ⟨fun q => absurd q (by decide), fun q => absurd q (by decide)⟩
