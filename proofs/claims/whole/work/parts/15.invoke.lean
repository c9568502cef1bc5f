theorem xFb {g : xG} {cm : Bool} {sc : List Int} {As : List xV} {R : xR} {M : xM} {nx : Nat} : FrameBlind (xPc g cm sc As R M nx) := by
  intro a U f mk h
  obtain ⟨h1, h2, h3, h4, h5⟩ := h
  exact ⟨h1, h2, xF_same rfl rfl h3, xNs_same rfl h4, h5⟩
theorem xaw_sum {g : xG} (hf : gf g = .null ∨ ∃ a, gf g = .ref a) : ∀ r : List xV, ((r.map (xc g)).map fun v => v.category).sum = xaw r := by
  intro r
  induction r with
  | nil => rfl
  | cons v t ih =>
    rw [List.map_cons, List.map_cons, List.sum_cons, ih, xcat hf v]
    show _ = cond (xlong v) 2 1 + xaw t
    cases xlong v <;> rfl
theorem xgood {y : xY} (h : Cond.code y.1 y.2.1 y.2.2.1 y.2.2.2 ∈ xws) : GoodIn xws (xwd y) := by
  intro w hw
  have hm : w ∈ xws := by
    rcases List.mem_cons.mp hw with rfl | hw
    · exact h
    · exact hw
  exact ⟨hm, good_of_word (List.mem_filter.mp hm).2⟩
/-- what the tables say of a method: 0 static, 1 of an object, 2 a constructor -/
def xMw (kd : Nat) (y : xY) (np : Nat) : Prop := Cond.code y.1 y.2.1 y.2.2.1 y.2.2.2 ∈ xws ∧ Cond.initialized y.1.cls ∈ xws ∧ (y.1.cls ≠ "java/lang/invoke/MethodHandle" ∧ y.1.cls ≠ "java/lang/invoke/VarHandle" ∧ (parseMethodDescriptor y.1.desc).map (fun d => d.parameters.length) = some np) ∧ y.2.2.1 ≤ 41 ∧
  (match kd with
  | 0 => Cond.static y.1 ∈ xws
  | 1 => Cond.instanceMethod y.1 ∈ xws ∧ Cond.selects y.1.cls y.1 y.1 ∈ xws
  | _ => Cond.instanceMethod y.1 ∈ xws ∧ y.1.name = "<init>" ∧ y.2.2.2 = none)
section XCL
variable {p : Program} {l : Launch} {e : Env} {Rm : Room} {s : State} {m : MethodId} {args : Array Value} {below : List Frame} {meth : Method} {c : Code} {H : Heap} {locs : List Loc} {cells slots : Nat} {Q : State → Prop} {cc : ByteArray} {pc : Nat} {mls : Array Slot} {rest st0 : List Value}
theorem xcont {g : xG} {cm : Bool} {E1 mc ms : Nat} {o1 : xO} {a : Array Value} (hr : va_Run p l e Rm s m args below meth c H locs cells slots mc ms (F0 m pc mls st0) rest (xQc g cm E1 o1 a) (xA g)) (hS : va_S (xA g) s.heap H locs)
    (kk : ∀ (H1 : Heap) (locs1 : List Loc), xP g cm o1.2.1 o1.2.2 E1 H1 → va_S (xA g) s.heap H1 locs1 → (∀ v, o1.1 = some v → xok E1 v) → W p l e Rm s m args below meth c H1 locs1 (cells + mc) (slots + ms) Q (F0 m (pc + 3) mls (o1.1.toList.map (xc g) ++ rest))) : W p l e Rm s m args below meth c H locs cells slots Q (F0 m pc mls st0) := by
  intro T hT X
  obtain ⟨v, st₀, t, T', L, h0, X', hL, e1, e2, ⟨hv, hP1, ⟨hz, hk⟩, hok⟩, st⟩ := hr T hT X
  have hv : v = o1.1.map (xc g) := by cases hv; rfl
  subst hv
  rw [h0] at hz hk
  obtain ⟨t2, a1, b1⟩ := kk T'.heap (locs ++ L) (by rw [e1]; exact hP1)
    ⟨Nat.le_trans hS.1 (by rw [e1]; exact hz), fun q h1 h2 => by rw [e1, hk q (Nat.lt_of_lt_of_le h1 hS.1) h2]; exact hS.2.1 q h1 h2, fun q hq => by
      rcases List.mem_append.mp hq with h | h
      · exact hS.2.2 q h
      · exact hL q h⟩ hok T' rfl X'
  refine ⟨t2, st t2 ?_, b1⟩
  have e3 : (o1.1.map (xc g)).toList = o1.1.toList.map (xc g) := by cases o1.1 <;> rfl
  rw [e3]
  exact a1
end XCL
set_option maxHeartbeats 4000000 in
theorem XR.callS {cm : Bool} {d E : Nat} {sc : List Int} {y : xY} {pc : Nat} {ls : xL} {st : List xV} {R : xR} {M : xM} {nx : Nat} {out : xO} (o : Nat) (hy : y.1.cls = xown o) {y1 : xY} {n idx : Nat} {rest : List xV} {d1 E1 : Nat} {o1 : xO} (hw : xMw 0 y1 n) (hlink : Cond.methodLink (xown o) idx y1.1 ∈ xws) (As : List xV) (hn : As.length = n) (hst : st = As.reverse ++ rest) (hC1 : XC cm d1 sc y1 As R M nx E1 o1) (hd1 : d1 + 1 ≤ d) (hcat : xaw rest ≤ 8) (hdec : decode y.2.1 pc = .ok (.invokestatic idx, 3)) (hE1 : nx ≤ E1) (hE2 : E1 ≤ E) (k : XR cm d E sc y (pc + 3, ls, o1.1.toList ++ rest, o1.2.1, o1.2.2, E1) out) : XR cm d E sc y (pc, ls, st, R, M, nx) out := by
  intro X g n0 Q hC hR
  have k1 := k X g n0 Q hC hR
  obtain ⟨p, l, e, Rm, s, m, args, below, meth, c⟩ := X
  obtain ⟨hx, hb, hml, hown, hts, hF, hNs, hfr, hlo, hnm, hrt, hlk, hce, hsl, hE4⟩ := hC
  have hfm := hF.2.2.2.2.2.2.2.2.2
  rw [hy] at hown
  intro H locs cells slots mls hP hS hcl hsz hl hls hst0
  dsimp only at hP hS hcl hsz hl hls hst0 ⊢
  subst hst
  have hrest : ∀ v ∈ rest, xok nx v := fun v q => hst0 v (List.mem_append_right _ q)
  have hm1 := xsz_mono hE1 (Nat.le_trans hE2 hE4)
  have hm2 := xsz_mono hE2 hE4
  obtain ⟨hw1, hw2, hw3, hw4, hw5⟩ := hw
  have hAs : ∀ a ∈ As, xok nx a := fun a q => hst0 a (List.mem_append_left _ (List.mem_reverse.mpr q))
  have hrun := va_runS (p := p) (e := e) (below := below) (meth := meth) (cells := cells) (slots := slots) (locs := locs) (H := H) (R := Rm) (As := As.map (xc g)) (rest := rest.map (xc g)) (g := F0 m pc mls ((As.reverse ++ rest).map (xc g))) (own := xown o) (Ts := xws) ⟨hx, hb, hml, hown, hts⟩ (hC1 l g)
    ⟨callB_of n hts (xgood hw1) rfl rfl rfl (hts _ hw2) (hts _ hlink) hw3 ⟨by show d1 + 1 ≤ _; omega, by show 8 + (y1.2.2.1 + 11) + 60 * d1 ≤ _; omega⟩, hts _ hw5⟩
    ⟨xFb, fun U hU hW => ⟨rfl, by rw [hU]; exact hP, xF_move hW hS hU hF, xNs_move hW hNs, hAs⟩⟩ rfl (by rw [List.length_map]; exact hn) hl.1 (by show ((As.reverse ++ rest).map (xc g)) = _; rw [List.map_append, List.map_reverse]) (by rw [xaw_sum hfm]; show 2 * 0 + _ ≤ 8; omega) hdec ⟨by omega, by omega⟩
  refine xcont hrun hS fun H1 locs1 hP1 hS1 hok1 => ?_
  have k2 := k1 H1 locs1 (cells + (E1 - nx)) (slots + (xsz E1 - xsz nx)) mls hP1 hS1 (by show cells + (E1 - nx) + n0 = E1; omega) (by show slots + (xsz E1 - xsz nx) + xsz n0 = xsz E1; omega) hl (fun q hq => xok_mono hE1 (hls q hq)) (fun v hv => by
    rcases List.mem_append.mp hv with h | h
    · exact hok1 v (by cases ho : o1.1 with
        | none => rw [ho] at h; cases h
        | some w => rw [ho] at h; rw [List.mem_singleton.mp h])
    · exact xok_mono hE1 (hrest v h))
  rw [List.map_append] at k2
  exact k2
set_option maxHeartbeats 4000000 in
theorem XR.callV {cm : Bool} {d E : Nat} {sc : List Int} {y : xY} {pc : Nat} {ls : xL} {st : List xV} {R : xR} {M : xM} {nx : Nat} {out : xO} (o : Nat) (hy : y.1.cls = xown o) {y1 : xY} {n idx : Nat} {rest : List xV} {d1 E1 : Nat} {o1 : xO} (hw : xMw 1 y1 n) (hlink : Cond.methodLink (xown o) idx y1.1 ∈ xws) (kd j : Nat) (hkd : (kd < 11 ∧ y1.1.cls = xown kd) ∨ (kd = 99 ∧ y1.1.cls = "java/lang/String")) (As : List xV) (hn : As.length = n) (hst : st = As.reverse ++ .inr (kd, j) :: rest) (hC1 : XC cm d1 sc y1 (.inr (kd, j) :: As) R M nx E1 o1) (hd1 : d1 + 1 ≤ d) (hcat : xaw rest ≤ 8) (hdec : decode y.2.1 pc = .ok (.invokevirtual idx, 3)) (hE1 : nx ≤ E1) (hE2 : E1 ≤ E) (k : XR cm d E sc y (pc + 3, ls, o1.1.toList ++ rest, o1.2.1, o1.2.2, E1) out) : XR cm d E sc y (pc, ls, st, R, M, nx) out := by
  intro X g n0 Q hC hR
  have k1 := k X g n0 Q hC hR
  obtain ⟨p, l, e, Rm, s, m, args, below, meth, c⟩ := X
  obtain ⟨hx, hb, hml, hown, hts, hF, hNs, hfr, hlo, hnm, hrt, hlk, hce, hsl, hE4⟩ := hC
  have hfm := hF.2.2.2.2.2.2.2.2.2
  rw [hy] at hown
  intro H locs cells slots mls hP hS hcl hsz hl hls hst0
  dsimp only at hP hS hcl hsz hl hls hst0 ⊢
  subst hst
  have hrest : ∀ v ∈ rest, xok nx v := fun v q => hst0 v (List.mem_append_right _ (List.mem_cons_of_mem _ q))
  have hm1 := xsz_mono hE1 (Nat.le_trans hE2 hE4)
  have hm2 := xsz_mono hE2 hE4
  obtain ⟨hw1, hw2, hw3, hw4, hw5⟩ := hw
  have hj : xvr nx kd j := hst0 _ (List.mem_append_right _ List.mem_cons_self)
  have hAs : ∀ a ∈ Sum.inr (kd, j) :: As, xok nx a := List.forall_mem_cons.mpr ⟨hj, fun a q => hst0 a (List.mem_append_left _ (List.mem_reverse.mpr q))⟩
  have hne : kd ≠ 96 := by rcases hkd with ⟨h, -⟩ | ⟨h, -⟩ <;> omega
  have hrec : ∃ cellB : Cell, H[xad g kd j]? = some cellB ∧ cellB.vm.isStatics = false ∧ s.vm.findClass y1.1.cls = some cellB.cls := by
    rcases hkd with ⟨h1, h2⟩ | ⟨rfl, h2⟩
    · obtain ⟨hj1, hj2, hj3⟩ := hj.1 (by omega)
      have hat := hP.2.2.1 j hj1 hj2
      rw [xE_obj hj3 (by omega)] at hat
      have := va_recv hF.1 (xPone hat) (xCl_of h1).1 (q0 := 0) rfl
      rw [h2]
      unfold xad
      rw [if_pos (by omega)]
      exact this
    · have hj7 := hj.2 (Or.inr rfl)
      rw [h2]
      exact vk_recv hF.2.1 (i := j - 1) (by omega) hS
  have hrun := va_runV (p := p) (e := e) (below := below) (meth := meth) (cells := cells) (slots := slots) (locs := locs) (H := H) (R := Rm) (b := xad g kd j) (C := y1.1.cls) (As := As.map (xc g)) (rest := rest.map (xc g)) (g := F0 m pc mls ((As.reverse ++ .inr (kd, j) :: rest).map (xc g))) (own := xown o) (Ts := xws) ⟨hx, hb, hml, hown, hts⟩ (hC1 l g)
    ⟨callB_of n hts (xgood hw1) rfl rfl rfl (hts _ hw2) (hts _ hlink) hw3 ⟨by show d1 + 1 ≤ _; omega, by show 8 + (y1.2.2.1 + 11) + 60 * d1 ≤ _; omega⟩, hts _ hw5.1, hts _ hw5.2⟩
    ⟨xFb, hrec, fun U hU hW => ⟨by rw [← xc_ref hne]; rfl, by rw [hU]; exact hP, xF_move hW hS hU hF, xNs_move hW hNs, hAs⟩⟩ rfl (by rw [List.length_map]; exact hn) hl.1 (by show ((As.reverse ++ .inr (kd, j) :: rest).map (xc g)) = _; rw [List.map_append, List.map_reverse, List.map_cons, xc_ref hne]) (by rw [xaw_sum hfm]; show 2 * 0 + _ ≤ 8; omega) hdec ⟨by omega, by omega⟩
  refine xcont hrun hS fun H1 locs1 hP1 hS1 hok1 => ?_
  have k2 := k1 H1 locs1 (cells + (E1 - nx)) (slots + (xsz E1 - xsz nx)) mls hP1 hS1 (by show cells + (E1 - nx) + n0 = E1; omega) (by show slots + (xsz E1 - xsz nx) + xsz n0 = xsz E1; omega) hl (fun q hq => xok_mono hE1 (hls q hq)) (fun v hv => by
    rcases List.mem_append.mp hv with h | h
    · exact hok1 v (by cases ho : o1.1 with
        | none => rw [ho] at h; cases h
        | some w => rw [ho] at h; rw [List.mem_singleton.mp h])
    · exact xok_mono hE1 (hrest v h))
  rw [List.map_append] at k2
  exact k2
set_option maxHeartbeats 4000000 in
theorem XR.callI {cm : Bool} {d E : Nat} {sc : List Int} {y : xY} {pc : Nat} {ls : xL} {st : List xV} {R : xR} {M : xM} {nx : Nat} {out : xO} (o : Nat) (hy : y.1.cls = xown o) {y1 : xY} {n idx : Nat} {rest : List xV} {d1 E1 : Nat} {o1 : xO} (hw : xMw 2 y1 n) (hlink : Cond.methodLink (xown o) idx y1.1 ∈ xws) (kd j : Nat) (hkd : kd < 11) (As : List xV) (hn : As.length = n) (hst : st = As.reverse ++ .inr (kd, j) :: rest) (hC1 : XC cm d1 sc y1 (.inr (kd, j) :: As) R M nx E1 o1) (hd1 : d1 + 1 ≤ d) (hcat : xaw rest ≤ 8) (hdec : decode y.2.1 pc = .ok (.invokespecial idx, 3)) (hE1 : nx ≤ E1) (hE2 : E1 ≤ E) (k : XR cm d E sc y (pc + 3, ls, o1.1.toList ++ rest, o1.2.1, o1.2.2, E1) out) : XR cm d E sc y (pc, ls, st, R, M, nx) out := by
  intro X g n0 Q hC hR
  have k1 := k X g n0 Q hC hR
  obtain ⟨p, l, e, Rm, s, m, args, below, meth, c⟩ := X
  obtain ⟨hx, hb, hml, hown, hts, hF, hNs, hfr, hlo, hnm, hrt, hlk, hce, hsl, hE4⟩ := hC
  have hfm := hF.2.2.2.2.2.2.2.2.2
  rw [hy] at hown
  intro H locs cells slots mls hP hS hcl hsz hl hls hst0
  dsimp only at hP hS hcl hsz hl hls hst0 ⊢
  subst hst
  have hrest : ∀ v ∈ rest, xok nx v := fun v q => hst0 v (List.mem_append_right _ (List.mem_cons_of_mem _ q))
  have hm1 := xsz_mono hE1 (Nat.le_trans hE2 hE4)
  have hm2 := xsz_mono hE2 hE4
  obtain ⟨hw1, hw2, hw3, hw4, hw5⟩ := hw
  have hj : xvr nx kd j := hst0 _ (List.mem_append_right _ List.mem_cons_self)
  have hAs : ∀ a ∈ Sum.inr (kd, j) :: As, xok nx a := List.forall_mem_cons.mpr ⟨hj, fun a q => hst0 a (List.mem_append_left _ (List.mem_reverse.mpr q))⟩
  have hne : kd ≠ 96 := by omega
  have hret : xwd y1 = Cond.code y1.1 y1.2.1 y1.2.2.1 none :: xws := by rw [← hw5.2.2]
  have HR : (xroom d1 nx E1).frames + 1 ≤ Rm.frames ∧ 8 + (y1.2.2.1 + 11) + (xroom d1 nx E1).locals ≤ Rm.locals := ⟨by show d1 + 1 ≤ _; omega, by show 8 + (y1.2.2.1 + 11) + 60 * d1 ≤ _; omega⟩
  have hrun := va_runI (p := p) (e := e) (below := below) (meth := meth) (cells := cells) (slots := slots) (locs := locs) (H := H) (R := Rm) (b := xad g kd j) (bytes := y1.2.1) (maxL := y1.2.2.1) (As := As.map (xc g)) (rest := rest.map (xc g)) (g := F0 m pc mls ((As.reverse ++ .inr (kd, j) :: rest).map (xc g))) (own := xown o) (Ts := xws) ⟨hx, hb, hml, hown, hts⟩ (hC1 l g)
    ⟨callB_of n hts (xgood hw1) hret rfl rfl (hts _ hw2) (hts _ hlink) hw3 HR, hw5.2.1, hts _ hw5.1⟩
    ⟨xFb, fun U hU hW => ⟨by rw [← xc_ref hne]; rfl, by rw [hU]; exact hP, xF_move hW hS hU hF, xNs_move hW hNs, hAs⟩⟩ rfl (by rw [List.length_map]; exact hn) hl.1 (by show ((As.reverse ++ .inr (kd, j) :: rest).map (xc g)) = _; rw [List.map_append, List.map_reverse, List.map_cons, xc_ref hne]) (by rw [xaw_sum hfm]; show 2 * 0 + _ ≤ 8; omega) hdec ⟨by omega, by omega⟩
  refine xcont hrun hS fun H1 locs1 hP1 hS1 hok1 => ?_
  have k2 := k1 H1 locs1 (cells + (E1 - nx)) (slots + (xsz E1 - xsz nx)) mls hP1 hS1 (by show cells + (E1 - nx) + n0 = E1; omega) (by show slots + (xsz E1 - xsz nx) + xsz n0 = xsz E1; omega) hl (fun q hq => xok_mono hE1 (hls q hq)) (fun v hv => by
    rcases List.mem_append.mp hv with h | h
    · exact hok1 v (by cases ho : o1.1 with
        | none => rw [ho] at h; cases h
        | some w => rw [ho] at h; rw [List.mem_singleton.mp h])
    · exact xok_mono hE1 (hrest v h))
  rw [List.map_append] at k2
  exact k2
set_option maxHeartbeats 4000000 in
theorem XR.callN {cm : Bool} {d E : Nat} {sc : List Int} {y : xY} {pc : Nat} {ls : xL} {st : List xV} {R : xR} {M : xM} {nx : Nat} {out : xO} (o : Nat) (hy : y.1.cls = xown o) {y1 : xY} {n idx : Nat} {rest : List xV} {d1 E1 : Nat} {o1 : xO} (hw : xMw 2 y1 n) (host : String) (hlink : (xown o, idx, y1.1, host) ∈ xnest) (kd j : Nat) (hkd : kd < 11) (As : List xV) (hn : As.length = n) (hst : st = As.reverse ++ .inr (kd, j) :: rest) (hC1 : XC cm d1 sc y1 (.inr (kd, j) :: As) R M nx E1 o1) (hd1 : d1 + 1 ≤ d) (hcat : xaw rest ≤ 8) (hdec : decode y.2.1 pc = .ok (.invokespecial idx, 3)) (hE1 : nx ≤ E1) (hE2 : E1 ≤ E) (k : XR cm d E sc y (pc + 3, ls, o1.1.toList ++ rest, o1.2.1, o1.2.2, E1) out) : XR cm d E sc y (pc, ls, st, R, M, nx) out := by
  intro X g n0 Q hC hR
  have k1 := k X g n0 Q hC hR
  obtain ⟨p, l, e, Rm, s, m, args, below, meth, c⟩ := X
  obtain ⟨hx, hb, hml, hown, hts, hF, hNs, hfr, hlo, hnm, hrt, hlk, hce, hsl, hE4⟩ := hC
  have hfm := hF.2.2.2.2.2.2.2.2.2
  rw [hy] at hown
  intro H locs cells slots mls hP hS hcl hsz hl hls hst0
  dsimp only at hP hS hcl hsz hl hls hst0 ⊢
  subst hst
  have hrest : ∀ v ∈ rest, xok nx v := fun v q => hst0 v (List.mem_append_right _ (List.mem_cons_of_mem _ q))
  have hm1 := xsz_mono hE1 (Nat.le_trans hE2 hE4)
  have hm2 := xsz_mono hE2 hE4
  obtain ⟨hw1, hw2, hw3, hw4, hw5⟩ := hw
  have hj : xvr nx kd j := hst0 _ (List.mem_append_right _ List.mem_cons_self)
  have hAs : ∀ a ∈ Sum.inr (kd, j) :: As, xok nx a := List.forall_mem_cons.mpr ⟨hj, fun a q => hst0 a (List.mem_append_left _ (List.mem_reverse.mpr q))⟩
  have hne : kd ≠ 96 := by omega
  have hret : xwd y1 = Cond.code y1.1 y1.2.1 y1.2.2.1 none :: xws := by rw [← hw5.2.2]
  have HR : (xroom d1 nx E1).frames + 1 ≤ Rm.frames ∧ 8 + (y1.2.2.1 + 11) + (xroom d1 nx E1).locals ≤ Rm.locals := ⟨by show d1 + 1 ≤ _; omega, by show 8 + (y1.2.2.1 + 11) + 60 * d1 ≤ _; omega⟩
  have hrun := va_runIN (p := p) (e := e) (below := below) (meth := meth) (cells := cells) (slots := slots) (locs := locs) (H := H) (R := Rm) (b := xad g kd j) (bytes := y1.2.1) (maxL := y1.2.2.1) (As := As.map (xc g)) (rest := rest.map (xc g)) (g := F0 m pc mls ((As.reverse ++ .inr (kd, j) :: rest).map (xc g))) (own := xown o) (Ts := xws) ⟨hx, hb, hml, hown, hts⟩ (hC1 l g)
    ⟨va_cnB n hts (xgood hw1) hret rfl rfl (hNs _ hlink) (hts _ hw2) hw3 HR, hw5.2.1, hts _ hw5.1⟩
    ⟨xFb, fun U hU hW => ⟨by rw [← xc_ref hne]; rfl, by rw [hU]; exact hP, xF_move hW hS hU hF, xNs_move hW hNs, hAs⟩⟩ rfl (by rw [List.length_map]; exact hn) hl.1 (by show ((As.reverse ++ .inr (kd, j) :: rest).map (xc g)) = _; rw [List.map_append, List.map_reverse, List.map_cons, xc_ref hne]) (by rw [xaw_sum hfm]; show 2 * 0 + _ ≤ 8; omega) hdec ⟨by omega, by omega⟩
  refine xcont hrun hS fun H1 locs1 hP1 hS1 hok1 => ?_
  have k2 := k1 H1 locs1 (cells + (E1 - nx)) (slots + (xsz E1 - xsz nx)) mls hP1 hS1 (by show cells + (E1 - nx) + n0 = E1; omega) (by show slots + (xsz E1 - xsz nx) + xsz n0 = xsz E1; omega) hl (fun q hq => xok_mono hE1 (hls q hq)) (fun v hv => by
    rcases List.mem_append.mp hv with h | h
    · exact hok1 v (by cases ho : o1.1 with
        | none => rw [ho] at h; cases h
        | some w => rw [ho] at h; rw [List.mem_singleton.mp h])
    · exact xok_mono hE1 (hrest v h))
  rw [List.map_append] at k2
  exact k2
set_option maxHeartbeats 4000000 in
theorem XR.callO {cm : Bool} {d E : Nat} {sc : List Int} {y : xY} {pc : Nat} {ls : xL} {R : xR} {M : xM} {nx : Nat} {out : xO} (o : Nat) (hy : y.1.cls = xown o) {idx : Nat} {rest : List xV} (hlink : Cond.methodLink (xown o) idx Lib.objectInit ∈ xws) (hin : Cond.instanceMethod Lib.objectInit ∈ xws) (hco : Cond.code Lib.objectInit ⟨#[0xb1]⟩ 1 none ∈ xws) (kd j : Nat) (hkd : kd < 11)
    (hd1 : 1 ≤ d) (hcat : xaw rest ≤ 8) (hdec : decode y.2.1 pc = .ok (.invokespecial idx, 3)) (k : XR cm d E sc y (pc + 3, ls, rest, R, M, nx) out) : XR cm d E sc y (pc, ls, .inr (kd, j) :: rest, R, M, nx) out := by
  intro X g n0 Q hC hR
  have k1 := k X g n0 Q hC hR
  obtain ⟨p, l, e, Rm, s, m, args, below, meth, c⟩ := X
  obtain ⟨hx, hb, hml, hown, hts, hF, hNs, hfr, hlo, hnm, hrt, hlk, hce, hsl, hE4⟩ := hC
  have hfm := hF.2.2.2.2.2.2.2.2.2
  rw [hy] at hown
  intro H locs cells slots mls hP hS hcl hsz hl hls hst0
  dsimp only at hP hS hcl hsz hl hls hst0 ⊢
  rw [List.map_cons, xc_ref (by omega)]
  exact W.objInit hx hb hown (hts _ hlink) (hts _ hin) (hts _ hco) rfl (by rw [hml]; exact hl.1) rfl hdec (by omega) (by rw [xaw_sum hfm]; show 2 * 0 + _ + 12 ≤ _; omega) (k1 H locs cells slots mls hP hS hcl hsz hl hls (fun v q => hst0 v (List.mem_cons_of_mem _ q)))
