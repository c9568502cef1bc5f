/-! ===== returns, calls, contracts ===== -/
abbrev xO : Type := Option xV × xR × xM
theorem xF_same {g : xG} {sc : List Int} {U V : State} (hv : V.vm = U.vm) (hh : V.heap = U.heap) (h : xF g sc U U.heap) : xF g sc V V.heap := by
  obtain ⟨h1, h2, h3, ⟨xs, h4, h4b⟩, h5, h6, h6b, h7, h8, h9⟩ := h
  have al : U.vm.Alike V.vm := by rw [hv]; exact Vm.Alike.refl _
  rw [hh]
  exact ⟨va_K.moved al h1, h2.moved al, fun j hj => (h3 j hj).same hv, ⟨xs, h4.moved al, h4b⟩, h5, h6, h6b, h7.moved al, h8.moved al, h9⟩
theorem xF_move {g : xG} {sc : List Int} {s U : State} {H : Heap} {locs : List Loc} (hW : s.WarmedH U.vm) (hS : va_S (xA g) s.heap H locs) (hU : U.heap = H) (h : xF g sc s s.heap) : xF g sc U U.heap := by
  obtain ⟨h1, h2, h3, ⟨xs, h4, h4b⟩, h5, h6, h6b, h7, h8, h9⟩ := h
  subst hU
  refine ⟨va_K.moved hW.alike h1, (h2.moved hW.alike).kept hS.2.1, fun j hj => (h3 j hj).warm hW, ⟨xs, (h4.moved hW.alike).kept ?_, h4b⟩, h5, Nat.le_trans h6 hS.1, h6b, (h7.moved hW.alike).kept hS.2.1, (h8.moved hW.alike).kept hS.2.1, h9⟩
  exact hS.2.1 _ (by omega) (by unfold xA; omega)
theorem xNs_move {s U : State} (hW : s.WarmedH U.vm) (h : xNs s) : xNs U := fun q hq => (h q hq).warmM hW
theorem xNs_same {U V : State} (hv : V.vm = U.vm) (h : xNs U) : xNs V := fun q hq => (h q hq).same rfl hv.symm
/-- what an answer must be, by the type that is told -/
def xnr (rt : Option FieldType) (v : Option xV) : Prop := match v with
  | none => rt = none
  | some (.inl (.inl x)) => ∃ ty, rt = some ty ∧ narrow ty (.int (Int32.ofInt x)) = .int (Int32.ofInt x)
  | some (.inl (.inr _)) => rt = some .long
  | some (.inr (k, _)) => k ≠ 96 ∧ ∃ ty, rt = some ty ∧ ((∃ n, ty = .object n) ∨ ∃ t, ty = .array t)
def xri (v : Option xV) : Instr := match v with
  | none => .return_
  | some (.inl (.inl _)) => .ireturn
  | some (.inl (.inr _)) => .lreturn
  | some (.inr _) => .areturn
def xRt (cm : Bool) (E : Nat) (y : xY) (X : xX) (g : xG) (n0 : Nat) (Q : State → Prop) (o : xO) : Prop := match X with
  | (p, l, e, Rm, s, m, args, below, meth, c) => ∀ (H : Heap) (locs : List Loc) (cells slots : Nat) (mls : Array Slot) (pc : Nat), xP g cm o.2.1 o.2.2 E H → va_S (xA g) s.heap H locs → cells + n0 = E → slots + xsz n0 = xsz E →
    (∀ v, o.1 = some v → xok E v) → xnr y.2.2.2 o.1 → decode y.2.1 pc = .ok (xri o.1, 1) → W p l e Rm s m args below meth c H locs cells slots Q (F0 m pc mls (o.1.toList.map (xc g)))
/-- from the state z on the method comes to its end with o (E cells then), with d frames below it -/
def XR (cm : Bool) (d E : Nat) (sc : List Int) (y : xY) (z : xS) (o : xO) : Prop := ∀ (X : xX) (g : xG) (n0 : Nat) (Q : State → Prop), xCx d E sc y X g n0 → xRt cm E y X g n0 Q o → xW cm y.2.2.1 X g n0 Q z
theorem XR.seg {cm : Bool} {d E : Nat} {sc : List Int} {y : xY} {z z' : xS} {out : xO} (o : Nat) (ini : Bool) (hy : y.1.cls = xown o) (hini : ini = true → y.1.name = "<init>") (qs : List xI) {cs : List Prop} (hq : qs.all (xqb o ini y.2.2.1 y.2.1) = true) (h : xN cm sc qs z = some (z', cs)) (hc : xAll cs) (hE : z'.2.2.2.2.2 ≤ E) (k : XR cm d E sc y z' out) : XR cm d E sc y z out :=
  fun X g n0 Q hC hR => xseg hC hy hini qs hq h hc hE (k X g n0 Q hC hR)
theorem XR.ret {cm : Bool} {d E : Nat} {sc : List Int} {y : xY} {pc : Nat} {ls : xL} {R : xR} {M : xM} (v : Option xV) (hn : xnr y.2.2.2 v) (hd : decode y.2.1 pc = .ok (xri v, 1)) : XR cm d E sc y (pc, ls, v.toList, R, M, E) (v, R, M) := by
  intro X g n0 Q hC hR
  obtain ⟨p, l, e, Rm, s, m, args, below, meth, c⟩ := X
  intro H locs cells slots mls hP hS hcl hsz hl hls hst
  exact hR H locs cells slots mls pc hP hS hcl hsz (fun w hw => hst w (by have hw : v = some w := hw; rw [hw]; exact List.mem_cons_self)) hn hd
/-- fewer locals do -/
theorem XR.less {cm : Bool} {d E : Nat} {sc : List Int} {y : xY} {pc : Nat} {ls ls' : xL} {st : List xV} {R : xR} {M : xM} {nx : Nat} {out : xO} (hs : ∀ q ∈ ls', q ∈ ls) (k : XR cm d E sc y (pc, ls', st, R, M, nx) out) : XR cm d E sc y (pc, ls, st, R, M, nx) out := by
  intro X g n0 Q hC hR
  have k1 := k X g n0 Q hC hR
  obtain ⟨p, l, e, Rm, s, m, args, below, meth, c⟩ := X
  intro H locs cells slots mls hP hS hcl hsz hl hls hst
  refine k1 H locs cells slots mls hP hS hcl hsz ⟨hl.1, hl.2.1, fun q hq => ?_⟩ (fun q hq => hls q (hs q hq)) hst
  obtain ⟨w, hw, rfl⟩ := List.mem_map.mp hq
  exact hl.2.2 _ (List.mem_map.mpr ⟨w, hs w hw, rfl⟩)
def xroom (d nx E : Nat) : Room := { frames := d, cells := E - nx, slots := xsz E - xsz nx, locals := 60 * d }
def xPc (g : xG) (cm : Bool) (sc : List Int) (As : List xV) (R : xR) (M : xM) (nx : Nat) : Array Value → State → Prop := fun v U => v = (As.map (xc g)).toArray ∧ xP g cm R M nx U.heap ∧ xF g sc U U.heap ∧ xNs U ∧ ∀ a ∈ As, xok nx a
def xQc (g : xG) (cm : Bool) (E : Nat) (o : xO) : Array Value → State → Outcome → State → Prop := fun _ st oc t => oc = .returned (o.1.map (xc g)) ∧ xP g cm o.2.1 o.2.2 E t.heap ∧ va_F (xA g) st t ∧ ∀ v, o.1 = some v → xok E v
abbrev xwd (y : xY) : List Cond := Cond.code y.1 y.2.1 y.2.2.1 y.2.2.2 :: xws
/-- a method's contract: called with As at R, M, nx it answers o -/
def XC (cm : Bool) (d : Nat) (sc : List Int) (y : xY) (As : List xV) (R : xR) (M : xM) (nx E : Nat) (o : xO) : Prop := ∀ (l : Launch) (g : xG), Met l y.1 (xwd y) (xroom d nx E) (xPc g cm sc As R M nx) (xQc g cm E o) (E - nx) (xsz E - xsz nx) (xA g)
def xas : Nat → List xV → xL
  | _, [] => []
  | i, v :: r => (i, v) :: xas (cond (xlong v) (i + 2) (i + 1)) r
theorem xas_map {g : xG} (hf : gf g = .null ∨ ∃ a, gf g = .ref a) : ∀ (As : List xV) (i : Nat), lv_args i (As.map (xc g)) = xcl2 g (xas i As) := by
  intro As
  induction As with
  | nil => intro i; rfl
  | cons v r ih =>
    intro i
    show (i, xc g v) :: lv_args (if (xc g v).category = 2 then i + 2 else i + 1) (r.map (xc g)) = (i, xc g v) :: xcl2 g (xas (cond (xlong v) (i + 2) (i + 1)) r)
    rw [ih, xcat hf v]
    cases xlong v <;> rfl
theorem xas_ok {nx : Nat} : ∀ (As : List xV) (i : Nat), (∀ a ∈ As, xok nx a) → ∀ q ∈ xas i As, xok nx q.2 := by
  intro As
  induction As with
  | nil => intro i h q hq; cases hq
  | cons v r ih =>
    intro i h q hq
    rcases List.mem_cons.mp hq with rfl | hq
    · exact h _ List.mem_cons_self
    · exact ih _ (fun a ha => h a (List.mem_cons_of_mem _ ha)) q hq
def xaw : List xV → Nat
  | [] => 0
  | v :: r => cond (xlong v) 2 1 + xaw r
theorem xaw_len {g : xG} (hf : gf g = .null ∨ ∃ a, gf g = .ref a) : ∀ As : List xV, (lg_sl (As.map (xc g))).length = xaw As := by
  intro As
  induction As with
  | nil => rfl
  | cons v r ih =>
    have hc := xcat hf v
    show (lg_sl (xc g v :: r.map (xc g))).length = _
    unfold lg_sl at ih ⊢
    rw [List.flatMap_cons, List.length_append, ih]
    show _ = cond (xlong v) 2 1 + xaw r
    rw [hc]
    cases xlong v <;> rfl
set_option maxHeartbeats 4000000 in
theorem XC.of {cm : Bool} {d : Nat} {sc : List Int} {y : xY} {As : List xV} {R : xR} {M : xM} {nx E : Nat} {o : xO} (hp : plainName y.1.cls = true) (hw : xaw As ≤ y.2.2.1) (hnE : nx ≤ E) (hE : E ≤ 174) (k : XR cm d E sc y (0, xas 0 As, [], R, M, nx) o) : XC cm d sc y As R M nx E o := by
  intro l g
  refine Met.ofW (cc := y.2.1) (maxL := y.2.2.1) (ret := y.2.2.2) hp rfl ?_
  intro p e s m args below meth c s₁ B hml hv
  obtain ⟨rfl, hP, hF, hN, hok⟩ := hv
  have hfm := hF.2.2.2.2.2.2.2.2.2
  have hts := atoms_spec (ws := xwd y) B.pre
  have hml2 := xsz_mono hnE hE
  have hS : va_S (xA g) s.heap s.heap [] := va_S.rf
  have hl := lv_entry (As.map (xc g)) (n := y.2.2.1) (by rw [xaw_len hfm]; exact hw)
  rw [lg_entry_eq]
  rw [xas_map hfm] at hl
  generalize (lg_sl (As.map (xc g)) ++ List.replicate (y.2.2.1 - (lg_sl (As.map (xc g))).length) Slot.unset).toArray = mls at hl ⊢
  refine k (p, l, e, (headSpec (xwd y) (xroom d nx E)).room, s, m, (As.map (xc g)).toArray, below, meth, c) g nx _ ?_ ?_ s.heap [] 0 0 mls hP hS (Nat.zero_add _) (Nat.zero_add _) hl (xas_ok As 0 hok) (fun v hv => by cases hv)
  · refine ⟨B.exec, B.bytes, hml, findClass_of_methodNamed B.named, fun w hw => hts w (List.mem_cons_of_mem _ hw), hF, hN, Nat.le_refl _, Nat.le_refl _, (name_of_methodNamed B.named B.method).1, B.returns, B.notSynchronized, ?_, ?_, hE⟩
    · show E ≤ nx + (E - nx); omega
    · show xsz E ≤ xsz nx + (xsz E - xsz nx); omega
  · intro H locs cells slots mls pc hP1 hS1 hc1 hs1 hok1 hnr hd
    have hc2 : E - nx = cells := by omega
    have hs2 : xsz E - xsz nx = slots := by omega
    rw [hc2, hs2]
    have hx := B.exec
    have hb := B.bytes
    have hr := B.returns
    have hlocks := B.notSynchronized
    have hq : ∀ t : State, t.heap = H → s.WarmedH t.vm → xQc g cm E o (As.map (xc g)).toArray s (.returned (o.1.map (xc g))) t := fun t ht _ => ⟨rfl, by rw [ht]; exact hP1, hS1.F ht, hok1⟩
    obtain ⟨ov, oR, oM⟩ := o
    dsimp only at hq hnr hd ⊢
    rcases ov with _ | ((x | x) | ⟨kd, j⟩)
    · exact W.vret hx hb (hr.trans hnr) hq hS1.2.2 hd
    · obtain ⟨ty, h1, h2⟩ := hnr
      exact W.zret hx hb (hr.trans h1) h2 hq hS1.2.2 hd
    · exact W.lret hx hb (hr.trans hnr) hq hS1.2.2 hd
    · obtain ⟨h0, ty, h1, h2⟩ := hnr
      exact W.aret hx hb (hr.trans h1) h2 (Or.inr ⟨_, xc_ref h0⟩) hq hS1.2.2 hd
