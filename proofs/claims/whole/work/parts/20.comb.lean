/-! ===== the words of which the methods' functions are made ===== -/
def xb1 {α β : Type} (o : Option α) (k : α → Option β) : Option β := match o with
  | none => none
  | some a => k a
def xb2 {α γ β : Type} (o : Option (α × γ)) (k : α → γ → Option β) : Option β := match o with
  | none => none
  | some (a, c) => k a c
def xb3 {α γ δ β : Type} (o : Option (α × γ × δ)) (k : α → γ → δ → Option β) : Option β := match o with
  | none => none
  | some (a, c, e) => k a c e
def xch {β : Type} (c : Prop) [Decidable c] (e : Option β) : Option β := if c then e else none
def xl {α β : Type} (a : α) (k : α → Option β) : Option β := k a
/-- how often a loop may turn -/
def xfu : Nat := 1000000
theorem xb1_ex {α β : Type} {o : Option α} {k : α → Option β} {b : β} (h : xb1 o k = some b) : ∃ a, o = some a ∧ k a = some b := by
  cases o with
  | none => cases h
  | some a => exact ⟨a, rfl, h⟩
theorem xb2_ex {α γ β : Type} {o : Option (α × γ)} {k : α → γ → Option β} {b : β} (h : xb2 o k = some b) : ∃ a c, o = some (a, c) ∧ k a c = some b := by
  cases o with
  | none => cases h
  | some a => exact ⟨a.1, a.2, rfl, h⟩
theorem xb3_ex {α γ δ β : Type} {o : Option (α × γ × δ)} {k : α → γ → δ → Option β} {b : β} (h : xb3 o k = some b) : ∃ a c e, o = some (a, c, e) ∧ k a c e = some b := by
  cases o with
  | none => cases h
  | some a => exact ⟨a.1, a.2.1, a.2.2, rfl, h⟩
theorem xch_ex {β : Type} {c : Prop} [Decidable c] {e : Option β} {b : β} (h : xch c e = some b) : c ∧ e = some b := by
  unfold xch at h
  by_cases hc : c
  · rw [if_pos hc] at h; exact ⟨hc, h⟩
  · rw [if_neg hc] at h; cases h
theorem xl_ex {α β : Type} {a : α} {k : α → Option β} {b : β} (h : xl a k = some b) : ∃ v, v = a ∧ k v = some b := ⟨a, rfl, h⟩
theorem xif_ex {β : Type} {c : Prop} [Decidable c] {d e : Option β} {b : β} (h : (if c then d else e) = some b) : (c ∧ d = some b) ∨ (¬ c ∧ e = some b) := by
  by_cases hc : c
  · rw [if_pos hc] at h; exact Or.inl ⟨hc, h⟩
  · rw [if_neg hc] at h; exact Or.inr ⟨hc, h⟩
theorem xno {β : Type} {b : β} (h : (none : Option β) = some b) : False := by cases h
theorem xcmp_lt {a b : Int} : xcmp a b < 0 ↔ a < b := by unfold xcmp; split <;> (try split) <;> omega
theorem xcmp_eq {a b : Int} : xcmp a b = 0 ↔ a = b := by unfold xcmp; split <;> (try split) <;> omega
theorem xcmp_gt {a b : Int} : 0 < xcmp a b ↔ b < a := by unfold xcmp; split <;> (try split) <;> omega
theorem xcmp_le {a b : Int} : xcmp a b ≤ 0 ↔ ¬ b < a := by unfold xcmp; split <;> (try split) <;> omega
theorem xcmp_ge {a b : Int} : 0 ≤ xcmp a b ↔ ¬ a < b := by unfold xcmp; split <;> (try split) <;> omega
theorem xnar_c0 : ∀ n : Nat, n < 256 → narrow .char (.int (Int32.ofInt (n : Int))) = .int (Int32.ofInt (n : Int)) := by decide +kernel
theorem xnar_c {v : Int} (h : 0 ≤ v ∧ v < 256) : narrow .char (.int (Int32.ofInt v)) = .int (Int32.ofInt v) := by
  have := xnar_c0 v.toNat (by omega)
  rw [Int.toNat_of_nonneg h.1] at this
  exact this
theorem XR.pick {cm : Bool} {d E : Nat} {sc : List Int} {y : xY} {pc : Nat} {ls ls' : xL} {st : List xV} {R : xR} {M : xM} {nx : Nat} {out : xO} (ps : List Nat) (hs : ps.filterMap (fun i => ls[i]?) = ls') (k : XR cm d E sc y (pc, ls', st, R, M, nx) out) : XR cm d E sc y (pc, ls, st, R, M, nx) out := by
  refine XR.less (fun q hq => ?_) k
  rw [← hs] at hq
  obtain ⟨i, -, hi⟩ := List.mem_filterMap.mp hq
  exact List.mem_of_getElem? hi
/-- the JDK's Math -/
def xmax (x y : Int) : Int := if x < y then y else x
def xmin (x y : Int) : Int := if y < x then y else x
def xabs (x : Int) : Int := if 0 ≤ x then x else w32 (0 - x)
theorem XR.retI {cm : Bool} {d E : Nat} {sc : List Int} {y : xY} {pc : Nat} {ls : xL} {R : xR} {M : xM} {x : Int} (ty : FieldType) (h1 : y.2.2.2 = some ty) (h2 : narrow ty (.int (Int32.ofInt x)) = .int (Int32.ofInt x)) (hd : decode y.2.1 pc = .ok (.ireturn, 1)) : XR cm d E sc y (pc, ls, [vI x], R, M, E) (some (vI x), R, M) := XR.ret (some (vI x)) ⟨ty, h1, h2⟩ hd
theorem XR.retL {cm : Bool} {d E : Nat} {sc : List Int} {y : xY} {pc : Nat} {ls : xL} {R : xR} {M : xM} {x : Int} (h1 : y.2.2.2 = some .long) (hd : decode y.2.1 pc = .ok (.lreturn, 1)) : XR cm d E sc y (pc, ls, [vL x], R, M, E) (some (vL x), R, M) := XR.ret (some (vL x)) h1 hd
theorem XR.retV {cm : Bool} {d E : Nat} {sc : List Int} {y : xY} {pc : Nat} {ls : xL} {R : xR} {M : xM} (h1 : y.2.2.2 = none) (hd : decode y.2.1 pc = .ok (.return_, 1)) : XR cm d E sc y (pc, ls, [], R, M, E) (none, R, M) := XR.ret none h1 hd
theorem XR.retA {cm : Bool} {d E : Nat} {sc : List Int} {y : xY} {pc : Nat} {ls : xL} {R : xR} {M : xM} {k i : Nat} (hk : k ≠ 96) (t : FieldType) (h1 : y.2.2.2 = some (.array t)) (hd : decode y.2.1 pc = .ok (.areturn, 1)) : XR cm d E sc y (pc, ls, [vR k i], R, M, E) (some (vR k i), R, M) := XR.ret (some (vR k i)) ⟨hk, _, h1, Or.inr ⟨t, rfl⟩⟩ hd
theorem XR.mmax {cm : Bool} {d E : Nat} {sc : List Int} {y : xY} {pc : Nat} {ls : xL} {R : xR} {M : xM} {nx : Nat} {out : xO} (o : Nat) (hy : y.1.cls = xown o) {idx : Nat} {rest : List xV} {x y0 : Int} (hlink : Cond.methodLink (xown o) idx Lib.Math.max.name ∈ xws) (hsta : Cond.static Lib.Math.max.name ∈ xws) (hini : Cond.initialized "java/lang/Math" ∈ xws) (hcod : Cond.code Lib.Math.max.name Lib.Math.max.code 2 (some .int) ∈ xws) (hnx : nx ≤ E) (hd1 : 1 ≤ d) (hcat : xaw rest ≤ 8) (hdec : decode y.2.1 pc = .ok (.invokestatic idx, 3)) (k : XR cm d E sc y (pc + 3, ls, vI (xmax x y0) :: rest, R, M, nx) out) : XR cm d E sc y (pc, ls, vI y0 :: vI x :: rest, R, M, nx) out := by
  intro X g n0 Q hC hR
  have k1 := k X g n0 Q hC hR
  obtain ⟨p, l, e, Rm, s, m, args, below, meth, c⟩ := X
  obtain ⟨hx, hb, hml, hown, hts, hF, hNs, hfr, hlo, hnm, hrt, hlk, hce, hsl, hE4⟩ := hC
  have hfm := hF.2.2.2.2.2.2.2.2.2
  rw [hy] at hown
  intro H locs cells slots mls hP hS hcl hsz hl hls hst0
  dsimp only at hP hS hcl hsz hl hls hst0 ⊢
  have hsz2 := xsz_mono hnx hE4
  have hy1 : xi32 y0 := hst0 _ List.mem_cons_self
  have hx1 : xi32 x := hst0 _ (List.mem_cons_of_mem _ List.mem_cons_self)
  have hr : ∀ v ∈ rest, xok nx v := fun v q => hst0 v (List.mem_cons_of_mem _ (List.mem_cons_of_mem _ q))
  have e1 : (if Int32.ofInt x < Int32.ofInt y0 then Int32.ofInt y0 else Int32.ofInt x) = Int32.ofInt (xmax x y0) := by
    unfold xmax
    by_cases q : x < y0
    · rw [if_pos ((xn_lt hx1 hy1).mpr q), if_pos q]
    · rw [if_neg (fun z => q ((xn_lt hx1 hy1).mp z)), if_neg q]
  have ok : xi32 (xmax x y0) := by unfold xmax; split; exact hy1; exact hx1
  refine va_mmax hx hb (by rw [hml, hl.1]) hown (hts _ hlink) (hts _ hsta) (hts _ hini) (hts _ hcod) (by omega) (by rw [xaw_sum hfm]; omega) (by omega) (by omega) hdec ?_
  rw [e1]
  exact k1 H locs cells slots mls hP hS hcl hsz hl hls (List.forall_mem_cons.mpr ⟨ok, hr⟩)
theorem XR.mmin {cm : Bool} {d E : Nat} {sc : List Int} {y : xY} {pc : Nat} {ls : xL} {R : xR} {M : xM} {nx : Nat} {out : xO} (o : Nat) (hy : y.1.cls = xown o) {idx : Nat} {rest : List xV} {x y0 : Int} (hlink : Cond.methodLink (xown o) idx Lib.Math.min.name ∈ xws) (hsta : Cond.static Lib.Math.min.name ∈ xws) (hini : Cond.initialized "java/lang/Math" ∈ xws) (hcod : Cond.code Lib.Math.min.name Lib.Math.min.code 2 (some .int) ∈ xws) (hnx : nx ≤ E) (hd1 : 1 ≤ d) (hcat : xaw rest ≤ 8) (hdec : decode y.2.1 pc = .ok (.invokestatic idx, 3)) (k : XR cm d E sc y (pc + 3, ls, vI (xmin x y0) :: rest, R, M, nx) out) : XR cm d E sc y (pc, ls, vI y0 :: vI x :: rest, R, M, nx) out := by
  intro X g n0 Q hC hR
  have k1 := k X g n0 Q hC hR
  obtain ⟨p, l, e, Rm, s, m, args, below, meth, c⟩ := X
  obtain ⟨hx, hb, hml, hown, hts, hF, hNs, hfr, hlo, hnm, hrt, hlk, hce, hsl, hE4⟩ := hC
  have hfm := hF.2.2.2.2.2.2.2.2.2
  rw [hy] at hown
  intro H locs cells slots mls hP hS hcl hsz hl hls hst0
  dsimp only at hP hS hcl hsz hl hls hst0 ⊢
  have hsz2 := xsz_mono hnx hE4
  have hy1 : xi32 y0 := hst0 _ List.mem_cons_self
  have hx1 : xi32 x := hst0 _ (List.mem_cons_of_mem _ List.mem_cons_self)
  have hr : ∀ v ∈ rest, xok nx v := fun v q => hst0 v (List.mem_cons_of_mem _ (List.mem_cons_of_mem _ q))
  have e1 : (if Int32.ofInt y0 < Int32.ofInt x then Int32.ofInt y0 else Int32.ofInt x) = Int32.ofInt (xmin x y0) := by
    unfold xmin
    by_cases q : y0 < x
    · rw [if_pos ((xn_lt hy1 hx1).mpr q), if_pos q]
    · rw [if_neg (fun z => q ((xn_lt hy1 hx1).mp z)), if_neg q]
  have ok : xi32 (xmin x y0) := by unfold xmin; split; exact hy1; exact hx1
  refine va_mmin hx hb (by rw [hml, hl.1]) hown (hts _ hlink) (hts _ hsta) (hts _ hini) (hts _ hcod) (by omega) (by rw [xaw_sum hfm]; omega) (by omega) (by omega) hdec ?_
  rw [e1]
  exact k1 H locs cells slots mls hP hS hcl hsz hl hls (List.forall_mem_cons.mpr ⟨ok, hr⟩)
theorem XR.mabs {cm : Bool} {d E : Nat} {sc : List Int} {y : xY} {pc : Nat} {ls : xL} {R : xR} {M : xM} {nx : Nat} {out : xO} (o : Nat) (hy : y.1.cls = xown o) {idx : Nat} {rest : List xV} {x : Int} (hlink : Cond.methodLink (xown o) idx Lib.Math.abs.name ∈ xws) (hsta : Cond.static Lib.Math.abs.name ∈ xws) (hini : Cond.initialized "java/lang/Math" ∈ xws) (hcod : Cond.code Lib.Math.abs.name Lib.Math.abs.code 1 (some .int) ∈ xws) (hnx : nx ≤ E) (hd1 : 1 ≤ d) (hcat : xaw rest ≤ 8) (hdec : decode y.2.1 pc = .ok (.invokestatic idx, 3)) (k : XR cm d E sc y (pc + 3, ls, vI (xabs x) :: rest, R, M, nx) out) : XR cm d E sc y (pc, ls, vI x :: rest, R, M, nx) out := by
  intro X g n0 Q hC hR
  have k1 := k X g n0 Q hC hR
  obtain ⟨p, l, e, Rm, s, m, args, below, meth, c⟩ := X
  obtain ⟨hx, hb, hml, hown, hts, hF, hNs, hfr, hlo, hnm, hrt, hlk, hce, hsl, hE4⟩ := hC
  have hfm := hF.2.2.2.2.2.2.2.2.2
  rw [hy] at hown
  intro H locs cells slots mls hP hS hcl hsz hl hls hst0
  dsimp only at hP hS hcl hsz hl hls hst0 ⊢
  have hsz2 := xsz_mono hnx hE4
  have hx1 : xi32 x := hst0 _ List.mem_cons_self
  have hr : ∀ v ∈ rest, xok nx v := fun v q => hst0 v (List.mem_cons_of_mem _ q)
  have e1 : (if 0 ≤ Int32.ofInt x then Int32.ofInt x else 0 - Int32.ofInt x) = Int32.ofInt (xabs x) := by
    unfold xabs
    by_cases q : 0 ≤ x
    · have z : (0 : Int32) ≤ Int32.ofInt x := (xn_le x0i hx1).mpr q
      rw [if_pos z, if_pos q]
    · have z : ¬ (0 : Int32) ≤ Int32.ofInt x := fun z => q ((xn_le x0i hx1).mp z)
      rw [if_neg z, if_neg q]
      exact xn_sub 0 x
  have ok : xi32 (xabs x) := by unfold xabs; split; exact hx1; exact xi32_w _
  refine va_mabs hx hb (by rw [hml, hl.1]) hown (hts _ hlink) (hts _ hsta) (hts _ hini) (hts _ hcod) (by omega) (by rw [xaw_sum hfm]; omega) (by omega) (by omega) hdec ?_
  rw [e1]
  exact k1 H locs cells slots mls hP hS hcl hsz hl hls (List.forall_mem_cons.mpr ⟨ok, hr⟩)
theorem k_mmaxS : Cond.static Lib.Math.max.name ∈ xws := (m_J_max).2.2.2.2
theorem k_mminS : Cond.static Lib.Math.min.name ∈ xws := (m_J_min).2.2.2.2
theorem k_mabsS : Cond.static Lib.Math.abs.name ∈ xws := (m_J_abs).2.2.2.2
theorem k_mini : Cond.initialized "java/lang/Math" ∈ xws := (m_J_max).2.1
theorem k_mmaxC : Cond.code Lib.Math.max.name Lib.Math.max.code 2 (some .int) ∈ xws := (m_J_max).1
theorem k_mminC : Cond.code Lib.Math.min.name Lib.Math.min.code 2 (some .int) ∈ xws := (m_J_min).1
theorem k_mabsC : Cond.code Lib.Math.abs.name Lib.Math.abs.code 1 (some .int) ∈ xws := (m_J_abs).1
