section XST
variable {p : Program} {l : Launch} {e : Env} {Rm : Room} {s : State} {m : MethodId} {args : Array Value} {below : List Frame} {meth : Method} {c : Code} {H : Heap} {locs : List Loc} {cells slots : Nat} {Q : State → Prop} {cc : ByteArray} {pc : Nat} {mls : Array Slot}
theorem xcat {g : xG} (hf : gf g = .null ∨ ∃ a, gf g = .ref a) (v : xV) : (xc g v).category = if xlong v then 2 else 1 := by
  rcases v with (x | x) | ⟨k, i⟩
  · rfl
  · rfl
  · show (if k = 96 then gf g else .ref (xad g k i)).category = 1
    split
    · rcases hf with h | ⟨a, h⟩ <;> rw [h] <;> rfl
    · rfl
/-- what a note says of a stack instruction -/
def xnt (own : String) (s : State) (args : Array Value) (g : xG) (i : Instr) (a : Nat) (b : Int) : Prop := match i with
  | .iconst n => b = n ∧ xi32 b
  | .bipush n => (Int8.ofInt n).toInt32 = Int32.ofInt b ∧ xi32 b
  | .sipush n => (Int16.ofInt n).toInt32 = Int32.ofInt b ∧ xi32 b
  | .ldc n => (match a with
    | 0 => (Cond.constant own n (Int32.ofInt b)).before args s = true ∧ xi32 b
    | k + 1 => k < 7 ∧ ∃ tx, vk_R own n tx (gK g k) s)
  | .ldc_w n => (match a with
    | 0 => (Cond.constant own n (Int32.ofInt b)).before args s = true ∧ xi32 b
    | k + 1 => k < 7 ∧ ∃ tx, vk_R own n tx (gK g k) s)
  | .lconst n => Int64.ofNat (n : Nat) = Int64.ofInt b ∧ xi64 b
  | .ldc2_w n => (Cond.constantLong own n (Int64.ofInt b)).before args s = true ∧ xi64 b
  | _ => True
theorem xldcwS (hexec : p.tables.exec = Jvm.exec) (hb : c.code = cc) {own tx : String} {index q : Nat} (hown : s.vm.findClass own = some m.cls) (hZ : vk_R own index tx q s) {rest : List Value} (hdg : decode cc pc = .ok (.ldc_w index, 3))
    (k : W p l e Rm s m args below meth c H locs cells slots Q (F0 m (pc + 3) mls (.ref q :: rest))) : W p l e Rm s m args below meth c H locs cells slots Q (F0 m pc mls rest) := by
  intro T hT X
  obtain ⟨t, a1, b1⟩ := k T hT X
  refine ⟨t, ?_, b1⟩
  obtain ⟨kk, cf, i, a', hk, hcf, hcp, -, hr, hev'⟩ := Cond.stringRef_spec hown hZ.1
  cases hZ.2.symm.trans hev'
  obtain ⟨k', hk', he⟩ := X.warmed.alike.2.2 _ _ hk
  have hr' : k'.resolved[index]? = some (some (.string q)) := by
    rcases X.warmed.entry hk hk' index with h | ⟨h, -⟩
    · rw [h]; exact hr
    · rw [hr] at h; cases h
  jvm_step X.here [hexec, hb, hdg, ldc_w.wp_string (e := e) (s := T) (f := F0 m pc mls rest) X.here.top hk' (by rw [he]; exact hcf) hcp hr']
  exact a1
theorem xst_ok (hx : p.tables.exec = Jvm.exec) (hb : c.code = cc) {own : String} (hown : s.vm.findClass own = some m.cls) (g : xG) (hf : gf g = .null ∨ ∃ a, gf g = .ref a) {nx : Nat} {i : Instr} {a : Nat} {b : Int} {st st' : List xV} {cs : List Prop} (h : xst i a b st = some (st', cs)) (hc : xAll cs) (hv : ∀ v ∈ st, xok nx v) (hn : xnt own s args g i a b) (hd : decode cc pc = .ok (i, xln i))
    (k : (∀ v ∈ st', xok nx v) → W p l e Rm s m args below meth c H locs cells slots Q (F0 m (pc + xln i) mls (st'.map (xc g)))) : W p l e Rm s m args below meth c H locs cells slots Q (F0 m pc mls (st.map (xc g))) := by
  cases i
  case iconst n =>
    simp only [xst, Option.some.injEq, Prod.mk.injEq] at h
    obtain ⟨rfl, rfl⟩ := h
    obtain ⟨rfl, h2⟩ := hn
    exact lv_iconst hx hb hd rfl (k (List.forall_mem_cons.mpr ⟨h2, hv⟩))
  case bipush n =>
    simp only [xst, Option.some.injEq, Prod.mk.injEq] at h
    obtain ⟨rfl, rfl⟩ := h
    exact lv_bipush hx hb hd hn.1 (k (List.forall_mem_cons.mpr ⟨hn.2, hv⟩))
  case sipush n =>
    simp only [xst, Option.some.injEq, Prod.mk.injEq] at h
    obtain ⟨rfl, rfl⟩ := h
    exact lv_sipush hx hb hd hn.1 (k (List.forall_mem_cons.mpr ⟨hn.2, hv⟩))
  case ldc n =>
    cases a with
    | zero =>
      simp only [xst, Option.some.injEq, Prod.mk.injEq] at h
      obtain ⟨rfl, rfl⟩ := h
      exact lv_ldc hx hb hown hn.1 hd (k (List.forall_mem_cons.mpr ⟨hn.2, hv⟩))
    | succ j =>
      simp only [xst, Option.some.injEq, Prod.mk.injEq] at h
      obtain ⟨rfl, rfl⟩ := h
      obtain ⟨hj, tx, hR⟩ := hn
      refine va_ldcS hx hb hown hR hd ?_
      have k1 := k (List.forall_mem_cons.mpr ⟨⟨fun q => absurd q (by decide), fun _ => ⟨by omega, by omega⟩⟩, hv⟩)
      exact k1
  case ldc_w n =>
    cases a with
    | zero =>
      simp only [xst, Option.some.injEq, Prod.mk.injEq] at h
      obtain ⟨rfl, rfl⟩ := h
      exact lv_ldcw hx hb hown hn.1 hd (k (List.forall_mem_cons.mpr ⟨hn.2, hv⟩))
    | succ j =>
      simp only [xst, Option.some.injEq, Prod.mk.injEq] at h
      obtain ⟨rfl, rfl⟩ := h
      obtain ⟨hj, tx, hR⟩ := hn
      refine xldcwS hx hb hown hR hd ?_
      have k1 := k (List.forall_mem_cons.mpr ⟨⟨fun q => absurd q (by decide), fun _ => ⟨by omega, by omega⟩⟩, hv⟩)
      exact k1
  case lconst n =>
    simp only [xst, Option.some.injEq, Prod.mk.injEq] at h
    obtain ⟨rfl, rfl⟩ := h
    exact lv_lconst hx hb hd hn.1 (k (List.forall_mem_cons.mpr ⟨hn.2, hv⟩))
  case ldc2_w n =>
    simp only [xst, Option.some.injEq, Prod.mk.injEq] at h
    obtain ⟨rfl, rfl⟩ := h
    exact lv_ldc2 hx hb hown hn.1 hd (k (List.forall_mem_cons.mpr ⟨hn.2, hv⟩))
  case iadd =>
    unfold xst at h
    dsimp only at h
    split at h
    · rename_i y x r
      simp only [Option.some.injEq, Prod.mk.injEq] at h
      obtain ⟨rfl, rfl⟩ := h
      have hy : xok nx (_ : xV) := hv _ List.mem_cons_self
      have hx1 : xok nx (_ : xV) := hv _ (List.mem_cons_of_mem _ List.mem_cons_self)
      have hr : ∀ v ∈ r, xok nx v := fun v q => hv v (List.mem_cons_of_mem _ (List.mem_cons_of_mem _ q))
      refine lv_iadd hx hb hd ?_
      have k1 := k (List.forall_mem_cons.mpr ⟨xi32_w _, hr⟩)
      have e1 := xn_add x y
      rw [e1]
      exact k1
    · cases h
  case isub =>
    unfold xst at h
    dsimp only at h
    split at h
    · rename_i y x r
      simp only [Option.some.injEq, Prod.mk.injEq] at h
      obtain ⟨rfl, rfl⟩ := h
      have hy : xok nx (_ : xV) := hv _ List.mem_cons_self
      have hx1 : xok nx (_ : xV) := hv _ (List.mem_cons_of_mem _ List.mem_cons_self)
      have hr : ∀ v ∈ r, xok nx v := fun v q => hv v (List.mem_cons_of_mem _ (List.mem_cons_of_mem _ q))
      refine lv_isub hx hb hd ?_
      have k1 := k (List.forall_mem_cons.mpr ⟨xi32_w _, hr⟩)
      have e1 := xn_sub x y
      rw [e1]
      exact k1
    · cases h
  case imul =>
    unfold xst at h
    dsimp only at h
    split at h
    · rename_i y x r
      simp only [Option.some.injEq, Prod.mk.injEq] at h
      obtain ⟨rfl, rfl⟩ := h
      have hy : xok nx (_ : xV) := hv _ List.mem_cons_self
      have hx1 : xok nx (_ : xV) := hv _ (List.mem_cons_of_mem _ List.mem_cons_self)
      have hr : ∀ v ∈ r, xok nx v := fun v q => hv v (List.mem_cons_of_mem _ (List.mem_cons_of_mem _ q))
      refine lv_imul hx hb hd ?_
      have k1 := k (List.forall_mem_cons.mpr ⟨xi32_w _, hr⟩)
      have e1 := xn_mul x y
      rw [e1]
      exact k1
    · cases h
  case idiv =>
    unfold xst at h
    dsimp only at h
    split at h
    · rename_i y x r
      simp only [Option.some.injEq, Prod.mk.injEq] at h
      obtain ⟨rfl, rfl⟩ := h
      have hy : xok nx (_ : xV) := hv _ List.mem_cons_self
      have hx1 : xok nx (_ : xV) := hv _ (List.mem_cons_of_mem _ List.mem_cons_self)
      have hr : ∀ v ∈ r, xok nx v := fun v q => hv v (List.mem_cons_of_mem _ (List.mem_cons_of_mem _ q))
      refine lv_idiv hx hb hd (xn_ne hy hc.1) ?_
      have k1 := k (List.forall_mem_cons.mpr ⟨xi32_w _, hr⟩)
      have e1 := xn_div hx1 hy
      rw [e1]
      exact k1
    · cases h
  case irem =>
    unfold xst at h
    dsimp only at h
    split at h
    · rename_i y x r
      simp only [Option.some.injEq, Prod.mk.injEq] at h
      obtain ⟨rfl, rfl⟩ := h
      have hy : xok nx (_ : xV) := hv _ List.mem_cons_self
      have hx1 : xok nx (_ : xV) := hv _ (List.mem_cons_of_mem _ List.mem_cons_self)
      have hr : ∀ v ∈ r, xok nx v := fun v q => hv v (List.mem_cons_of_mem _ (List.mem_cons_of_mem _ q))
      refine lv_irem hx hb hd (xn_ne hy hc.1) ?_
      have k1 := k (List.forall_mem_cons.mpr ⟨xi32_tmod hx1, hr⟩)
      have e1 := xn_rem hx1 hy
      rw [e1]
      exact k1
    · cases h
  case iand =>
    unfold xst at h
    dsimp only at h
    split at h
    · rename_i y x r
      simp only [Option.some.injEq, Prod.mk.injEq] at h
      obtain ⟨rfl, rfl⟩ := h
      have hy : xok nx (_ : xV) := hv _ List.mem_cons_self
      have hx1 : xok nx (_ : xV) := hv _ (List.mem_cons_of_mem _ List.mem_cons_self)
      have hr : ∀ v ∈ r, xok nx v := fun v q => hv v (List.mem_cons_of_mem _ (List.mem_cons_of_mem _ q))
      refine lv_iand hx hb hd ?_
      have k1 := k (List.forall_mem_cons.mpr ⟨xi32_of _, hr⟩)
      have e1 := (xback (Int32.ofInt x &&& Int32.ofInt y)).symm
      rw [e1]
      exact k1
    · cases h
  case ior =>
    unfold xst at h
    dsimp only at h
    split at h
    · rename_i y x r
      simp only [Option.some.injEq, Prod.mk.injEq] at h
      obtain ⟨rfl, rfl⟩ := h
      have hy : xok nx (_ : xV) := hv _ List.mem_cons_self
      have hx1 : xok nx (_ : xV) := hv _ (List.mem_cons_of_mem _ List.mem_cons_self)
      have hr : ∀ v ∈ r, xok nx v := fun v q => hv v (List.mem_cons_of_mem _ (List.mem_cons_of_mem _ q))
      refine lv_ior hx hb hd ?_
      have k1 := k (List.forall_mem_cons.mpr ⟨xi32_of _, hr⟩)
      have e1 := (xback (Int32.ofInt x ||| Int32.ofInt y)).symm
      rw [e1]
      exact k1
    · cases h
  case ishl =>
    unfold xst at h
    dsimp only at h
    split at h
    · rename_i y x r
      simp only [Option.some.injEq, Prod.mk.injEq] at h
      obtain ⟨rfl, rfl⟩ := h
      have hy : xok nx (_ : xV) := hv _ List.mem_cons_self
      have hx1 : xok nx (_ : xV) := hv _ (List.mem_cons_of_mem _ List.mem_cons_self)
      have hr : ∀ v ∈ r, xok nx v := fun v q => hv v (List.mem_cons_of_mem _ (List.mem_cons_of_mem _ q))
      refine lv_ishl hx hb hd ?_
      have k1 := k (List.forall_mem_cons.mpr ⟨xi32_of _, hr⟩)
      have e1 := (xback (Int32.ofInt x <<< (Int32.ofInt y &&& 31))).symm
      rw [e1]
      exact k1
    · cases h
  case ishr =>
    unfold xst at h
    dsimp only at h
    split at h
    · rename_i y x r
      simp only [Option.some.injEq, Prod.mk.injEq] at h
      obtain ⟨rfl, rfl⟩ := h
      have hy : xok nx (_ : xV) := hv _ List.mem_cons_self
      have hx1 : xok nx (_ : xV) := hv _ (List.mem_cons_of_mem _ List.mem_cons_self)
      have hr : ∀ v ∈ r, xok nx v := fun v q => hv v (List.mem_cons_of_mem _ (List.mem_cons_of_mem _ q))
      refine lv_ishr hx hb hd ?_
      have k1 := k (List.forall_mem_cons.mpr ⟨xi32_of _, hr⟩)
      have e1 := (xback (Int32.ofInt x >>> (Int32.ofInt y &&& 31))).symm
      rw [e1]
      exact k1
    · cases h
  case iushr =>
    unfold xst at h
    dsimp only at h
    split at h
    · rename_i y x r
      simp only [Option.some.injEq, Prod.mk.injEq] at h
      obtain ⟨rfl, rfl⟩ := h
      have hy : xok nx (_ : xV) := hv _ List.mem_cons_self
      have hx1 : xok nx (_ : xV) := hv _ (List.mem_cons_of_mem _ List.mem_cons_self)
      have hr : ∀ v ∈ r, xok nx v := fun v q => hv v (List.mem_cons_of_mem _ (List.mem_cons_of_mem _ q))
      refine lv_iushr hx hb hd (xback _).symm ?_
      have k1 := k (List.forall_mem_cons.mpr ⟨xi32_of _, hr⟩)
      exact k1
    · cases h
  case ladd =>
    unfold xst at h
    dsimp only at h
    split at h
    · rename_i y x r
      simp only [Option.some.injEq, Prod.mk.injEq] at h
      obtain ⟨rfl, rfl⟩ := h
      have hy : xok nx (_ : xV) := hv _ List.mem_cons_self
      have hx1 : xok nx (_ : xV) := hv _ (List.mem_cons_of_mem _ List.mem_cons_self)
      have hr : ∀ v ∈ r, xok nx v := fun v q => hv v (List.mem_cons_of_mem _ (List.mem_cons_of_mem _ q))
      refine lv_ladd hx hb hd ?_
      have k1 := k (List.forall_mem_cons.mpr ⟨xi64_w _, hr⟩)
      have e1 := xl_add x y
      rw [e1]
      exact k1
    · cases h
  case lsub =>
    unfold xst at h
    dsimp only at h
    split at h
    · rename_i y x r
      simp only [Option.some.injEq, Prod.mk.injEq] at h
      obtain ⟨rfl, rfl⟩ := h
      have hy : xok nx (_ : xV) := hv _ List.mem_cons_self
      have hx1 : xok nx (_ : xV) := hv _ (List.mem_cons_of_mem _ List.mem_cons_self)
      have hr : ∀ v ∈ r, xok nx v := fun v q => hv v (List.mem_cons_of_mem _ (List.mem_cons_of_mem _ q))
      refine lv_lsub hx hb hd ?_
      have k1 := k (List.forall_mem_cons.mpr ⟨xi64_w _, hr⟩)
      have e1 := xl_sub x y
      rw [e1]
      exact k1
    · cases h
  case lmul =>
    unfold xst at h
    dsimp only at h
    split at h
    · rename_i y x r
      simp only [Option.some.injEq, Prod.mk.injEq] at h
      obtain ⟨rfl, rfl⟩ := h
      have hy : xok nx (_ : xV) := hv _ List.mem_cons_self
      have hx1 : xok nx (_ : xV) := hv _ (List.mem_cons_of_mem _ List.mem_cons_self)
      have hr : ∀ v ∈ r, xok nx v := fun v q => hv v (List.mem_cons_of_mem _ (List.mem_cons_of_mem _ q))
      refine lv_lmul hx hb hd ?_
      have k1 := k (List.forall_mem_cons.mpr ⟨xi64_w _, hr⟩)
      have e1 := xl_mul x y
      rw [e1]
      exact k1
    · cases h
  case ldiv =>
    unfold xst at h
    dsimp only at h
    split at h
    · rename_i y x r
      simp only [Option.some.injEq, Prod.mk.injEq] at h
      obtain ⟨rfl, rfl⟩ := h
      have hy : xok nx (_ : xV) := hv _ List.mem_cons_self
      have hx1 : xok nx (_ : xV) := hv _ (List.mem_cons_of_mem _ List.mem_cons_self)
      have hr : ∀ v ∈ r, xok nx v := fun v q => hv v (List.mem_cons_of_mem _ (List.mem_cons_of_mem _ q))
      refine lv_ldiv hx hb hd (xl_ne hy hc.1) ?_
      have k1 := k (List.forall_mem_cons.mpr ⟨xi64_w _, hr⟩)
      have e1 := xl_div hx1 hy
      rw [e1]
      exact k1
    · cases h
  case lrem =>
    unfold xst at h
    dsimp only at h
    split at h
    · rename_i y x r
      simp only [Option.some.injEq, Prod.mk.injEq] at h
      obtain ⟨rfl, rfl⟩ := h
      have hy : xok nx (_ : xV) := hv _ List.mem_cons_self
      have hx1 : xok nx (_ : xV) := hv _ (List.mem_cons_of_mem _ List.mem_cons_self)
      have hr : ∀ v ∈ r, xok nx v := fun v q => hv v (List.mem_cons_of_mem _ (List.mem_cons_of_mem _ q))
      refine lv_lrem hx hb hd (xl_ne hy hc.1) ?_
      have k1 := k (List.forall_mem_cons.mpr ⟨xi64_tmod hx1, hr⟩)
      have e1 := xl_rem hx1 hy
      rw [e1]
      exact k1
    · cases h
  case land =>
    unfold xst at h
    dsimp only at h
    split at h
    · rename_i y x r
      simp only [Option.some.injEq, Prod.mk.injEq] at h
      obtain ⟨rfl, rfl⟩ := h
      have hy : xok nx (_ : xV) := hv _ List.mem_cons_self
      have hx1 : xok nx (_ : xV) := hv _ (List.mem_cons_of_mem _ List.mem_cons_self)
      have hr : ∀ v ∈ r, xok nx v := fun v q => hv v (List.mem_cons_of_mem _ (List.mem_cons_of_mem _ q))
      refine lv_land hx hb hd ?_
      have k1 := k (List.forall_mem_cons.mpr ⟨xi64_of _, hr⟩)
      have e1 := (xbackl (Int64.ofInt x &&& Int64.ofInt y)).symm
      rw [e1]
      exact k1
    · cases h
  case lor =>
    unfold xst at h
    dsimp only at h
    split at h
    · rename_i y x r
      simp only [Option.some.injEq, Prod.mk.injEq] at h
      obtain ⟨rfl, rfl⟩ := h
      have hy : xok nx (_ : xV) := hv _ List.mem_cons_self
      have hx1 : xok nx (_ : xV) := hv _ (List.mem_cons_of_mem _ List.mem_cons_self)
      have hr : ∀ v ∈ r, xok nx v := fun v q => hv v (List.mem_cons_of_mem _ (List.mem_cons_of_mem _ q))
      refine lv_lor hx hb hd ?_
      have k1 := k (List.forall_mem_cons.mpr ⟨xi64_of _, hr⟩)
      have e1 := (xbackl (Int64.ofInt x ||| Int64.ofInt y)).symm
      rw [e1]
      exact k1
    · cases h
  case lshl =>
    unfold xst at h
    dsimp only at h
    split at h
    · rename_i y x r
      simp only [Option.some.injEq, Prod.mk.injEq] at h
      obtain ⟨rfl, rfl⟩ := h
      have hy : xok nx (_ : xV) := hv _ List.mem_cons_self
      have hx1 : xok nx (_ : xV) := hv _ (List.mem_cons_of_mem _ List.mem_cons_self)
      have hr : ∀ v ∈ r, xok nx v := fun v q => hv v (List.mem_cons_of_mem _ (List.mem_cons_of_mem _ q))
      refine lv_lshl hx hb hd (xbackl _).symm ?_
      have k1 := k (List.forall_mem_cons.mpr ⟨xi64_of _, hr⟩)
      exact k1
    · cases h
  case lushr =>
    unfold xst at h
    dsimp only at h
    split at h
    · rename_i y x r
      simp only [Option.some.injEq, Prod.mk.injEq] at h
      obtain ⟨rfl, rfl⟩ := h
      have hy : xok nx (_ : xV) := hv _ List.mem_cons_self
      have hx1 : xok nx (_ : xV) := hv _ (List.mem_cons_of_mem _ List.mem_cons_self)
      have hr : ∀ v ∈ r, xok nx v := fun v q => hv v (List.mem_cons_of_mem _ (List.mem_cons_of_mem _ q))
      refine lv_lushr hx hb hd (xbackl _).symm ?_
      have k1 := k (List.forall_mem_cons.mpr ⟨xi64_of _, hr⟩)
      exact k1
    · cases h
  case lcmp =>
    unfold xst at h
    dsimp only at h
    split at h
    · rename_i y x r
      simp only [Option.some.injEq, Prod.mk.injEq] at h
      obtain ⟨rfl, rfl⟩ := h
      have hy : xok nx (_ : xV) := hv _ List.mem_cons_self
      have hx1 : xok nx (_ : xV) := hv _ (List.mem_cons_of_mem _ List.mem_cons_self)
      have hr : ∀ v ∈ r, xok nx v := fun v q => hv v (List.mem_cons_of_mem _ (List.mem_cons_of_mem _ q))
      refine W.lcmp hx hb hd ?_
      have k1 := k (List.forall_mem_cons.mpr ⟨xcmp_i32 x y, hr⟩)
      have e1 := xl_cmp hx1 hy
      rw [e1]
      exact k1
    · cases h
  case ineg =>
    unfold xst at h
    dsimp only at h
    split at h
    · rename_i x r
      simp only [Option.some.injEq, Prod.mk.injEq] at h
      obtain ⟨rfl, rfl⟩ := h
      have hx1 : xok nx (_ : xV) := hv _ List.mem_cons_self
      have hr : ∀ v ∈ r, xok nx v := fun v q => hv v (List.mem_cons_of_mem _ q)
      refine lv_ineg hx hb hd ?_
      have k1 := k (List.forall_mem_cons.mpr ⟨xi32_w _, hr⟩)
      rw [xn_neg x]
      exact k1
    · cases h
  case i2l =>
    unfold xst at h
    dsimp only at h
    split at h
    · rename_i x r
      simp only [Option.some.injEq, Prod.mk.injEq] at h
      obtain ⟨rfl, rfl⟩ := h
      have hx1 : xok nx (_ : xV) := hv _ List.mem_cons_self
      have hr : ∀ v ∈ r, xok nx v := fun v q => hv v (List.mem_cons_of_mem _ q)
      refine lv_i2l hx hb hd (xn_i2l hx1) ?_
      have k1 := k (List.forall_mem_cons.mpr ⟨⟨by have := hx1.1; omega, by have := hx1.2; omega⟩, hr⟩)
      exact k1
    · cases h
  case l2i =>
    unfold xst at h
    dsimp only at h
    split at h
    · rename_i x r
      simp only [Option.some.injEq, Prod.mk.injEq] at h
      obtain ⟨rfl, rfl⟩ := h
      have hx1 : xok nx (_ : xV) := hv _ List.mem_cons_self
      have hr : ∀ v ∈ r, xok nx v := fun v q => hv v (List.mem_cons_of_mem _ q)
      refine lv_l2i hx hb hd (xl_l2i x) ?_
      have k1 := k (List.forall_mem_cons.mpr ⟨xi32_w _, hr⟩)
      exact k1
    · cases h
  case i2b =>
    unfold xst at h
    dsimp only at h
    split at h
    · rename_i x r
      simp only [Option.some.injEq, Prod.mk.injEq] at h
      obtain ⟨rfl, rfl⟩ := h
      have hx1 : xok nx (_ : xV) := hv _ List.mem_cons_self
      have hr : ∀ v ∈ r, xok nx v := fun v q => hv v (List.mem_cons_of_mem _ q)
      refine lv_i2b hx hb hd (xn_i2b x) ?_
      have k1 := k (List.forall_mem_cons.mpr ⟨xi32_w8 _, hr⟩)
      exact k1
    · cases h
  case i2s =>
    unfold xst at h
    dsimp only at h
    split at h
    · rename_i x r
      simp only [Option.some.injEq, Prod.mk.injEq] at h
      obtain ⟨rfl, rfl⟩ := h
      have hx1 : xok nx (_ : xV) := hv _ List.mem_cons_self
      have hr : ∀ v ∈ r, xok nx v := fun v q => hv v (List.mem_cons_of_mem _ q)
      refine lv_i2s hx hb hd (xn_i2s x) ?_
      have k1 := k (List.forall_mem_cons.mpr ⟨xi32_w16 _, hr⟩)
      exact k1
    · cases h
  case i2c =>
    unfold xst at h
    dsimp only at h
    split at h
    · rename_i x r
      simp only [Option.some.injEq, Prod.mk.injEq] at h
      obtain ⟨rfl, rfl⟩ := h
      have hx1 : xok nx (_ : xV) := hv _ List.mem_cons_self
      have hr : ∀ v ∈ r, xok nx v := fun v q => hv v (List.mem_cons_of_mem _ q)
      refine lv_i2c hx hb hd (xback _).symm ?_
      have k1 := k (List.forall_mem_cons.mpr ⟨xi32_of _, hr⟩)
      exact k1
    · cases h
  case dup =>
    unfold xst at h
    dsimp only at h
    split at h
    · cases h
    · rename_i v r hne
      simp only [Option.some.injEq, Prod.mk.injEq] at h
      obtain ⟨rfl, rfl⟩ := h
      have h1 := hv _ List.mem_cons_self
      refine lv_dup hx hb hd ?_ (k (List.forall_mem_cons.mpr ⟨h1, hv⟩))
      rw [xcat hf]
      rcases v with (x | x) | q
      · rfl
      · exact (hne x rfl).elim
      · rfl
    · cases h
  case dup2 =>
    unfold xst at h
    dsimp only at h
    split at h
    · rename_i x r
      simp only [Option.some.injEq, Prod.mk.injEq] at h
      obtain ⟨rfl, rfl⟩ := h
      have h1 := hv _ List.mem_cons_self
      exact lv_dup2_2 hx hb hd rfl (k (List.forall_mem_cons.mpr ⟨h1, hv⟩))
    · cases h
    · rename_i v w r hn1 hn2
      simp only [Option.some.injEq, Prod.mk.injEq] at h
      obtain ⟨rfl, rfl⟩ := h
      have h1 := hv _ List.mem_cons_self
      have h2 := hv _ (List.mem_cons_of_mem _ List.mem_cons_self)
      refine lv_dup2_11 hx hb hd ?_ ?_ (k (List.forall_mem_cons.mpr ⟨h1, List.forall_mem_cons.mpr ⟨h2, hv⟩⟩))
      · rw [xcat hf]
        rcases v with (x | x) | q
        · rfl
        · exact (hn1 x rfl).elim
        · rfl
      · rw [xcat hf]
        rcases w with (x | x) | q
        · rfl
        · exact (hn2 x rfl).elim
        · rfl
    · cases h
  case pop =>
    unfold xst at h
    dsimp only at h
    split at h
    · cases h
    · rename_i v r hne
      simp only [Option.some.injEq, Prod.mk.injEq] at h
      obtain ⟨rfl, rfl⟩ := h
      have hr : ∀ v ∈ r, xok nx v := fun v q => hv v (List.mem_cons_of_mem _ q)
      refine lv_pop hx hb hd ?_ (k hr)
      rw [xcat hf]
      rcases v with (x | x) | q
      · rfl
      · exact (hne x rfl).elim
      · rfl
    · cases h
  all_goals (exact absurd h (by simp [xst]))
end XST
