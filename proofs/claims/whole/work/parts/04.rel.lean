/-! ===== how the small machine stands to the true one ===== -/
/-- classes' numbers; class numbers of rows; one below the first cell; texts; their bytes; the script; a value that nobody reads -/
abbrev xG : Type := va_G × (Nat → ClassId) × Nat × (Nat → Nat) × (Nat → Nat) × Nat × Value
abbrev gD (g : xG) : va_G := g.1
abbrev gA (g : xG) : Nat → ClassId := g.2.1
abbrev gb (g : xG) : Nat := g.2.2.1
abbrev gK (g : xG) : Nat → Nat := g.2.2.2.1
abbrev gV (g : xG) : Nat → Nat := g.2.2.2.2.1
abbrev gs (g : xG) : Nat := g.2.2.2.2.2.1
abbrev gf (g : xG) : Value := g.2.2.2.2.2.2
abbrev xX : Type := Program × Launch × Env × Room × State × MethodId × Array Value × List Frame × Method × Code
abbrev xY : Type := MethodName × ByteArray × Nat × Option FieldType
def xA (g : xG) : Nat → Prop := fun q => gb g + 1 ≤ q
def xad (g : xG) (k i : Nat) : Nat := if k < 90 then gb g + i else if k = 99 then gK g (i - 1) else if k = 98 then gV g (i - 1) else gs g
def xc (g : xG) : xV → Value
  | .inl (.inl x) => .int (Int32.ofInt x)
  | .inl (.inr x) => .long (Int64.ofInt x)
  | .inr (k, i) => if k = 96 then gf g else .ref (xad g k i)
def xi32 (x : Int) : Prop := -2147483648 ≤ x ∧ x < 2147483648
def xi64 (x : Int) : Prop := -9223372036854775808 ≤ x ∧ x < 9223372036854775808
def xvr (nx k i : Nat) : Prop := (k < 90 → 1 ≤ i ∧ i < nx ∧ xk i = k) ∧ ((k = 98 ∨ k = 99) → 1 ≤ i ∧ i ≤ 7)
def xok (nx : Nat) : xV → Prop
  | .inl (.inl x) => xi32 x
  | .inl (.inr x) => xi64 x
  | .inr (k, i) => xvr nx k i
def xlg (i k : Nat) : Bool := if xk i < 20 then xfc (xk i) k == 2 else xae (xk i) == 1
def xMr (M : xM) : Prop := ∀ i k, (xlg i k = false → xi32 (M i k)) ∧ (xlg i k = true → xi64 (M i k))
def xT (cm : Bool) (R : xR) (nx : Nat) : Prop := ∀ i k f, 1 ≤ i → i < nx → xk i < 20 → k < xnf (xk i) → xfc (xk i) k = f + 3 → (R i k = 0 ∧ cm = true) ∨ (R i k ≠ 0 ∧ xvr nx f (R i k))
def xfv (g : xG) (R : xR) (M : xM) (i k : Nat) : Value := match xfc (xk i) k with
  | 0 => .int (Int32.ofInt (M i k))
  | 1 => .int (Int32.ofInt (M i k))
  | 2 => .long (Int64.ofInt (M i k))
  | f + 3 => if R i k = 0 then .null else .ref (xad g f (R i k))
def xE (g : xG) (R : xR) (M : xM) (i : Nat) : va_E :=
  if xk i < 20 then .inr (xk i, (List.range (xnf (xk i))).map (xfv g R M i))
  else .inl (gA g (xae (xk i)), xan (xk i), if xae (xk i) = 1 then .inr (.inl fun j => Int64.ofInt (M i j)) else .inl fun j => Int32.ofInt (M i j))
def xP (g : xG) (cm : Bool) (R : xR) (M : xM) (nx : Nat) (H : Heap) : Prop :=
  1 ≤ nx ∧ (cm = true → H.size = gb g + nx) ∧ (∀ i, 1 ≤ i → i < nx → va_at (gD g) xcl (gb g + i, xE g R M i) H) ∧ xT cm R nx ∧ xMr M
abbrev xtys (g : xG) : List (ClassId × FieldType) := [(gA g 0, .int), (gA g 1, .long), (gA g 2, .byte), (gA g 3, .boolean)]
abbrev xsLen : List Nat := (xsL.drop 1).map List.length
abbrev xsByt : List (List Int32) := (xsL.drop 1).map (fun r => r.map Int32.ofInt)
/-- what stands still: classes, texts, the script, two statics -/
def xF (g : xG) (sc : List Int) (U : State) (H : Heap) : Prop :=
  va_K (gD g) xcl (xtys g) U ∧ vk_S 7 xsLen xsByt (gK g) (gV g) (xA g) U H ∧ (∀ j, j < 7 → vk_R (xsR.getD j ("", 0, "")).1 (xsR.getD j ("", 0, "")).2.1 (xsR.getD j ("", 0, "")).2.2 (gK g j) U) ∧
  (∃ xs : Nat → Int32, va_X (gs g) sc.length xs U H ∧ ∀ j, j < sc.length → sc.getD j 0 = (xs j).toInt) ∧ gs g < gb g + 1 ∧ gb g + 1 ≤ H.size ∧ sc.length < 10000 ∧
  va_Z "java/lang/String" "COMPACT_STRINGS" "Z" (.int 1) (xA g) U H ∧ va_Z "jdk/internal/util/Preconditions" "SIOOBE_FORMATTER" "Ljava/util/function/BiFunction;" (gf g) (xA g) U H ∧ (gf g = .null ∨ ∃ a, gf g = .ref a)
def xnest : List (String × Nat × MethodName × String) := [("FlueHouse", 15, ⟨"FlueHouse$Tape", "<init>", "()V"⟩, "FlueHouse"), ("FlueHouse", 22, ⟨"FlueHouse$Trays", "<init>", "()V"⟩, "FlueHouse"), ("FlueHouse", 29, ⟨"FlueHouse$Plant", "<init>", "()V"⟩, "FlueHouse"), ("FlueHouse", 39, ⟨"FlueHouse$Laws", "<init>", "()V"⟩, "FlueHouse"), ("FlueHouse", 49, ⟨"FlueHouse$Book", "<init>", "()V"⟩, "FlueHouse"), ("FlueHouse", 56, ⟨"FlueHouse$Flow", "<init>", "()V"⟩, "FlueHouse"), ("FlueHouse$Flow", 39, ⟨"FlueHouse$Parter", "<init>", "()V"⟩, "FlueHouse"), ("FlueHouse", 63, ⟨"FlueHouse$Parter", "<init>", "()V"⟩, "FlueHouse"), ("FlueHouse", 70, ⟨"FlueHouse$Hunt", "<init>", "()V"⟩, "FlueHouse"), ("FlueHouse$Hunt", 11, ⟨"FlueHouse$Flow", "<init>", "()V"⟩, "FlueHouse"), ("FlueHouse", 77, ⟨"FlueHouse$Paper", "<init>", "()V"⟩, "FlueHouse")]
def xNs (U : State) : Prop := ∀ q ∈ xnest, va_Nw (.methodLinkNest q.1 q.2.1 q.2.2.1 q.2.2.2) U
def xws : List Cond := lw_tbl.filter goodWord
/-- where a method stands: depth d, at most E cells at its end, n0 of them at its start -/
def xCx (d E : Nat) (sc : List Int) (y : xY) (X : xX) (g : xG) (n0 : Nat) : Prop := match X with
  | (p, _, _, Rm, s, m, args, _, meth, c) => p.tables.exec = Jvm.exec ∧ c.code = y.2.1 ∧ c.maxLocals = y.2.2.1 ∧ s.vm.findClass y.1.cls = some m.cls ∧ (∀ w ∈ xws, w.before args s = true) ∧ xF g sc s s.heap ∧ xNs s ∧
    d ≤ Rm.frames ∧ 60 * d ≤ Rm.locals ∧ meth.name = y.1.name ∧ meth.sig.returnType = y.2.2.2 ∧ meth.locks = false ∧ E ≤ n0 + Rm.cells ∧ xsz E ≤ xsz n0 + Rm.slots ∧ E ≤ 174
def xcl2 (g : xG) (ls : xL) : List (Nat × Value) := ls.map fun q => (q.1, xc g q.2)
/-- the machine, where its state is that of the small one, comes to Q -/
def xW (cm : Bool) (nL : Nat) (X : xX) (g : xG) (n0 : Nat) (Q : State → Prop) (z : xS) : Prop := match X with
  | (p, l, e, Rm, s, m, args, below, meth, c) => ∀ (H : Heap) (locs : List Loc) (cells slots : Nat) (mls : Array Slot), xP g cm z.2.2.2.1 z.2.2.2.2.1 z.2.2.2.2.2 H → va_S (xA g) s.heap H locs →
    cells + n0 = z.2.2.2.2.2 → slots + xsz n0 = xsz z.2.2.2.2.2 → lv_has mls nL (xcl2 g z.2.1) → (∀ q ∈ z.2.1, xok z.2.2.2.2.2 q.2) → (∀ v ∈ z.2.2.1, xok z.2.2.2.2.2 v) →
    W p l e Rm s m args below meth c H locs cells slots Q (F0 m z.1 mls (z.2.2.1.map (xc g)))
/-! numbers -/
theorem xofi (x : Int) : Int32.ofInt (w32 x) = Int32.ofInt x := by
  apply Int32.toInt_inj.mp
  rw [Int32.toInt_ofInt, Int32.toInt_ofInt]
  exact Int.bmod_bmod
theorem xofl (x : Int) : Int64.ofInt (w64 x) = Int64.ofInt x := by
  apply Int64.toInt_inj.mp
  rw [Int64.toInt_ofInt, Int64.toInt_ofInt]
  exact Int.bmod_bmod
theorem xtoi {x : Int} (h : xi32 x) : (Int32.ofInt x).toInt = x := by
  rw [Int32.toInt_ofInt]
  obtain ⟨a, b⟩ := h
  have : (Int32.size : Nat) = 4294967296 := rfl
  rw [this, Int.bmod_eq_of_le] <;> omega
theorem xtol {x : Int} (h : xi64 x) : (Int64.ofInt x).toInt = x := by
  rw [Int64.toInt_ofInt]
  obtain ⟨a, b⟩ := h
  have : (Int64.size : Nat) = 18446744073709551616 := rfl
  rw [this, Int.bmod_eq_of_le] <;> omega
theorem xback (i : Int32) : Int32.ofInt i.toInt = i := Int32.ofInt_toInt i
theorem xbackl (i : Int64) : Int64.ofInt i.toInt = i := Int64.ofInt_toInt i
theorem xi32_of (i : Int32) : xi32 i.toInt := ⟨Int32.le_toInt i, Int32.toInt_lt i⟩
theorem xi64_of (i : Int64) : xi64 i.toInt := ⟨Int64.le_toInt i, Int64.toInt_lt i⟩
theorem xi32_w (x : Int) : xi32 (w32 x) := by
  have h := xi32_of (Int32.ofInt x)
  rw [Int32.toInt_ofInt] at h
  exact h
theorem xi64_w (x : Int) : xi64 (w64 x) := by
  have h := xi64_of (Int64.ofInt x)
  rw [Int64.toInt_ofInt] at h
  exact h
