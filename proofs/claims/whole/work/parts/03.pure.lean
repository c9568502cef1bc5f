/-! ===== a small machine over numbers: values, cells by number, one instruction at a time ===== -/
abbrev xV : Type := (Int ⊕ Int) ⊕ (Nat × Nat)
abbrev xM : Type := Nat → Nat → Int
abbrev xR : Type := Nat → Nat → Nat
abbrev xL : Type := List (Nat × xV)
abbrev xS : Type := Nat × xL × List xV × xR × xM × Nat
/-- where it stands, the instruction, and two notes: what it names (a class, a kind), a number (a field, a constant, a way taken) -/
abbrev xI : Type := Nat × Instr × Nat × Int
abbrev vI (x : Int) : xV := .inl (.inl x)
abbrev vL (x : Int) : xV := .inl (.inr x)
abbrev vR (k i : Nat) : xV := .inr (k, i)
def w32 (x : Int) : Int := x.bmod 4294967296
def w64 (x : Int) : Int := x.bmod 18446744073709551616
def w8 (x : Int) : Int := x.bmod 256
def w16 (x : Int) : Int := x.bmod 65536
def xand (x y : Int) : Int := (Int32.ofInt x &&& Int32.ofInt y).toInt
def xior (x y : Int) : Int := (Int32.ofInt x ||| Int32.ofInt y).toInt
def xshl (x y : Int) : Int := (Int32.ofInt x <<< (Int32.ofInt y &&& 31)).toInt
def xshr (x y : Int) : Int := (Int32.ofInt x >>> (Int32.ofInt y &&& 31)).toInt
def xushr (x y : Int) : Int := ((Int32.ofInt x).toUInt32 >>> ((Int32.ofInt y).toUInt32 &&& Int32.toUInt32 31)).toInt32.toInt
def yand (x y : Int) : Int := (Int64.ofInt x &&& Int64.ofInt y).toInt
def yor (x y : Int) : Int := (Int64.ofInt x ||| Int64.ofInt y).toInt
def yshl (x y : Int) : Int := (Int64.ofInt x <<< ((Int32.ofInt y).toInt64 &&& 63)).toInt
def yushr (x y : Int) : Int := ((Int64.ofInt x).toUInt64 >>> ((Int32.ofInt y).toInt64.toUInt64 &&& Int64.toUInt64 63)).toInt64.toInt
def xi2c (x : Int) : Int := ((Int32.ofInt x).toUInt32 % 65536).toInt32.toInt
def xcmp (x y : Int) : Int := if x < y then -1 else if x = y then 0 else 1
def xu {α : Type} (f : Nat → Nat → α) (c i : Nat) (v : α) : Nat → Nat → α := fun a b => if a = c ∧ b = i then v else f a b
def xz {α : Type} (f : Nat → Nat → α) (c : Nat) (v : α) : Nat → Nat → α := fun a b => if a = c then v else f a b
def xcpy (M : xM) (c d : Nat) (sp dp n : Nat) : xM := fun a b => if a = d ∧ dp ≤ b ∧ b < dp + n then M c (sp + (b - dp)) else M a b
def xAll : List Prop → Prop
  | [] => True
  | p :: r => p ∧ xAll r
def xar (k e : Nat) : Prop := (20 ≤ k ∧ k < 90) ∧ xae k = e
def xidx (j : Int) (n : Nat) : Prop := 0 ≤ j ∧ j < (n : Int)
/-- texts, by number from 1 -/
def xsn (i : Nat) : Nat := (xsL.getD i []).length
def xsb (i j : Nat) : Int := (xsL.getD i []).getD j 0
def xlk (n : Nat) : xL → Option xV
  | [] => none
  | q :: r => cond (Nat.beq q.1 n) (some q.2) (xlk n r)
def xlong : xV → Bool
  | .inl (.inr _) => true
  | _ => false
def xflt (lg : Bool) (n : Nat) : xL → xL
  | [] => []
  | q :: r => cond (Nat.beq q.1 n || ((lg && Nat.beq q.1 (n + 1)) || (Nat.beq (q.1 + 1) n && xlong q.2))) (xflt lg n r) (q :: xflt lg n r)
def xsto (n : Nat) (v : xV) (ls : xL) : xL := (n, v) :: xflt (xlong v) n ls
/-- what touches the stack alone: the new stack, and what must hold -/
def xst (i : Instr) (a : Nat) (b : Int) (st : List xV) : Option (List xV × List Prop) :=
  match i with
  | .iconst _ => some (vI b :: st, [])
  | .bipush _ => some (vI b :: st, [])
  | .sipush _ => some (vI b :: st, [])
  | .ldc _ => some ((match a with | 0 => vI b | _ => vR 99 a) :: st, [])
  | .ldc_w _ => some ((match a with | 0 => vI b | _ => vR 99 a) :: st, [])
  | .lconst _ => some (vL b :: st, [])
  | .ldc2_w _ => some (vL b :: st, [])
  | .iadd => match st with | .inl (.inl y) :: .inl (.inl x) :: r => some (vI (w32 (x + y)) :: r, []) | _ => none
  | .isub => match st with | .inl (.inl y) :: .inl (.inl x) :: r => some (vI (w32 (x - y)) :: r, []) | _ => none
  | .imul => match st with | .inl (.inl y) :: .inl (.inl x) :: r => some (vI (w32 (x * y)) :: r, []) | _ => none
  | .idiv => match st with | .inl (.inl y) :: .inl (.inl x) :: r => some (vI (w32 (x.tdiv y)) :: r, [y ≠ 0]) | _ => none
  | .irem => match st with | .inl (.inl y) :: .inl (.inl x) :: r => some (vI (x.tmod y) :: r, [y ≠ 0]) | _ => none
  | .iand => match st with | .inl (.inl y) :: .inl (.inl x) :: r => some (vI (xand x y) :: r, []) | _ => none
  | .ior => match st with | .inl (.inl y) :: .inl (.inl x) :: r => some (vI (xior x y) :: r, []) | _ => none
  | .ishl => match st with | .inl (.inl y) :: .inl (.inl x) :: r => some (vI (xshl x y) :: r, []) | _ => none
  | .ishr => match st with | .inl (.inl y) :: .inl (.inl x) :: r => some (vI (xshr x y) :: r, []) | _ => none
  | .iushr => match st with | .inl (.inl y) :: .inl (.inl x) :: r => some (vI (xushr x y) :: r, []) | _ => none
  | .ineg => match st with | .inl (.inl x) :: r => some (vI (w32 (-x)) :: r, []) | _ => none
  | .ladd => match st with | .inl (.inr y) :: .inl (.inr x) :: r => some (vL (w64 (x + y)) :: r, []) | _ => none
  | .lsub => match st with | .inl (.inr y) :: .inl (.inr x) :: r => some (vL (w64 (x - y)) :: r, []) | _ => none
  | .lmul => match st with | .inl (.inr y) :: .inl (.inr x) :: r => some (vL (w64 (x * y)) :: r, []) | _ => none
  | .ldiv => match st with | .inl (.inr y) :: .inl (.inr x) :: r => some (vL (w64 (x.tdiv y)) :: r, [y ≠ 0]) | _ => none
  | .lrem => match st with | .inl (.inr y) :: .inl (.inr x) :: r => some (vL (x.tmod y) :: r, [y ≠ 0]) | _ => none
  | .land => match st with | .inl (.inr y) :: .inl (.inr x) :: r => some (vL (yand x y) :: r, []) | _ => none
  | .lor => match st with | .inl (.inr y) :: .inl (.inr x) :: r => some (vL (yor x y) :: r, []) | _ => none
  | .lshl => match st with | .inl (.inl y) :: .inl (.inr x) :: r => some (vL (yshl x y) :: r, []) | _ => none
  | .lushr => match st with | .inl (.inl y) :: .inl (.inr x) :: r => some (vL (yushr x y) :: r, []) | _ => none
  | .i2l => match st with | .inl (.inl x) :: r => some (vL x :: r, []) | _ => none
  | .l2i => match st with | .inl (.inr x) :: r => some (vI (w32 x) :: r, []) | _ => none
  | .i2b => match st with | .inl (.inl x) :: r => some (vI (w8 x) :: r, []) | _ => none
  | .i2s => match st with | .inl (.inl x) :: r => some (vI (w16 x) :: r, []) | _ => none
  | .i2c => match st with | .inl (.inl x) :: r => some (vI (xi2c x) :: r, []) | _ => none
  | .lcmp => match st with | .inl (.inr y) :: .inl (.inr x) :: r => some (vI (xcmp x y) :: r, []) | _ => none
  | .dup => match st with | .inl (.inr _) :: _ => none | v :: r => some (v :: v :: r, []) | _ => none
  | .dup2 => match st with | .inl (.inr x) :: r => some (vL x :: vL x :: r, []) | v :: .inl (.inr _) :: _ => none | v :: w :: r => some (v :: w :: v :: w :: r, []) | _ => none
  | .pop => match st with | .inl (.inr _) :: _ => none | _ :: r => some (r, []) | _ => none
  | _ => none
def xln : Instr → Nat
  | .bipush _ => 2
  | .ldc _ => 2
  | .sipush _ => 3
  | .ldc_w _ => 3
  | .ldc2_w _ => 3
  | _ => 1
def xrel (c : ClassFile.Cond) (x y : Int) : Prop := match c with
  | .eq => x = y
  | .ne => x ≠ y
  | .lt => x < y
  | .ge => y ≤ x
  | .gt => y < x
  | .le => x ≤ y
abbrev xto (pc : Nat) (ls : xL) (st : List xV) (R : xR) (M : xM) (nx : Nat) (cs : List Prop) : Option (xS × List Prop) := some ((pc, ls, st, R, M, nx), cs)
def x2 (cm : Bool) (sc : List Int) (pc : Nat) (i : Instr) (a : Nat) (b : Int) (ls : xL) (st : List xV) (R : xR) (M : xM) (nx : Nat) : Option (xS × List Prop) :=
  match i with
  | .iload n => match xlk n ls with | some (.inl (.inl x)) => xto (pc + 2) ls (vI x :: st) R M nx [] | _ => none
  | .iload_n n => match xlk n.val ls with | some (.inl (.inl x)) => xto (pc + 1) ls (vI x :: st) R M nx [] | _ => none
  | .lload n => match xlk n ls with | some (.inl (.inr x)) => xto (pc + 2) ls (vL x :: st) R M nx [] | _ => none
  | .lload_n n => match xlk n.val ls with | some (.inl (.inr x)) => xto (pc + 1) ls (vL x :: st) R M nx [] | _ => none
  | .aload n => match xlk n ls with | some (.inr v) => (match a with | 0 => cond (Nat.beq v.1 96) none (xto (pc + 2) ls (.inr v :: st) R M nx []) | _ => xto (pc + 2) ls (.inr v :: st) R M nx [v.1 ≠ 96]) | _ => none
  | .aload_n n => match xlk n.val ls with | some (.inr v) => (match a with | 0 => cond (Nat.beq v.1 96) none (xto (pc + 1) ls (.inr v :: st) R M nx []) | _ => xto (pc + 1) ls (.inr v :: st) R M nx [v.1 ≠ 96]) | _ => none
  | .istore n => match st with | .inl (.inl x) :: r => xto (pc + 2) (xsto n (vI x) ls) r R M nx [] | _ => none
  | .istore_n n => match st with | .inl (.inl x) :: r => xto (pc + 1) (xsto n.val (vI x) ls) r R M nx [] | _ => none
  | .lstore n => match st with | .inl (.inr x) :: r => xto (pc + 2) (xsto n (vL x) ls) r R M nx [] | _ => none
  | .lstore_n n => match st with | .inl (.inr x) :: r => xto (pc + 1) (xsto n.val (vL x) ls) r R M nx [] | _ => none
  | .astore n => match st with | .inr v :: r => xto (pc + 2) (xsto n (.inr v) ls) r R M nx [v.1 ≠ 96] | _ => none
  | .astore_n n => match st with | .inr v :: r => xto (pc + 1) (xsto n.val (.inr v) ls) r R M nx [v.1 ≠ 96] | _ => none
  | .iinc n k => match xlk n ls with | some (.inl (.inl x)) => xto (pc + 3) (xsto n (vI (w32 (x + k))) ls) st R M nx [] | _ => none
  | .goto _ => xto b.toNat ls st R M nx []
  | .ifCond c _ => match st with
    | .inl (.inl x) :: r => (match b with
      | .ofNat t => xto t ls r R M nx [xrel c x 0]
      | _ => xto (pc + 3) ls r R M nx [¬ xrel c x 0])
    | _ => none
  | .if_icmp c _ => match st with
    | .inl (.inl y) :: .inl (.inl x) :: r => (match b with
      | .ofNat t => xto t ls r R M nx [xrel c x y]
      | _ => xto (pc + 3) ls r R M nx [¬ xrel c x y])
    | _ => none
  | .tableswitch _ lo hi _ => match st with
    | .inl (.inl x) :: r => (match a with
      | 0 => xto b.toNat ls r R M nx [x < lo ∨ hi < x]
      | k + 1 => xto b.toNat ls r R M nx [x = lo + (k : Int)])
    | _ => none
  | .getfield _ => match st with
    | .inr (k, j) :: r => cond (Nat.beq k a) (cond (Nat.beq a 99)
        (match b with | 0 => xto (pc + 3) ls (vR 98 j :: r) R M nx [] | 1 => xto (pc + 3) ls (vI 0 :: r) R M nx [] | _ => none)
        (match xfc a b.toNat with
          | 0 => xto (pc + 3) ls (vI (M j b.toNat) :: r) R M nx []
          | 1 => xto (pc + 3) ls (vI (M j b.toNat) :: r) R M nx []
          | 2 => xto (pc + 3) ls (vL (M j b.toNat) :: r) R M nx []
          | f + 3 => cond cm none (xto (pc + 3) ls (vR f (R j b.toNat) :: r) R M nx []))) none
    | _ => none
  | .putfield _ => match st with
    | .inl (.inl x) :: .inr (k, j) :: r => cond (Nat.beq k a) (match xfc a b.toNat with
        | 0 => xto (pc + 3) ls r R (xu M j b.toNat x) nx []
        | 1 => xto (pc + 3) ls r R (xu M j b.toNat x) nx [x = 0 ∨ x = 1]
        | _ => none) none
    | .inl (.inr x) :: .inr (k, j) :: r => cond (Nat.beq k a) (match xfc a b.toNat with
        | 2 => xto (pc + 3) ls r R (xu M j b.toNat x) nx []
        | _ => none) none
    | .inr (f, v) :: .inr (k, j) :: r => cond (Nat.beq k a && Nat.beq (xfc a b.toNat) (f + 3)) (xto (pc + 3) ls r (xu R j b.toNat v) M nx []) none
    | _ => none
  | .getstatic _ => match a with
    | 0 => xto (pc + 3) ls (vI 1 :: st) R M nx []
    | _ => xto (pc + 3) ls (vR 96 0 :: st) R M nx []
  | .arraylength => match st with
    | .inr (k, j) :: r => (match a with
      | 97 => xto (pc + 1) ls (vI (sc.length : Int) :: r) R M nx [k = 97]
      | 98 => xto (pc + 1) ls (vI (xsn j : Int) :: r) R M nx [k = 98]
      | _ => xto (pc + 1) ls (vI (xan k : Int) :: r) R M nx [20 ≤ k ∧ k < 90 ∧ xae k < 4])
    | _ => none
  | .iaload => match st with
    | .inl (.inl x) :: .inr (k, j) :: r => (match a with
      | 97 => xto (pc + 1) ls (vI (sc.getD x.toNat 0) :: r) R M nx [k = 97, xidx x sc.length]
      | _ => xto (pc + 1) ls (vI (M j x.toNat) :: r) R M nx [xar k 0, xidx x (xan k)])
    | _ => none
  | .laload => match st with
    | .inl (.inl x) :: .inr (k, j) :: r => xto (pc + 1) ls (vL (M j x.toNat) :: r) R M nx [xar k 1, xidx x (xan k)]
    | _ => none
  | .baload => match st with
    | .inl (.inl x) :: .inr (k, j) :: r => (match a with
      | 98 => xto (pc + 1) ls (vI (xsb j x.toNat) :: r) R M nx [k = 98, xidx x (xsn j)]
      | 3 => xto (pc + 1) ls (vI (M j x.toNat) :: r) R M nx [xar k 3, xidx x (xan k)]
      | _ => xto (pc + 1) ls (vI (M j x.toNat) :: r) R M nx [xar k 2, xidx x (xan k)])
    | _ => none
  | .iastore => match st with
    | .inl (.inl v) :: .inl (.inl x) :: .inr (k, j) :: r => xto (pc + 1) ls r R (xu M j x.toNat v) nx [xar k 0, xidx x (xan k)]
    | _ => none
  | .lastore => match st with
    | .inl (.inr v) :: .inl (.inl x) :: .inr (k, j) :: r => xto (pc + 1) ls r R (xu M j x.toNat v) nx [xar k 1, xidx x (xan k)]
    | _ => none
  | .bastore => match st with
    | .inl (.inl v) :: .inl (.inl x) :: .inr (k, j) :: r => (match a with
      | 3 => xto (pc + 1) ls r R (xu M j x.toNat v) nx [xar k 3, xidx x (xan k), v = 0 ∨ v = 1]
      | _ => xto (pc + 1) ls r R (xu M j x.toNat (w8 v)) nx [xar k 2, xidx x (xan k)])
    | _ => none
  | .new _ => cond cm (xto (pc + 3) ls (vR a nx :: st) (xz R nx 0) (xz M nx 0) (nx + 1) [a < 20 ∧ xk nx = a]) none
  | .newarray _ => cond cm (match st with
    | .inl (.inl x) :: r => xto (pc + 2) ls (vR a nx :: r) R (xz M nx 0) (nx + 1) [xk nx = a ∧ 20 ≤ a ∧ a < 90 ∧ x = (xan a : Int)]
    | _ => none) none
  | _ => match xst i a b st with
    | some (r, cs) => xto (pc + xln i) ls r R M nx cs
    | none => none
def x1 (cm : Bool) (sc : List Int) (q : xI) (z : xS) : Option (xS × List Prop) :=
  cond (Nat.beq q.1 z.1) (x2 cm sc q.1 q.2.1 q.2.2.1 q.2.2.2 z.2.1 z.2.2.1 z.2.2.2.1 z.2.2.2.2.1 z.2.2.2.2.2) none
def xN (cm : Bool) (sc : List Int) : List xI → xS → Option (xS × List Prop)
  | [], z => some (z, [])
  | q :: r, z => match x1 cm sc q z with
    | some (z1, cs) => (match xN cm sc r z1 with
      | some (z2, ds) => some (z2, cs ++ ds)
      | none => none)
    | none => none
