theorem xn_add (x y : Int) : Int32.ofInt x + Int32.ofInt y = Int32.ofInt (w32 (x + y)) := by rw [xofi, Int32.ofInt_add]
theorem xn_sub (x y : Int) : Int32.ofInt x - Int32.ofInt y = Int32.ofInt (w32 (x - y)) := by rw [xofi, Int32.ofInt_sub]
theorem xn_mul (x y : Int) : Int32.ofInt x * Int32.ofInt y = Int32.ofInt (w32 (x * y)) := by rw [xofi, Int32.ofInt_mul]
theorem xn_neg (x : Int) : - Int32.ofInt x = Int32.ofInt (w32 (-x)) := by rw [xofi, Int32.ofInt_neg]
theorem xl_add (x y : Int) : Int64.ofInt x + Int64.ofInt y = Int64.ofInt (w64 (x + y)) := by rw [xofl, Int64.ofInt_add]
theorem xl_sub (x y : Int) : Int64.ofInt x - Int64.ofInt y = Int64.ofInt (w64 (x - y)) := by rw [xofl, Int64.ofInt_sub]
theorem xl_mul (x y : Int) : Int64.ofInt x * Int64.ofInt y = Int64.ofInt (w64 (x * y)) := by rw [xofl, Int64.ofInt_mul]
theorem xn_div {x y : Int} (hx : xi32 x) (hy : xi32 y) : Int32.ofInt x / Int32.ofInt y = Int32.ofInt (w32 (x.tdiv y)) := by
  apply Int32.toInt_inj.mp
  rw [Int32.toInt_div, xtoi hx, xtoi hy, xofi, Int32.toInt_ofInt]
theorem xl_div {x y : Int} (hx : xi64 x) (hy : xi64 y) : Int64.ofInt x / Int64.ofInt y = Int64.ofInt (w64 (x.tdiv y)) := by
  apply Int64.toInt_inj.mp
  rw [Int64.toInt_div, xtol hx, xtol hy, xofl, Int64.toInt_ofInt]
theorem xtmod_abs (x y : Int) : (x.tmod y).natAbs ≤ x.natAbs := by
  rw [Int.natAbs_tmod]
  exact Nat.mod_le _ _
theorem xi32_tmod {x y : Int} (hx : xi32 x) : xi32 (x.tmod y) := by
  have h1 : (x.tmod y).natAbs ≤ x.natAbs := xtmod_abs x y
  obtain ⟨a, b⟩ := hx
  by_cases h : 0 ≤ x
  · have := Int.tmod_nonneg y h
    exact ⟨by omega, by omega⟩
  · have : x.tmod y ≤ 0 := by
      have h2 := Int.tmod_nonneg (a := -x) y (by omega)
      rw [Int.neg_tmod] at h2
      omega
    exact ⟨by omega, by omega⟩
theorem xi64_tmod {x y : Int} (hx : xi64 x) : xi64 (x.tmod y) := by
  have h1 : (x.tmod y).natAbs ≤ x.natAbs := xtmod_abs x y
  obtain ⟨a, b⟩ := hx
  by_cases h : 0 ≤ x
  · have := Int.tmod_nonneg y h
    exact ⟨by omega, by omega⟩
  · have : x.tmod y ≤ 0 := by
      have h2 := Int.tmod_nonneg (a := -x) y (by omega)
      rw [Int.neg_tmod] at h2
      omega
    exact ⟨by omega, by omega⟩
theorem xn_rem {x y : Int} (hx : xi32 x) (hy : xi32 y) : Int32.ofInt x - Int32.ofInt x / Int32.ofInt y * Int32.ofInt y = Int32.ofInt (x.tmod y) := by
  rw [xn_div hx hy, xofi, ← Int32.ofInt_mul, ← Int32.ofInt_sub]
  congr 1
  have := Int.tmod_add_mul_tdiv x y
  rw [Int.mul_comm] at this
  omega
theorem xl_rem {x y : Int} (hx : xi64 x) (hy : xi64 y) : Int64.ofInt x - Int64.ofInt x / Int64.ofInt y * Int64.ofInt y = Int64.ofInt (x.tmod y) := by
  rw [xl_div hx hy, xofl, ← Int64.ofInt_mul, ← Int64.ofInt_sub]
  congr 1
  have := Int.tmod_add_mul_tdiv x y
  rw [Int.mul_comm] at this
  omega
theorem xn_ne {y : Int} (hy : xi32 y) (h : y ≠ 0) : ¬ Int32.ofInt y = 0 := by
  intro q
  have := congrArg Int32.toInt q
  rw [xtoi hy] at this
  exact h this
theorem xl_ne {y : Int} (hy : xi64 y) (h : y ≠ 0) : ¬ Int64.ofInt y = 0 := by
  intro q
  have := congrArg Int64.toInt q
  rw [xtol hy] at this
  exact h this
theorem xn_i2l {x : Int} (hx : xi32 x) : (Int32.ofInt x).toInt64 = Int64.ofInt x := by
  apply Int64.toInt_inj.mp
  rw [Int32.toInt_toInt64, xtoi hx, xtol ⟨by have := hx.1; omega, by have := hx.2; omega⟩]
theorem xl_l2i (x : Int) : (Int64.ofInt x).toInt32 = Int32.ofInt (w32 x) := by
  rw [xofi]
  apply Int32.toInt_inj.mp
  rw [Int64.toInt_toInt32, Int64.toInt_ofInt, Int32.toInt_ofInt]
  exact Int.bmod_bmod_of_dvd (by decide)
theorem xn_i2b (x : Int) : (Int32.ofInt x).toInt8.toInt32 = Int32.ofInt (w8 x) := by
  apply Int32.toInt_inj.mp
  rw [Int8.toInt_toInt32, Int32.toInt_toInt8, Int32.toInt_ofInt]
  have h : xi32 (w8 x) := by
    have h1 := Int.le_bmod (x := x) (m := 256) (by decide)
    have h2 := Int.bmod_lt (x := x) (m := 256) (by decide)
    unfold w8 xi32
    omega
  rw [xtoi h]
  exact Int.bmod_bmod_of_dvd (by decide)
theorem xn_i2s (x : Int) : (Int32.ofInt x).toInt16.toInt32 = Int32.ofInt (w16 x) := by
  apply Int32.toInt_inj.mp
  rw [Int16.toInt_toInt32, Int32.toInt_toInt16, Int32.toInt_ofInt]
  have h : xi32 (w16 x) := by
    have h1 := Int.le_bmod (x := x) (m := 65536) (by decide)
    have h2 := Int.bmod_lt (x := x) (m := 65536) (by decide)
    unfold w16 xi32
    omega
  rw [xtoi h]
  exact Int.bmod_bmod_of_dvd (by decide)
theorem xi32_w8 (x : Int) : xi32 (w8 x) := by
  have h1 := Int.le_bmod (x := x) (m := 256) (by decide)
  have h2 := Int.bmod_lt (x := x) (m := 256) (by decide)
  unfold w8 xi32
  omega
theorem xi32_w16 (x : Int) : xi32 (w16 x) := by
  have h1 := Int.le_bmod (x := x) (m := 65536) (by decide)
  have h2 := Int.bmod_lt (x := x) (m := 65536) (by decide)
  unfold w16 xi32
  omega
theorem xl_cmp {x y : Int} (hx : xi64 x) (hy : xi64 y) : lg_cmp (Int64.ofInt x) (Int64.ofInt y) = Int32.ofInt (xcmp x y) := by
  have e1 : (Int64.ofInt x > Int64.ofInt y) ↔ y < x := by rw [gt_iff_lt, Int64.lt_iff_toInt_lt, xtol hx, xtol hy]
  have e2 : (Int64.ofInt x = Int64.ofInt y) ↔ x = y := by
    constructor
    · intro h
      have := congrArg Int64.toInt h
      rwa [xtol hx, xtol hy] at this
    · rintro rfl; rfl
  unfold lg_cmp xcmp
  by_cases h : y < x
  · rw [if_pos (e1.mpr h), if_neg (by omega), if_neg (by omega)]; rfl
  · by_cases h2 : x = y
    · rw [if_neg (fun q => h (e1.mp q)), if_pos (e2.mpr h2), if_neg (by omega), if_pos h2]; rfl
    · rw [if_neg (fun q => h (e1.mp q)), if_neg (fun q => h2 (e2.mp q)), if_pos (by omega)]; rfl
theorem xcmp_i32 (x y : Int) : xi32 (xcmp x y) := by
  unfold xcmp xi32
  split
  · omega
  · split <;> omega
theorem xn_lt {x y : Int} (hx : xi32 x) (hy : xi32 y) : (Int32.ofInt x < Int32.ofInt y) ↔ x < y := by rw [Int32.lt_iff_toInt_lt, xtoi hx, xtoi hy]
theorem xn_le {x y : Int} (hx : xi32 x) (hy : xi32 y) : (Int32.ofInt x ≤ Int32.ofInt y) ↔ x ≤ y := by rw [Int32.le_iff_toInt_le, xtoi hx, xtoi hy]
theorem xn_eq {x y : Int} (hx : xi32 x) (hy : xi32 y) : (Int32.ofInt x = Int32.ofInt y) ↔ x = y := by
  constructor
  · intro h
    have := congrArg Int32.toInt h
    rwa [xtoi hx, xtoi hy] at this
  · rintro rfl; rfl
theorem xn_in {j : Int} {n : Nat} (hj : xi32 j) (h : xidx j n) : vp_in (Int32.ofInt j) n := by
  obtain ⟨a, b⟩ := h
  unfold vp_in
  rintro (q | q)
  · rw [Int32.lt_iff_toInt_lt, xtoi hj] at q
    have : (0 : Int32).toInt = 0 := rfl
    omega
  · have e : (Int32.ofInt j).toNatClampNeg = j.toNat := by
      show (Int32.ofInt j).toInt.toNat = _
      rw [xtoi hj]
    rw [e] at q
    omega
theorem xn_clamp {j : Int} (hj : xi32 j) : (Int32.ofInt j).toNatClampNeg = j.toNat := by
  show (Int32.ofInt j).toInt.toNat = _
  rw [xtoi hj]
