/-! ===== bits of a long ===== -/
theorem i64_nat {n : Nat} (h : n < 9223372036854775808) : (BitVec.ofNat 64 n).toInt = (n : Int) := by
  rw [BitVec.toInt_ofNat', Int.bmod_eq_of_le (by omega) (by omega)]
theorem ofInt_bv (n : Nat) : (Int64.ofInt (n : Int)).toBitVec = BitVec.ofNat 64 n := by
  show BitVec.ofInt 64 (n : Int) = _
  rw [BitVec.ofInt_natCast]
set_option maxRecDepth 100000 in
theorem yshl_one : ∀ g : Nat, g < 48 → yshl 1 (g : Int) = ((2 ^ g : Nat) : Int) := by decide +kernel
set_option maxRecDepth 100000 in
theorem yushr_am : ∀ h : Nat, h < 48 → ((Int32.ofInt (h : Int)).toInt64.toUInt64 &&& Int64.toUInt64 63).toNat = h := by decide +kernel
theorem yor_nat {u v : Nat} (hu : u < 2 ^ 48) (hv : v < 2 ^ 48) : yor (u : Int) (v : Int) = ((u ||| v : Nat) : Int) := by
  have hw : u ||| v < 2 ^ 48 := Nat.or_lt_two_pow hu hv
  have e : (Int64.ofInt (u : Int) ||| Int64.ofInt (v : Int)).toBitVec = BitVec.ofNat 64 (u ||| v) := by
    rw [Int64.toBitVec_or, ofInt_bv, ofInt_bv]
    apply BitVec.eq_of_toNat_eq
    rw [BitVec.toNat_or, BitVec.toNat_ofNat, BitVec.toNat_ofNat, BitVec.toNat_ofNat, Nat.mod_eq_of_lt (by omega), Nat.mod_eq_of_lt (by omega), Nat.mod_eq_of_lt (by omega)]
  unfold yor
  show (Int64.ofInt (u : Int) ||| Int64.ofInt (v : Int)).toBitVec.toInt = _
  rw [e, i64_nat (by omega)]
theorem yushr_nat {u h : Nat} (hu : u < 2 ^ 48) (hh : h < 48) : yushr (u : Int) (h : Int) = ((u >>> h : Nat) : Int) := by
  have hw : u >>> h ≤ u := Nat.shiftRight_le u h
  have e : ((Int64.ofInt (u : Int)).toUInt64 >>> ((Int32.ofInt (h : Int)).toInt64.toUInt64 &&& Int64.toUInt64 63)).toBitVec = BitVec.ofNat 64 (u >>> h) := by
    apply BitVec.eq_of_toNat_eq
    show ((Int64.ofInt (u : Int)).toUInt64 >>> ((Int32.ofInt (h : Int)).toInt64.toUInt64 &&& Int64.toUInt64 63)).toNat = _
    rw [UInt64.toNat_shiftRight, yushr_am h hh, BitVec.toNat_ofNat, Nat.mod_eq_of_lt (show h < 64 by omega), Nat.mod_eq_of_lt (show u >>> h < 2 ^ 64 by omega)]
    show (Int64.ofInt (u : Int)).toBitVec.toNat >>> h = _
    rw [ofInt_bv, BitVec.toNat_ofNat, Nat.mod_eq_of_lt (by omega)]
  unfold yushr
  show ((Int64.ofInt (u : Int)).toUInt64 >>> ((Int32.ofInt (h : Int)).toInt64.toUInt64 &&& Int64.toUInt64 63)).toBitVec.toInt = _
  rw [e, i64_nat (by omega)]
theorem yand_one {u : Nat} (hu : u < 2 ^ 48) : yand (u : Int) 1 = ((u % 2 : Nat) : Int) := by
  have e : (Int64.ofInt (u : Int) &&& Int64.ofInt ((1 : Nat) : Int)).toBitVec = BitVec.ofNat 64 (u % 2) := by
    rw [Int64.toBitVec_and, ofInt_bv, ofInt_bv]
    apply BitVec.eq_of_toNat_eq
    rw [BitVec.toNat_and, BitVec.toNat_ofNat, BitVec.toNat_ofNat, BitVec.toNat_ofNat, Nat.mod_eq_of_lt (show u < 2 ^ 64 by omega), Nat.mod_eq_of_lt (show 1 < 2 ^ 64 by omega), Nat.and_one_is_mod, Nat.mod_eq_of_lt (show u % 2 < 2 ^ 64 by omega)]
  unfold yand
  show (Int64.ofInt (u : Int) &&& Int64.ofInt ((1 : Nat) : Int)).toBitVec.toInt = _
  rw [e, i64_nat (by omega)]
/-- the bit h of a long -/
theorem ybit {u h : Nat} (hu : u < 2 ^ 48) (hh : h < 48) : yand (yushr (u : Int) (h : Int)) 1 = if u.testBit h = true then 1 else 0 := by
  have hw : u >>> h ≤ u := Nat.shiftRight_le u h
  rw [yushr_nat hu hh, yand_one (by omega), Nat.testBit_eq_decide_div_mod_eq, Nat.shiftRight_eq_div_pow]
  by_cases z : u / 2 ^ h % 2 = 1
  · rw [if_pos (by simpa using z), z]
    rfl
  · rw [if_neg (by simpa using z)]
    have : u / 2 ^ h % 2 = 0 := by omega
    rw [this]
    rfl
theorem yset {u g : Nat} (hu : u < 2 ^ 48) (hg : g < 48) : ∃ v : Nat, v < 2 ^ 48 ∧ yor (u : Int) (yshl 1 (g : Int)) = (v : Int) ∧ ∀ h, v.testBit h = true ↔ u.testBit h = true ∨ h = g := by
  have hp : 2 ^ g < 2 ^ 48 := Nat.pow_lt_pow_right (by decide) hg
  refine ⟨u ||| 2 ^ g, Nat.or_lt_two_pow hu hp, ?_, fun h => ?_⟩
  · rw [yshl_one g hg, yor_nat hu hp]
  · rw [Nat.testBit_or, Nat.testBit_two_pow, Bool.or_eq_true, decide_eq_true_iff]
    exact ⟨fun z => z.imp id fun y => y.symm, fun z => z.imp id fun y => y.symm⟩
