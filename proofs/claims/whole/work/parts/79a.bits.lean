/-! long numbers as sets -/
theorem zl_m1 : ∀ y : Fin 62, zz_lsub (zz_lshl 1 ((y.val : Nat) : Int)) 1 = ((2 ^ y.val - 1 : Nat) : Int) := by decide +kernel
theorem zl_e1 : ∀ y : Fin 62, ((Int32.ofInt ((y.val : Nat) : Int)).toInt64.toUInt64 &&& Int64.toUInt64 63) = UInt64.ofNat y.val := by decide +kernel
theorem zl_e2 : ∀ y : Fin 62, ((Int32.ofInt ((y.val : Nat) : Int)).toInt64 &&& 63) = Int64.ofNat y.val := by decide +kernel
theorem zl_oi {x : Int} (h : -9223372036854775808 ≤ x ∧ x < 9223372036854775808) : (Int64.ofInt x).toInt = x := by
  rw [Int64.toInt_ofInt]
  exact Int.bmod_eq_of_le (by show -((Int64.size : Int) / 2) ≤ x; have : (Int64.size : Int) = 18446744073709551616 := rfl; omega) (by show x < ((Int64.size : Int) + 1) / 2; have : (Int64.size : Int) = 18446744073709551616 := rfl; omega)
theorem zl_un (x : Int) : (Int64.ofInt x).toUInt64.toNat = (x % 18446744073709551616).toNat := by
  show (BitVec.ofInt 64 x).toNat = _
  rw [BitVec.toNat_ofInt]
  rfl
theorem zl_ti {u : UInt64} (h : u.toNat < 9223372036854775808) : u.toInt64.toInt = (u.toNat : Int) := by
  have e : u.toInt64 = Int64.ofInt (u.toNat : Int) := by
    rw [Int64.ofInt_eq_ofNat, ← UInt64.toInt64_ofNat', UInt64.ofNat_toNat]
  rw [e, zl_oi ⟨by omega, by omega⟩]
theorem zl_ushr {x : Int} {y : Nat} (hy : y < 62) (h : (x % 18446744073709551616).toNat / 2 ^ y < 9223372036854775808) : zz_lushr x (y : Nat) = (((x % 18446744073709551616).toNat / 2 ^ y : Nat) : Int) := by
  have e := zl_e1 ⟨y, hy⟩
  have e' : ((Int32.ofInt ((y : Nat) : Int)).toInt64.toUInt64 &&& Int64.toUInt64 63) = UInt64.ofNat y := e
  unfold zz_lushr
  rw [e']
  have n : ((Int64.ofInt x).toUInt64 >>> UInt64.ofNat y).toNat = (x % 18446744073709551616).toNat / 2 ^ y := by
    rw [UInt64.toNat_shiftRight, zl_un, UInt64.toNat_ofNat', Nat.shiftRight_eq_div_pow]
    have : y % 2 ^ 64 % 64 = y := by omega
    rw [this]
  rw [zl_ti (by rw [n]; exact h), n]
theorem zl_p62 {y : Nat} (hy : y < 62) : 0 < 2 ^ y ∧ 2 ^ y ≤ 2305843009213693952 := ⟨Nat.pow_pos (by decide), Nat.le_trans (Nat.pow_le_pow_right (by decide) (show y ≤ 61 by omega)) (by decide)⟩
theorem zl_ushr0 {x : Int} {y : Nat} (hy : 0 < y ∧ y < 62) (hx : -9223372036854775808 ≤ x ∧ x < 9223372036854775808) : zz_lushr x (y : Nat) = 0 ↔ 0 ≤ x ∧ x < ((2 ^ y : Nat) : Int) := by
  obtain ⟨p0, p1⟩ := zl_p62 hy.2
  have p2 : 2 ≤ 2 ^ y := Nat.le_trans (by decide : 2 ≤ 2 ^ 1) (Nat.pow_le_pow_right (by decide) hy.1)
  obtain ⟨P, hP⟩ : ∃ P, P = 2 ^ y := ⟨_, rfl⟩
  obtain ⟨N, hN⟩ : ∃ N, N = (x % 18446744073709551616).toNat := ⟨_, rfl⟩
  have hlt : N / P < 9223372036854775808 := by
    rw [Nat.div_lt_iff_lt_mul (by omega)]
    omega
  rw [zl_ushr hy.2 (by rw [← hN, ← hP]; exact hlt), ← hN, ← hP]
  rw [← hP] at p0 p1 p2
  constructor
  · intro z
    have z2 : N / P = 0 := by exact_mod_cast z
    have z3 : N < P := by
      rcases Nat.div_eq_zero_iff.mp z2 with q | q
      · omega
      · exact q
    omega
  · intro ⟨z1, z2⟩
    have z3 : N < P := by omega
    rw [Nat.div_eq_of_lt z3]
    rfl
theorem zl_ushrn {N y : Nat} (hy : y < 62) (hN : N < 9223372036854775808) : zz_lushr (N : Int) (y : Nat) = ((N / 2 ^ y : Nat) : Int) := by
  have e : ((N : Int) % 18446744073709551616).toNat = N := by omega
  have h : N / 2 ^ y ≤ N := Nat.div_le_self _ _
  rw [zl_ushr hy (by rw [e]; omega), e]
theorem zl_e3 : ∀ y : Fin 62, ((Int64.ofNat y.val).toBitVec.smod 64#64).toNat = y.val := by decide +kernel
theorem zl_shrn {N y : Nat} (hy : y < 62) (hN : N < 9223372036854775808) : zz_lshr (N : Int) (y : Nat) = ((N / 2 ^ y : Nat) : Int) := by
  have e' : ((Int32.ofInt ((y : Nat) : Int)).toInt64 &&& 63) = Int64.ofNat y := zl_e2 ⟨y, hy⟩
  have e3 : ((Int64.ofNat y).toBitVec.smod 64#64).toNat = y := zl_e3 ⟨y, hy⟩
  unfold zz_lshr
  rw [e']
  show (BitVec.sshiftRight' (Int64.ofInt (N : Int)).toBitVec ((Int64.ofNat y).toBitVec.smod 64#64)).toInt = _
  rw [BitVec.toInt_sshiftRight', e3]
  show (Int64.ofInt (N : Int)).toInt >>> y = _
  rw [zl_oi ⟨by omega, by omega⟩, Int.shiftRight_eq_div_pow]
  exact (Int.natCast_ediv N (2 ^ y)).symm
theorem zl_and1 {N : Nat} (hN : N < 9223372036854775808) : zz_land (N : Int) 1 = ((N % 2 : Nat) : Int) := by
  have e1 : (Int64.ofInt (N : Int) &&& Int64.ofInt 1).toUInt64.toNat = N % 2 := by
    show ((Int64.ofInt (N : Int)).toUInt64.toBitVec &&& (Int64.ofInt 1).toUInt64.toBitVec).toNat = _
    rw [BitVec.toNat_and]
    show (Int64.ofInt (N : Int)).toUInt64.toNat &&& (Int64.ofInt 1).toUInt64.toNat = _
    rw [zl_un, zl_un, show ((N : Int) % 18446744073709551616).toNat = N from by omega, show ((1 : Int) % 18446744073709551616).toNat = 1 from rfl]
    exact Nat.and_one_is_mod N
  show (Int64.ofInt (N : Int) &&& Int64.ofInt 1).toInt = _
  have e2 := zl_ti (u := (Int64.ofInt (N : Int) &&& Int64.ofInt 1).toUInt64) (by rw [e1]; omega)
  rw [e1] at e2
  exact e2

theorem zl_bit {N j : Nat} (hj : j < 62) (hN : N < 9223372036854775808) : zz_lcmp (zz_land (zz_lushr (N : Int) (j : Nat)) 1) 0 = 0 ↔ ¬ N / 2 ^ j % 2 = 1 := by
  have h : N / 2 ^ j ≤ N := Nat.div_le_self _ _
  rw [zl_ushrn hj hN, zl_and1 (by omega)]
  obtain ⟨M, hM⟩ : ∃ M, M = N / 2 ^ j := ⟨_, rfl⟩
  rw [← hM]
  have h2 : M % 2 = 0 ∨ M % 2 = 1 := by omega
  rcases h2 with e | e <;> rw [e] <;> decide
theorem zl_bit1 {N j : Nat} (hj : j < 62) (hN : N < 9223372036854775808) : zz_lcmp (zz_land (zz_lshr (N : Int) (j : Nat)) 1) 1 = 0 ↔ N / 2 ^ j % 2 = 1 := by
  have h : N / 2 ^ j ≤ N := Nat.div_le_self _ _
  rw [zl_shrn hj hN, zl_and1 (by omega)]
  obtain ⟨M, hM⟩ : ∃ M, M = N / 2 ^ j := ⟨_, rfl⟩
  rw [← hM]
  have h2 : M % 2 = 0 ∨ M % 2 = 1 := by omega
  rcases h2 with e | e <;> rw [e] <;> decide
theorem zl_m1' {y : Nat} (hy : y < 62) : zz_lsub (zz_lshl 1 (y : Nat)) 1 = ((2 ^ y - 1 : Nat) : Int) := zl_m1 ⟨y, hy⟩
theorem zl_c0 {x : Int} : zz_lcmp x 0 = 0 ↔ x = 0 := by
  unfold zz_lcmp
  by_cases h : x < 0
  · rw [if_pos h]
    exact ⟨fun z => absurd z (by decide), fun z => absurd z (by omega)⟩
  · rw [if_neg h]
    by_cases h2 : x = 0
    · rw [if_pos h2]
      exact ⟨fun _ => h2, fun _ => rfl⟩
    · rw [if_neg h2]
      exact ⟨fun z => absurd z (by decide), fun z => absurd z h2⟩
