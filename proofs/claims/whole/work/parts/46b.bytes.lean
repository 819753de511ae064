/-! what is left of a number -/
theorem zz_rem_n {a d : Nat} (ha : a < 2147483648) (h0 : 0 < d) (hd : d < 2147483648) : zz_rem (a : Int) (d : Int) = ((a % d : Nat) : Int) := by
  unfold zz_rem zz_b
  have e1 : Int32.ofInt (a : Int) = nI a := (zz_ofN ha).symm
  have e2 : Int32.ofInt (d : Int) = nI d := (zz_ofN hd).symm
  have d1 := Nat.div_le_self a d
  have d2 := Nat.div_mul_le_self a d
  have d3 := Nat.div_add_mod a d
  have d4 : a / d * d = d * (a / d) := Nat.mul_comm _ _
  rw [e1, e2]
  show (nI a - nI a / nI d * nI d).toInt = _
  rw [pk_div (by omega) h0 (by omega), Int32.toInt_sub, Int32.toInt_mul, nI_toInt (by omega), nI_toInt (by omega), nI_toInt (by omega), show ((a / d : Nat) : Int) * (d : Int) = ((a / d * d : Nat) : Int) from (Int.natCast_mul _ _).symm]
  have b1 : (((a / d * d : Nat) : Int)).bmod (2 ^ 32) = ((a / d * d : Nat) : Int) := Int.bmod_eq_of_le (by omega) (by omega)
  rw [b1]
  have b2 : ((a : Int) - ((a / d * d : Nat) : Int)).bmod (2 ^ 32) = (a : Int) - ((a / d * d : Nat) : Int) := Int.bmod_eq_of_le (by omega) (by omega)
  rw [b2]
  omega
