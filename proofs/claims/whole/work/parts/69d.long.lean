/-! PURE: long numbers -/
def nG (n : Nat) : Int64 := Int64.ofNat n
theorem liG (n : Nat) : (OfNat.ofNat n : Int64) = nG n := rfl
theorem nG_toInt {n : Nat} (h : n < 9223372036854775808) : (nG n).toInt = n := Int64.toInt_ofNat_of_lt h
theorem eqG {a b : Nat} (ha : a < 9223372036854775808) (hb : b < 9223372036854775808) : nG a = nG b ↔ a = b := by
  constructor
  · intro h
    have := congrArg Int64.toInt h
    rw [nG_toInt ha, nG_toInt hb] at this
    omega
  · rintro rfl; rfl
theorem adG (a b : Nat) : nG a + nG b = nG (a + b) := (Int64.ofNat_add a b).symm
theorem mlG (a b : Nat) : nG a * nG b = nG (a * b) := (Int64.ofNat_mul a b).symm
theorem leG {a b : Nat} (ha : a < 9223372036854775808) (hb : b < 9223372036854775808) : nG a ≤ nG b ↔ a ≤ b := by
  rw [Int64.le_iff_toInt_le, nG_toInt ha, nG_toInt hb]; omega
theorem dvG {a b : Nat} (ha : a < 9223372036854775808) (h0 : 0 < b) (hb : b < 9223372036854775808) : nG a / nG b = nG (a / b) := by
  apply Int64.toInt_inj.mp
  have hq : a / b < 9223372036854775808 := Nat.lt_of_le_of_lt (Nat.div_le_self _ _) ha
  rw [Int64.toInt_div, nG_toInt ha, nG_toInt hb, nG_toInt hq]
  have e : (a : Int).tdiv (b : Int) = ((a / b : Nat) : Int) := rfl
  rw [e]
  generalize a / b = q at hq
  exact Int.bmod_eq_of_le (by omega) (by omega)
theorem toG {n : Nat} (h : n < 2147483648) : (nI n).toInt64 = nG n := by
  apply Int64.toInt_inj.mp
  rw [Int32.toInt_toInt64, nI_toInt h, nG_toInt (by omega)]
theorem ofG {n : Nat} (h : n < 2147483648) : (nG n).toInt32 = nI n := by
  rw [← toG h]; exact lg_l2i_i2l _
theorem sbG {a b : Nat} (h : b ≤ a) : nG a - nG b = nG (a - b) := by
  have e : nG a = nG (a - b) + nG b := by rw [adG]; congr 1; omega
  rw [e, Int64.add_sub_cancel]
