/-! a number that goes down -/
theorem i_down {k j : Nat} (hk : k < 2 ^ 29) (hj : j < 2 ^ 29) : nI k - nI j + Int32.ofInt (-1) = nI k - nI (j + 1) := by
  apply Int32.toInt_inj.mp
  have e1 := pk_sub_toInt (a := k) (b := j) (by omega) (by omega)
  have e2 := pk_sub_toInt (a := k) (b := j + 1) (by omega) (by omega)
  have e3 : (Int32.ofInt (-1)).toInt = -1 := by decide
  rw [i_add (by omega) (by omega), e1, e2, e3]
  omega
