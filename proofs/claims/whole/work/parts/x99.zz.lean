theorem zz_t : (1 : Nat) = 2 := by omega
