/-! ===== the reference: the next token ===== -/
theorem c_vsn {n j : Nat} (hn : n ≤ 800) (hj : j ≤ n) : ¬ Int32.ofNat n ≤ Int32.ofNat j → vp_in (Int32.ofNat j) 800 := by
  intro h
  rw [n_le (by omega) (by omega)] at h
  exact (n_vp (by omega) (by omega)).mpr trivial