/-! ===== the law's cases: slots, setups, scripts ===== -/
theorem bit2 {s t : Nat} (hs : s < 2) (ht : t < 2) (h : t ≠ s) : t = 1 - s := by omega
theorem o_cpn_in {R now : Nat → Int32} {u j : Nat} (hj : j < 2091) : o_cpn R now u 0 (2091 * u + j) = now j := by
  unfold o_cpn
  rw [if_pos (by omega), show 2091 * u + j - 2091 * u = j by omega]
theorem o_cpn_out {R now : Nat → Int32} {u v j : Nat} (hj : j < 2091) (h : v ≠ u) : o_cpn R now u 0 (2091 * v + j) = R (2091 * v + j) := by
  unfold o_cpn
  rw [if_neg (by
    rcases Nat.lt_or_gt_of_ne h with h | h
    · omega
    · omega)]