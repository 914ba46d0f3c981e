/-! ===== the law's cases: a player's numbers, passes, letters ===== -/
theorem up_up7 {S : ev_S} {m : Nat} {v w : Int32} : ev_up (ev_up S m 7 v) m 7 w = ev_up S m 7 w := by
  rw [m_u, m_u, r_s, r_rr, u_u, ← m_u]