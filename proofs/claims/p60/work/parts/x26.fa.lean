/-! ===== the fastest pass, both ===== -/
theorem m_fc_tr {S z y : ev_S} {a : Nat} (h : m_fc S z a) (h2 : m_fc z y a) : m_fc S y a :=
  ⟨h2.1.trans h.1, fun q a1 a2 a3 => (h2.2.1 q a1 a2 a3).trans (h.2.1 q a1 a2 a3), fun j j7 j8 => (h2.2.2.1 j j7 j8).trans (h.2.2.1 j j7 j8), h2.2.2.2.1, h2.2.2.2.2.1, fun j hj => (h2.2.2.2.2.2 j hj).trans (h.2.2.2.2.2 j hj)⟩
theorem m_up7 {z : ev_S} {a : Nat} (h : z.1 a 7 = 0) : ev_up z a 7 0 = z := by
  have e := u_self (z.1 a) 7
  rw [h] at e
  rw [m_u, e, r_self]