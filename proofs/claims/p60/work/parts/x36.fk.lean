/-! ===== the law's cases: what the players do ===== -/
theorem m_alk_refl (S : ev_S) (a : Nat) : m_alk S S a := ⟨rfl, fun _ _ => rfl, fun _ _ _ => rfl⟩