/-! ===== a setup: the reference, whole ===== -/
def p_rp (T : Nat → Int32) (n : Nat) (r : Nat → Int32) (s : Nat) : (Int32 × Nat) ⊕ ((Nat → Int32) × Nat) := if x_w T n s 3 = true then (if o_np r < 4 then p_pass T n r (x_E T n s) else .inl (4, x_B T n s)) else .inl (1, x_B T n s)
def p_rs (T : Nat → Int32) (n : Nat) (r : Nat → Int32) (s : Nat) : (Int32 × Nat) ⊕ ((Nat → Int32) × Nat) := if x_w T n s 4 = true then p_snow T n r (x_E T n s) else .inl (1, x_B T n s)
def r_ok (S0 : ev_S) (a : Nat) (res : (Int32 × Nat) ⊕ (Nat → Int32)) (Q : ev_O → ev_S → Prop) : Prop :=
  (∀ c p, res = .inl (c, p) → ∀ z, m_err S0 z a c p → Q (.inl none) z) ∧
  ∀ r, res = .inr r → ∀ N lim np, i_su r N lim np → 1 ≤ np → ∀ z, m_s1 S0 z a → z.1 a 17 = 0 → z.1 a 18 = -1 → z.1 (a + 1) = r → Q (.inl none) z
section RBody
variable {g : ev_G} {S0 : ev_S} {a n N lim : Nat} {T : Nat → Int32} {Q : ev_O → ev_S → Prop}
end RBody