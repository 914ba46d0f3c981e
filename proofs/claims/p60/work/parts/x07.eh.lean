/-! ===== a setup: the reference reads it ===== -/
def m_s1 (S z : ev_S) (a : Nat) : Prop := z.2 = S.2 ∧ (∀ q, q ≠ a → q ≠ a + 1 → z.1 q = S.1 q) ∧ ∀ i, (i < 13 ∨ 18 < i) → z.1 a i = S.1 a i
theorem m_s1_refl (S : ev_S) (a : Nat) : m_s1 S S a := ⟨rfl, fun _ _ _ => rfl, fun _ _ => rfl⟩
theorem m_s1_1 {S z y : ev_S} {a : Nat} (h : m_s1 S z a) (h2 : m_1 z y a) : m_s1 S y a := ⟨h2.1.trans h.1, fun q h1 hq => (h2.2.1 q h1).trans (h.2.1 q h1 hq), fun i hi => (h2.2.2 i hi).trans (h.2.2 i hi)⟩
theorem m_s1_up {S z : ev_S} {a k : Nat} {v : Int32} (h : m_s1 S z a) : m_s1 S (ev_up z (a + 1) k v) a := ⟨h.1, fun q h1 hq => by rw [m_r hq]; exact h.2.1 q h1 hq, fun i hi => by rw [m_r (by omega)]; exact h.2.2 i hi⟩
def m_err (S z : ev_S) (a : Nat) (c : Int32) (p : Nat) : Prop := m_s1 S z a ∧ m_te z.1 a c p
theorem m_err_7 {S z : ev_S} {a p : Nat} {c : Int32} (h : m_err S z a c p) : ¬ z.1 a 17 = 0 := by rw [h.2.1]; exact h.2.2.1
theorem m_tk_up {z : ev_S} {a n s k : Nat} {v : Int32} {T : Nat → Int32} (h : m_tk z.1 a n T s) : m_tk (ev_up z (a + 1) k v).1 a n T s := m_tk_frame h (m_r (by omega)) (m_r (by omega))
section RB
variable {g : ev_G} {a : Nat} {Q : ev_O → ev_S → Prop}
end RB