/-! ===== the reference's text ===== -/
def m_tk (M : Nat → Nat → Int32) (a n : Nat) (T : Nat → Int32) (s : Nat) : Prop :=
  M a 10 = Int32.ofNat n ∧ (∀ j, j < n → M (a + 7) j = T j) ∧ M a 17 = 0 ∧ M a 18 = -1 ∧ M a 14 = Int32.ofNat (x_B T n s) ∧ M a 15 = x_K T n s ∧ (x_K T n s = 2 → M a 16 = x_V T n s) ∧ M a 13 = Int32.ofNat (x_E T n s)
def m_te (M : Nat → Nat → Int32) (a : Nat) (c : Int32) (p : Nat) : Prop := M a 17 = c ∧ ¬ c = 0 ∧ M a 18 = Int32.ofNat p
def m_1 (S z : ev_S) (a : Nat) : Prop := z.2 = S.2 ∧ (∀ q, q ≠ a → z.1 q = S.1 q) ∧ ∀ i, (i < 13 ∨ 18 < i) → z.1 a i = S.1 a i
theorem m_1_refl (S : ev_S) (a : Nat) : m_1 S S a := ⟨rfl, fun _ _ => rfl, fun _ _ => rfl⟩
theorem m_1_trans {S z y : ev_S} {a : Nat} (h : m_1 S z a) (h2 : m_1 z y a) : m_1 S y a := ⟨h2.1.trans h.1, fun q hq => (h2.2.1 q hq).trans (h.2.1 q hq), fun i hi => (h2.2.2 i hi).trans (h.2.2 i hi)⟩
theorem m_tk_frame {M M' : Nat → Nat → Int32} {a n s : Nat} {T : Nat → Int32} (h : m_tk M a n T s) (f : M' a = M a) (f7 : M' (a + 7) = M (a + 7)) : m_tk M' a n T s := by
  unfold m_tk at *
  rw [f, f7]
  exact h
theorem x_K3 {T : Nat → Int32} {n s : Nat} (h : x_K T n s = 3) : x_V T n s = T (x_B T n s) ∧ x_B T n s < n := by
  unfold x_K x_Kb at h
  unfold x_V x_Vb
  by_cases h1 : n ≤ x_B T n s
  · rw [if_pos h1] at h; exact absurd h (by decide)
  · rw [if_neg h1] at h ⊢
    by_cases h2 : t_X8_isLetter (T (x_B T n s)) = true
    · rw [if_pos h2] at h; exact absurd h (by decide)
    · rw [if_neg h2] at h ⊢
      by_cases h3 : t_X8_isDigit (T (x_B T n s)) = true
      · rw [if_pos h3] at h; exact absurd h (by decide)
      · rw [if_neg h3]
        exact ⟨rfl, by omega⟩
/-- the same words have two numbers -/
theorem x_w_eq {T : Nat → Int32} {n s k k' : Nat} (h1 : ev_le.getD k 0 = ev_le.getD k' 0) (h2 : ev_bt.getD k [] = ev_bt.getD k' []) : x_w T n s k = x_w T n s k' := by
  have e : ∀ b i, x_wm T b k i = x_wm T b k' i := by
    intro b i
    induction i with
    | zero => rfl
    | succ i ih =>
      rw [x_wm, x_wm, ih]
      unfold j_lb
      rw [h2]
  unfold x_w
  rw [h1, e]
