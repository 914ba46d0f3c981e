/-! ===== the reference: stored moves and promises ===== -/
def i_sto (r : Nat → Int32) (p : Nat) : Prop := ∀ k, k ≤ 61 → r (514 + 124 * p + 2 * k) = -1 ∨ ∃ f t, f < 64 ∧ t < 64 ∧ f ≠ t ∧ r (514 + 124 * p + 2 * k) = Int32.ofNat f ∧ r (514 + 124 * p + 2 * k + 1) = Int32.ofNat t
def i_pr (r : Nat → Int32) (k : Nat) : Prop := ∃ ef et rf rt, ef < 64 ∧ et < 64 ∧ ef ≠ et ∧ rf < 64 ∧ rt < 64 ∧ rf ≠ rt ∧ r (762 + 6 * k) = Int32.ofNat ef ∧ r (762 + 6 * k + 1) = Int32.ofNat et ∧ r (762 + 6 * k + 2) = Int32.ofNat rf ∧ r (762 + 6 * k + 3) = Int32.ofNat rt ∧ r (762 + 6 * k + 4) = 1 ∧ (r (762 + 6 * k + 5) = 0 ∨ r (762 + 6 * k + 5) = 1)
def i_pro (r : Nat → Int32) : Prop := ∀ k, k ≤ 62 → (r (762 + 6 * k + 4) = 0 ∧ r (762 + 6 * k + 5) = 0) ∨ i_pr r k
def i_dk (r : Nat → Int32) (p n lim : Nat) : Prop := r 0 = Int32.ofNat n ∧ n ≤ 8 ∧ r 1 = Int32.ofNat lim ∧ lim ≤ 60 ∧ (∃ m, r (12 + 7 * p) = Int32.ofNat m ∧ m ≤ lim) ∧ i_sto r p ∧ i_pro r
def o_due (r : Nat → Int32) (p m : Nat) : Bool := decide (r (762 + 6 * (m + 1) + (if o_maker (m + 1) = p then 4 else 5)) ≠ 0 ∧ 1 ≤ m ∧ r (154 + 180 * p + 3 * (m - 1)) = r (762 + 6 * (m + 1)) ∧ r (154 + 180 * p + 3 * (m - 1) + 1) = r (762 + 6 * (m + 1) + 1))
theorem c_isDue {g : ev_G} {S : ev_S} (a p m : Nat) (hp : p < 2) (hm : m < 60) :
    ev_Fn g m_X10_isDue 2 [ev_o 10 a, ev_i (Int32.ofNat p), ev_i (Int32.ofNat (m + 1))] S (some (ev_i (if o_due (S.1 (a + 1)) p m = true then 1 else 0))) S := by
  intro Q hQ
  have hmk := o_maker_lt (m + 1)
  refine sg_X10_isDue_0 a _ _ ?_
  have h1 : o_due (S.1 (a + 1)) p m = true → Q (.inl (some (ev_i 1))) S := fun h => by rw [if_pos h] at hQ; exact hQ
  have h0 : ¬ o_due (S.1 (a + 1)) p m = true → Q (.inl (some (ev_i 0))) S := fun h => by rw [if_neg h] at hQ; exact hQ
  clear hQ
  rcases m with _ | j
  · have h2 : ¬ (2 : Int32) ≤ Int32.ofNat (0 + 1) := by decide
    have h3 := h0 (by simp [o_due])
    simp (disch := omega) only [lm_2, lm_3, lm_6, lm_7, lm_11, lm_12, lm_15, lm_64, lm_124, lm_180, la_1, la_2, la_3, la_12, la_26, la_154, la_514, la_762, la_1140, la_1200, ra_0, ra_1, ra_2, ra_3, ra_4, ra_5, ra_6, ra_7, ra_8, ra_9, ra_10, ra_48, rm_12, rm_2, rm_64, rm_6, n_add, n_mul, n_d1, n_vp, n_c, true_and, forall_eq, m_u, r_s, r_rr, r_2, u_k, u_s, r_r, c_maker, n_eq, h2, false_imp_iff, not_false_eq_true, true_imp_iff, h3, imp_true_iff, and_true]
  · have h2 : (2 : Int32) ≤ Int32.ofNat (j + 1 + 1) := by rw [z_le, n_i (by omega)]; show (2 : Int) ≤ _; omega
    simp (disch := omega) only [lm_2, lm_3, lm_6, lm_7, lm_11, lm_12, lm_15, lm_64, lm_124, lm_180, la_1, la_2, la_3, la_12, la_26, la_154, la_514, la_762, la_1140, la_1200, ra_0, ra_1, ra_2, ra_3, ra_4, ra_5, ra_6, ra_7, ra_8, ra_9, ra_10, ra_48, rm_12, rm_2, rm_64, rm_6, n_add, n_mul, n_d1, n_vp, n_c, true_and, forall_eq, m_u, r_s, r_rr, r_2, u_k, u_s, r_r, c_maker, n_eq, h2, not_true_eq_false, true_imp_iff, false_imp_iff, and_true]
    simp only [o_due, decide_eq_true_eq, ne_eq, Nat.add_sub_cancel] at h0 h1
    by_cases hk : o_maker (j + 1 + 1) = p
    · simp only [hk, if_true] at h0 h1
      grind
    · simp only [hk, if_false] at h0 h1
      grind
