/-! ===== the class: may a player move ===== -/
theorem o_moves_f {r : Nat → Int32} {p n f t : Nat} {its : Int32} (h : o_moves r p n its f t = true) : r (26 + 64 * p + f) = its ∧ f ≠ t := by
  unfold o_moves at h
  rw [Bool.and_eq_true] at h
  have h1 := h.1
  rw [decide_eq_true_eq] at h1
  refine ⟨h1.1, fun q => h1.2.2 ?_⟩
  rw [← q]
  exact h1.1
theorem t_may {S : ev_S} {e p n m : Nat} {r : Nat → Int32} (hp : p < 2) (h8 : n ≤ 8) (hm : r (12 + 7 * p) = Int32.ofNat m) (hm60 : m ≤ 60) (h : q_dk S.1 e r p n) : t_X1_mayPlay S e = true ↔ o_turn r p n m = true := by
  have hmk := o_maker_lt (m + 1)
  have hmd : o_mad r p = m := by unfold o_mad; rw [hm, n_c (by omega)]
  unfold q_dk at h
  rw [hmd] at h
  have hfin := b_fin h8 h.2.1
  have e6 : S.1 (e + 1) 6 = Int32.ofNat m := by rw [h.2.1.2.2.2.2.2.1]; exact hm
  unfold t_X1_mayPlay o_turn
  rw [e6, n_inc, c_mover (by omega), h.1]
  by_cases ho : o_over r p n = true
  · rw [if_pos (by rw [hfin]; exact ho), ho]
    simp
  · rw [if_neg (by rw [hfin]; exact ho)]
    rw [Bool.not_eq_true] at ho
    rw [ho]
    by_cases hq : o_maker (m + 1) = p
    · rw [if_pos (by rw [hq])]
      simp [hq]
    · rw [if_neg (by rw [n_eq (by omega) (by omega)]; exact hq)]
      simp [hq]
