/-! ===== the reference: days, one after another ===== -/
theorem c_days {g : ev_G} (a n lim np L D : Nat) (u : Int32) : ∀ (k : Nat) (S : ev_S) (ρ : List Nat) (d : Nat), d + k < 1000000 → k ≤ D → D < 1000000 → S.1 a 8 = -1 → IG (S.1 (a + 1)) n lim np L d ρ → ∀ Q : ev_O → ev_S → Prop,
    Q (.inl (some (ev_i (o_days n np L k d (S.1 (a + 1)) 8 - u)))) (ev_ur S (a + 1) (o_days n np L k d (S.1 (a + 1)))) →
    ev_E g m_X10_advancing 9 0 58 [some (ev_o 10 a), some (ev_i (Int32.ofNat D)), some (ev_i u), some (ev_i (Int32.ofNat (D - k)))] [] S Q := by
  intro k
  induction k with
  | zero =>
    intro S ρ d hd hk hD h8 h Q hQ
    rw [o_days, r_self] at hQ
    exact sg_X10_advancing_58 a _ _ _ (j_pos (by rw [n_le (by omega) (by omega)]; omega) hQ)
  | succ k ih =>
    intro S ρ d hd hk hD h8 h Q hQ
    obtain ⟨⟨ρ', hI⟩, -⟩ := IG_day (by omega) h
    refine sg_X10_advancing_58 a _ _ _ (j_neg (by rw [n_le (by omega) (by omega)]; omega) ?_)
    refine c_day a n lim np L d ρ (by omega) (by rw [h8]; exact h.1) h.2.1.2.2 _ ⟨rfl, ?_⟩
    rw [n_inc, show D - (k + 1) + 1 = D - k by omega, h8]
    have er : o_day (S.1 (a + 1)) n np L d (-1) ρ = o_dayf (S.1 (a + 1)) n np L d := by unfold o_dayf; rw [IG_rl h]
    rw [er]
    refine ih _ ρ' (d + 1) (by omega) (by omega) hD (by rw [r_r (by omega)]; exact h8) (by rw [r_s]; exact hI) Q ?_
    rw [r_s, r_rr]
    rw [o_days] at hQ
    exact hQ
/-! ===== the class: a copy of a game ===== -/
def q_cp (M M' : Nat → Nat → Int32) (s d c n : Nat) : Prop := ∀ k, k < n → M' (d + c) k = M (s + c) k
