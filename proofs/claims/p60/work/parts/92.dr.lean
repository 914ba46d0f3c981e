/-! ===== both: slots; the reference's row aside ===== -/
def o_rw (A R : Nat → Int32) (i : Nat) : Nat → Int32 := fun j => if i ≤ j ∧ j < 2091 then R j else A j
theorem o_rw_lt {A R : Nat → Int32} {j : Nat} (h : j < 2091) : o_rw A R 0 j = R j := by
  unfold o_rw
  rw [if_pos (by omega)]
theorem o_rw_end {A R : Nat → Int32} : o_rw A R 2091 = A := by
  funext j
  unfold o_rw
  rw [if_neg (by omega)]
theorem o_rw_step {A R : Nat → Int32} {i : Nat} (h : i < 2091) : o_rw (upd A i (R i)) R (i + 1) = o_rw A R i := by
  funext j
  unfold o_rw
  by_cases hj : j = i
  · rw [hj, if_neg (by omega), if_pos (by omega), u_s]
  · by_cases hj2 : i ≤ j ∧ j < 2091
    · rw [if_pos (by omega), if_pos hj2]
    · rw [if_neg (by omega), if_neg hj2, u_k hj]
/-! the class -/
theorem q_any_day {M : Nat → Nat → Int32} {e : Nat} {r : Nat → Int32} (h : q_any M e r) : M e 4 = r 2 := by
  obtain ⟨n, lim, np, L, d, ρ, i1, i2, i3, i4, i5⟩ := h
  exact i4.2.2.2.1
theorem q_any_copied {g : ev_G} {S : ev_S} {a b : Nat} {r : Nat → Int32} (hd : a + 36 ≤ b ∨ b + 36 ≤ a) (hs : q_sh S.1 a) (hg : q_any S.1 b r) {Q : ev_O → ev_S → Prop}
    (hQ : ∀ z, q_fr S z a 36 → q_sh z.1 a → q_any z.1 a r → Q (.inl none) z) : ev_Cv g m_X2_copyFrom 4 0 [ev_o 2 a, ev_o 2 b] S Q := by
  obtain ⟨n, lim, np, L, d, ρ, i1, i2, i3, i4, i5⟩ := hg
  exact g_copied hd i1 hs.1 hs.2 i4 (fun z z1 z2 z3 z4 => hQ z z1 ⟨z2, z3⟩ ⟨n, lim, np, L, d, ρ, i1, i2, i3, z4, i5⟩)