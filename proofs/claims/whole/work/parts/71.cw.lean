/-! ===== the reference: a row is kept; the class: a game is remembered ===== -/
def o_sh (R : Nat → Int32) (i : Nat) : Nat → Int32 := fun j => if i ≤ j ∧ j < 14637 then R (j + 2091) else R j
def o_cpn (R now : Nat → Int32) (u i : Nat) : Nat → Int32 := fun j => if 2091 * u + i ≤ j ∧ j < 2091 * (u + 1) then now (j - 2091 * u) else R j
theorem c_keeps11 {g : ev_G} (a : Nat) : ∀ (k : Nat) (S : ev_S) (i : Nat), i + k = 14637 → ∀ Q : ev_O → ev_S → Prop,
    (∀ S1, S1 = ev_up (ev_ur S (a + 4) (o_sh (S.1 (a + 4)) i)) a 6 (S.1 a 6 - 1) → ev_E g m_X10_keeps 1 0 52 [some (ev_o 10 a), some (ev_i 0)] [] S1 Q) →
    ev_E g m_X10_keeps 1 0 11 [some (ev_o 10 a), some (ev_i (Int32.ofNat i))] [] S Q := by
  intro k
  have e14 : (14637 : Int32) = Int32.ofNat 14637 := rfl
  have e20 : (2091 : Int32) = Int32.ofNat 2091 := rfl
  induction k with
  | zero =>
    intro S i hi Q hQ
    refine sg_X10_keeps_11 a _ (j_pos (by rw [e14, n_le (by omega) (by omega)]; omega) ?_)
    intro S1 h1
    have eo : o_sh (S.1 (a + 4)) i = S.1 (a + 4) := by
      funext j
      unfold o_sh
      rw [if_neg (by omega)]
    rw [eo, r_self] at hQ
    exact hQ S1 h1
  | succ k ih =>
    intro S i hi Q hQ
    refine sg_X10_keeps_11 a _ (j_neg (by rw [e14, n_le (by omega) (by omega)]; omega) ?_)
    rw [e20, n_add, n_inc, n_c (by omega), n_c (by omega)]
    refine ⟨(n_vp (by omega) (by omega)).mpr trivial, (n_vp (by omega) (by omega)).mpr trivial, ?_⟩
    intro S2 h2
    subst h2
    refine ih _ (i + 1) (by omega) Q (fun S1 h1 => hQ S1 ?_)
    rw [h1, m_u S (a + 4) i, r_s, r_rr, r_r (by omega)]
    congr 2
    funext j
    unfold o_sh
    by_cases hj : j = i
    · rw [hj, if_neg (by omega), if_pos (by omega), u_s]
    · by_cases hj2 : i ≤ j ∧ j < 14637
      · rw [if_pos (by omega), if_pos hj2, u_k (by omega)]
      · rw [if_neg (by omega), if_neg hj2, u_k (by omega)]
theorem c_keeps52 {g : ev_G} (a u : Nat) (hu : u < 8) : ∀ (k : Nat) (S : ev_S) (i : Nat), i + k = 2091 → S.1 a 6 = Int32.ofNat u → ∀ Q : ev_O → ev_S → Prop,
    Q (.inl none) (ev_up (ev_ur S (a + 4) (o_cpn (S.1 (a + 4)) (S.1 (a + 1)) u i)) a 6 (Int32.ofNat (u + 1))) →
    ev_E g m_X10_keeps 1 0 52 [some (ev_o 10 a), some (ev_i (Int32.ofNat i))] [] S Q := by
  intro k
  have e20 : (2091 : Int32) = Int32.ofNat 2091 := rfl
  induction k with
  | zero =>
    intro S i hi h6 Q hQ
    refine sg_X10_keeps_52 a _ (j_pos (by rw [e20, n_le (by omega) (by omega)]; omega) ?_)
    intro S1 h1
    have eo : o_cpn (S.1 (a + 4)) (S.1 (a + 1)) u i = S.1 (a + 4) := by
      funext j
      unfold o_cpn
      rw [if_neg (by omega)]
    rw [eo, r_self] at hQ
    rw [h6, n_inc] at h1
    rw [h1]
    exact hQ
  | succ k ih =>
    intro S i hi h6 Q hQ
    refine sg_X10_keeps_52 a _ (j_neg (by rw [e20, n_le (by omega) (by omega)]; omega) ?_)
    rw [h6, e20, n_mul, n_add, n_inc, n_c (by omega), n_c (by omega)]
    refine ⟨(n_vp (by omega) (by omega)).mpr trivial, (n_vp (by omega) (by omega)).mpr trivial, ?_⟩
    intro S2 h2
    subst h2
    refine ih _ (i + 1) (by omega) (by rw [m_r (by omega)]; exact h6) Q ?_
    rw [m_u S (a + 4) (2091 * u + i), r_s, r_rr, r_r (by omega)]
    have ee : o_cpn (upd (S.1 (a + 4)) (2091 * u + i) (S.1 (a + 1) i)) (S.1 (a + 1)) u (i + 1) = o_cpn (S.1 (a + 4)) (S.1 (a + 1)) u i := by
      funext j
      unfold o_cpn
      by_cases hj : j = 2091 * u + i
      · rw [hj, if_neg (by omega), if_pos (by omega), u_s, show 2091 * u + i - 2091 * u = i by omega]
      · by_cases hj2 : 2091 * u + i ≤ j ∧ j < 2091 * (u + 1)
        · rw [if_pos (by omega), if_pos hj2]
        · rw [if_neg (by omega), if_neg hj2, u_k hj]
    rw [ee]
    exact hQ
/-- the row of the kept rows once the row now is kept -/
def o_kp (R now : Nat → Int32) (u : Nat) : Nat → Int32 := if u = 8 then o_cpn (o_sh R 0) now 7 0 else o_cpn R now u 0
def o_ku (u : Nat) : Nat := if u = 8 then 8 else u + 1
theorem c_keeps {g : ev_G} {S : ev_S} (a u : Nat) (hu : u ≤ 8) (h6 : S.1 a 6 = Int32.ofNat u) : ev_Fn g m_X10_keeps 1 [ev_o 10 a] S none (ev_up (ev_ur S (a + 4) (o_kp (S.1 (a + 4)) (S.1 (a + 1)) u)) a 6 (Int32.ofNat (o_ku u))) := by
  intro Q hQ
  have e8 : (8 : Int32) = Int32.ofNat 8 := rfl
  have e0 : (0 : Int32) = Int32.ofNat 0 := rfl
  refine sg_X10_keeps_0 a ?_
  rw [h6]
  by_cases hu8 : u = 8
  · refine j_pos (by rw [hu8]; rfl) ?_
    rw [e0]
    refine c_keeps11 a 14637 S 0 rfl Q (fun S1 h1 => ?_)
    rw [h6, hu8, show Int32.ofNat 8 - 1 = Int32.ofNat 7 from rfl] at h1
    rw [o_kp, o_ku, if_pos hu8, if_pos hu8] at hQ
    rw [e0]
    refine c_keeps52 a 7 (by decide) 2091 S1 0 rfl (by rw [h1, m_s]) Q ?_
    have e4 : S1.1 (a + 4) = o_sh (S.1 (a + 4)) 0 := by rw [h1, m_r (by omega), r_s]
    have e1 : S1.1 (a + 1) = S.1 (a + 1) := by rw [h1, m_r (by omega), r_r (by omega)]
    rw [e4, e1]
    have es : ev_up (ev_ur S1 (a + 4) (o_cpn (o_sh (S.1 (a + 4)) 0) (S.1 (a + 1)) 7 0)) a 6 (Int32.ofNat (7 + 1)) = ev_up (ev_ur S (a + 4) (o_cpn (o_sh (S.1 (a + 4)) 0) (S.1 (a + 1)) 7 0)) a 6 (Int32.ofNat 8) := by
      rw [h1]
      simp only [m_u]
      rw [r_c (show a ≠ a + 4 by omega), r_rr, r_s, r_rr, u_u, r_r (show a ≠ a + 4 by omega), r_r (show a ≠ a + 4 by omega)]
    rw [es]
    exact hQ
  · refine j_neg (by rw [e8, n_eq (by omega) (by omega)]; exact hu8) ?_
    rw [o_kp, o_ku, if_neg hu8, if_neg hu8] at hQ
    exact c_keeps52 a u (by omega) 2091 S 0 rfl h6 Q hQ
