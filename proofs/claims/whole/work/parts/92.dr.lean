/-! ===== both: slots; the reference's row aside ===== -/
def o_rw (A R : Nat → Int32) (i : Nat) : Nat → Int32 := fun j => if i ≤ j ∧ j < 2091 then R j else A j
theorem o_rw_lt {A R : Nat → Int32} {j : Nat} (h : j < 2091) : o_rw A R 0 j = R j := by
  unfold o_rw
  rw [if_pos (by omega)]
theorem o_rw_end {A R : Nat → Int32} : o_rw A R 2091 = A := by
  funext j
  unfold o_rw
  rw [if_neg (by omega)]
theorem o_rw_step {A R : Nat → Int32} {i : Nat} (h : i < 2091) : o_rw (upd A i (R i)) R (i + 1) = o_rw A R i := by
  funext j
  unfold o_rw
  by_cases hj : j = i
  · rw [hj, if_neg (by omega), if_pos (by omega), u_s]
  · by_cases hj2 : i ≤ j ∧ j < 2091
    · rw [if_pos (by omega), if_pos hj2]
    · rw [if_neg (by omega), if_neg hj2, u_k hj]
theorem c_tries {g : ev_G} {S : ev_S} (a : Nat) : ev_Fn g m_X10_tries 1 [ev_o 10 a] S none (ev_ur S (a + 2) (o_rw (S.1 (a + 2)) (S.1 (a + 1)) 0)) := by
  intro Q hQ
  have e20 : (2091 : Int32) = Int32.ofNat 2091 := rfl
  have key : ∀ (k i : Nat) (T : ev_S), i + k = 2091 → Q (.inl none) (ev_ur T (a + 2) (o_rw (T.1 (a + 2)) (T.1 (a + 1)) i)) → ev_E g m_X10_tries 1 0 2 [some (ev_o 10 a), some (ev_i (Int32.ofNat i))] [] T Q := by
    intro k
    induction k with
    | zero =>
      intro i T hi hq
      refine sg_X10_tries_2 a _ (j_pos (by rw [e20, n_le (by omega) (by omega)]; omega) ?_)
      have : i = 2091 := by omega
      subst this
      rw [o_rw_end, r_self] at hq
      exact hq
    | succ k ih =>
      intro i T hi hq
      refine sg_X10_tries_2 a _ (j_neg (by rw [e20, n_le (by omega) (by omega)]; omega) ⟨(n_vp (by omega) (by omega)).mpr trivial, fun S1 h1 => ?_⟩)
      rw [n_c (by omega)] at h1
      rw [n_inc]
      refine ih (i + 1) S1 (by omega) ?_
      rw [h1, m_u, r_rr, r_s, r_r (by omega), o_rw_step (by omega)]
      exact hq
  exact sg_X10_tries_0 a (key 2091 0 S rfl hQ)
theorem c_back {g : ev_G} {S : ev_S} (a : Nat) (x : Int32) : ev_Fn g m_X10_back 1 [ev_o 10 a, ev_i x] S (some (ev_i x)) (ev_up (ev_ur S (a + 1) (o_rw (S.1 (a + 1)) (S.1 (a + 2)) 0)) a 8 (-1)) := by
  intro Q hQ
  have e20 : (2091 : Int32) = Int32.ofNat 2091 := rfl
  have key : ∀ (k i : Nat) (T : ev_S), i + k = 2091 → Q (.inl (some (ev_i x))) (ev_up (ev_ur T (a + 1) (o_rw (T.1 (a + 1)) (T.1 (a + 2)) i)) a 8 (-1)) → ev_E g m_X10_back 1 0 2 [some (ev_o 10 a), some (ev_i x), some (ev_i (Int32.ofNat i))] [] T Q := by
    intro k
    induction k with
    | zero =>
      intro i T hi hq
      refine sg_X10_back_2 a _ _ (j_pos (by rw [e20, n_le (by omega) (by omega)]; omega) (fun S1 h1 => ?_))
      have : i = 2091 := by omega
      subst this
      rw [o_rw_end, r_self] at hq
      rw [h1]
      exact hq
    | succ k ih =>
      intro i T hi hq
      refine sg_X10_back_2 a _ _ (j_neg (by rw [e20, n_le (by omega) (by omega)]; omega) ⟨(n_vp (by omega) (by omega)).mpr trivial, fun S1 h1 => ?_⟩)
      rw [n_c (by omega)] at h1
      rw [n_inc]
      refine ih (i + 1) S1 (by omega) ?_
      rw [h1, m_u T (a + 1), r_rr, r_s, r_r (by omega), o_rw_step (by omega)]
      exact hq
  exact sg_X10_back_0 a x (key 2091 0 S rfl hQ)
theorem c_save {g : ev_G} {S : ev_S} (a : Nat) (x : Int32) {Q : ev_O → ev_S → Prop}
    (q1 : ¬ (∃ s, x = Int32.ofNat s ∧ s < 2) → Q (.inl (some (ev_i 0))) (ev_up S a 7 1))
    (q2 : ∀ s, x = Int32.ofNat s → s < 2 → Q (.inl (some (ev_i (S.1 (a + 1) 2)))) (ev_up (ev_ur (ev_up S a 7 0) (a + 5) (o_cpn (S.1 (a + 5)) (S.1 (a + 1)) s 0)) (a + 6) s 1)) :
    ev_Cv g m_X10_save 2 0 [ev_o 10 a, ev_i x] S Q := by
  have e20 : (2091 : Int32) = Int32.ofNat 2091 := rfl
  have hi0 : (t_X10_in x 0 1 = true) = ∃ s, x = Int32.ofNat s ∧ s < 2 := by rw [n_in01]; exact propext n_bit
  refine sg_X10_save_0 a x (fun S1 e1 => ?_)
  rw [hi0]
  refine ⟨fun h => ?_, fun h S2 e2 => ?_⟩
  · obtain ⟨s, hs, hs2⟩ := h
    have q2 := q2 s hs hs2
    have key : ∀ (k i : Nat) (T : ev_S), i + k = 2091 → Q (.inl (some (ev_i (T.1 (a + 1) 2)))) (ev_up (ev_ur T (a + 5) (o_cpn (T.1 (a + 5)) (T.1 (a + 1)) s i)) (a + 6) s 1) → ev_E g m_X10_save 2 0 23 [some (ev_o 10 a), some (ev_i (Int32.ofNat s)), some (ev_i (Int32.ofNat i))] [] T Q := by
      intro k
      induction k with
      | zero =>
        intro i T hi hq
        refine sg_X10_save_23 a _ _ (j_pos (by rw [e20, n_le (by omega) (by omega)]; omega) ⟨(n_vp (by omega) (by omega)).mpr trivial, fun S1 h1 => ?_⟩)
        have eo : o_cpn (T.1 (a + 5)) (T.1 (a + 1)) s i = T.1 (a + 5) := by
          funext j
          unfold o_cpn
          rw [if_neg (by omega)]
        rw [eo, r_self] at hq
        rw [n_c (by omega)] at h1
        rw [h1]
        exact hq
      | succ k ih =>
        intro i T hi hq
        refine sg_X10_save_23 a _ _ (j_neg (by rw [e20, n_le (by omega) (by omega)]; omega) ?_)
        rw [e20, n_mul, n_add, n_inc, n_c (by omega), n_c (by omega)]
        refine ⟨(n_vp (by omega) (by omega)).mpr trivial, (n_vp (by omega) (by omega)).mpr trivial, fun S2 h2 => ?_⟩
        refine ih (i + 1) S2 (by omega) ?_
        have ee : o_cpn (upd (T.1 (a + 5)) (2091 * s + i) (T.1 (a + 1) i)) (T.1 (a + 1)) s (i + 1) = o_cpn (T.1 (a + 5)) (T.1 (a + 1)) s i := by
          funext j
          unfold o_cpn
          by_cases hj : j = 2091 * s + i
          · rw [hj, if_neg (by omega), if_pos (by omega), u_s, show 2091 * s + i - 2091 * s = i by omega]
          · by_cases hj2 : 2091 * s + i ≤ j ∧ j < 2091 * (s + 1)
            · rw [if_pos (by omega), if_pos hj2]
            · rw [if_neg (by omega), if_neg hj2, u_k hj]
        rw [h2, m_u T (a + 5), r_rr, r_s, r_r (by omega), ee]
        exact hq
    rw [hs]
    refine key 2091 0 S1 rfl ?_
    rw [e1, m_r (by omega), m_r (by omega)]
    exact q2
  · rw [e2, e1, m_u, m_u, r_s, r_rr, u_u, ← m_u]
    exact q1 h
theorem c_restore {g : ev_G} {S : ev_S} (a : Nat) (x : Int32) {Q : ev_O → ev_S → Prop}
    (q1 : ¬ (∃ s, x = Int32.ofNat s ∧ s < 2) → Q (.inl (some (ev_i 0))) (ev_up S a 7 1))
    (q2 : ∀ s, x = Int32.ofNat s → s < 2 → S.1 (a + 6) s = 0 → Q (.inl (some (ev_i 0))) (ev_up S a 7 2))
    (q3 : ∀ s, x = Int32.ofNat s → s < 2 → ¬ S.1 (a + 6) s = 0 → Q (.inl (some (ev_i (S.1 (a + 5) (2091 * s + 2))))) (ev_up (ev_ur (ev_up S a 7 0) (a + 1) (o_un (S.1 (a + 1)) (S.1 (a + 5)) s 0)) a 6 0)) :
    ev_Cv g m_X10_restore 2 0 [ev_o 10 a, ev_i x] S Q := by
  have e20 : (2091 : Int32) = Int32.ofNat 2091 := rfl
  have hi0 : (t_X10_in x 0 1 = true) = ∃ s, x = Int32.ofNat s ∧ s < 2 := by rw [n_in01]; exact propext n_bit
  refine sg_X10_restore_0 a x (fun S1 e1 => ?_)
  rw [hi0]
  refine ⟨fun h => ?_, fun h S2 e2 => ?_⟩
  · obtain ⟨s, hs, hs2⟩ := h
    rw [hs, n_c (by omega)]
    refine ⟨(n_vp (by omega) (by omega)).mpr trivial, fun h0 S2 e2 => ?_, fun h0 => ?_⟩
    · rw [e2, e1, m_u, m_u, r_s, r_rr, u_u, ← m_u]
      exact q2 s hs hs2 h0
    have q3 := q3 s hs hs2 h0
    have key : ∀ (k i : Nat) (T : ev_S), i + k = 2091 → Q (.inl (some (ev_i (o_un (T.1 (a + 1)) (T.1 (a + 5)) s i 2)))) (ev_up (ev_ur T (a + 1) (o_un (T.1 (a + 1)) (T.1 (a + 5)) s i)) a 6 0) → ev_E g m_X10_restore 2 0 37 [some (ev_o 10 a), some (ev_i (Int32.ofNat s)), some (ev_i (Int32.ofNat i))] [] T Q := by
      intro k
      induction k with
      | zero =>
        intro i T hi hq
        refine sg_X10_restore_37 a _ _ (j_pos (by rw [e20, n_le (by omega) (by omega)]; omega) (fun S1 h1 => ?_))
        have eo : o_un (T.1 (a + 1)) (T.1 (a + 5)) s i = T.1 (a + 1) := by
          funext j
          unfold o_un
          rw [if_neg (by omega)]
        rw [eo, r_self] at hq
        rw [h1]
        exact hq
      | succ k ih =>
        intro i T hi hq
        refine sg_X10_restore_37 a _ _ (j_neg (by rw [e20, n_le (by omega) (by omega)]; omega) ?_)
        rw [e20, n_mul, n_add, n_inc, n_c (by omega), n_c (by omega)]
        refine ⟨(n_vp (by omega) (by omega)).mpr trivial, (n_vp (by omega) (by omega)).mpr trivial, fun S2 h2 => ?_⟩
        refine ih (i + 1) S2 (by omega) ?_
        have ee : o_un (upd (T.1 (a + 1)) i (T.1 (a + 5) (2091 * s + i))) (T.1 (a + 5)) s (i + 1) = o_un (T.1 (a + 1)) (T.1 (a + 5)) s i := by
          funext j
          unfold o_un
          by_cases hj : j = i
          · rw [hj, if_neg (by omega), if_pos (by omega), u_s]
          · by_cases hj2 : i ≤ j ∧ j < 2091
            · rw [if_pos (by omega), if_pos hj2]
            · rw [if_neg (by omega), if_neg hj2, u_k hj]
        rw [h2, m_u T (a + 1), r_rr, r_s, r_r (by omega), ee]
        exact hq
    refine key 2091 0 S1 rfl ?_
    rw [e1, m_r (by omega), m_r (by omega)]
    have e2 : o_un (S.1 (a + 1)) (S.1 (a + 5)) s 0 2 = S.1 (a + 5) (2091 * s + 2) := by
      unfold o_un
      rw [if_pos (by omega)]
    rw [e2]
    exact q3
  · rw [e2, e1, m_u, m_u, r_s, r_rr, u_u, ← m_u]
    exact q1 h
/-! the class -/
theorem t_sl {y : Int32} : t_X9_isSlot y = true ↔ ∃ s, y = Int32.ofNat s ∧ s < 2 := by
  unfold t_X9_isSlot
  rw [← n_bit]
  by_cases h1 : y = 0
  · rw [if_pos h1]; simp [h1]
  · rw [if_neg h1]
    by_cases h2 : y = 1
    · rw [if_pos h2]; simp [h2]
    · rw [if_neg h2]; simp [h1, h2]
theorem a_slot {a s : Nat} (hs : s < 2) : a_X9_slotOf a (Int32.ofNat s) = a + 423 + 41 * s := by
  have : s = 0 ∨ s = 1 := by omega
  rcases this with rfl | rfl
  · exact if_pos rfl
  · exact if_neg (by decide)
theorem q_any_day {M : Nat → Nat → Int32} {e : Nat} {r : Nat → Int32} (h : q_any M e r) : M e 4 = r 2 := by
  obtain ⟨n, lim, np, L, d, ρ, i1, i2, i3, i4, i5⟩ := h
  exact i4.2.2.2.1
theorem q_any_copied {g : ev_G} {S : ev_S} {a b : Nat} {r : Nat → Int32} (hd : a + 36 ≤ b ∨ b + 36 ≤ a) (hs : q_sh S.1 a) (hg : q_any S.1 b r) {Q : ev_O → ev_S → Prop}
    (hQ : ∀ z, q_fr S z a 36 → q_sh z.1 a → q_any z.1 a r → Q (.inl none) z) : ev_Cv g m_X2_copyFrom 4 0 [ev_o 2 a, ev_o 2 b] S Q := by
  obtain ⟨n, lim, np, L, d, ρ, i1, i2, i3, i4, i5⟩ := hg
  exact g_copied hd i1 hs.1 hs.2 i4 (fun z z1 z2 z3 z4 => hQ z z1 ⟨z2, z3⟩ ⟨n, lim, np, L, d, ρ, i1, i2, i3, z4, i5⟩)
theorem x_save {g : ev_G} {S : ev_S} {b : Nat} {x : Int32} {r : Nat → Int32} (hg : q_any S.1 (b + 11) r) (hs : ∀ s, s < 2 → q_sh S.1 (b + 423 + 41 * s)) {Q : ev_O → ev_S → Prop}
    (q1 : ¬ (∃ s, x = Int32.ofNat s ∧ s < 2) → Q (.inr 0) S)
    (q2 : ∀ s, x = Int32.ofNat s → s < 2 → ∀ z : ev_S, z.2 = S.2 → (∀ q, q ≠ b → (q < b + 423 + 41 * s ∨ b + 423 + 41 * s + 36 ≤ q) → z.1 q = S.1 q) → z.1 b = upd (S.1 b) (8 + s) 1 → q_sh z.1 (b + 423 + 41 * s) → q_any z.1 (b + 423 + 41 * s) r → Q (.inl (some (ev_i (r 2)))) z) :
    ev_Cv g m_X9_save 5 1 [ev_o 9 b, ev_i x] S Q := by
  refine sg_X9_save_0 b x ?_
  rw [t_sl]
  refine ⟨fun h => ?_, q1⟩
  obtain ⟨s, hx, hs2⟩ := h
  have q2 := q2 s hx hs2
  rw [hx, a_slot hs2]
  refine q_any_copied (a := b + 423 + 41 * s) (b := b + 11) (by omega) (hs s hs2) hg (fun z z1 z2 z3 => ⟨rfl, ?_⟩)
  have e4 : z.1 (b + 11) 4 = r 2 := by
    rw [z1.2 _ (by omega)]
    exact q_any_day hg
  have fin : ∀ y : ev_S, y = ev_up z b (8 + s) 1 → Q (.inl (some (ev_i (r 2)))) y := by
    intro y ey
    refine q2 y (by rw [ey]; exact z1.1) (fun q hq hq2 => by rw [ey, m_r hq]; exact z1.2 q hq2) (by rw [ey, m_u, r_s, z1.2 b (by omega)]) ⟨by rw [ey, m_r (by omega)]; exact z2.1, by rw [ey, m_r (by omega)]; exact z2.2⟩ (q_any_frame (M := z.1) (fun q h1 h2 => by rw [ey, m_r (by omega)]) z3)
  rw [e4]
  have : s = 0 ∨ s = 1 := by omega
  rcases this with rfl | rfl
  · exact j_pos rfl fin
  · exact j_neg (by decide) fin
theorem x_restore {g : ev_G} {S : ev_S} {b u : Nat} {x : Int32} {R : Nat → Int32} (hh : q_his S.1 (b + 93) R u) (hs : q_sh S.1 (b + 11)) {Q : ev_O → ev_S → Prop}
    (q1 : ¬ (∃ s, x = Int32.ofNat s ∧ s < 2) → Q (.inr 0) S)
    (q2 : ∀ s, x = Int32.ofNat s → s < 2 → S.1 b (8 + s) = 0 → Q (.inr 3) S)
    (q3 : ∀ s, x = Int32.ofNat s → s < 2 → ¬ S.1 b (8 + s) = 0 → ∃ r, q_any S.1 (b + 423 + 41 * s) r ∧ ∀ z : ev_S, z.2 = S.2 → (∀ q, q ≠ b + 93 → (q < b + 11 ∨ b + 47 ≤ q) → z.1 q = S.1 q) → q_his z.1 (b + 93) R 0 → q_sh z.1 (b + 11) → q_any z.1 (b + 11) r → Q (.inl (some (ev_i (r 2)))) z) :
    ev_Cv g m_X9_restore 5 2 [ev_o 9 b, ev_i x] S Q := by
  refine sg_X9_restore_0 b x ?_
  rw [t_sl]
  refine ⟨fun h => ?_, q1⟩
  obtain ⟨s, hx, hs2⟩ := h
  have q2 := q2 s hx hs2
  have q3 := q3 s hx hs2
  rw [hx, a_slot hs2]
  have fin : ¬ S.1 b (8 + s) = 0 → ev_Cv g m_X2_copyFrom 4 0 [ev_o 2 (b + 11), ev_o 2 (b + 423 + 41 * s)] S (fun o S3 => o = .inl none ∧ (∀ S4 : ev_S, S4 = (ev_up S3 (b + 93) 1 0) → (Q (.inl (some (ev_i (S3.1 (b + 11) 4)))) S4))) := by
    intro hne
    obtain ⟨r, hr, q3⟩ := q3 hne
    refine q_any_copied (a := b + 11) (b := b + 423 + 41 * s) (by omega) hs hr (fun z z1 z2 z3 => ⟨rfl, fun y ey => ?_⟩)
    rw [q_any_day z3]
    refine q3 y (by rw [ey]; exact z1.1) (fun q hq hq2 => by rw [ey, m_r hq]; exact z1.2 q (by omega)) ?_ ⟨by rw [ey, m_r (by omega)]; exact z2.1, by rw [ey, m_r (by omega)]; exact z2.2⟩ (q_any_frame (M := z.1) (fun q h1 h2 => by rw [ey, m_r (by omega)]) z3)
    obtain ⟨a1, a2, w, a3, a4, a5, a6⟩ := hh
    refine ⟨by rw [ey, m_s]; rfl, by omega, w, a3, by rw [ey, m_k (by omega), z1.2 _ (by omega)]; exact a4, fun i hi => ?_, fun i hi => absurd hi (by omega)⟩
    obtain ⟨s1, s2⟩ := a5 i hi
    exact ⟨by rw [ey, m_r (by omega), z1.2 _ (by omega)]; exact s1, by rw [ey, m_r (by omega), z1.2 _ (by omega)]; exact s2⟩
  have : s = 0 ∨ s = 1 := by omega
  rcases this with rfl | rfl
  · exact j_pos rfl ⟨q2, fin⟩
  · exact j_neg (by decide) ⟨q2, fin⟩
