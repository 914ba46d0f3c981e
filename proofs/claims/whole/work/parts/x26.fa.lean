/-! ===== the fastest pass, both ===== -/
theorem m_fc_tr {S z y : ev_S} {a : Nat} (h : m_fc S z a) (h2 : m_fc z y a) : m_fc S y a :=
  ⟨h2.1.trans h.1, fun q a1 a2 a3 => (h2.2.1 q a1 a2 a3).trans (h.2.1 q a1 a2 a3), fun j j7 j8 => (h2.2.2.1 j j7 j8).trans (h.2.2.1 j j7 j8), h2.2.2.2.1, h2.2.2.2.2.1, fun j hj => (h2.2.2.2.2.2 j hj).trans (h.2.2.2.2.2 j hj)⟩
theorem m_up7 {z : ev_S} {a : Nat} (h : z.1 a 7 = 0) : ev_up z a 7 0 = z := by
  have e := u_self (z.1 a) 7
  rw [h] at e
  rw [m_u, e, r_self]
theorem c_over {g : ev_G} {z : ev_S} {a n lim np L d p q : Nat} {ρ : List Nat} (h7 : z.1 a 7 = 0) (hi : IG (z.1 (a + 1)) n lim np L d ρ) (hL : L ≤ 80) (hd : d < 10000) (hp : p < 2) (hq : q < np) {Q : ev_O → ev_S → Prop}
    (hQ : ∀ y, m_fc z y a → Q (.inl (some (ev_i (o_pa L np (L + 1) 400 d (o_post (z.1 (a + 1)) L (Int32.ofNat p) (Int32.ofNat q) 0 1 0 0))))) y) : ev_Cv g m_X10_arrivalOver 10 0 [ev_o 10 a, ev_i (Int32.ofNat p), ev_i (Int32.ofNat q)] z Q := by
  have e4 := hi.1.2.2.2.2.1
  refine sg_X10_arrivalOver_0 a _ _ (c_tries a _ ⟨rfl, ?_⟩)
  have e : ev_ur z (a + 2) (o_rw (z.1 (a + 2)) (z.1 (a + 1)) 0) = m_in z a (z.1 (a + 1)) := by
    have := m_in_self z a
    rw [m_up7 h7] at this
    exact this
  rw [e]
  refine c_posts a L _ _ _ _ _ _ (Or.inl rfl) (by rw [m_in_1]; exact e4) hL _ ⟨_, rfl, fun S3 e3 => ?_⟩
  rw [m_in_1, m_in_in] at e3
  rw [e3]
  refine sg_X10_arrivalOf_0 a _ ?_
  exact c_arrOf a n lim np (L + 1) L (Int32.ofNat L) (by omega) 400 0 _ _ d ρ rfl (by omega) (IR_blank hi.1 hL hp hq) (i_pst_post hi.2.1 (by omega) hp hq) (agP_refl _) _ (fun r' => ⟨_, rfl, m_bk_back _ (fun y hy => ⟨_, rfl, hQ y hy⟩)⟩)
theorem c_fast {g : ev_G} {S : ev_S} (a n lim np L d : Nat) (x : Int32) {ρ : List Nat} (h8 : S.1 a 8 = -1) (hi : IG (S.1 (a + 1)) n lim np L d ρ) (hL : L ≤ 80) (hd : d < 10000) {Q : ev_O → ev_S → Prop}
    (q1 : ¬ (∃ p, x = Int32.ofNat p ∧ p < 2) → Q (.inl (some (ev_i 0))) (ev_up S a 7 1))
    (q2 : ∀ p, x = Int32.ofNat p → p < 2 → ∀ v z, m_fc S z a → FP np (PP (S.1 (a + 1)) np L d p) v → Q (.inl (some (ev_i v))) z) :
    ev_Cv g m_X10_fastestPass 11 0 [ev_o 10 a, ev_i x] S Q := by
  have hnp := hi.1.2.2.2.1
  have hi0 : (t_X10_in x 0 1 = true) = ∃ s, x = Int32.ofNat s ∧ s < 2 := by rw [n_in01]; exact propext n_bit
  refine sg_X10_fastestPass_0 a x (fun S1 e1 => ?_)
  rw [hi0]
  refine ⟨fun h => ?_, fun h S3 e3 => ?_⟩
  · obtain ⟨p, hx, hp⟩ := h
    have q2 := q2 p hx hp
    rw [hx]
    generalize hP : PP (S.1 (a + 1)) np L d p = P at q2
    have f1 : m_fc S S1 a := by
      rw [e1]
      exact ⟨rfl, fun q h0 _ _ => m_r h0, fun j j7 _ => m_k j7, m_s _ _ _ _, by rw [m_k (by omega)]; exact h8, fun j _ => by rw [m_r (by omega)]⟩
    have key : ∀ (k i : Nat) (v w : Int32) (z : ev_S), i + k = np → m_fc S z a → ((v = -1 ∧ ∀ q, q < i → ∀ m, m ≤ 400 → ¬ P m q) ∨ ∃ q m, q < i ∧ v = Int32.ofNat q ∧ w = Int32.ofNat (d + m) ∧ m ≤ 400 ∧ P m q ∧ (∀ m' q', m' < m → q' < i → ¬ P m' q') ∧ ∀ q', q' < q → ¬ P m q') →
        ev_E g m_X10_fastestPass 11 0 26 [some (ev_o 10 a), some (ev_i (Int32.ofNat p)), some (ev_i v), some (ev_i w), some (ev_i (Int32.ofNat i)), none] [] z Q := by
      intro k
      induction k with
      | zero =>
        intro i v w z hik hz hv
        have z3 : z.1 (a + 1) 3 = Int32.ofNat np := by rw [hz.2.2.2.2.2 _ (by omega)]; exact hi.1.2.2.1
        refine sg_X10_fastestPass_26 a _ _ _ _ (j_pos (by rw [z3, n_le (by omega) (by omega)]; omega) (q2 v z hz ?_))
        have hin : i = np := by omega
        rw [hin] at hv
        rcases hv with ⟨h1, h2⟩ | ⟨q, m, h1, h2, h3, h4, h5, h6, h7⟩
        · exact Or.inl ⟨h1, fun m hm q hq => h2 q hq m hm⟩
        · exact Or.inr ⟨q, m, h2, h1, h4, h5, h6, h7⟩
      | succ k ih =>
        intro i v w z hik hz hv
        have z3 : z.1 (a + 1) 3 = Int32.ofNat np := by rw [hz.2.2.2.2.2 _ (by omega)]; exact hi.1.2.2.1
        have hIz : IG (z.1 (a + 1)) n lim np L d ρ := IG_lt hi hz.2.2.2.2.2
        have hPz : ∀ m, P m i = PP (S.1 (a + 1)) np L d p m i := fun m => by rw [hP]
        have hn0 : ¬ PP (S.1 (a + 1)) np L d p 0 i := by
          show ¬ xps p (S.1 (a + 1)) L np (1200 + 11 * (L + i) + 6) = 2
          rw [((xps_at (p := p) (L := L) (r := S.1 (a + 1)) np).2 i (by omega)).2.2]
          decide
        refine sg_X10_fastestPass_26 a _ _ _ _ (j_neg (by rw [z3, n_le (by omega) (by omega)]; omega) ?_)
        refine c_over hz.2.2.2.1 hIz hL hd hp (by omega) (fun y hy => ⟨_, rfl, ?_⟩)
        have hS := pa_spec (p := p) hL (q := i) (by omega) hp hi.2.1 hd 400 0 _ ρ rfl (i_pst_post (q := i) (b := p) (x2 := 0) (x3 := 1) (x4 := 0) (x5 := 0) hIz.2.1 (by omega) hp (by omega)) (pj_0 hL (by omega) hnp hz.2.2.2.2.2) hn0
        have hy' := m_fc_tr hz hy
        generalize o_pa L np (L + 1) 400 (d + 0) (o_post (z.1 (a + 1)) L (Int32.ofNat p) (Int32.ofNat i) 0 1 0 0) = V at *
        rw [n_inc]
        rcases hS with ⟨s1, s2⟩ | ⟨m1, s1, s2, s3, s4, s5⟩
        · refine j_pos s1 (ih (i + 1) v w y (by omega) hy' ?_)
          have hnone : ∀ m, m ≤ 400 → ¬ P m i := fun m hm => by
            rw [hPz]
            by_cases h0 : m = 0
            · rw [h0]; exact hn0
            · exact s2 m (by omega) hm
          rcases hv with ⟨h1, h2⟩ | ⟨q, m, h1, h2, h3, h4, h5, h6, h7⟩
          · refine Or.inl ⟨h1, fun q hq m hm => ?_⟩
            by_cases hqi : q = i
            · rw [hqi]; exact hnone m hm
            · exact h2 q (by omega) m hm
          · refine Or.inr ⟨q, m, by omega, h2, h3, h4, h5, fun m' q' c1 c2 => ?_, h7⟩
            by_cases hqi : q' = i
            · rw [hqi]; exact hnone m' (by omega)
            · exact h6 m' q' c1 (by omega)
        · rw [s3]
          have hfirst : ∀ m', m' < m1 → ¬ P m' i := fun m' hm => by
            rw [hPz]
            by_cases h0 : m' = 0
            · rw [h0]; exact hn0
            · exact s5 m' (by omega) hm
          rw [← hPz] at s4
          refine j_neg (n_m1' (by omega)) ?_
          rcases hv with ⟨h1, h2⟩ | ⟨q, m, h1, h2, h3, h4, h5, h6, h7⟩
          · refine j_pos h1 (ih (i + 1) _ _ y (by omega) hy' (Or.inr ⟨i, m1, by omega, rfl, rfl, s2, s4, fun m' q' c1 c2 => ?_, fun q' c => h2 q' c m1 s2⟩))
            by_cases hqi : q' = i
            · rw [hqi]; exact hfirst m' c1
            · exact h2 q' (by omega) m' (by omega)
          · rw [h2, h3]
            refine j_neg (n_m1' (by omega)) ?_
            rw [n_lt (by omega) (by omega)]
            refine ⟨fun hlt => ih (i + 1) _ _ y (by omega) hy' (Or.inr ⟨i, m1, by omega, rfl, rfl, s2, s4, fun m' q' c1 c2 => ?_, fun q' c => h6 m1 q' (by omega) c⟩), fun hlt => ih (i + 1) _ _ y (by omega) hy' (Or.inr ⟨q, m, by omega, rfl, rfl, h4, h5, fun m' q' c1 c2 => ?_, h7⟩)⟩
            · by_cases hqi : q' = i
              · rw [hqi]; exact hfirst m' c1
              · exact h6 m' q' (by omega) (by omega)
            · by_cases hqi : q' = i
              · rw [hqi]; exact hfirst m' (by omega)
              · exact h6 m' q' c1 (by omega)
    exact key np 0 (-1) 0 S1 (by omega) f1 (Or.inl ⟨rfl, fun q hq => by omega⟩)
  · rw [e3, e1, m_u, m_u, r_s, r_rr, u_u, ← m_u]
    exact q1 h
