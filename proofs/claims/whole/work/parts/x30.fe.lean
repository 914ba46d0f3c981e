/-! ===== the law's cases: a player's numbers ===== -/
theorem rp {x : Int32} : t_X10_in x 0 1 = true ↔ ∃ p, x = Int32.ofNat p ∧ p < 2 := by rw [n_in01, n_bit]
theorem rpn {x : Int32} (h : ¬ t_X9_isPlayer x = true) : ¬ t_X10_in x 0 1 = true := fun hh => h (t_pl.mpr (rp.mp hh))
theorem up_up7 {S : ev_S} {m : Nat} {v w : Int32} : ev_up (ev_up S m 7 v) m 7 w = ev_up S m 7 w := by
  rw [m_u, m_u, r_s, r_rr, u_u, ← m_u]
theorem w_688 {g : ev_G} {B k0 a m o1 o2 : Nat} {u5 : Int32} {S : ev_S} {Q : ev_O → ev_S → Prop} (c : CS g B k0 a m o1 o2 u5 S Q) : KA g B 688 k0 a m o1 o2 u5 S Q := by
  obtain ⟨n, lim, np, L, d, ρ, hI, hL, hd, hg, hk⟩ := c.hi.1
  refine sg_L_law_688 k0 a m o1 o2 u5 ⟨c.v1, ?_⟩
  generalize ev_sx g (u5 + 1).toNatClampNeg = x
  refine sg_L_moveCount_0 a _ _ (sg_X9_moveCount_0 a _ ⟨fun h => Or.inl ⟨_, rfl, fun S2 e2 => ⟨_, rfl, ?_⟩⟩, fun h => Or.inr ⟨rfl, _, rfl, ?_⟩⟩)
  · obtain ⟨p, rfl, hp⟩ := t_pl.mp h
    rw [a_desk hp] at e2
    refine sg_X10_moveCount_0 m _ (fun S1 e1 => j_pos (rp.mpr ⟨p, rfl, hp⟩) ?_)
    simp (disch := omega) only [lm_2, lm_3, lm_6, lm_7, lm_11, lm_12, lm_15, lm_64, lm_124, lm_180, la_1, la_2, la_3, la_12, la_26, la_154, la_514, la_762, la_1140, la_1200, ra_0, ra_1, ra_2, ra_3, ra_4, ra_5, ra_6, ra_7, ra_8, ra_9, ra_10, ra_48, rm_12, rm_2, rm_64, rm_6, n_add, n_mul, n_d1, n_vp, n_c, true_and]
    have hv : S.1 (a + 11 + 1 + 9 * p + 1) 6 = S.1 (m + 1) (12 + 7 * p) := (hg.1 p hp).2.1.2.2.2.2.2.1
    rw [hv] at e2
    have e3 : S2.1 (m + 1) (12 + 7 * p) = S.1 (m + 1) (12 + 7 * p) := by rw [e2]
    refine ⟨trivial, _, rfl, ?_⟩
    rw [e1, e3]
    exact c.ok (by rw [e2]) (by rw [e2])
  · refine sg_X10_moveCount_0 m _ (fun S1 e1 => j_neg (rpn h) (fun S3 e3 => ⟨_, rfl, ?_⟩))
    rw [e3, e1, up_up7]
    exact c.er (by decide)
