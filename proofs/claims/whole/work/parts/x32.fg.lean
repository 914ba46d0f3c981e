/-! ===== the law's cases: squares and bishops ===== -/
theorem rsq {S : ev_S} {m n : Nat} {x : Int32} (h : S.1 (m + 1) 0 = Int32.ofNat n) (h8 : n ≤ 8) : t_X10_in x 0 (S.1 (m + 1) 0 * S.1 (m + 1) 0 - 1) = true ↔ ∃ f, x = Int32.ofNat f ∧ f < n * n := by
  have := sq_le h8
  exact rq (by rw [h, n_mul]) (by omega)
theorem w_620 {g : ev_G} {B k0 a m o1 o2 : Nat} {u5 : Int32} {S : ev_S} {Q : ev_O → ev_S → Prop} (c : CS g B k0 a m o1 o2 u5 S Q) : KA g B 620 k0 a m o1 o2 u5 S Q := by
  obtain ⟨n, lim, np, L, d, ρ, hI, hL, hd, hg, hk⟩ := c.hi.1
  refine sg_L_law_620 k0 a m o1 o2 u5 ⟨c.v1, c.v2, ?_⟩
  generalize ev_sx g (u5 + 1).toNatClampNeg = x1
  generalize ev_sx g (u5 + 2).toNatClampNeg = x2
  have bad : ¬ (t_X9_isPlayer x1 = true ∧ t_X9_isPlayer x2 = true) → ev_Cv g m_X10_bishopCount 3 0 [ev_o 10 m, ev_i x1, ev_i x2] S (RI g B k0 a m o1 o2 u5 Q 1) := by
    intro h
    refine sg_X10_bishopCount_0 m _ _ (fun S1 e1 => ?_)
    rw [rp, rp, ← t_pl, ← t_pl]
    refine ⟨fun h1 => ⟨fun h2 => absurd ⟨h1, h2⟩ h, fun h2 S3 e3 => ?_⟩, fun h1 S3 e3 => ?_⟩
    · rw [e3, e1, up_up7]
      exact c.eri (by decide)
    · rw [e3, e1, up_up7]
      exact c.eri (by decide)
  refine sg_L_bishopCount_0 a _ _ _ (sg_X9_bishopCount_0 a _ _ ⟨fun h => ⟨fun h2 => Or.inl ⟨_, rfl, fun S2 e2 => ⟨_, rfl, ?_⟩⟩, fun h2 => Or.inr ⟨rfl, _, rfl, bad (fun hh => h2 hh.2)⟩⟩, fun h => Or.inr ⟨rfl, _, rfl, bad (fun hh => h hh.1)⟩⟩)
  obtain ⟨p, rfl, hp⟩ := t_pl.mp h
  obtain ⟨s, rfl, hs⟩ := t_pl.mp h2
  rw [a_desk hp, a_in (by omega) (by omega)] at e2
  have hv : S.1 (a + 11 + 1 + 9 * p + 3) s = Int32.ofNat (o_bish (S.1 (m + 1)) p n (Int32.ofNat s)) := by
    have hs' : s = 0 ∨ s = 1 := by omega
    rcases hs' with rfl | rfl
    · exact (hg.1 p hp).2.1.2.1
    · exact (hg.1 p hp).2.1.2.2.1
  rw [hv] at e2
  have e0 : (ev_up S2 m 7 0).1 (m + 1) = S.1 (m + 1) := by rw [m_r (by omega), e2]
  refine sg_X10_bishopCount_0 m _ _ (fun S1 e1 => j_pos (rp.mpr ⟨p, rfl, hp⟩) (j_pos (rp.mpr ⟨s, rfl, hs⟩) ?_))
  rw [e1]
  refine c_bishopsOf m p n _ hp (by rw [e0]; exact hI.1.1.1) hI.1.1.2.1 _ ⟨_, rfl, ?_⟩
  rw [e0]
  exact c.oki (z := S2) (v := Int32.ofNat (o_bish (S.1 (m + 1)) p n (Int32.ofNat s))) (by rw [e2]) (by rw [e2])
theorem w_552 {g : ev_G} {B k0 a m o1 o2 : Nat} {u5 : Int32} {S : ev_S} {Q : ev_O → ev_S → Prop} (c : CS g B k0 a m o1 o2 u5 S Q) : KA g B 552 k0 a m o1 o2 u5 S Q := by
  obtain ⟨n, lim, np, L, d, ρ, hI, hL, hd, hg, hk⟩ := c.hi.1
  refine sg_L_law_552 k0 a m o1 o2 u5 ⟨c.v1, c.v2, ?_⟩
  generalize ev_sx g (u5 + 1).toNatClampNeg = x1
  generalize ev_sx g (u5 + 2).toNatClampNeg = x2
  obtain ⟨en, -, -⟩ := q_gm_sz hI hg
  have h8 := hI.1.1.2.1
  have bad : ¬ (t_X9_isPlayer x1 = true ∧ t_X2_isSquare S (a + 11) x2 = true) → ev_Cv g m_X10_bishopOwner 3 0 [ev_o 10 m, ev_i x1, ev_i x2] S (RI g B k0 a m o1 o2 u5 Q 1) := by
    intro h
    refine sg_X10_bishopOwner_0 m _ _ (fun S1 e1 => ?_)
    rw [rsq (n := n) (by rw [e1, m_r (by omega)]; exact hI.1.1.1) h8, ← t_sq en h8, rp, ← t_pl]
    refine ⟨fun h1 => ⟨fun h2 => absurd ⟨h1, h2⟩ h, fun h2 S3 e3 => ?_⟩, fun h1 S3 e3 => ?_⟩
    · rw [e3, e1, up_up7]
      exact c.eri (by decide)
    · rw [e3, e1, up_up7]
      exact c.eri (by decide)
  refine sg_L_bishopOwner_0 a _ _ _ (sg_X9_bishopOwner_0 a _ _ ⟨fun h => ⟨fun h2 => Or.inl ⟨_, rfl, fun S2 e2 => ⟨_, rfl, ?_⟩⟩, fun h2 => Or.inr ⟨rfl, _, rfl, bad (fun hh => h2 hh.2)⟩⟩, fun h => Or.inr ⟨rfl, _, rfl, bad (fun hh => h hh.1)⟩⟩)
  obtain ⟨p, rfl, hp⟩ := t_pl.mp h
  obtain ⟨f, rfl, hf⟩ := (t_sq en h8).mp h2
  have hn9 := sq_le h8
  rw [a_desk hp, a_in (by omega) (by omega)] at e2
  have hv : S.1 (a + 11 + 1 + 9 * p + 2) f = S.1 (m + 1) (26 + 64 * p + f) := (hg.1 p hp).2.1.1 f (by omega)
  rw [hv] at e2
  refine sg_X10_bishopOwner_0 m _ _ (fun S1 e1 => j_pos (rp.mpr ⟨p, rfl, hp⟩) (j_pos ((rsq (n := n) (by rw [e1, m_r (by omega), e2]; exact hI.1.1.1) h8).mpr ⟨f, rfl, hf⟩) ?_))
  have ix : (26 : Int32) + 64 * Int32.ofNat p + Int32.ofNat f = Int32.ofNat (26 + 64 * p + f) := by simp (disch := omega) only [lm_2, lm_3, lm_6, lm_7, lm_11, lm_12, lm_15, lm_64, lm_124, lm_180, la_1, la_2, la_3, la_12, la_26, la_154, la_514, la_762, la_1140, la_1200, ra_0, ra_1, ra_2, ra_3, ra_4, ra_5, ra_6, ra_7, ra_8, ra_9, ra_10, ra_48, rm_12, rm_2, rm_64, rm_6, n_add, n_mul, n_d1, n_vp, n_c, true_and]
  rw [ix, n_c (by omega)]
  refine ⟨(n_vp (by omega) (by omega)).mpr trivial, ?_⟩
  have e3 : S2.1 (m + 1) (26 + 64 * p + f) = S.1 (m + 1) (26 + 64 * p + f) := by rw [e2]
  rw [e1, e3]
  exact c.oki (z := S2) (v := S.1 (m + 1) (26 + 64 * p + f)) (by rw [e2]) (by rw [e2])
theorem w_926 {g : ev_G} {B k0 a m o1 o2 : Nat} {u5 : Int32} {S : ev_S} {Q : ev_O → ev_S → Prop} (c : CS g B k0 a m o1 o2 u5 S Q) : KA g B 926 k0 a m o1 o2 u5 S Q := by
  obtain ⟨n, lim, np, L, d, ρ, hI, hL, hd, hg, hk⟩ := c.hi.1
  refine sg_L_law_926 k0 a m o1 o2 u5 ⟨c.v1, c.v2, c.v3, ?_⟩
  generalize ev_sx g (u5 + 1).toNatClampNeg = x1
  generalize ev_sx g (u5 + 2).toNatClampNeg = x2
  generalize ev_sx g (u5 + 3).toNatClampNeg = x3
  obtain ⟨en, -, -⟩ := q_gm_sz hI hg
  have h8 := hI.1.1.2.1
  have hn9 := sq_le h8
  have bad : ¬ (t_X9_isPlayer x1 = true ∧ t_X2_isSquare S (a + 11) x2 = true ∧ t_X2_isSquare S (a + 11) x3 = true) → ev_Cv g m_X10_canMove 4 0 [ev_o 10 m, ev_i x1, ev_i x2, ev_i x3] S (RB g B k0 a m o1 o2 u5 Q 1) := by
    intro h
    refine sg_X10_canMove_0 m _ _ _ (fun S1 e1 => ?_)
    rw [rsq (n := n) (by rw [e1, m_r (by omega)]; exact hI.1.1.1) h8, rsq (n := n) (by rw [e1, m_r (by omega)]; exact hI.1.1.1) h8, ← t_sq en h8, ← t_sq en h8, rp, ← t_pl]
    refine ⟨fun h1 => ⟨fun h2 => ⟨fun h3 => absurd ⟨h1, h2, h3⟩ h, fun h3 S3 e3 => ?_⟩, fun h2 S3 e3 => ?_⟩, fun h1 S3 e3 => ?_⟩
    · rw [e3, e1, up_up7]
      exact c.erb (by decide)
    · rw [e3, e1, up_up7]
      exact c.erb (by decide)
    · rw [e3, e1, up_up7]
      exact c.erb (by decide)
  refine sg_L_canMove_0 a _ _ _ _ (sg_X9_canMove_0 a _ _ _ ⟨fun h => ⟨fun h2 => ⟨fun h3 => ?_, fun h3 => Or.inr ⟨rfl, _, rfl, bad (fun hh => h3 hh.2.2)⟩⟩, fun h2 => Or.inr ⟨rfl, _, rfl, bad (fun hh => h2 hh.2.1)⟩⟩, fun h => Or.inr ⟨rfl, _, rfl, bad (fun hh => h hh.1)⟩⟩)
  obtain ⟨p, rfl, hp⟩ := t_pl.mp h
  obtain ⟨f, rfl, hf⟩ := (t_sq en h8).mp h2
  obtain ⟨t, rfl, ht⟩ := (t_sq en h8).mp h3
  rw [a_desk hp]
  refine b_reach hk.1 h8 (by omega) (by omega) hI.1.1.1 (hg.1 p hp).2.1 _ ⟨_, rfl, ?_⟩
  have good : ∀ z : ev_S, z.1 = S.1 → z.2.1 = (if o_moves (S.1 (m + 1)) p n (S.1 (m + 1) (26 + 64 * p + f)) f t = true then 1 else 0) → ev_Cv g m_X10_canMove 4 0 [ev_o 10 m, ev_i (Int32.ofNat p), ev_i (Int32.ofNat f), ev_i (Int32.ofNat t)] z (RB g B k0 a m o1 o2 u5 Q 0) := by
    intro z hz hx
    have e0 : (ev_up z m 7 0).1 (m + 1) = S.1 (m + 1) := by rw [m_r (by omega), hz]
    refine sg_X10_canMove_0 m _ _ _ (fun S1 e1 => j_pos (rp.mpr ⟨p, rfl, hp⟩) (j_pos ((rsq (n := n) (by rw [e1, e0]; exact hI.1.1.1) h8).mpr ⟨f, rfl, hf⟩) (j_pos ((rsq (n := n) (by rw [e1, e0]; exact hI.1.1.1) h8).mpr ⟨t, rfl, ht⟩) ?_)))
    have ix : (26 : Int32) + 64 * Int32.ofNat p + Int32.ofNat f = Int32.ofNat (26 + 64 * p + f) := by simp (disch := omega) only [lm_2, lm_3, lm_6, lm_7, lm_11, lm_12, lm_15, lm_64, lm_124, lm_180, la_1, la_2, la_3, la_12, la_26, la_154, la_514, la_762, la_1140, la_1200, ra_0, ra_1, ra_2, ra_3, ra_4, ra_5, ra_6, ra_7, ra_8, ra_9, ra_10, ra_48, rm_12, rm_2, rm_64, rm_6, n_add, n_mul, n_d1, n_vp, n_c, true_and]
    rw [ix, n_c (by omega), e1]
    refine ⟨(n_vp (by omega) (by omega)).mpr trivial, c_moves m p n f t _ hp (by rw [e0]; exact hI.1.1.1) hk.1 h8 (by omega) (by omega) _ ⟨_, rfl, ?_⟩⟩
    rw [e0, hz]
    have := c.okb (z := z) (o_moves (S.1 (m + 1)) p n (S.1 (m + 1) (26 + 64 * p + f)) f t) hz hx
    exact ⟨fun hb => by rw [if_pos hb] at this; exact this, fun hb => by rw [if_neg hb] at this; exact this⟩
  exact ⟨fun hb => Or.inl ⟨true, rfl, fun _ S2 e2 => ⟨_, rfl, good S2 (by rw [e2]) (by rw [e2, if_pos hb])⟩, fun hf => absurd rfl hf⟩, fun hb => Or.inl ⟨false, rfl, fun hf => absurd hf (by decide), fun _ S2 e2 => ⟨_, rfl, good S2 (by rw [e2]) (by rw [e2, if_neg hb])⟩⟩⟩
theorem w_1684 {g : ev_G} {B k0 a m o1 o2 : Nat} {u5 : Int32} {S : ev_S} {Q : ev_O → ev_S → Prop} (c : CS g B k0 a m o1 o2 u5 S Q) : KA g B 1684 k0 a m o1 o2 u5 S Q := by
  obtain ⟨n, lim, np, L, d, ρ, hI, hL, hd, hg, hk⟩ := c.hi.1
  refine sg_L_law_1684 k0 a m o1 o2 u5 ⟨c.v1, ?_⟩
  generalize ev_sx g (u5 + 1).toNatClampNeg = x1
  obtain ⟨-, e3', e13⟩ := q_gm_sz hI hg
  have r4 := hI.1.2.2.2.2.1
  have bad : ¬ t_X6_exists S (a + 30) x1 = true → ev_Cv g m_X10_isPromise 3 0 [ev_o 10 m, ev_i x1] S (RB g B k0 a m o1 o2 u5 Q 1) := by
    intro h
    refine sg_X10_isPromise_0 m _ (fun S1 e1 => j_neg (fun hh => h ((t_le e13 (by omega)).mpr ((rq (k := L) (by rw [e1, m_r (by omega)]; exact r4) (by omega)).mp hh))) (fun S3 e3 => ?_))
    rw [e3, e1, up_up7]
    exact c.erb (by decide)
  refine sg_L_isPromise_0 a _ _ (sg_X9_isPromise_0 a _ ⟨fun h => ?_, fun h => Or.inr ⟨rfl, _, rfl, bad h⟩⟩)
  obtain ⟨l, rfl, hl⟩ := (t_le e13 (by omega)).mp h
  have hv : S.1 (a + 38) l = (if S.1 (m + 1) (1200 + 11 * l + 2) = 1 then S.1 (m + 1) (762 + 6 * (S.1 (m + 1) (1200 + 11 * l + 3)).toNatClampNeg) * 64 + S.1 (m + 1) (762 + 6 * (S.1 (m + 1) (1200 + 11 * l + 3)).toNatClampNeg + 1) else -1) := (hg.2.2.1 l hl).2.2
  obtain ⟨kk, hlet⟩ := IR_let hI.1 hl
  obtain ⟨-, -, hk1, hk60, -, -, hr3, f, t, hf, ht, hft, hrf, hrt, hpr⟩ := hlet
  have hbit : S.1 (a + 38) l = -1 ↔ ¬ S.1 (m + 1) (1200 + 11 * l + 2) = 1 := by
    rw [hv]
    rcases hpr with h0 | ⟨h1, h2, -⟩
    · rw [h0]
      exact ⟨fun _ => by decide, fun _ => if_neg (by decide)⟩
    · rw [if_pos h1, hr3, n_c (by omega)]
      obtain ⟨ef, et, rf, rt, g1, g2, -, -, -, -, g4, g5, -⟩ := h2
      rw [g4, g5]
      have h8 := hI.1.1.2.1
      have hn9 := sq_le h8
      have e64 : (64 : Int32) = Int32.ofNat 64 := rfl
      rw [e64, n_mul, n_add]
      exact ⟨fun hh => absurd hh (n_m1' (by omega)), fun hh => absurd h1 hh⟩
  have good : ∀ z : ev_S, z.1 = S.1 → ∀ b : Bool, (b = true ↔ S.1 (m + 1) (1200 + 11 * l + 2) = 1) → z.2.1 = (if b = true then 1 else 0) → ev_Cv g m_X10_isPromise 3 0 [ev_o 10 m, ev_i (Int32.ofNat l)] z (RB g B k0 a m o1 o2 u5 Q 0) := by
    intro z hz b hb hx
    refine sg_X10_isPromise_0 m _ (fun S1 e1 => j_pos ((rq (k := L) (by rw [e1, m_r (by omega), hz]; exact r4) (by omega)).mpr ⟨l, rfl, hl⟩) ?_)
    have ix : (1200 : Int32) + 11 * Int32.ofNat l + 2 = Int32.ofNat (1200 + 11 * l + 2) := by simp (disch := omega) only [lm_2, lm_3, lm_6, lm_7, lm_11, lm_12, lm_15, lm_64, lm_124, lm_180, la_1, la_2, la_3, la_12, la_26, la_154, la_514, la_762, la_1140, la_1200, ra_0, ra_1, ra_2, ra_3, ra_4, ra_5, ra_6, ra_7, ra_8, ra_9, ra_10, ra_48, rm_12, rm_2, rm_64, rm_6, n_add, n_mul, n_d1, n_vp, n_c, true_and]
    rw [ix, n_c (by omega), hz, e1]
    refine ⟨(n_vp (by omega) (by omega)).mpr trivial, ?_⟩
    have := c.okb (z := z) b hz hx
    exact ⟨fun h1 => by rw [if_pos (hb.mpr h1)] at this; exact this, fun h1 => by rw [if_neg (fun hh => h1 (hb.mp hh))] at this; exact this⟩
  rw [a_in (by omega) (by omega), hbit]
  exact ⟨fun hb => Or.inl ⟨false, rfl, fun hf => absurd hf (by decide), fun _ S2 e2 => ⟨_, rfl, good S2 (by rw [e2]) false ⟨fun hf => absurd hf (by decide), fun hh => absurd hh hb⟩ (by rw [e2]; rfl)⟩⟩, fun hb => Or.inl ⟨true, rfl, fun _ S2 e2 => ⟨_, rfl, good S2 (by rw [e2]) true ⟨fun _ => Classical.not_not.mp hb, fun _ => rfl⟩ (by rw [e2]; rfl)⟩, fun hf => absurd rfl hf⟩⟩
