/-! ===== the law's cases: means ===== -/
abbrev RD (g : ev_G) (B k0 a m o1 o2 : Nat) (u5 : Int32) (Q : ev_O → ev_S → Prop) (v : Int32) : ev_O → ev_S → Prop := fun o S2 => ∃ v2_ : UInt64, o = .inl (some (ev_d v2_)) ∧ ((S2.1 m 7 = v → (v = 0 → (j_dcmpl S2.2.2 v2_ = 0 → K3 g (B + 1) k0 a m o1 o2 u5 S2 Q) ∧ (¬ j_dcmpl S2.2.2 v2_ = 0 → (j_dcmpl S2.2.2 S2.2.2 = 0 → Q (.inl (some (ev_i 0))) S2) ∧ (¬ j_dcmpl S2.2.2 S2.2.2 = 0 → (j_dcmpl v2_ v2_ = 0 → Q (.inl (some (ev_i 0))) S2) ∧ (¬ j_dcmpl v2_ v2_ = 0 → K3 g (B + 1) k0 a m o1 o2 u5 S2 Q)))) ∧ (¬ v = 0 → K3 g (B + 1) k0 a m o1 o2 u5 S2 Q)) ∧ (¬ S2.1 m 7 = v → Q (.inl (some (ev_i 0))) S2))
theorem CS.okd {g : ev_G} {B k0 a m o1 o2 : Nat} {u5 : Int32} {S : ev_S} {Q : ev_O → ev_S → Prop} (c : CS g B k0 a m o1 o2 u5 S Q) {z : ev_S} {v : UInt64} (e : z.1 = S.1) (hx : z.2.2 = v) : RD g B k0 a m o1 o2 u5 Q 0 (.inl (some (ev_d v))) (ev_up z m 7 0) := by
  have hK := c.k1 _ (INV_u7 (v := 0) c.hm c.hi e)
  have hx' : (ev_up z m 7 0).2.2 = v := hx
  refine ⟨v, rfl, fun _ => ⟨fun _ => ⟨fun _ => hK, fun h => ?_⟩, fun _ => hK⟩, fun h => absurd (m_s _ _ _ _) h⟩
  rw [hx'] at h ⊢
  exact ⟨fun hh => absurd hh h, fun _ => ⟨fun hh => absurd hh h, fun _ => hK⟩⟩
theorem CS.erd {g : ev_G} {B k0 a m o1 o2 : Nat} {u5 : Int32} {S : ev_S} {Q : ev_O → ev_S → Prop} (c : CS g B k0 a m o1 o2 u5 S Q) {v : Int32} {x : UInt64} (hv : ¬ v = 0) : RD g B k0 a m o1 o2 u5 Q v (.inl (some (ev_d x))) (ev_up S m 7 v) :=
  ⟨x, rfl, fun _ => ⟨fun h => absurd h hv, fun _ => c.k1 _ (INV_u7 c.hm c.hi rfl)⟩, fun h => absurd (m_s _ _ _ _) h⟩
theorem w_2040 {g : ev_G} {B k0 a m o1 o2 : Nat} {u5 : Int32} {S : ev_S} {Q : ev_O → ev_S → Prop} (c : CS g B k0 a m o1 o2 u5 S Q) : KA g B 2040 k0 a m o1 o2 u5 S Q := by
  obtain ⟨n, lim, np, L, d, ρ, hI, hL, hd, hg, hk⟩ := c.hi.1
  refine sg_L_law_2040 k0 a m o1 o2 u5 ⟨c.v1, ?_⟩
  generalize ev_sx g (u5 + 1).toNatClampNeg = x1
  have bad : ¬ t_X9_isPlayer x1 = true → ev_Cv g m_X10_meanWait 3 0 [ev_o 10 m, ev_i x1] S (RD g B k0 a m o1 o2 u5 Q 1) := by
    intro h
    refine sg_X10_meanWait_0 m _ (fun S1 e1 => j_neg (rpn h) (fun S3 e3 => ?_))
    rw [e3, e1, up_up7]
    exact c.erd (by decide)
  have good : ∀ p, p < 2 → ∀ (z : ev_S) (v : UInt64), z.1 = S.1 → z.2.2 = v → v = (if S.1 (m + 1) (12 + 7 * p + 5) = 0 then 0 else FP.ddiv (FP.i2d (S.1 (m + 1) (12 + 7 * p + 4))) (FP.i2d (S.1 (m + 1) (12 + 7 * p + 5)))) → ev_Cv g m_X10_meanWait 3 0 [ev_o 10 m, ev_i (Int32.ofNat p)] z (RD g B k0 a m o1 o2 u5 Q 0) := by
    intro p hp z v hz hx hv
    have i4 : (12 : Int32) + 7 * Int32.ofNat p + 4 = Int32.ofNat (12 + 7 * p + 4) := by simp (disch := omega) only [lm_2, lm_3, lm_6, lm_7, lm_11, lm_12, lm_15, lm_64, lm_124, lm_180, la_1, la_2, la_3, la_12, la_26, la_154, la_514, la_762, la_1140, la_1200, ra_0, ra_1, ra_2, ra_3, ra_4, ra_5, ra_6, ra_7, ra_8, ra_9, ra_10, ra_48, rm_12, rm_2, rm_64, rm_6, n_add, n_mul, n_d1, n_vp, n_c, true_and]
    have i5 : (12 : Int32) + 7 * Int32.ofNat p + 5 = Int32.ofNat (12 + 7 * p + 5) := by simp (disch := omega) only [lm_2, lm_3, lm_6, lm_7, lm_11, lm_12, lm_15, lm_64, lm_124, lm_180, la_1, la_2, la_3, la_12, la_26, la_154, la_514, la_762, la_1140, la_1200, ra_0, ra_1, ra_2, ra_3, ra_4, ra_5, ra_6, ra_7, ra_8, ra_9, ra_10, ra_48, rm_12, rm_2, rm_64, rm_6, n_add, n_mul, n_d1, n_vp, n_c, true_and]
    have hK := c.okd (z := z) (v := v) hz hx
    rw [hv] at hK
    refine sg_X10_meanWait_0 m _ (fun S1 e1 => j_pos (rp.mpr ⟨p, rfl, hp⟩) ?_)
    rw [i4, i5, n_c (by omega), n_c (by omega), hz, e1]
    refine ⟨(n_vp (by omega) (by omega)).mpr trivial, fun h => ?_, fun h => ⟨(n_vp (by omega) (by omega)).mpr trivial, mean64 h, ?_⟩⟩
    · rw [if_pos h] at hK
      exact hK
    · rw [if_neg h] at hK
      exact hK
  refine sg_L_meanWait_0 a _ _ (sg_X9_meanWait_0 a _ ⟨fun h => ?_, fun h => Or.inr ⟨rfl, _, rfl, bad h⟩⟩)
  obtain ⟨p, rfl, hp⟩ := t_pl.mp h
  have e8 : S.1 (a + 11 + 1 + 9 * p) 8 = S.1 (m + 1) (12 + 7 * p + 5) := (hg.1 p hp).2.2.2.2.2.2.2.1
  have e9 : S.1 (a + 11 + 1 + 9 * p) 9 = S.1 (m + 1) (12 + 7 * p + 4) := (hg.1 p hp).2.2.2.2.2.2.2.2.1
  rw [a_desk hp, e8, e9]
  exact ⟨fun h0 => Or.inl ⟨_, rfl, fun S2 e2 => ⟨_, rfl, good p hp S2 0 (by rw [e2]) (by rw [e2]) (by rw [if_pos h0])⟩⟩, fun h0 => ⟨mean64 h0, Or.inl ⟨_, rfl, fun S2 e2 => ⟨_, rfl, good p hp S2 _ (by rw [e2]) rfl (by rw [e2, if_neg h0])⟩⟩⟩⟩
theorem f2d_0 : vf_n64 (FP.f2d 0) := by
  have h := f2d_ok (d := .fin false 0 (-149)) ⟨by decide, by decide⟩
  have e : UInt32.ofNat (FP.Core.encode FP.Core.b32 (.fin false 0 (-149))) = 0 := by decide
  rw [e] at h
  exact h
theorem w_2117 {g : ev_G} {B k0 a m o1 o2 : Nat} {u5 : Int32} {S : ev_S} {Q : ev_O → ev_S → Prop} (c : CS g B k0 a m o1 o2 u5 S Q) : KA g B 2117 k0 a m o1 o2 u5 S Q := by
  obtain ⟨n, lim, np, L, d, ρ, hI, hL, hd, hg, hk⟩ := c.hi.1
  have e16 : S.1 (a + 30) 16 = S.1 (m + 1) 8 := hg.2.1.1.1.2.2.2.1
  have e17 : S.1 (a + 30) 17 = S.1 (m + 1) 7 := hg.2.1.1.1.2.2.2.2
  have hK := c.k2 _ (INV_u7 (v := 0) c.hm c.hi rfl)
  have same : ∀ x : UInt64, (j_dcmpl x x = 0 → K3 g (B + 2) k0 a m o1 o2 u5 (ev_up S m 7 0) Q) ∧ (¬ j_dcmpl x x = 0 → (j_dcmpl x x = 0 → Q (.inl (some (ev_i 0))) (ev_up S m 7 0)) ∧ (¬ j_dcmpl x x = 0 → (j_dcmpl x x = 0 → Q (.inl (some (ev_i 0))) (ev_up S m 7 0)) ∧ (¬ j_dcmpl x x = 0 → K3 g (B + 2) k0 a m o1 o2 u5 (ev_up S m 7 0) Q))) := fun x => ⟨fun _ => hK, fun h => ⟨fun hh => absurd hh h, fun _ => ⟨fun hh => absurd hh h, fun _ => hK⟩⟩⟩
  refine sg_L_law_2117 k0 a m o1 o2 u5 (sg_X9_meanTravel_0 a ?_)
  rw [e16, e17]
  refine ⟨fun h => ⟨_, rfl, f2d_0, ?_⟩, fun h => ?_⟩
  · refine sg_X10_meanTravel_0 m (fun S1 e1 => j_pos h ⟨_, rfl, f2d_0, ?_⟩)
    rw [e1]
    exact same _
  · obtain ⟨dd, h1, h2⟩ := mean32 (x := S.1 (m + 1) 7) h
    rw [h2]
    refine ⟨ok32 h1, _, rfl, f2d_ok h1, ?_⟩
    refine sg_X10_meanTravel_0 m (fun S1 e1 => j_neg h ?_)
    rw [h2]
    refine ⟨ok32 h1, _, rfl, f2d_ok h1, ?_⟩
    rw [e1]
    exact same _
