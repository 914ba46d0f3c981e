/-! ===== the law's cases: what is to come ===== -/
theorem INV_fc {S z : ev_S} {a m : Nat} (hm : m = a + 505) (h : INV S.1 a m) (hf : m_fc S z m) : INV z.1 a m := by
  refine INV_fr hm h (fun q q1 q2 _ => hf.2.1 q (by omega) (by omega) (by omega)) (q_sh_fr h.2.1 (hf.2.1 _ (by omega) (by omega) (by omega)) (hf.2.1 _ (by omega) (by omega) (by omega))) (fun q q1 q2 _ _ => hf.2.1 q (by omega) (by omega) (by omega)) hf.2.2.2.2.2 (fun j hj => ?_)
  by_cases h8 : j = 8
  · rw [h8, hf.2.2.2.2.1]
    exact h.2.2.2.1.1.symm
  · exact hf.2.2.1 j hj h8
theorem INV_d1 {S z : ev_S} {a m : Nat} (hm : m = a + 505) (h : INV S.1 a m) (hf : q_fr S z (a + 71) 17) : INV z.1 a m :=
  INV_fr hm h (fun q q1 q2 q3 => hf.2 q (by omega)) (q_sh_fr h.2.1 (hf.2 _ (by omega)) (hf.2 _ (by omega))) (fun q q1 q2 _ _ => hf.2 q (by omega)) (fun j _ => by rw [hf.2 _ (by omega)]) (fun j _ => by rw [hf.2 _ (by omega)])
theorem INV_d2 {S z : ev_S} {a m : Nat} (hm : m = a + 505) (h : INV S.1 a m) (hf : q_fr S z (a + 52) 36) (hs : q_sh z.1 (a + 52)) : INV z.1 a m :=
  INV_fr hm h (fun q q1 q2 q3 => hf.2 q (by omega)) hs (fun q q1 q2 _ _ => hf.2 q (by omega)) (fun j _ => by rw [hf.2 _ (by omega)]) (fun j _ => by rw [hf.2 _ (by omega)])
theorem ofi {p q : Nat} (h : Int32.ofNat p = Int32.ofNat q) (h1 : p < 1000) (h2 : q < 1000) : p = q := by rw [n_eq (by omega) (by omega)] at h; exact h
theorem w_2229 {g : ev_G} {B k0 a m o1 o2 : Nat} {u5 : Int32} {S : ev_S} {Q : ev_O → ev_S → Prop} (c : CS g B k0 a m o1 o2 u5 S Q) : KA g B 2229 k0 a m o1 o2 u5 S Q := by
  obtain ⟨n, lim, np, L, d, ρ, hI, hL, hd, hg, hk⟩ := c.hi.1
  refine sg_L_law_2229 k0 a m o1 o2 u5 ⟨c.v1, ?_⟩
  generalize ev_sx g (u5 + 1).toNatClampNeg = x1
  have h8 := c.hi.2.2.2.1.1
  have hm := c.hm
  refine sg_L_daysUntilTurn_0 a _ _ (x_dut hI hL hd hg hk c.hi.2.1 (fun h => Or.inr ⟨rfl, _, rfl, ?_⟩) (fun p hx hp z z1 z2 => Or.inl ⟨_, rfl, fun S2 e2 => ⟨_, rfl, ?_⟩⟩))
  · exact c_dut m n lim np L d _ h8 hI hd (fun h' => c.eri (by decide)) (fun p hx hp => absurd ⟨p, hx, hp⟩ h)
  · have e1 : S2.1 (m + 1) = S.1 (m + 1) := by rw [e2]; exact z1.2 _ (by omega)
    have e0 : S2.1 m = S.1 m := by rw [e2]; exact z1.2 _ (by omega)
    have hS2 : INV S2.1 a m := by have hz := INV_d2 hm c.hi z1 z2; rw [e2]; exact hz
    refine c_dut m n lim np L d _ (by rw [e0]; exact h8) (by rw [e1]; exact hI) hd (fun h' => absurd ⟨p, hx, hp⟩ h') (fun p' hx' hp' y hy => ?_)
    have hpp := ofi (hx'.symm.trans hx) (by omega) (by omega)
    subst hpp
    refine c.fni (INV_fc hm hS2 hy) hy.2.2.2.1 ?_
    rw [hy.1, e2]
    show _ = Int32.toInt64 (o_fw _ n np L 401 0 d (z.1 (m + 1)))
    rw [z1.2 _ (by omega)]
theorem w_2285 {g : ev_G} {B k0 a m o1 o2 : Nat} {u5 : Int32} {S : ev_S} {Q : ev_O → ev_S → Prop} (c : CS g B k0 a m o1 o2 u5 S Q) : KA g B 2285 k0 a m o1 o2 u5 S Q := by
  obtain ⟨n, lim, np, L, d, ρ, hI, hL, hd, hg, hk⟩ := c.hi.1
  have h8 := c.hi.2.2.2.1.1
  have hm := c.hm
  refine sg_L_law_2285 k0 a m o1 o2 u5 (x_due hI hL hd hg hk c.hi.2.1 (fun z z1 z2 => ⟨_, rfl, ?_⟩))
  have e1 : z.1 (m + 1) = S.1 (m + 1) := z1.2 _ (by omega)
  have e0 : z.1 m = S.1 m := z1.2 _ (by omega)
  refine c_due m n lim np L d (by rw [e0]; exact h8) (by rw [e1]; exact hI) hd (fun y hy => ⟨_, rfl, ?_⟩)
  rw [e1]
  exact j_pos rfl (c.k2 y (INV_fc hm (INV_d2 hm c.hi z1 z2) hy))
theorem w_2173 {g : ev_G} {B k0 a m o1 o2 : Nat} {u5 : Int32} {S : ev_S} {Q : ev_O → ev_S → Prop} (c : CS g B k0 a m o1 o2 u5 S Q) : KA g B 2173 k0 a m o1 o2 u5 S Q := by
  obtain ⟨n, lim, np, L, d, ρ, hI, hL, hd, hg, hk⟩ := c.hi.1
  refine sg_L_law_2173 k0 a m o1 o2 u5 ⟨c.v1, ?_⟩
  generalize ev_sx g (u5 + 1).toNatClampNeg = x1
  have h8 := c.hi.2.2.2.1.1
  have hm := c.hm
  refine sg_L_arrivalDay_0 a _ _ (x_arrDay hI hL hd hg (fun h => Or.inr ⟨rfl, _, rfl, ?_⟩) (fun l hx hl z z1 => Or.inl ⟨_, rfl, fun S2 e2 => ⟨_, rfl, ?_⟩⟩))
  · exact c_arrDay m n lim np L d _ h8 hI hd (fun h' => c.eri (by decide)) (fun l hx hl => absurd ⟨l, hx, hl⟩ h)
  · have e1 : S2.1 (m + 1) = S.1 (m + 1) := by rw [e2]; exact z1.2 _ (by omega)
    have e0 : S2.1 m = S.1 m := by rw [e2]; exact z1.2 _ (by omega)
    have hS2 : INV S2.1 a m := by have hz := INV_d1 hm c.hi z1; rw [e2]; exact hz
    refine c_arrDay m n lim np L d _ (by rw [e0]; exact h8) (by rw [e1]; exact hI) hd (fun h' => absurd ⟨l, hx, hl⟩ h') (fun l' hx' hl' y hy => ?_)
    have hll := ofi (hx'.symm.trans hx) (by omega) (by omega)
    subst hll
    refine c.fni (INV_fc hm hS2 hy) hy.2.2.2.1 ?_
    rw [hy.1, e2]
    show _ = Int32.toInt64 (o_pa _ np L 400 d (z.1 (m + 1)))
    rw [z1.2 _ (by omega)]
theorem w_2298 {g : ev_G} {B k0 a m o1 o2 : Nat} {u5 : Int32} {S : ev_S} {Q : ev_O → ev_S → Prop} (c : CS g B k0 a m o1 o2 u5 S Q) : KA g B 2298 k0 a m o1 o2 u5 S Q := by
  obtain ⟨n, lim, np, L, d, ρ, hI, hL, hd, hg, hk⟩ := c.hi.1
  refine sg_L_law_2298 k0 a m o1 o2 u5 ⟨c.v1, ?_⟩
  generalize ev_sx g (u5 + 1).toNatClampNeg = x1
  have h8 := c.hi.2.2.2.1.1
  have hm := c.hm
  refine sg_L_fastestPass_0 a _ _ (x_fast hI hL hd hg (fun h => Or.inr ⟨rfl, _, rfl, ?_⟩) (fun p hx hp v z z1 hv => Or.inl ⟨_, rfl, fun S2 e2 => ⟨_, rfl, ?_⟩⟩))
  · exact c_fast m n lim np L d _ h8 hI hL hd (fun h' => c.eri (by decide)) (fun p hx hp => absurd ⟨p, hx, hp⟩ h)
  · have e1 : S2.1 (m + 1) = S.1 (m + 1) := by rw [e2]; exact z1.2 _ (by omega)
    have e0 : S2.1 m = S.1 m := by rw [e2]; exact z1.2 _ (by omega)
    have hS2 : INV S2.1 a m := by have hz := INV_d1 hm c.hi z1; rw [e2]; exact hz
    refine c_fast m n lim np L d _ (by rw [e0]; exact h8) (by rw [e1]; exact hI) hL hd (fun h' => absurd ⟨p, hx, hp⟩ h') (fun p' hx' hp' w y hy hw => ?_)
    have hpp := ofi (hx'.symm.trans hx) (by omega) (by omega)
    subst hpp
    rw [e1] at hw
    have hvw := FP_one hv hw
    subst hvw
    refine c.fni (INV_fc hm hS2 hy) hy.2.2.2.1 ?_
    rw [hy.1, e2]
theorem w_1367 {g : ev_G} {B k0 a m o1 o2 : Nat} {u5 : Int32} {S : ev_S} {Q : ev_O → ev_S → Prop} (c : CS g B k0 a m o1 o2 u5 S Q) : KA g B 1367 k0 a m o1 o2 u5 S Q := by
  obtain ⟨n, lim, np, L, d, ρ, hI, hL, hd, hg, hk⟩ := c.hi.1
  refine sg_L_law_1367 k0 a m o1 o2 u5 ⟨c.v1, ?_⟩
  generalize ev_sx g (u5 + 1).toNatClampNeg = x1
  obtain ⟨-, e3', e13⟩ := q_gm_sz hI hg
  have hnp := hI.1.2.2.2.1
  have r3 := hI.1.2.2.1
  have r2 := hI.1.2.2.2.2.2.2.1
  have hmo : ev_rem (S.1 (m + 1) 2 / 30) 12 = Int32.ofNat (d / 30 % 12) := by rw [r2, n_dv30 (by omega), n_rm12 (by omega)]
  have hlt : d / 30 % 12 < 12 := Nat.mod_lt _ (by omega)
  have bad : ¬ t_X5_exists S (a + 31) x1 = true → ev_Cv g m_X10_travelDays 4 0 [ev_o 10 m, ev_i x1] S (RI g B k0 a m o1 o2 u5 Q 1) := by
    intro h
    refine sg_X10_travelDays_0 m _ (fun S1 e1 => j_neg (fun hh => h ((t_ex e3' (by omega)).mpr ((rq (k := np) (by rw [e1, m_r (by omega)]; exact r3) (by omega)).mp hh))) (fun S3 e3 => ?_))
    rw [e3, e1, up_up7]
    exact c.eri (by decide)
  refine sg_L_travelDays_0 a _ _ (sg_X9_travelDays_0 a _ ⟨fun h => Or.inl ⟨_, rfl, fun S2 e2 => ⟨_, rfl, ?_⟩⟩, fun h => Or.inr ⟨rfl, _, rfl, bad h⟩⟩)
  obtain ⟨q, rfl, hq⟩ := (t_ex e3' (by omega)).mp h
  have w2 : S.1 (a + 31 + 2) (q * 12 + d / 30 % 12) = S.1 (m + 1) (1140 + 15 * q + (3 + d / 30 % 12)) := (hg.2.1.1.2.1 q (by omega)).2.2.1 _ hlt
  have w1 : S.1 (a + 31 + 1) q = S.1 (m + 1) (1140 + 15 * q) := (hg.2.1.1.2.1 q (by omega)).1
  have hsn := ((hI.2.1.1.2.2.2.2.2.2.1 q hq).2 _ hlt)
  rw [hg.2.2.2.1, hmo] at e2
  have hval : f_X5_daysOver S (a + 31) (Int32.ofNat q) (Int32.ofNat (d / 30 % 12)) = (if S.1 (m + 1) (1140 + 15 * q + (3 + d / 30 % 12)) = 9 then -1 else S.1 (m + 1) (1140 + 15 * q) + S.1 (m + 1) (1140 + 15 * q + (3 + d / 30 % 12))) := by
    unfold f_X5_daysOver
    rw [n_ln12 (by omega) (by omega), a_in (by omega) (by omega), a_in (by omega) (by omega), w2, w1]
    have i9 : (9 : Int32).toInt = 9 := rfl
    by_cases h9 : S.1 (m + 1) (1140 + 15 * q + (3 + d / 30 % 12)) = 9
    · rw [if_pos h9, h9, if_neg (by decide)]
    · rw [if_neg h9, if_pos]
      rw [z_lt, i9]
      have hne : (S.1 (m + 1) (1140 + 15 * q + (3 + d / 30 % 12))).toInt ≠ 9 := fun hh => h9 (Int32.toInt_inj.mp (hh.trans i9.symm))
      omega
  rw [hval] at e2
  have e1' : S2.1 (m + 1) = S.1 (m + 1) := by rw [e2]
  refine sg_X10_travelDays_0 m _ (fun S1 e1 => j_pos ((rq (k := np) (by rw [e1, m_r (by omega), e2]; exact r3) (by omega)).mpr ⟨q, rfl, hq⟩) ?_)
  have e0 : S1.1 (m + 1) = S.1 (m + 1) := by rw [e1, m_r (by omega)]; exact e1'
  have ix : (1140 : Int32) + 15 * Int32.ofNat q + (3 + Int32.ofNat (d / 30 % 12)) = Int32.ofNat (1140 + 15 * q + (3 + d / 30 % 12)) := by simp (disch := omega) only [lm_2, lm_3, lm_6, lm_7, lm_11, lm_12, lm_15, lm_64, lm_124, lm_180, la_1, la_2, la_3, la_12, la_26, la_154, la_514, la_762, la_1140, la_1200, ra_0, ra_1, ra_2, ra_3, ra_4, ra_5, ra_6, ra_7, ra_8, ra_9, ra_10, ra_48, rm_12, rm_2, rm_64, rm_6, n_add, n_mul, n_d1, n_vp, n_c, true_and]
  have iy : (1140 : Int32) + 15 * Int32.ofNat q + 0 = Int32.ofNat (1140 + 15 * q) := by simp (disch := omega) only [lm_2, lm_3, lm_6, lm_7, lm_11, lm_12, lm_15, lm_64, lm_124, lm_180, la_1, la_2, la_3, la_12, la_26, la_154, la_514, la_762, la_1140, la_1200, ra_0, ra_1, ra_2, ra_3, ra_4, ra_5, ra_6, ra_7, ra_8, ra_9, ra_10, ra_48, rm_12, rm_2, rm_64, rm_6, n_add, n_mul, n_d1, n_vp, n_c, true_and]
  have hcl : t_X10_isClosed S1 m (Int32.ofNat q) = true ↔ S.1 (m + 1) (1140 + 15 * q + (3 + d / 30 % 12)) = 9 := by
    unfold t_X10_isClosed
    rw [e0, hmo, ix, n_c (by omega)]
    by_cases h9 : S.1 (m + 1) (1140 + 15 * q + (3 + d / 30 % 12)) = 9
    · rw [if_pos h9]; exact ⟨fun _ => h9, fun _ => rfl⟩
    · rw [if_neg h9]; exact ⟨fun hh => absurd hh (by decide), fun hh => absurd hh h9⟩
  rw [hcl, e0, e1', hmo, ix, iy, n_c (by omega), n_c (by omega), e1]
  refine ⟨(n_vp (by omega) (by omega)).mpr trivial, fun h9 => ?_, fun h9 => ⟨(n_vp (by omega) (by omega)).mpr trivial, ?_⟩⟩
  · rw [if_pos h9] at e2
    exact c.oki (z := S2) (v := -1) (by rw [e2]) (by rw [e2])
  · rw [if_neg h9] at e2
    exact c.oki (z := S2) (v := S.1 (m + 1) (1140 + 15 * q) + S.1 (m + 1) (1140 + 15 * q + (3 + d / 30 % 12))) (by rw [e2]) (by rw [e2])
