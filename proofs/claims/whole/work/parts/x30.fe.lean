/-! ===== the law's cases: a player's numbers, passes, letters ===== -/
theorem rp {x : Int32} : t_X10_in x 0 1 = true ↔ ∃ p, x = Int32.ofNat p ∧ p < 2 := by rw [n_in01, n_bit]
theorem rpn {x : Int32} (h : ¬ t_X9_isPlayer x = true) : ¬ t_X10_in x 0 1 = true := fun hh => h (t_pl.mpr (rp.mp hh))
theorem rq {x v : Int32} {k : Nat} (hv : v = Int32.ofNat k) (hk : k < 1000000) : t_X10_in x 0 (v - 1) = true ↔ ∃ q, x = Int32.ofNat q ∧ q < k := by rw [n_in, hv]; exact n_rng hk
theorem up_up7 {S : ev_S} {m : Nat} {v w : Int32} : ev_up (ev_up S m 7 v) m 7 w = ev_up S m 7 w := by
  rw [m_u, m_u, r_s, r_rr, u_u, ← m_u]
abbrev RI (g : ev_G) (B k0 a m o1 o2 : Nat) (u5 : Int32) (Q : ev_O → ev_S → Prop) (v : Int32) : ev_O → ev_S → Prop := fun o S2 => ∃ v2_ : Int32, o = .inl (some (ev_i v2_)) ∧ TL S2 m v v2_.toInt64 (K3 g (B + 1) k0 a m o1 o2 u5 S2 Q) (Q (.inl (some (ev_i 0))) S2)
abbrev RB (g : ev_G) (B k0 a m o1 o2 : Nat) (u5 : Int32) (Q : ev_O → ev_S → Prop) (v : Int32) : ev_O → ev_S → Prop := fun o S2 => ∃ v2_ : Bool, o = .inl (some (ev_i (if v2_ = true then 1 else 0))) ∧ ((v2_ = true → TL S2 m v 1 (K3 g (B + 1) k0 a m o1 o2 u5 S2 Q) (Q (.inl (some (ev_i 0))) S2)) ∧ (¬ (v2_ = true) → TL S2 m v 0 (K3 g (B + 1) k0 a m o1 o2 u5 S2 Q) (Q (.inl (some (ev_i 0))) S2)))
theorem CS.fni {g : ev_G} {B k0 a m o1 o2 : Nat} {u5 : Int32} {S : ev_S} {Q : ev_O → ev_S → Prop} (c : CS g B k0 a m o1 o2 u5 S Q) {y : ev_S} {v : Int32} (hi : INV y.1 a m) (h7 : y.1 m 7 = 0) (hx : y.2.1 = v.toInt64) : RI g B k0 a m o1 o2 u5 Q 0 (.inl (some (ev_i v))) y := ⟨v, rfl, tl_ok h7 hx (c.k1 y hi)⟩
theorem CS.fei {g : ev_G} {B k0 a m o1 o2 : Nat} {u5 : Int32} {S : ev_S} {Q : ev_O → ev_S → Prop} (c : CS g B k0 a m o1 o2 u5 S Q) {y : ev_S} {v w : Int32} (hi : INV y.1 a m) (h7 : y.1 m 7 = v) (hv : ¬ v = 0) : RI g B k0 a m o1 o2 u5 Q v (.inl (some (ev_i w))) y := ⟨w, rfl, tl_er h7 hv (c.k1 y hi)⟩
theorem CS.fnb {g : ev_G} {B k0 a m o1 o2 : Nat} {u5 : Int32} {S : ev_S} {Q : ev_O → ev_S → Prop} (c : CS g B k0 a m o1 o2 u5 S Q) {y : ev_S} (b : Bool) (hi : INV y.1 a m) (h7 : y.1 m 7 = 0) (hx : y.2.1 = (if b = true then 1 else 0)) : RB g B k0 a m o1 o2 u5 Q 0 (.inl (some (ev_i (if b = true then 1 else 0)))) y := ⟨b, rfl, fun hb => tl_ok h7 (by rw [hx, if_pos hb]) (c.k1 y hi), fun hb => tl_ok h7 (by rw [hx, if_neg hb]) (c.k1 y hi)⟩
theorem CS.oki {g : ev_G} {B k0 a m o1 o2 : Nat} {u5 : Int32} {S : ev_S} {Q : ev_O → ev_S → Prop} (c : CS g B k0 a m o1 o2 u5 S Q) {z : ev_S} {v : Int32} (e : z.1 = S.1) (hx : z.2.1 = v.toInt64) : RI g B k0 a m o1 o2 u5 Q 0 (.inl (some (ev_i v))) (ev_up z m 7 0) := c.fni (INV_u7 c.hm c.hi e) (m_s _ _ _ _) hx
theorem CS.eri {g : ev_G} {B k0 a m o1 o2 : Nat} {u5 : Int32} {S : ev_S} {Q : ev_O → ev_S → Prop} (c : CS g B k0 a m o1 o2 u5 S Q) {v w : Int32} (hv : ¬ v = 0) : RI g B k0 a m o1 o2 u5 Q v (.inl (some (ev_i w))) (ev_up S m 7 v) := c.fei (INV_u7 c.hm c.hi rfl) (m_s _ _ _ _) hv
theorem CS.okb {g : ev_G} {B k0 a m o1 o2 : Nat} {u5 : Int32} {S : ev_S} {Q : ev_O → ev_S → Prop} (c : CS g B k0 a m o1 o2 u5 S Q) {z : ev_S} (b : Bool) (e : z.1 = S.1) (hx : z.2.1 = (if b = true then 1 else 0)) : RB g B k0 a m o1 o2 u5 Q 0 (.inl (some (ev_i (if b = true then 1 else 0)))) (ev_up z m 7 0) := c.fnb b (INV_u7 c.hm c.hi e) (m_s _ _ _ _) hx
theorem CS.erb {g : ev_G} {B k0 a m o1 o2 : Nat} {u5 : Int32} {S : ev_S} {Q : ev_O → ev_S → Prop} (c : CS g B k0 a m o1 o2 u5 S Q) {v : Int32} (hv : ¬ v = 0) : RB g B k0 a m o1 o2 u5 Q v (.inl (some (ev_i 0))) (ev_up S m 7 v) := ⟨false, rfl, fun hb => absurd hb (by decide), fun _ => tl_er (m_s _ _ _ _) hv (c.k1 _ (INV_u7 c.hm c.hi rfl))⟩
theorem w_688 {g : ev_G} {B k0 a m o1 o2 : Nat} {u5 : Int32} {S : ev_S} {Q : ev_O → ev_S → Prop} (c : CS g B k0 a m o1 o2 u5 S Q) : KA g B 688 k0 a m o1 o2 u5 S Q := by
  obtain ⟨n, lim, np, L, d, ρ, hI, hL, hd, hg, hk⟩ := c.hi.1
  refine sg_L_law_688 k0 a m o1 o2 u5 ⟨c.v1, ?_⟩
  generalize ev_sx g (u5 + 1).toNatClampNeg = x1
  refine sg_L_moveCount_0 a _ _ (sg_X9_moveCount_0 a _ ⟨fun h => Or.inl ⟨_, rfl, fun S2 e2 => ⟨_, rfl, ?_⟩⟩, fun h => Or.inr ⟨rfl, _, rfl, ?_⟩⟩)
  · obtain ⟨p, rfl, hp⟩ := t_pl.mp h
    rw [a_desk hp] at e2
    have hv : S.1 (a + 11 + 1 + 9 * p + 1) 6 = S.1 (m + 1) (12 + 7 * p) := (hg.1 p hp).2.1.2.2.2.2.2.1
    rw [hv] at e2
    refine sg_X10_moveCount_0 m _ (fun S1 e1 => j_pos (rp.mpr ⟨p, rfl, hp⟩) ?_)
    have ix : (12 : Int32) + 7 * Int32.ofNat p + 0 = Int32.ofNat (12 + 7 * p) := by simp (disch := omega) only [lm_2, lm_3, lm_6, lm_7, lm_11, lm_12, lm_15, lm_64, lm_124, lm_180, la_1, la_2, la_3, la_12, la_26, la_154, la_514, la_762, la_1140, la_1200, ra_0, ra_1, ra_2, ra_3, ra_4, ra_5, ra_6, ra_7, ra_8, ra_9, ra_10, ra_48, rm_12, rm_2, rm_64, rm_6, n_add, n_mul, n_d1, n_vp, n_c, true_and]
    rw [ix, n_c (by omega)]
    refine ⟨(n_vp (by omega) (by omega)).mpr trivial, ?_⟩
    have e3 : S2.1 (m + 1) (12 + 7 * p) = S.1 (m + 1) (12 + 7 * p) := by rw [e2]
    rw [e1, e3]
    exact c.oki (z := S2) (v := S.1 (m + 1) (12 + 7 * p)) (by rw [e2]) (by rw [e2])
  · refine sg_X10_moveCount_0 m _ (fun S1 e1 => j_neg (rpn h) (fun S3 e3 => ?_))
    rw [e3, e1, up_up7]
    exact c.eri (by decide)
theorem w_1928 {g : ev_G} {B k0 a m o1 o2 : Nat} {u5 : Int32} {S : ev_S} {Q : ev_O → ev_S → Prop} (c : CS g B k0 a m o1 o2 u5 S Q) : KA g B 1928 k0 a m o1 o2 u5 S Q := by
  obtain ⟨n, lim, np, L, d, ρ, hI, hL, hd, hg, hk⟩ := c.hi.1
  refine sg_L_law_1928 k0 a m o1 o2 u5 ⟨c.v1, ?_⟩
  generalize ev_sx g (u5 + 1).toNatClampNeg = x1
  refine sg_L_keptPromises_0 a _ _ (sg_X9_keptPromises_0 a _ ⟨fun h => Or.inl ⟨_, rfl, fun S2 e2 => ⟨_, rfl, ?_⟩⟩, fun h => Or.inr ⟨rfl, _, rfl, ?_⟩⟩)
  · obtain ⟨p, rfl, hp⟩ := t_pl.mp h
    rw [a_desk hp] at e2
    have hv : S.1 (a + 11 + 1 + 9 * p) 6 = S.1 (m + 1) (12 + 7 * p + 6) := (hg.1 p hp).2.2.2.2.2.1
    rw [hv] at e2
    refine sg_X10_keptPromises_0 m _ (fun S1 e1 => j_pos (rp.mpr ⟨p, rfl, hp⟩) ?_)
    have ix : (12 : Int32) + 7 * Int32.ofNat p + 6 = Int32.ofNat (12 + 7 * p + 6) := by simp (disch := omega) only [lm_2, lm_3, lm_6, lm_7, lm_11, lm_12, lm_15, lm_64, lm_124, lm_180, la_1, la_2, la_3, la_12, la_26, la_154, la_514, la_762, la_1140, la_1200, ra_0, ra_1, ra_2, ra_3, ra_4, ra_5, ra_6, ra_7, ra_8, ra_9, ra_10, ra_48, rm_12, rm_2, rm_64, rm_6, n_add, n_mul, n_d1, n_vp, n_c, true_and]
    rw [ix, n_c (by omega)]
    refine ⟨(n_vp (by omega) (by omega)).mpr trivial, ?_⟩
    have e3 : S2.1 (m + 1) (12 + 7 * p + 6) = S.1 (m + 1) (12 + 7 * p + 6) := by rw [e2]
    rw [e1, e3]
    exact c.oki (z := S2) (v := S.1 (m + 1) (12 + 7 * p + 6)) (by rw [e2]) (by rw [e2])
  · refine sg_X10_keptPromises_0 m _ (fun S1 e1 => j_neg (rpn h) (fun S3 e3 => ?_))
    rw [e3, e1, up_up7]
    exact c.eri (by decide)
theorem w_1984 {g : ev_G} {B k0 a m o1 o2 : Nat} {u5 : Int32} {S : ev_S} {Q : ev_O → ev_S → Prop} (c : CS g B k0 a m o1 o2 u5 S Q) : KA g B 1984 k0 a m o1 o2 u5 S Q := by
  obtain ⟨n, lim, np, L, d, ρ, hI, hL, hd, hg, hk⟩ := c.hi.1
  refine sg_L_law_1984 k0 a m o1 o2 u5 ⟨c.v1, ?_⟩
  generalize ev_sx g (u5 + 1).toNatClampNeg = x1
  refine sg_L_longestWait_0 a _ _ (sg_X9_longestWait_0 a _ ⟨fun h => Or.inl ⟨_, rfl, fun S2 e2 => ⟨_, rfl, ?_⟩⟩, fun h => Or.inr ⟨rfl, _, rfl, ?_⟩⟩)
  · obtain ⟨p, rfl, hp⟩ := t_pl.mp h
    rw [a_desk hp] at e2
    have hv : S.1 (a + 11 + 1 + 9 * p) 10 = S.1 (m + 1) (12 + 7 * p + 3) := (hg.1 p hp).2.2.2.2.2.2.2.2.2
    rw [hv] at e2
    refine sg_X10_longestWait_0 m _ (fun S1 e1 => j_pos (rp.mpr ⟨p, rfl, hp⟩) ?_)
    have ix : (12 : Int32) + 7 * Int32.ofNat p + 3 = Int32.ofNat (12 + 7 * p + 3) := by simp (disch := omega) only [lm_2, lm_3, lm_6, lm_7, lm_11, lm_12, lm_15, lm_64, lm_124, lm_180, la_1, la_2, la_3, la_12, la_26, la_154, la_514, la_762, la_1140, la_1200, ra_0, ra_1, ra_2, ra_3, ra_4, ra_5, ra_6, ra_7, ra_8, ra_9, ra_10, ra_48, rm_12, rm_2, rm_64, rm_6, n_add, n_mul, n_d1, n_vp, n_c, true_and]
    rw [ix, n_c (by omega)]
    refine ⟨(n_vp (by omega) (by omega)).mpr trivial, ?_⟩
    have e3 : S2.1 (m + 1) (12 + 7 * p + 3) = S.1 (m + 1) (12 + 7 * p + 3) := by rw [e2]
    rw [e1, e3]
    exact c.oki (z := S2) (v := S.1 (m + 1) (12 + 7 * p + 3)) (by rw [e2]) (by rw [e2])
  · refine sg_X10_longestWait_0 m _ (fun S1 e1 => j_neg (rpn h) (fun S3 e3 => ?_))
    rw [e3, e1, up_up7]
    exact c.eri (by decide)
theorem w_1572 {g : ev_G} {B k0 a m o1 o2 : Nat} {u5 : Int32} {S : ev_S} {Q : ev_O → ev_S → Prop} (c : CS g B k0 a m o1 o2 u5 S Q) : KA g B 1572 k0 a m o1 o2 u5 S Q := by
  obtain ⟨n, lim, np, L, d, ρ, hI, hL, hd, hg, hk⟩ := c.hi.1
  refine sg_L_law_1572 k0 a m o1 o2 u5 ⟨c.v1, ?_⟩
  generalize ev_sx g (u5 + 1).toNatClampNeg = x1
  obtain ⟨-, e3', e13⟩ := q_gm_sz hI hg
  have r4 := hI.1.2.2.2.2.1
  refine sg_L_writer_0 a _ _ (sg_X9_writer_0 a _ ⟨fun h => Or.inl ⟨_, rfl, fun S2 e2 => ⟨_, rfl, ?_⟩⟩, fun h => Or.inr ⟨rfl, _, rfl, ?_⟩⟩)
  · obtain ⟨l, rfl, hl⟩ := (t_le e13 (by omega)).mp h
    rw [a_in (by omega) (by omega)] at e2
    have hv : S.1 (a + 35) l = S.1 (m + 1) (1200 + 11 * l) := (hg.2.1.1.2.2 l hl).1
    rw [hv] at e2
    refine sg_X10_writer_0 m _ (fun S1 e1 => j_pos ((rq (k := L) (by rw [e1, m_r (by omega), e2]; exact r4) (by omega)).mpr ⟨l, rfl, hl⟩) ?_)
    have ix : (1200 : Int32) + 11 * Int32.ofNat l + 0 = Int32.ofNat (1200 + 11 * l) := by simp (disch := omega) only [lm_2, lm_3, lm_6, lm_7, lm_11, lm_12, lm_15, lm_64, lm_124, lm_180, la_1, la_2, la_3, la_12, la_26, la_154, la_514, la_762, la_1140, la_1200, ra_0, ra_1, ra_2, ra_3, ra_4, ra_5, ra_6, ra_7, ra_8, ra_9, ra_10, ra_48, rm_12, rm_2, rm_64, rm_6, n_add, n_mul, n_d1, n_vp, n_c, true_and]
    rw [ix, n_c (by omega)]
    refine ⟨(n_vp (by omega) (by omega)).mpr trivial, ?_⟩
    have e3 : S2.1 (m + 1) (1200 + 11 * l) = S.1 (m + 1) (1200 + 11 * l) := by rw [e2]
    rw [e1, e3]
    exact c.oki (z := S2) (v := S.1 (m + 1) (1200 + 11 * l)) (by rw [e2]) (by rw [e2])
  · refine sg_X10_writer_0 m _ (fun S1 e1 => j_neg (fun hh => h ((t_le e13 (by omega)).mpr ((rq (k := L) (by rw [e1, m_r (by omega)]; exact r4) (by omega)).mp hh))) (fun S3 e3 => ?_))
    rw [e3, e1, up_up7]
    exact c.eri (by decide)
theorem w_1628 {g : ev_G} {B k0 a m o1 o2 : Nat} {u5 : Int32} {S : ev_S} {Q : ev_O → ev_S → Prop} (c : CS g B k0 a m o1 o2 u5 S Q) : KA g B 1628 k0 a m o1 o2 u5 S Q := by
  obtain ⟨n, lim, np, L, d, ρ, hI, hL, hd, hg, hk⟩ := c.hi.1
  refine sg_L_law_1628 k0 a m o1 o2 u5 ⟨c.v1, ?_⟩
  generalize ev_sx g (u5 + 1).toNatClampNeg = x1
  obtain ⟨-, e3', e13⟩ := q_gm_sz hI hg
  have r4 := hI.1.2.2.2.2.1
  refine sg_L_letterNumber_0 a _ _ (sg_X9_letterNumber_0 a _ ⟨fun h => Or.inl ⟨_, rfl, fun S2 e2 => ⟨_, rfl, ?_⟩⟩, fun h => Or.inr ⟨rfl, _, rfl, ?_⟩⟩)
  · obtain ⟨l, rfl, hl⟩ := (t_le e13 (by omega)).mp h
    rw [a_in (by omega) (by omega)] at e2
    have hv : S.1 (a + 36) l = S.1 (m + 1) (1200 + 11 * l + 3) := (hg.2.2.1 l hl).1
    rw [hv] at e2
    refine sg_X10_letterNumber_0 m _ (fun S1 e1 => j_pos ((rq (k := L) (by rw [e1, m_r (by omega), e2]; exact r4) (by omega)).mpr ⟨l, rfl, hl⟩) ?_)
    have ix : (1200 : Int32) + 11 * Int32.ofNat l + 3 = Int32.ofNat (1200 + 11 * l + 3) := by simp (disch := omega) only [lm_2, lm_3, lm_6, lm_7, lm_11, lm_12, lm_15, lm_64, lm_124, lm_180, la_1, la_2, la_3, la_12, la_26, la_154, la_514, la_762, la_1140, la_1200, ra_0, ra_1, ra_2, ra_3, ra_4, ra_5, ra_6, ra_7, ra_8, ra_9, ra_10, ra_48, rm_12, rm_2, rm_64, rm_6, n_add, n_mul, n_d1, n_vp, n_c, true_and]
    rw [ix, n_c (by omega)]
    refine ⟨(n_vp (by omega) (by omega)).mpr trivial, ?_⟩
    have e3 : S2.1 (m + 1) (1200 + 11 * l + 3) = S.1 (m + 1) (1200 + 11 * l + 3) := by rw [e2]
    rw [e1, e3]
    exact c.oki (z := S2) (v := S.1 (m + 1) (1200 + 11 * l + 3)) (by rw [e2]) (by rw [e2])
  · refine sg_X10_letterNumber_0 m _ (fun S1 e1 => j_neg (fun hh => h ((t_le e13 (by omega)).mpr ((rq (k := L) (by rw [e1, m_r (by omega)]; exact r4) (by omega)).mp hh))) (fun S3 e3 => ?_))
    rw [e3, e1, up_up7]
    exact c.eri (by decide)
theorem w_1747 {g : ev_G} {B k0 a m o1 o2 : Nat} {u5 : Int32} {S : ev_S} {Q : ev_O → ev_S → Prop} (c : CS g B k0 a m o1 o2 u5 S Q) : KA g B 1747 k0 a m o1 o2 u5 S Q := by
  obtain ⟨n, lim, np, L, d, ρ, hI, hL, hd, hg, hk⟩ := c.hi.1
  refine sg_L_law_1747 k0 a m o1 o2 u5 ⟨c.v1, ?_⟩
  generalize ev_sx g (u5 + 1).toNatClampNeg = x1
  obtain ⟨-, e3', e13⟩ := q_gm_sz hI hg
  have r4 := hI.1.2.2.2.2.1
  refine sg_L_letterState_0 a _ _ (sg_X9_letterState_0 a _ ⟨fun h => Or.inl ⟨_, rfl, fun S2 e2 => ⟨_, rfl, ?_⟩⟩, fun h => Or.inr ⟨rfl, _, rfl, ?_⟩⟩)
  · obtain ⟨l, rfl, hl⟩ := (t_le e13 (by omega)).mp h
    rw [a_in (by omega) (by omega)] at e2
    have hv : S.1 (a + 40) l = S.1 (m + 1) (1200 + 11 * l + 6) := (hg.2.1.1.2.2 l hl).2.2.1
    rw [hv] at e2
    refine sg_X10_letterState_0 m _ (fun S1 e1 => j_pos ((rq (k := L) (by rw [e1, m_r (by omega), e2]; exact r4) (by omega)).mpr ⟨l, rfl, hl⟩) ?_)
    have ix : (1200 : Int32) + 11 * Int32.ofNat l + 6 = Int32.ofNat (1200 + 11 * l + 6) := by simp (disch := omega) only [lm_2, lm_3, lm_6, lm_7, lm_11, lm_12, lm_15, lm_64, lm_124, lm_180, la_1, la_2, la_3, la_12, la_26, la_154, la_514, la_762, la_1140, la_1200, ra_0, ra_1, ra_2, ra_3, ra_4, ra_5, ra_6, ra_7, ra_8, ra_9, ra_10, ra_48, rm_12, rm_2, rm_64, rm_6, n_add, n_mul, n_d1, n_vp, n_c, true_and]
    rw [ix, n_c (by omega)]
    refine ⟨(n_vp (by omega) (by omega)).mpr trivial, ?_⟩
    have e3 : S2.1 (m + 1) (1200 + 11 * l + 6) = S.1 (m + 1) (1200 + 11 * l + 6) := by rw [e2]
    rw [e1, e3]
    exact c.oki (z := S2) (v := S.1 (m + 1) (1200 + 11 * l + 6)) (by rw [e2]) (by rw [e2])
  · refine sg_X10_letterState_0 m _ (fun S1 e1 => j_neg (fun hh => h ((t_le e13 (by omega)).mpr ((rq (k := L) (by rw [e1, m_r (by omega)]; exact r4) (by omega)).mp hh))) (fun S3 e3 => ?_))
    rw [e3, e1, up_up7]
    exact c.eri (by decide)
theorem w_1423 {g : ev_G} {B k0 a m o1 o2 : Nat} {u5 : Int32} {S : ev_S} {Q : ev_O → ev_S → Prop} (c : CS g B k0 a m o1 o2 u5 S Q) : KA g B 1423 k0 a m o1 o2 u5 S Q := by
  obtain ⟨n, lim, np, L, d, ρ, hI, hL, hd, hg, hk⟩ := c.hi.1
  refine sg_L_law_1423 k0 a m o1 o2 u5 ⟨c.v1, c.v2, ?_⟩
  generalize ev_sx g (u5 + 1).toNatClampNeg = x1
  generalize ev_sx g (u5 + 2).toNatClampNeg = x2
  obtain ⟨-, e3', e13⟩ := q_gm_sz hI hg
  have hnp := hI.1.2.2.2.1
  have r3 := hI.1.2.2.1
  have bad : ¬ ((t_X5_exists S (a + 31) x1 = true) ∧ t_X9_isPlayer x2 = true) → ev_Cv g m_X10_mules 3 0 [ev_o 10 m, ev_i x1, ev_i x2] S (RI g B k0 a m o1 o2 u5 Q 1) := by
    intro h
    refine sg_X10_mules_0 m _ _ (fun S1 e1 => ?_)
    have hq : t_X10_in x1 0 (S1.1 (m + 1) 3 - 1) = true ↔ t_X5_exists S (a + 31) x1 = true := by rw [rq (k := np) (by rw [e1, m_r (by omega)]; exact r3) (by omega), t_ex e3' (by omega)]
    have hs : t_X10_in x2 0 1 = true ↔ t_X9_isPlayer x2 = true := by rw [rp, t_pl]
    rw [hq, hs]
    refine ⟨fun h1 => ⟨fun h2 => absurd ⟨h1, h2⟩ h, fun h2 S3 e3 => ?_⟩, fun h1 S3 e3 => ?_⟩
    · rw [e3, e1, up_up7]
      exact c.eri (by decide)
    · rw [e3, e1, up_up7]
      exact c.eri (by decide)
  refine sg_L_mules_0 a _ _ _ (sg_X9_mules_0 a _ _ ⟨fun h => ⟨fun h2 => Or.inl ⟨_, rfl, fun S2 e2 => ⟨_, rfl, ?_⟩⟩, fun h2 => Or.inr ⟨rfl, _, rfl, bad (fun hh => h2 hh.2)⟩⟩, fun h => Or.inr ⟨rfl, _, rfl, bad (fun hh => h hh.1)⟩⟩)
  obtain ⟨q, rfl, hq⟩ := (t_ex e3' (by omega)).mp h
  obtain ⟨s, rfl, hs⟩ := t_pl.mp h2
  rw [n_ln2 (by omega) (by omega), a_in (by omega) (by omega)] at e2
  have hv : S.1 (a + 34) (q * 2 + s) = S.1 (m + 1) (1140 + 15 * q + (1 + s)) := (hg.2.1.1.2.1 q (by omega)).2.1 s hs
  rw [hv] at e2
  refine sg_X10_mules_0 m _ _ (fun S1 e1 => j_pos ((rq (k := np) (by rw [e1, m_r (by omega), e2]; exact r3) (by omega)).mpr ⟨q, rfl, hq⟩) (j_pos (rp.mpr ⟨s, rfl, hs⟩) ?_))
  have ix : (1140 : Int32) + 15 * Int32.ofNat q + (1 + Int32.ofNat s) = Int32.ofNat (1140 + 15 * q + (1 + s)) := by simp (disch := omega) only [lm_2, lm_3, lm_6, lm_7, lm_11, lm_12, lm_15, lm_64, lm_124, lm_180, la_1, la_2, la_3, la_12, la_26, la_154, la_514, la_762, la_1140, la_1200, ra_0, ra_1, ra_2, ra_3, ra_4, ra_5, ra_6, ra_7, ra_8, ra_9, ra_10, ra_48, rm_12, rm_2, rm_64, rm_6, n_add, n_mul, n_d1, n_vp, n_c, true_and]
  rw [ix, n_c (by omega)]
  refine ⟨(n_vp (by omega) (by omega)).mpr trivial, ?_⟩
  have e3 : S2.1 (m + 1) (1140 + 15 * q + (1 + s)) = S.1 (m + 1) (1140 + 15 * q + (1 + s)) := by rw [e2]
  rw [e1, e3]
  exact c.oki (z := S2) (v := S.1 (m + 1) (1140 + 15 * q + (1 + s))) (by rw [e2]) (by rw [e2])
theorem w_1299 {g : ev_G} {B k0 a m o1 o2 : Nat} {u5 : Int32} {S : ev_S} {Q : ev_O → ev_S → Prop} (c : CS g B k0 a m o1 o2 u5 S Q) : KA g B 1299 k0 a m o1 o2 u5 S Q := by
  obtain ⟨n, lim, np, L, d, ρ, hI, hL, hd, hg, hk⟩ := c.hi.1
  refine sg_L_law_1299 k0 a m o1 o2 u5 ⟨c.v1, c.v2, ?_⟩
  generalize ev_sx g (u5 + 1).toNatClampNeg = x1
  generalize ev_sx g (u5 + 2).toNatClampNeg = x2
  obtain ⟨-, e3', e13⟩ := q_gm_sz hI hg
  have hnp := hI.1.2.2.2.1
  have r3 := hI.1.2.2.1
  have bad : ¬ ((t_X5_exists S (a + 31) x1 = true) ∧ t_X9_isMonth x2 = true) → ev_Cv g m_X10_snowDepth 3 0 [ev_o 10 m, ev_i x1, ev_i x2] S (RI g B k0 a m o1 o2 u5 Q 1) := by
    intro h
    refine sg_X10_snowDepth_0 m _ _ (fun S1 e1 => ?_)
    have hq : t_X10_in x1 0 (S1.1 (m + 1) 3 - 1) = true ↔ t_X5_exists S (a + 31) x1 = true := by rw [rq (k := np) (by rw [e1, m_r (by omega)]; exact r3) (by omega), t_ex e3' (by omega)]
    have hs : t_X10_in x2 0 11 = true ↔ t_X9_isMonth x2 = true := by rw [n_in, t_mo]; exact n_rng (k := 12) (by omega)
    rw [hq, hs]
    refine ⟨fun h1 => ⟨fun h2 => absurd ⟨h1, h2⟩ h, fun h2 S3 e3 => ?_⟩, fun h1 S3 e3 => ?_⟩
    · rw [e3, e1, up_up7]
      exact c.eri (by decide)
    · rw [e3, e1, up_up7]
      exact c.eri (by decide)
  refine sg_L_snowDepth_0 a _ _ _ (sg_X9_snowDepth_0 a _ _ ⟨fun h => ⟨fun h2 => Or.inl ⟨_, rfl, fun S2 e2 => ⟨_, rfl, ?_⟩⟩, fun h2 => Or.inr ⟨rfl, _, rfl, bad (fun hh => h2 hh.2)⟩⟩, fun h => Or.inr ⟨rfl, _, rfl, bad (fun hh => h hh.1)⟩⟩)
  obtain ⟨q, rfl, hq⟩ := (t_ex e3' (by omega)).mp h
  obtain ⟨s, rfl, hs⟩ := t_mo.mp h2
  rw [n_ln12 (by omega) (by omega), a_in (by omega) (by omega)] at e2
  have hv : S.1 (a + 33) (q * 12 + s) = S.1 (m + 1) (1140 + 15 * q + (3 + s)) := (hg.2.1.1.2.1 q (by omega)).2.2.1 s hs
  rw [hv] at e2
  refine sg_X10_snowDepth_0 m _ _ (fun S1 e1 => j_pos ((rq (k := np) (by rw [e1, m_r (by omega), e2]; exact r3) (by omega)).mpr ⟨q, rfl, hq⟩) (j_pos (by rw [n_in]; exact (n_rng (k := 12) (by omega)).mpr ⟨s, rfl, hs⟩) ?_))
  have ix : (1140 : Int32) + 15 * Int32.ofNat q + (3 + Int32.ofNat s) = Int32.ofNat (1140 + 15 * q + (3 + s)) := by simp (disch := omega) only [lm_2, lm_3, lm_6, lm_7, lm_11, lm_12, lm_15, lm_64, lm_124, lm_180, la_1, la_2, la_3, la_12, la_26, la_154, la_514, la_762, la_1140, la_1200, ra_0, ra_1, ra_2, ra_3, ra_4, ra_5, ra_6, ra_7, ra_8, ra_9, ra_10, ra_48, rm_12, rm_2, rm_64, rm_6, n_add, n_mul, n_d1, n_vp, n_c, true_and]
  rw [ix, n_c (by omega)]
  refine ⟨(n_vp (by omega) (by omega)).mpr trivial, ?_⟩
  have e3 : S2.1 (m + 1) (1140 + 15 * q + (3 + s)) = S.1 (m + 1) (1140 + 15 * q + (3 + s)) := by rw [e2]
  rw [e1, e3]
  exact c.oki (z := S2) (v := S.1 (m + 1) (1140 + 15 * q + (3 + s))) (by rw [e2]) (by rw [e2])
theorem w_1491 {g : ev_G} {B k0 a m o1 o2 : Nat} {u5 : Int32} {S : ev_S} {Q : ev_O → ev_S → Prop} (c : CS g B k0 a m o1 o2 u5 S Q) : KA g B 1491 k0 a m o1 o2 u5 S Q := by
  obtain ⟨n, lim, np, L, d, ρ, hI, hL, hd, hg, hk⟩ := c.hi.1
  refine sg_L_law_1491 k0 a m o1 o2 u5 ⟨c.v1, c.v2, ?_⟩
  generalize ev_sx g (u5 + 1).toNatClampNeg = x1
  generalize ev_sx g (u5 + 2).toNatClampNeg = x2
  obtain ⟨-, e3', e13⟩ := q_gm_sz hI hg
  have hnp := hI.1.2.2.2.1
  have r3 := hI.1.2.2.1
  have bad : ¬ ((t_X5_exists S (a + 31) x1 = true) ∧ t_X9_isPlayer x2 = true) → ev_Cv g m_X10_queueLength 3 0 [ev_o 10 m, ev_i x1, ev_i x2] S (RI g B k0 a m o1 o2 u5 Q 1) := by
    intro h
    refine sg_X10_queueLength_0 m _ _ (fun S1 e1 => ?_)
    have hq : t_X10_in x1 0 (S1.1 (m + 1) 3 - 1) = true ↔ t_X5_exists S (a + 31) x1 = true := by rw [rq (k := np) (by rw [e1, m_r (by omega)]; exact r3) (by omega), t_ex e3' (by omega)]
    have hs : t_X10_in x2 0 1 = true ↔ t_X9_isPlayer x2 = true := by rw [rp, t_pl]
    rw [hq, hs]
    refine ⟨fun h1 => ⟨fun h2 => absurd ⟨h1, h2⟩ h, fun h2 S3 e3 => ?_⟩, fun h1 S3 e3 => ?_⟩
    · rw [e3, e1, up_up7]
      exact c.eri (by decide)
    · rw [e3, e1, up_up7]
      exact c.eri (by decide)
  refine sg_L_queueLength_0 a _ _ _ (sg_X9_queueLength_0 a _ _ ⟨fun h => ⟨fun h2 => Or.inl ⟨_, rfl, fun S2 e2 => ⟨_, rfl, ?_⟩⟩, fun h2 => Or.inr ⟨rfl, _, rfl, bad (fun hh => h2 hh.2)⟩⟩, fun h => Or.inr ⟨rfl, _, rfl, bad (fun hh => h hh.1)⟩⟩)
  obtain ⟨q, rfl, hq⟩ := (t_ex e3' (by omega)).mp h
  obtain ⟨s, rfl, hs⟩ := t_pl.mp h2
  rw [n_ln2 (by omega) (by omega), a_in (by omega) (by omega)] at e2
  have hv : S.1 (a + 46) (q * 2 + s) = Int32.ofNat (cnt (o_wt (S.1 (m + 1)) q s) L) := (hg.2.1.1.2.1 q (by omega)).2.2.2 s hs
  rw [hv] at e2
  have r4 := hI.1.2.2.2.2.1
  have e3 : S2.1 (m + 1) = S.1 (m + 1) := by rw [e2]
  have eu : (ev_up S2 m 7 0).1 (m + 1) = S.1 (m + 1) := by rw [m_r (by omega)]; exact e3
  refine sg_X10_queueLength_0 m _ _ (fun S1 e1 => j_pos ((rq (k := np) (by rw [e1, m_r (by omega), e2]; exact r3) (by omega)).mpr ⟨q, rfl, hq⟩) (j_pos (rp.mpr ⟨s, rfl, hs⟩) ?_))
  rw [e1]
  refine c_queued m L q s (by rw [eu]; exact r4) (by omega) _ ⟨_, rfl, ?_⟩
  rw [eu]
  exact c.oki (z := S2) (v := Int32.ofNat (cnt (o_wt (S.1 (m + 1)) q s) L)) (by rw [e2]) (by rw [e2])
