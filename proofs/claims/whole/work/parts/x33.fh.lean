/-! ===== the law's cases: boards, winners, moves ===== -/
theorem w_1273 {g : ev_G} {B k0 a m o1 o2 : Nat} {u5 : Int32} {S : ev_S} {Q : ev_O → ev_S → Prop} (c : CS g B k0 a m o1 o2 u5 S Q) : KA g B 1273 k0 a m o1 o2 u5 S Q := by
  obtain ⟨n, lim, np, L, d, ρ, hI, hL, hd, hg, hk⟩ := c.hi.1
  have ref : ∀ X : ev_O → ev_S → Prop, X (.inl (some (ev_i (if o_eq (S.1 (m + 1)) n = true then 1 else 0)))) (ev_up S m 7 0) → ev_Cv g m_X10_areBoardsEqual 3 0 [ev_o 10 m] S X := by
    intro X hX
    refine sg_X10_areBoardsEqual_0 m (fun S1 e1 => ?_)
    have e0 : (ev_up S m 7 0).1 (m + 1) = S.1 (m + 1) := m_r (by omega)
    rw [e1]
    refine c_areEqual m n (by rw [e0]; exact hI.1.1.1) hI.1.1.2.1 _ ⟨_, rfl, ?_⟩
    rw [e0]
    exact ⟨fun hb => by rw [if_pos hb] at hX; exact hX, fun hb => by rw [if_neg hb] at hX; exact hX⟩
  have hK := c.k2 _ (INV_u7 (v := 0) c.hm c.hi rfl)
  refine sg_L_law_1273 k0 a m o1 o2 u5 (sg_X9_areBoardsEqual_0 a (g_agree hI hg _ ⟨_, rfl, fun hb => ⟨true, rfl, fun _ => ?_, fun hf => absurd rfl hf⟩, fun hb => ⟨false, rfl, fun hf => absurd hf (by decide), fun _ => ?_⟩⟩))
  · exact ref _ ⟨_, rfl, fun _ => hK, fun hn => absurd hb hn⟩
  · exact ref _ ⟨_, rfl, fun hh => absurd hh hb, fun _ => hK⟩
theorem w_870 {g : ev_G} {B k0 a m o1 o2 : Nat} {u5 : Int32} {S : ev_S} {Q : ev_O → ev_S → Prop} (c : CS g B k0 a m o1 o2 u5 S Q) : KA g B 870 k0 a m o1 o2 u5 S Q := by
  obtain ⟨n, lim, np, L, d, ρ, hI, hL, hd, hg, hk⟩ := c.hi.1
  refine sg_L_law_870 k0 a m o1 o2 u5 ⟨c.v1, ?_⟩
  generalize ev_sx g (u5 + 1).toNatClampNeg = x1
  have bad : ¬ t_X9_isPlayer x1 = true → ev_Cv g m_X10_winner 4 0 [ev_o 10 m, ev_i x1] S (RI g B k0 a m o1 o2 u5 Q 1) := by
    intro h
    refine sg_X10_winner_0 m _ (fun S1 e1 => j_neg (rpn h) (fun S3 e3 => ?_))
    rw [e3, e1, up_up7]
    exact c.eri (by decide)
  have good : ∀ p, p < 2 → ∀ (z : ev_S) (v : Int32), z.1 = S.1 → z.2.1 = v.toInt64 →
      v = (if o_over (S.1 (m + 1)) p n = true then (if Int32.ofNat (o_bish (S.1 (m + 1)) p n 0) - Int32.ofNat (o_bish (S.1 (m + 1)) p n 1) = 0 then -1 else if Int32.ofNat (o_bish (S.1 (m + 1)) p n 0) - Int32.ofNat (o_bish (S.1 (m + 1)) p n 1) ≤ 0 then 1 else 0) else -1) →
      ev_Cv g m_X10_winner 4 0 [ev_o 10 m, ev_i (Int32.ofNat p)] z (RI g B k0 a m o1 o2 u5 Q 0) := by
    intro p hp z v hz hx hv
    have e0 : (ev_up z m 7 0).1 (m + 1) = S.1 (m + 1) := by rw [m_r (by omega), hz]
    refine sg_X10_winner_0 m _ (fun S1 e1 => j_pos (rp.mpr ⟨p, rfl, hp⟩) ?_)
    rw [e1]
    refine c_bishopsOf m p n _ hp (by rw [e0]; exact hI.1.1.1) hI.1.1.2.1 _ ⟨_, rfl, ?_⟩
    refine c_bishopsOf m p n _ hp (by rw [e0]; exact hI.1.1.1) hI.1.1.2.1 _ ⟨_, rfl, ?_⟩
    refine c_overOn m p n hp (by rw [e0]; exact hI.1.1.1) hI.1.1.2.1 _ ⟨_, rfl, ?_⟩
    rw [e0]
    have := c.oki (z := z) (v := v) hz hx
    rw [hv] at this
    refine ⟨fun h1 => ?_, fun h1 => ?_⟩
    · rw [if_pos h1] at this
      refine ⟨fun h2 => ?_, fun h2 => ?_⟩
      · rw [if_pos h2] at this; exact this
      · rw [if_neg h2] at this
        refine ⟨fun h3 => ?_, fun h3 => ?_⟩
        · rw [if_pos h3] at this; exact this
        · rw [if_neg h3] at this; exact this
    · rw [if_neg h1] at this; exact this
  refine sg_L_winner_0 a _ _ (sg_X9_winner_0 a _ ⟨fun h => ?_, fun h => Or.inr ⟨rfl, _, rfl, bad h⟩⟩)
  obtain ⟨p, rfl, hp⟩ := t_pl.mp h
  have b0 : j_at (S.1 (a + 11 + 1 + 9 * p + 3)) 2 0 = Int32.ofNat (o_bish (S.1 (m + 1)) p n 0) := (a_in (k := 0) (by omega) (by omega)).trans (hg.1 p hp).2.1.2.1
  have b1 : j_at (S.1 (a + 11 + 1 + 9 * p + 3)) 2 1 = Int32.ofNat (o_bish (S.1 (m + 1)) p n 1) := (a_in (k := 1) (by omega) (by omega)).trans (hg.1 p hp).2.1.2.2.1
  rw [a_desk hp, b_fin hI.1.1.2.1 (hg.1 p hp).2.1, b0, b1]
  refine ⟨fun h1 => ⟨fun h2 => Or.inl ⟨_, rfl, fun S2 e2 => ⟨_, rfl, good p hp S2 (-1) (by rw [e2]) (by rw [e2]) ?_⟩⟩, fun h2 => ⟨fun h3 => Or.inl ⟨_, rfl, fun S2 e2 => ⟨_, rfl, good p hp S2 1 (by rw [e2]) (by rw [e2]) ?_⟩⟩, fun h3 => Or.inl ⟨_, rfl, fun S2 e2 => ⟨_, rfl, good p hp S2 0 (by rw [e2]) (by rw [e2]) ?_⟩⟩⟩⟩, fun h1 => Or.inl ⟨_, rfl, fun S2 e2 => ⟨_, rfl, good p hp S2 (-1) (by rw [e2]) (by rw [e2]) ?_⟩⟩⟩
  · rw [if_pos h1, if_pos h2]
  · rw [if_pos h1, if_neg h2, if_pos h3]
  · rw [if_pos h1, if_neg h2, if_neg h3]
  · rw [if_neg h1]
abbrev RM (g : ev_G) (B k0 a m o1 o2 : Nat) (u5 : Int32) (Q : ev_O → ev_S → Prop) (v : Int32) : ev_O → ev_S → Prop := fun o S2 => ∃ v2_ : Int32, o = .inl (some (ev_i v2_)) ∧ TL S2 m v v2_.toInt64 (K3 g B k0 a m o1 o2 u5 S2 Q) (Q (.inl (some (ev_i 0))) S2)
theorem CS.okm {g : ev_G} {B k0 a m o1 o2 : Nat} {u5 : Int32} {S : ev_S} {Q : ev_O → ev_S → Prop} (c : CS g B k0 a m o1 o2 u5 S Q) {z : ev_S} {v : Int32} (e : z.1 = S.1) (hx : z.2.1 = v.toInt64) : RM g B k0 a m o1 o2 u5 Q 0 (.inl (some (ev_i v))) (ev_up z m 7 0) := ⟨v, rfl, tl_ok (m_s _ _ _ _) hx (c.k _ (INV_u7 c.hm c.hi e))⟩
theorem CS.erm {g : ev_G} {B k0 a m o1 o2 : Nat} {u5 : Int32} {S : ev_S} {Q : ev_O → ev_S → Prop} (c : CS g B k0 a m o1 o2 u5 S Q) {v w : Int32} (hv : ¬ v = 0) : RM g B k0 a m o1 o2 u5 Q v (.inl (some (ev_i w))) (ev_up S m 7 v) := ⟨w, rfl, tl_er (m_s _ _ _ _) hv (c.k _ (INV_u7 c.hm c.hi rfl))⟩
theorem n_rng1 {x : Int32} {k : Nat} (hk : k < 1000000) : (1 ≤ x ∧ x ≤ Int32.ofNat k) ↔ ∃ q, x = Int32.ofNat (q + 1) ∧ q < k := by
  have i1 : (1 : Int32).toInt = 1 := rfl
  constructor
  · rintro ⟨h1, h2⟩
    rw [z_le, i1] at h1
    rw [z_le, n_i (by omega)] at h2
    obtain ⟨q, e1, e2, e3⟩ := n_ofi (x := x) (k := k) (by omega) h2
    rw [e1, n_i e3] at h1
    exact ⟨q - 1, by rw [e1]; exact congrArg Int32.ofNat (by omega), by omega⟩
  · rintro ⟨q, rfl, hq⟩
    have i1' : (1 : Int32) = Int32.ofNat 1 := rfl
    rw [i1', n_le (by omega) (by omega), n_le (by omega) (by omega)]
    omega
theorem mv_at {S : ev_S} {b p n mm : Nat} {x : Int32} {r : Nat → Int32} (h8 : n ≤ 8) (hm : r (12 + 7 * p) = Int32.ofNat mm) (h60 : mm ≤ 60) (hmv : i_mv r p n mm) (hb : q_board S.1 b r p n mm) :
    (f_X0_moveAt S b x = -1 ↔ ¬ ∃ k, x = Int32.ofNat (k + 1) ∧ k < mm) ∧ ∀ k, x = Int32.ofNat (k + 1) → k < mm → f_X0_moveAt S b x / 64 = r (154 + 180 * p + 3 * k) ∧ ev_rem (f_X0_moveAt S b x) 64 = r (154 + 180 * p + 3 * k + 1) := by
  have hn9 := sq_le h8
  have e6 : S.1 b 6 = Int32.ofNat mm := by rw [hb.2.2.2.2.2.1]; exact hm
  have i1 : (1 : Int32) = Int32.ofNat 1 := rfl
  have val : ∀ k, x = Int32.ofNat (k + 1) → k < mm → ∃ f t, f < 64 ∧ t < 64 ∧ r (154 + 180 * p + 3 * k) = Int32.ofNat f ∧ r (154 + 180 * p + 3 * k + 1) = Int32.ofNat t ∧ f_X0_moveAt S b x = Int32.ofNat (f * 64 + t) := by
    intro k hk1 hk2
    obtain ⟨f, t, hf, ht, hrf, hrt, -⟩ := hmv k hk2
    refine ⟨f, t, by omega, by omega, hrf, hrt, ?_⟩
    unfold f_X0_moveAt
    rw [hk1, e6, if_neg (by rw [i1, n_lt (by omega) (by omega)]; omega), if_neg (by rw [n_lt (by omega) (by omega)]; omega), a_in (by omega) (by omega), (hb.2.2.2.2.2.2.2.2 k hk2).1, hrf, hrt]
    have e64 : (64 : Int32) = Int32.ofNat 64 := rfl
    rw [e64, n_mul, n_add]
  refine ⟨⟨fun h ⟨k, hk1, hk2⟩ => ?_, fun h => ?_⟩, fun k hk1 hk2 => ?_⟩
  · obtain ⟨f, t, hf, ht, -, -, hv⟩ := val k hk1 hk2
    rw [hv] at h
    exact absurd h (n_m1' (by omega))
  · unfold f_X0_moveAt
    by_cases h1 : x < 1
    · rw [if_pos h1]
    · rw [if_neg h1]
      by_cases h2 : S.1 b 6 < x
      · rw [if_pos h2]
      · rw [e6] at h2
        exact absurd ((n_rng1 (by omega)).mp ⟨Int32.not_lt.mp h1, Int32.not_lt.mp h2⟩) h
  · obtain ⟨f, t, hf, ht, hrf, hrt, hv⟩ := val k hk1 hk2
    rw [hv, hrf, hrt, n_dv64 hf ht, n_rm64 hf ht]
    exact ⟨rfl, rfl⟩
theorem w_1081 {g : ev_G} {B k0 a m o1 o2 : Nat} {u5 : Int32} {S : ev_S} {Q : ev_O → ev_S → Prop} (c : CS g B k0 a m o1 o2 u5 S Q) : KA g B 1081 k0 a m o1 o2 u5 S Q := by
  obtain ⟨n, lim, np, L, d, ρ, hI, hL, hd, hg, hk⟩ := c.hi.1
  refine sg_L_law_1081 k0 a m o1 o2 u5 ⟨c.v1, c.v2, ?_⟩
  generalize ev_sx g (u5 + 1).toNatClampNeg = x1
  generalize ev_sx g (u5 + 2).toNatClampNeg = x2
  have hx1 : ∀ p, p < 2 → S.1 (m + 1) (12 + 7 * p) = Int32.ofNat (o_mad (S.1 (m + 1)) p) ∧ o_mad (S.1 (m + 1)) p ≤ 60 := fun p hp => by
    obtain ⟨hm, hml, h60⟩ := n_mad (i_dk_of hI.1 hp)
    exact ⟨hm, by omega⟩
  have bad : ¬ t_X9_isPlayer x1 = true → ev_Cv g m_X10_movedFrom 4 0 [ev_o 10 m, ev_i x1, ev_i x2] S (RM g B k0 a m o1 o2 u5 Q 1) := by
    intro h
    refine sg_X10_movedFrom_0 m _ _ (fun S1 e1 => sg_X10_movedAt_0 m _ _ _ (j_neg (rpn h) (j_pos (by rw [e1, m_s]) (fun S2 e2 => ⟨_, rfl, ?_⟩))))
    rw [e2, e1, up_up7]
    exact c.erm (by decide)
  have at_p : ∀ p, p < 2 → ∀ (z : ev_S), z.1 = S.1 → (∀ k, x2 = Int32.ofNat (k + 1) → k < o_mad (S.1 (m + 1)) p → z.2.1 = (S.1 (m + 1) (154 + 180 * p + 3 * k)).toInt64) → (∃ k, x2 = Int32.ofNat (k + 1) ∧ k < o_mad (S.1 (m + 1)) p) → ev_Cv g m_X10_movedFrom 4 0 [ev_o 10 m, ev_i (Int32.ofNat p), ev_i x2] z (RM g B k0 a m o1 o2 u5 Q 0) := by
    intro p hp z hz hv hk
    obtain ⟨k, hk1, hk2⟩ := hk
    obtain ⟨hm, h60⟩ := hx1 p hp
    refine sg_X10_movedFrom_0 m _ _ (fun S1 e1 => sg_X10_movedAt_0 m _ _ _ (j_pos (rp.mpr ⟨p, rfl, hp⟩) (j_pos (by rw [e1, m_s]) ?_)))
    have ix : (12 : Int32) + 7 * Int32.ofNat p + 0 = Int32.ofNat (12 + 7 * p) := by simp (disch := omega) only [lm_2, lm_3, lm_6, lm_7, lm_11, lm_12, lm_15, lm_64, lm_124, lm_180, la_1, la_2, la_3, la_12, la_26, la_154, la_514, la_762, la_1140, la_1200, ra_0, ra_1, ra_2, ra_3, ra_4, ra_5, ra_6, ra_7, ra_8, ra_9, ra_10, ra_48, rm_12, rm_2, rm_64, rm_6, n_add, n_mul, n_d1, n_vp, n_c, true_and]
    have iy : (154 : Int32) + 180 * Int32.ofNat p + 3 * (x2 - 1) + 0 = Int32.ofNat (154 + 180 * p + 3 * k) := by
      rw [hk1, n_dec _ (by omega), Nat.add_sub_cancel]
      simp (disch := omega) only [lm_2, lm_3, lm_6, lm_7, lm_11, lm_12, lm_15, lm_64, lm_124, lm_180, la_1, la_2, la_3, la_12, la_26, la_154, la_514, la_762, la_1140, la_1200, ra_0, ra_1, ra_2, ra_3, ra_4, ra_5, ra_6, ra_7, ra_8, ra_9, ra_10, ra_48, rm_12, rm_2, rm_64, rm_6, n_add, n_mul, n_d1, n_vp, n_c, true_and]
    have e0 : S1.1 (m + 1) = S.1 (m + 1) := by rw [e1, m_r (by omega), hz]
    have i1 : (1 : Int32) = Int32.ofNat 1 := rfl
    rw [ix, iy, n_c (by omega), n_c (by omega), e0, hm]
    refine ⟨(n_vp (by omega) (by omega)).mpr trivial, j_pos ?_ ⟨(n_vp (by omega) (by omega)).mpr trivial, _, rfl, ?_⟩⟩
    · rw [n_in, hk1, i1, n_le (by omega) (by omega), n_le (by omega) (by omega)]
      omega
    · rw [e1]
      exact c.okm (z := z) (v := S.1 (m + 1) (154 + 180 * p + 3 * k)) hz (hv k hk1 hk2)
  have none_p : ∀ p, p < 2 → ¬ (∃ k, x2 = Int32.ofNat (k + 1) ∧ k < o_mad (S.1 (m + 1)) p) → ev_Cv g m_X10_movedFrom 4 0 [ev_o 10 m, ev_i (Int32.ofNat p), ev_i x2] S (RM g B k0 a m o1 o2 u5 Q 2) := by
    intro p hp hk
    obtain ⟨hm, h60⟩ := hx1 p hp
    refine sg_X10_movedFrom_0 m _ _ (fun S1 e1 => sg_X10_movedAt_0 m _ _ _ (j_pos (rp.mpr ⟨p, rfl, hp⟩) (j_pos (by rw [e1, m_s]) ?_)))
    have ix : (12 : Int32) + 7 * Int32.ofNat p + 0 = Int32.ofNat (12 + 7 * p) := by simp (disch := omega) only [lm_2, lm_3, lm_6, lm_7, lm_11, lm_12, lm_15, lm_64, lm_124, lm_180, la_1, la_2, la_3, la_12, la_26, la_154, la_514, la_762, la_1140, la_1200, ra_0, ra_1, ra_2, ra_3, ra_4, ra_5, ra_6, ra_7, ra_8, ra_9, ra_10, ra_48, rm_12, rm_2, rm_64, rm_6, n_add, n_mul, n_d1, n_vp, n_c, true_and]
    have e0 : S1.1 (m + 1) = S.1 (m + 1) := by rw [e1, m_r (by omega)]
    rw [ix, n_c (by omega), e0, hm]
    refine ⟨(n_vp (by omega) (by omega)).mpr trivial, j_neg (fun hh => ?_) (fun S3 e3 => ⟨_, rfl, ?_⟩)⟩
    · rw [n_in] at hh
      exact hk ((n_rng1 (by omega)).mp hh)
    · rw [e3, e1, up_up7]
      exact c.erm (by decide)
  refine sg_L_movedFrom_0 a _ _ _ (sg_X9_movedFrom_0 a _ _ ⟨fun h => ?_, fun h => Or.inr (Or.inl ⟨rfl, _, rfl, bad h⟩)⟩)
  obtain ⟨p, rfl, hp⟩ := t_pl.mp h
  obtain ⟨hm, h60⟩ := hx1 p hp
  rw [a_desk hp]
  obtain ⟨hat1, hat2⟩ := mv_at (x := x2) hI.1.1.2.1 hm h60 (hI.2.2 p hp).2 (hg.1 p hp).2.1
  refine ⟨fun hn => Or.inr (Or.inr ⟨rfl, _, rfl, none_p p hp (hat1.mp hn)⟩), fun hn => Or.inl ⟨_, rfl, fun S2 e2 => ⟨_, rfl, ?_⟩⟩⟩
  have hex : ∃ k, x2 = Int32.ofNat (k + 1) ∧ k < o_mad (S.1 (m + 1)) p := Classical.byContradiction (fun hh => hn (hat1.mpr hh))
  refine at_p p hp S2 (by rw [e2]) (fun k hk1 hk2 => ?_) hex
  rw [e2, ← (hat2 k hk1 hk2).1]
theorem w_1149 {g : ev_G} {B k0 a m o1 o2 : Nat} {u5 : Int32} {S : ev_S} {Q : ev_O → ev_S → Prop} (c : CS g B k0 a m o1 o2 u5 S Q) : KA g B 1149 k0 a m o1 o2 u5 S Q := by
  obtain ⟨n, lim, np, L, d, ρ, hI, hL, hd, hg, hk⟩ := c.hi.1
  refine sg_L_law_1149 k0 a m o1 o2 u5 ⟨c.v1, c.v2, ?_⟩
  generalize ev_sx g (u5 + 1).toNatClampNeg = x1
  generalize ev_sx g (u5 + 2).toNatClampNeg = x2
  have hx1 : ∀ p, p < 2 → S.1 (m + 1) (12 + 7 * p) = Int32.ofNat (o_mad (S.1 (m + 1)) p) ∧ o_mad (S.1 (m + 1)) p ≤ 60 := fun p hp => by
    obtain ⟨hm, hml, h60⟩ := n_mad (i_dk_of hI.1 hp)
    exact ⟨hm, by omega⟩
  have bad : ¬ t_X9_isPlayer x1 = true → ev_Cv g m_X10_movedTo 4 0 [ev_o 10 m, ev_i x1, ev_i x2] S (RM g B k0 a m o1 o2 u5 Q 1) := by
    intro h
    refine sg_X10_movedTo_0 m _ _ (fun S1 e1 => sg_X10_movedAt_0 m _ _ _ (j_neg (rpn h) (j_pos (by rw [e1, m_s]) (fun S2 e2 => ⟨_, rfl, ?_⟩))))
    rw [e2, e1, up_up7]
    exact c.erm (by decide)
  have at_p : ∀ p, p < 2 → ∀ (z : ev_S), z.1 = S.1 → (∀ k, x2 = Int32.ofNat (k + 1) → k < o_mad (S.1 (m + 1)) p → z.2.1 = (S.1 (m + 1) (154 + 180 * p + 3 * k + 1)).toInt64) → (∃ k, x2 = Int32.ofNat (k + 1) ∧ k < o_mad (S.1 (m + 1)) p) → ev_Cv g m_X10_movedTo 4 0 [ev_o 10 m, ev_i (Int32.ofNat p), ev_i x2] z (RM g B k0 a m o1 o2 u5 Q 0) := by
    intro p hp z hz hv hk
    obtain ⟨k, hk1, hk2⟩ := hk
    obtain ⟨hm, h60⟩ := hx1 p hp
    refine sg_X10_movedTo_0 m _ _ (fun S1 e1 => sg_X10_movedAt_0 m _ _ _ (j_pos (rp.mpr ⟨p, rfl, hp⟩) (j_pos (by rw [e1, m_s]) ?_)))
    have ix : (12 : Int32) + 7 * Int32.ofNat p + 0 = Int32.ofNat (12 + 7 * p) := by simp (disch := omega) only [lm_2, lm_3, lm_6, lm_7, lm_11, lm_12, lm_15, lm_64, lm_124, lm_180, la_1, la_2, la_3, la_12, la_26, la_154, la_514, la_762, la_1140, la_1200, ra_0, ra_1, ra_2, ra_3, ra_4, ra_5, ra_6, ra_7, ra_8, ra_9, ra_10, ra_48, rm_12, rm_2, rm_64, rm_6, n_add, n_mul, n_d1, n_vp, n_c, true_and]
    have iy : (154 : Int32) + 180 * Int32.ofNat p + 3 * (x2 - 1) + 1 = Int32.ofNat (154 + 180 * p + 3 * k + 1) := by
      rw [hk1, n_dec _ (by omega), Nat.add_sub_cancel]
      simp (disch := omega) only [lm_2, lm_3, lm_6, lm_7, lm_11, lm_12, lm_15, lm_64, lm_124, lm_180, la_1, la_2, la_3, la_12, la_26, la_154, la_514, la_762, la_1140, la_1200, ra_0, ra_1, ra_2, ra_3, ra_4, ra_5, ra_6, ra_7, ra_8, ra_9, ra_10, ra_48, rm_12, rm_2, rm_64, rm_6, n_add, n_mul, n_d1, n_vp, n_c, true_and]
    have e0 : S1.1 (m + 1) = S.1 (m + 1) := by rw [e1, m_r (by omega), hz]
    have i1 : (1 : Int32) = Int32.ofNat 1 := rfl
    rw [ix, iy, n_c (by omega), n_c (by omega), e0, hm]
    refine ⟨(n_vp (by omega) (by omega)).mpr trivial, j_pos ?_ ⟨(n_vp (by omega) (by omega)).mpr trivial, _, rfl, ?_⟩⟩
    · rw [n_in, hk1, i1, n_le (by omega) (by omega), n_le (by omega) (by omega)]
      omega
    · rw [e1]
      exact c.okm (z := z) (v := S.1 (m + 1) (154 + 180 * p + 3 * k + 1)) hz (hv k hk1 hk2)
  have none_p : ∀ p, p < 2 → ¬ (∃ k, x2 = Int32.ofNat (k + 1) ∧ k < o_mad (S.1 (m + 1)) p) → ev_Cv g m_X10_movedTo 4 0 [ev_o 10 m, ev_i (Int32.ofNat p), ev_i x2] S (RM g B k0 a m o1 o2 u5 Q 2) := by
    intro p hp hk
    obtain ⟨hm, h60⟩ := hx1 p hp
    refine sg_X10_movedTo_0 m _ _ (fun S1 e1 => sg_X10_movedAt_0 m _ _ _ (j_pos (rp.mpr ⟨p, rfl, hp⟩) (j_pos (by rw [e1, m_s]) ?_)))
    have ix : (12 : Int32) + 7 * Int32.ofNat p + 0 = Int32.ofNat (12 + 7 * p) := by simp (disch := omega) only [lm_2, lm_3, lm_6, lm_7, lm_11, lm_12, lm_15, lm_64, lm_124, lm_180, la_1, la_2, la_3, la_12, la_26, la_154, la_514, la_762, la_1140, la_1200, ra_0, ra_1, ra_2, ra_3, ra_4, ra_5, ra_6, ra_7, ra_8, ra_9, ra_10, ra_48, rm_12, rm_2, rm_64, rm_6, n_add, n_mul, n_d1, n_vp, n_c, true_and]
    have e0 : S1.1 (m + 1) = S.1 (m + 1) := by rw [e1, m_r (by omega)]
    rw [ix, n_c (by omega), e0, hm]
    refine ⟨(n_vp (by omega) (by omega)).mpr trivial, j_neg (fun hh => ?_) (fun S3 e3 => ⟨_, rfl, ?_⟩)⟩
    · rw [n_in] at hh
      exact hk ((n_rng1 (by omega)).mp hh)
    · rw [e3, e1, up_up7]
      exact c.erm (by decide)
  refine sg_L_movedTo_0 a _ _ _ (sg_X9_movedTo_0 a _ _ ⟨fun h => ?_, fun h => Or.inr (Or.inl ⟨rfl, _, rfl, bad h⟩)⟩)
  obtain ⟨p, rfl, hp⟩ := t_pl.mp h
  obtain ⟨hm, h60⟩ := hx1 p hp
  rw [a_desk hp]
  obtain ⟨hat1, hat2⟩ := mv_at (x := x2) hI.1.1.2.1 hm h60 (hI.2.2 p hp).2 (hg.1 p hp).2.1
  refine ⟨fun hn => Or.inr (Or.inr ⟨rfl, _, rfl, none_p p hp (hat1.mp hn)⟩), fun hn => Or.inl ⟨_, rfl, fun S2 e2 => ⟨_, rfl, ?_⟩⟩⟩
  have hex : ∃ k, x2 = Int32.ofNat (k + 1) ∧ k < o_mad (S.1 (m + 1)) p := Classical.byContradiction (fun hh => hn (hat1.mpr hh))
  refine at_p p hp S2 (by rw [e2]) (fun k hk1 hk2 => ?_) hex
  rw [e2, ← (hat2 k hk1 hk2).2]
