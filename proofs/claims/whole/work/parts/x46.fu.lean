/-! ===== the law's cases: contradictions, the reference ===== -/
def ab_f (r : Nat → Int32) (p n : Nat) : Int32 := ev_abs ((r 9 + r 10) - Int32.ofNat (o_bish r p n 0) - Int32.ofNat (o_bish r p n 1) - r (12 + 7 * p + 1))
theorem c_contra {g : ev_G} {S : ev_S} {m n np L m0 m1 K : Nat} {r : Nat → Int32} (hr : S.1 (m + 1) = r) (hn : r 0 = Int32.ofNat n) (h8 : n ≤ 8) (hm0 : r (12 + 7 * 0) = Int32.ofNat m0) (hm1 : r (12 + 7 * 1) = Int32.ofNat m1) (h0 : m0 ≤ 60) (h1 : m1 ≤ 60) (hK : ev_min (Int32.ofNat m0) (Int32.ofNat m1) = Int32.ofNat K) (k0 : K ≤ m0) (k1 : K ≤ m1) (h3 : r 3 = Int32.ofNat np) (hnp : np ≤ 4) (h4 : r 4 = Int32.ofNat L) (hL : L ≤ 80) {Q : ev_O → ev_S → Prop}
    (hQ : Q (.inl (some (ev_i (Int32.ofNat (cnt (df_f r) K) + ab_f r 0 n + ab_f r 1 n + ev_abs (r 11 - (sts r np + Int32.ofNat (cnt (fun l => decide (r (1200 + 11 * l + 6) = 1)) L))))))) S) :
    ev_E g m_X10_contradictions 3 0 9 [some (ev_o 10 m), some (ev_i 0), some (ev_i 1), none] [] S Q := by
  have hn' : S.1 (m + 1) 0 = Int32.ofNat n := by rw [hr]; exact hn
  have i2 : (2 : Int32) = Int32.ofNat 2 := rfl
  -- letters on the road
  have k164 : ∀ (X : Int32), (Q (.inl (some (ev_i (X + ev_abs (r 11 - (sts r np + Int32.ofNat (cnt (fun l => decide (r (1200 + 11 * l + 6) = 1)) L))))))) S) → ∀ (w l : Nat), l + w = L → ev_E g m_X10_contradictions 3 0 164 [some (ev_o 10 m), some (ev_i X), some (ev_i (sts r np + Int32.ofNat (cnt (fun l => decide (r (1200 + 11 * l + 6) = 1)) l))), some (ev_i (Int32.ofNat l))] [] S Q := by
    intro X hX w
    induction w with
    | zero =>
      intro l hl
      have e : l = L := by omega
      subst e
      refine sg_X10_contradictions_164 m _ _ _ ?_
      rw [hr, h4]
      exact j_pos (Int32.le_refl _) hX
    | succ w ih =>
      intro l hl
      have hi := ih (l + 1) (by omega)
      have ix : (1200 : Int32) + 11 * Int32.ofNat l + 6 = Int32.ofNat (1200 + 11 * l + 6) := by simp (disch := omega) only [lm_2, lm_3, lm_6, lm_7, lm_11, lm_12, lm_15, lm_64, lm_124, lm_180, la_1, la_2, la_3, la_12, la_26, la_154, la_514, la_762, la_1140, la_1200, ra_0, ra_1, ra_2, ra_3, ra_4, ra_5, ra_6, ra_7, ra_8, ra_9, ra_10, ra_48, rm_12, rm_2, rm_64, rm_6, n_add, n_mul, n_d1, n_vp, n_c, true_and]
      refine sg_X10_contradictions_164 m _ _ _ ?_
      rw [hr, h4, ix, n_c (by omega), n_inc, Int32.add_assoc, n_inc]
      refine j_neg (by rw [n_le (by omega) (by omega)]; omega) ⟨(n_vp (by omega) (by omega)).mpr trivial, fun h => ?_, fun h => ?_⟩
      · rw [cnt_t (by rw [decide_eq_true_eq]; exact h)] at hi
        exact hi
      · rw [cnt_f (by rw [decide_eq_true_eq]; exact h)] at hi
        exact hi
  have k130 : ∀ (X : Int32), (Q (.inl (some (ev_i (X + ev_abs (r 11 - (sts r np + Int32.ofNat (cnt (fun l => decide (r (1200 + 11 * l + 6) = 1)) L))))))) S) → ∀ (w q : Nat), q + w = np → ev_E g m_X10_contradictions 3 0 130 [some (ev_o 10 m), some (ev_i X), some (ev_i (sts r q)), some (ev_i (Int32.ofNat q))] [] S Q := by
    intro X hX w
    induction w with
    | zero =>
      intro q hq
      have e : q = np := by omega
      subst e
      refine sg_X10_contradictions_130 m _ _ _ ?_
      rw [hr, h3]
      refine j_pos (Int32.le_refl _) ?_
      have := k164 X hX L 0 (by omega)
      have e0 : sts r q + Int32.ofNat (cnt (fun l => decide (r (1200 + 11 * l + 6) = 1)) 0) = sts r q := Int32.add_zero _
      rw [e0] at this
      exact this
    | succ w ih =>
      intro q hq
      have ix1 : (1140 : Int32) + 15 * Int32.ofNat q + 1 = Int32.ofNat (1140 + 15 * q + 1) := by simp (disch := omega) only [lm_2, lm_3, lm_6, lm_7, lm_11, lm_12, lm_15, lm_64, lm_124, lm_180, la_1, la_2, la_3, la_12, la_26, la_154, la_514, la_762, la_1140, la_1200, ra_0, ra_1, ra_2, ra_3, ra_4, ra_5, ra_6, ra_7, ra_8, ra_9, ra_10, ra_48, rm_12, rm_2, rm_64, rm_6, n_add, n_mul, n_d1, n_vp, n_c, true_and]
      have ix2 : (1140 : Int32) + 15 * Int32.ofNat q + 2 = Int32.ofNat (1140 + 15 * q + 2) := by simp (disch := omega) only [lm_2, lm_3, lm_6, lm_7, lm_11, lm_12, lm_15, lm_64, lm_124, lm_180, la_1, la_2, la_3, la_12, la_26, la_154, la_514, la_762, la_1140, la_1200, ra_0, ra_1, ra_2, ra_3, ra_4, ra_5, ra_6, ra_7, ra_8, ra_9, ra_10, ra_48, rm_12, rm_2, rm_64, rm_6, n_add, n_mul, n_d1, n_vp, n_c, true_and]
      refine sg_X10_contradictions_130 m _ _ _ ?_
      rw [hr, h3, ix1, ix2, n_c (by omega), n_c (by omega), n_inc]
      exact j_neg (by rw [n_le (by omega) (by omega)]; omega) ⟨(n_vp (by omega) (by omega)).mpr trivial, (n_vp (by omega) (by omega)).mpr trivial, ih (q + 1) (by omega)⟩
  have k73 : ∀ (X : Int32), (Q (.inl (some (ev_i (X + ab_f r 0 n + ab_f r 1 n + ev_abs (r 11 - (sts r np + Int32.ofNat (cnt (fun l => decide (r (1200 + 11 * l + 6) = 1)) L))))))) S) → ev_E g m_X10_contradictions 3 0 73 [some (ev_o 10 m), some (ev_i X), some (ev_i 0), none] [] S Q := by
    intro X hX
    have a0 : ∀ p, p < 2 → (12 : Int32) + 7 * Int32.ofNat p + 1 = Int32.ofNat (12 + 7 * p + 1) := fun p hp => by simp (disch := omega) only [lm_2, lm_3, lm_6, lm_7, lm_11, lm_12, lm_15, lm_64, lm_124, lm_180, la_1, la_2, la_3, la_12, la_26, la_154, la_514, la_762, la_1140, la_1200, ra_0, ra_1, ra_2, ra_3, ra_4, ra_5, ra_6, ra_7, ra_8, ra_9, ra_10, ra_48, rm_12, rm_2, rm_64, rm_6, n_add, n_mul, n_d1, n_vp, n_c, true_and]
    have st : ∀ (p : Nat) (Y : Int32), p < 2 → ev_E g m_X10_contradictions 3 0 73 [some (ev_o 10 m), some (ev_i (Y + ab_f r p n)), some (ev_i (Int32.ofNat (p + 1))), none] [] S Q → ev_E g m_X10_contradictions 3 0 73 [some (ev_o 10 m), some (ev_i Y), some (ev_i (Int32.ofNat p)), none] [] S Q := by
      intro p Y hp hnext
      refine sg_X10_contradictions_73 m _ _ (j_neg (by rw [i2, n_le (by omega) (by omega)]; omega) ?_)
      refine c_bishopsOf m p n 0 hp hn' h8 _ ⟨_, rfl, ?_⟩
      refine c_bishopsOf m p n 1 hp hn' h8 _ ⟨_, rfl, ?_⟩
      rw [a0 p hp, n_c (by omega), n_inc, hr]
      exact ⟨(n_vp (by omega) (by omega)).mpr trivial, hnext⟩
    refine st 0 X (by omega) (st 1 _ (by omega) ?_)
    refine sg_X10_contradictions_73 m _ _ (j_pos (by rw [i2, n_le (by omega) (by omega)]; omega) ?_)
    exact k130 _ hX np 0 (by omega)
  have key : ∀ (w i : Nat), i + w = K → ev_E g m_X10_contradictions 3 0 9 [some (ev_o 10 m), some (ev_i (Int32.ofNat (cnt (df_f r) i))), some (ev_i (Int32.ofNat (i + 1))), none] [] S Q := by
    have p0 : ((12 : Int32) + 7 * 0) + 0 = Int32.ofNat 12 := rfl
    have p1 : ((12 : Int32) + 7 * 1) + 0 = Int32.ofNat 19 := rfl
    have q0 : r 12 = Int32.ofNat m0 := hm0
    have q1 : r 19 = Int32.ofNat m1 := hm1
    intro w
    induction w with
    | zero =>
      intro i hi
      have e : i = K := by omega
      subst e
      refine sg_X10_contradictions_9 m _ _ ?_
      rw [p0, p1, n_c (by omega), n_c (by omega), hr, q0, q1, hK]
      exact ⟨(n_vp (by omega) (by omega)).mpr trivial, (n_vp (by omega) (by omega)).mpr trivial, j_pos (by rw [n_lt (by omega) (by omega)]; omega) (k73 _ hQ)⟩
    | succ w ih =>
      intro i hi
      have hi' := ih (i + 1) (by omega)
      have ix : ∀ p j : Nat, p < 2 → j < 2 → (154 : Int32) + 180 * Int32.ofNat p + 3 * (Int32.ofNat (i + 1) - 1) + Int32.ofNat j = Int32.ofNat (154 + 180 * p + 3 * i + j) := by
        intro p j hp hj
        rw [n_dec _ (by omega), Nat.add_sub_cancel]
        simp (disch := omega) only [lm_2, lm_3, lm_6, lm_7, lm_11, lm_12, lm_15, lm_64, lm_124, lm_180, la_1, la_2, la_3, la_12, la_26, la_154, la_514, la_762, la_1140, la_1200, ra_0, ra_1, ra_2, ra_3, ra_4, ra_5, ra_6, ra_7, ra_8, ra_9, ra_10, ra_48, rm_12, rm_2, rm_64, rm_6, n_add, n_mul, n_d1, n_vp, n_c, true_and]
      have x00 : (154 : Int32) + 180 * 0 + 3 * (Int32.ofNat (i + 1) - 1) + 0 = Int32.ofNat (154 + 180 * 0 + 3 * i) := ix 0 0 (by omega) (by omega)
      have x10 : (154 : Int32) + 180 * 1 + 3 * (Int32.ofNat (i + 1) - 1) + 0 = Int32.ofNat (154 + 180 * 1 + 3 * i) := ix 1 0 (by omega) (by omega)
      have x01 : (154 : Int32) + 180 * 0 + 3 * (Int32.ofNat (i + 1) - 1) + 1 = Int32.ofNat (154 + 180 * 0 + 3 * i + 1) := ix 0 1 (by omega) (by omega)
      have x11 : (154 : Int32) + 180 * 1 + 3 * (Int32.ofNat (i + 1) - 1) + 1 = Int32.ofNat (154 + 180 * 1 + 3 * i + 1) := ix 1 1 (by omega) (by omega)
      have dt : df_f r i = true → ev_E g m_X10_contradictions 3 0 9 [some (ev_o 10 m), some (ev_i (Int32.ofNat (cnt (df_f r) i + 1))), some (ev_i (Int32.ofNat (i + 1 + 1))), none] [] S Q := fun hd => by rw [cnt_t hd] at hi'; exact hi'
      have dn : ¬ df_f r i = true → ev_E g m_X10_contradictions 3 0 9 [some (ev_o 10 m), some (ev_i (Int32.ofNat (cnt (df_f r) i))), some (ev_i (Int32.ofNat (i + 1 + 1))), none] [] S Q := fun hd => by rw [cnt_f hd] at hi'; exact hi'
      unfold df_f at dt dn
      rw [decide_eq_true_eq] at dt dn
      refine sg_X10_contradictions_9 m _ _ ?_
      rw [p0, p1, n_c (by omega), n_c (by omega), hr, q0, q1, hK, x00, x10, x01, x11, n_c (by omega), n_c (by omega), n_c (by omega), n_c (by omega), n_inc, n_inc]
      refine ⟨(n_vp (by omega) (by omega)).mpr trivial, (n_vp (by omega) (by omega)).mpr trivial, j_neg (by rw [n_lt (by omega) (by omega)]; omega) ⟨(n_vp (by omega) (by omega)).mpr trivial, (n_vp (by omega) (by omega)).mpr trivial, fun e1 => ⟨(n_vp (by omega) (by omega)).mpr trivial, (n_vp (by omega) (by omega)).mpr trivial, fun e2 => dn (fun hh => hh ⟨e1, e2⟩), fun e2 => dt (fun hh => e2 hh.2)⟩, fun e1 => dt (fun hh => e1 hh.1)⟩⟩
  exact key K 0 (by omega)
theorem w_2160 {g : ev_G} {B k0 a m o1 o2 : Nat} {u5 : Int32} {S : ev_S} {Q : ev_O → ev_S → Prop} (c : CS g B k0 a m o1 o2 u5 S Q) : KA g B 2160 k0 a m o1 o2 u5 S Q := by
  obtain ⟨n, lim, np, L, d, ρ, hI, hL, hd, hg, hk⟩ := c.hi.1
  have hm := c.hm
  obtain ⟨g0, l0, g0'⟩ := n_mad (i_dk_of hI.1 (show 0 < 2 by omega))
  obtain ⟨g1, l1, g1'⟩ := n_mad (i_dk_of hI.1 (show 1 < 2 by omega))
  obtain ⟨K, hK, k0', k1'⟩ := n_mn (a := o_mad (S.1 (m + 1)) 0) (b := o_mad (S.1 (m + 1)) 1) (by omega) (by omega)
  have hK2 := c.k2 _ (INV_u7 (v := 0) c.hm c.hi rfl)
  have b0 : q_board S.1 (a + 11 + 1 + 1) (S.1 (m + 1)) 0 n (o_mad (S.1 (m + 1)) 0) := (hg.1 0 (by omega)).2.1
  have b1 : q_board S.1 (a + 11 + 10 + 1) (S.1 (m + 1)) 1 n (o_mad (S.1 (m + 1)) 1) := (hg.1 1 (by omega)).2.1
  have hpst := hg.2.1
  refine sg_L_law_2160 k0 a m o1 o2 u5 (sg_X9_contradictions_0 a (sg_X2_flaws_0 (a + 11) ?_))
  rw [a_desk0, a_desk1]
  refine b_diff hI.1.1.2.1 g0 g1 (by omega) (by omega) (hI.2.2 0 (by omega)).2 (hI.2.2 1 (by omega)).2 b0 b1 hK k0' k1' _ ⟨_, rfl, ?_⟩
  refine b_astray hI.1.1.2.1 (hI.2.2 0 (by omega)).1 b0 _ ⟨_, rfl, ?_⟩
  refine b_astray hI.1.1.2.1 (hI.2.2 1 (by omega)).1 b1 _ ⟨_, rfl, ?_⟩
  have h14 : S.1 (a + 11 + 19) 14 = Int32.ofNat (cnt (fun l => decide (S.1 (m + 1) (1200 + 11 * l + 6) = 1)) L) := by rw [hpst.2.2, road_len hI.2.1]
  rw [h14]
  refine b_mules (r := S.1 (m + 1)) hI.1.2.2.2.1 hpst.1.1.2.1 (fun q hq s hs => (hpst.1.2.1 q hq).2.1 s hs) hk.2.2.1 _ ⟨_, rfl, _, rfl, _, rfl, ?_⟩
  refine sg_X10_contradictions_0 m (fun S1 e1 => ?_)
  have er : S1.1 (m + 1) = S.1 (m + 1) := by rw [e1, m_r (by omega)]
  refine c_contra er hI.1.1.1 hI.1.1.2.1 g0 g1 (by omega) (by omega) hK k0' k1' hI.1.2.2.1 hI.1.2.2.2.1 hI.1.2.2.2.2.1 hL ⟨_, rfl, ?_⟩
  rw [e1]
  exact j_pos rfl hK2
