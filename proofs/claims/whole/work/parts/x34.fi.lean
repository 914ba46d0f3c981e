/-! ===== the law's cases: kept moves, awaited letters, mobility ===== -/
theorem c_storedOf {g : ev_G} {S : ev_S} (a p : Nat) (hp : p < 2) : ev_Fn g m_X10_storedOf 2 [ev_o 10 a, ev_i (Int32.ofNat p)] S (some (ev_i (Int32.ofNat (o_nst (S.1 (a + 1)) p)))) S := by
  intro Q hQ
  have e60 : (60 : Int32) = Int32.ofNat 60 := rfl
  refine sg_X10_storedOf_0 a _ ?_
  have key : ∀ (k i : Nat), i + k = 60 → ev_E g m_X10_storedOf 2 0 4 [some (ev_o 10 a), some (ev_i (Int32.ofNat p)), some (ev_i (Int32.ofNat (cnt (fun k => decide (S.1 (a + 1) (514 + 124 * p + 2 * (k + 1)) ≠ -1)) i))), some (ev_i (Int32.ofNat (i + 1)))] [] S Q := by
    intro k
    induction k with
    | zero =>
      intro i hi
      have : i = 60 := by omega
      subst this
      exact sg_X10_storedOf_4 a _ _ _ (j_pos (by rw [e60, n_lt (by omega) (by omega)]; omega) hQ)
    | succ k ih =>
      intro i hi
      refine sg_X10_storedOf_4 a _ _ _ (j_neg (by rw [e60, n_lt (by omega) (by omega)]; omega) ?_)
      have ix : (514 : Int32) + 124 * Int32.ofNat p + 2 * Int32.ofNat (i + 1) + 0 = Int32.ofNat (514 + 124 * p + 2 * (i + 1)) := by simp (disch := omega) only [lm_2, lm_3, lm_6, lm_7, lm_11, lm_12, lm_15, lm_64, lm_124, lm_180, la_1, la_2, la_3, la_12, la_26, la_154, la_514, la_762, la_1140, la_1200, ra_0, ra_1, ra_2, ra_3, ra_4, ra_5, ra_6, ra_7, ra_8, ra_9, ra_10, ra_48, rm_12, rm_2, rm_64, rm_6, n_add, n_mul, n_d1, n_vp, n_c, true_and]
      rw [ix, n_c (by omega), n_inc, n_inc]
      have := ih (i + 1) (by omega)
      refine ⟨(n_vp (by omega) (by omega)).mpr trivial, fun h => ?_, fun h => ?_⟩
      · rw [cnt_f (by rw [decide_eq_true_eq]; exact fun hh => hh h)] at this
        exact this
      · rw [cnt_t (by rw [decide_eq_true_eq]; exact h)] at this
        exact this
  exact key 60 0 rfl
theorem w_1217 {g : ev_G} {B k0 a m o1 o2 : Nat} {u5 : Int32} {S : ev_S} {Q : ev_O → ev_S → Prop} (c : CS g B k0 a m o1 o2 u5 S Q) : KA g B 1217 k0 a m o1 o2 u5 S Q := by
  obtain ⟨n, lim, np, L, d, ρ, hI, hL, hd, hg, hk⟩ := c.hi.1
  refine sg_L_law_1217 k0 a m o1 o2 u5 ⟨c.v1, ?_⟩
  generalize ev_sx g (u5 + 1).toNatClampNeg = x1
  have bad : ¬ t_X9_isPlayer x1 = true → ev_Cv g m_X10_storedMoves 3 0 [ev_o 10 m, ev_i x1] S (RI g B k0 a m o1 o2 u5 Q 1) := by
    intro h
    refine sg_X10_storedMoves_0 m _ (fun S1 e1 => j_neg (rpn h) (fun S3 e3 => ?_))
    rw [e3, e1, up_up7]
    exact c.eri (by decide)
  refine sg_L_storedMoves_0 a _ _ (sg_X9_storedMoves_0 a _ ⟨fun h => ?_, fun h => Or.inr ⟨rfl, _, rfl, bad h⟩⟩)
  obtain ⟨p, rfl, hp⟩ := t_pl.mp h
  obtain ⟨hm, hml, h60⟩ := n_mad (i_dk_of hI.1 hp)
  refine Or.inl ⟨_, rfl, fun S2 e2 => ⟨_, rfl, ?_⟩⟩
  rw [a_desk hp] at e2
  have hv : S.1 (a + 11 + 1 + 9 * p) 5 = Int32.ofNat (o_nst (S.1 (m + 1)) p) := (hg.1 p hp).2.2.2.2.1
  rw [hv] at e2
  have e0 : (ev_up S2 m 7 0).1 (m + 1) = S.1 (m + 1) := by rw [m_r (by omega), e2]
  refine sg_X10_storedMoves_0 m _ (fun S1 e1 => j_pos (rp.mpr ⟨p, rfl, hp⟩) ?_)
  rw [e1]
  refine c_storedOf m p hp _ ⟨_, rfl, ?_⟩
  rw [e0]
  exact c.oki (z := S2) (v := Int32.ofNat (o_nst (S.1 (m + 1)) p)) (by rw [e2]) (by rw [e2])
def aw_f (r : Nat → Int32) (p k l : Nat) : Bool := decide (¬ r (1200 + 11 * l) = Int32.ofNat p ∧ ¬ r (1200 + 11 * l + 6) = 2 ∧ r (1200 + 11 * l + 3) = Int32.ofNat (k + 1))
def o_aw (r : Nat → Int32) (p k L : Nat) : Int32 := if fnd (aw_f r p k) L < L then Int32.ofNat (fnd (aw_f r p k) L) else -1
theorem aw_end {r : Nat → Int32} {p k L i : Nat} (hi : i = L) (h : ∀ j, j < i → ¬ aw_f r p k j = true) : o_aw r p k L = -1 := by
  unfold o_aw
  rw [fnd_none L (fun j hj => h j (by omega)), if_neg (by omega)]
theorem aw_hit {r : Nat → Int32} {p k L i : Nat} (hi : i < L) (h : ∀ j, j < i → ¬ aw_f r p k j = true) (hit : aw_f r p k i = true) : o_aw r p k L = Int32.ofNat i := by
  unfold o_aw
  rw [fnd_some hit h L hi, if_pos hi]
theorem c_awaited {g : ev_G} {S : ev_S} (a p k L : Nat) (hp : p < 2) (hL : L ≤ 80) (h4 : S.1 (a + 1) 4 = Int32.ofNat L) (hm : S.1 (a + 1) (12 + 7 * p) = Int32.ofNat k) : ev_Fn g m_X10_awaited 3 [ev_o 10 a, ev_i (Int32.ofNat p)] S (some (ev_i (o_aw (S.1 (a + 1)) p k L))) S := by
  intro Q hQ
  refine sg_X10_awaited_0 a _ ?_
  have key : ∀ (w i : Nat), i + w = L → (∀ j, j < i → ¬ aw_f (S.1 (a + 1)) p k j = true) → ev_E g m_X10_awaited 3 0 2 [some (ev_o 10 a), some (ev_i (Int32.ofNat p)), some (ev_i (Int32.ofNat i))] [] S Q := by
    intro w
    induction w with
    | zero =>
      intro i hi hn
      rw [aw_end (by omega) hn] at hQ
      exact sg_X10_awaited_2 a _ _ (j_pos (by rw [h4, n_le (by omega) (by omega)]; omega) hQ)
    | succ w ih =>
      intro i hi hn
      refine sg_X10_awaited_2 a _ _ (j_neg (by rw [h4, n_le (by omega) (by omega)]; omega) ?_)
      have i0 : (1200 : Int32) + 11 * Int32.ofNat i + 0 = Int32.ofNat (1200 + 11 * i) := by simp (disch := omega) only [lm_2, lm_3, lm_6, lm_7, lm_11, lm_12, lm_15, lm_64, lm_124, lm_180, la_1, la_2, la_3, la_12, la_26, la_154, la_514, la_762, la_1140, la_1200, ra_0, ra_1, ra_2, ra_3, ra_4, ra_5, ra_6, ra_7, ra_8, ra_9, ra_10, ra_48, rm_12, rm_2, rm_64, rm_6, n_add, n_mul, n_d1, n_vp, n_c, true_and]
      have i6 : (1200 : Int32) + 11 * Int32.ofNat i + 6 = Int32.ofNat (1200 + 11 * i + 6) := by simp (disch := omega) only [lm_2, lm_3, lm_6, lm_7, lm_11, lm_12, lm_15, lm_64, lm_124, lm_180, la_1, la_2, la_3, la_12, la_26, la_154, la_514, la_762, la_1140, la_1200, ra_0, ra_1, ra_2, ra_3, ra_4, ra_5, ra_6, ra_7, ra_8, ra_9, ra_10, ra_48, rm_12, rm_2, rm_64, rm_6, n_add, n_mul, n_d1, n_vp, n_c, true_and]
      have i3 : (1200 : Int32) + 11 * Int32.ofNat i + 3 = Int32.ofNat (1200 + 11 * i + 3) := by simp (disch := omega) only [lm_2, lm_3, lm_6, lm_7, lm_11, lm_12, lm_15, lm_64, lm_124, lm_180, la_1, la_2, la_3, la_12, la_26, la_154, la_514, la_762, la_1140, la_1200, ra_0, ra_1, ra_2, ra_3, ra_4, ra_5, ra_6, ra_7, ra_8, ra_9, ra_10, ra_48, rm_12, rm_2, rm_64, rm_6, n_add, n_mul, n_d1, n_vp, n_c, true_and]
      have ip : (12 : Int32) + 7 * Int32.ofNat p + 0 = Int32.ofNat (12 + 7 * p) := by simp (disch := omega) only [lm_2, lm_3, lm_6, lm_7, lm_11, lm_12, lm_15, lm_64, lm_124, lm_180, la_1, la_2, la_3, la_12, la_26, la_154, la_514, la_762, la_1140, la_1200, ra_0, ra_1, ra_2, ra_3, ra_4, ra_5, ra_6, ra_7, ra_8, ra_9, ra_10, ra_48, rm_12, rm_2, rm_64, rm_6, n_add, n_mul, n_d1, n_vp, n_c, true_and]
      rw [i0, i6, i3, ip, n_c (by omega), n_c (by omega), n_c (by omega), n_c (by omega), hm, n_inc, n_inc]
      have next : ¬ aw_f (S.1 (a + 1)) p k i = true → ev_E g m_X10_awaited 3 0 2 [some (ev_o 10 a), some (ev_i (Int32.ofNat p)), some (ev_i (Int32.ofNat (i + 1)))] [] S Q := fun hh => ih (i + 1) (by omega) (fun j hj => by
        by_cases hji : j = i
        · rw [hji]; exact hh
        · exact hn j (by omega))
      unfold aw_f at next
      rw [decide_eq_true_eq] at next
      refine ⟨(n_vp (by omega) (by omega)).mpr trivial, fun h1 => next (fun hh => hh.1 h1), fun h1 => ⟨(n_vp (by omega) (by omega)).mpr trivial, fun h2 => next (fun hh => hh.2.1 h2), fun h2 => ⟨(n_vp (by omega) (by omega)).mpr trivial, (n_vp (by omega) (by omega)).mpr trivial, fun h3 => ?_, fun h3 => next (fun hh => h3 hh.2.2)⟩⟩⟩
      rw [aw_hit (by omega) hn (by unfold aw_f; rw [decide_eq_true_eq]; exact ⟨h1, h2, h3⟩)] at hQ
      exact hQ
  exact key L 0 (by omega) (fun j hj => by omega)
theorem b_awaited {g : ev_G} {S : ev_S} {e n lim np L d p : Nat} {r : Nat → Int32} {ρ : List Nat} (hI : IG r n lim np L d ρ) (hL : L ≤ 80) (hg : q_gm S.1 e r n L ρ) (hp : p < 2) : ev_Fn g m_X2_awaitedBy 3 [ev_o 2 e, ev_i (Int32.ofNat p)] S (some (ev_i (o_aw r p (o_mad r p) L))) S := by
  intro Q hQ
  obtain ⟨-, -, e13⟩ := q_gm_sz hI hg
  obtain ⟨hm, hml, h60⟩ := n_mad (i_dk_of hI.1 hp)
  have hv : S.1 (e + 1 + 9 * p + 1) 6 = r (12 + 7 * p) := (hg.1 p hp).2.1.2.2.2.2.2.1
  refine sg_X2_awaitedBy_0 e _ ?_
  rw [a_desk hp, hv, hm, n_inc]
  have key : ∀ (w i : Nat), i + w = L → (∀ j, j < i → ¬ aw_f r p (o_mad r p) j = true) → ev_E g m_X2_awaitedBy 3 0 11 [some (ev_o 2 e), some (ev_i (Int32.ofNat p)), some (ev_i (Int32.ofNat (o_mad r p + 1))), some (ev_i (Int32.ofNat i))] [] S Q := by
    intro w
    induction w with
    | zero =>
      intro i hi hn
      rw [aw_end (by omega) hn] at hQ
      exact sg_X2_awaitedBy_11 e _ _ _ (j_pos (by rw [e13, n_le (by omega) (by omega)]; omega) hQ)
    | succ w ih =>
      intro i hi hn
      refine sg_X2_awaitedBy_11 e _ _ _ (j_neg (by rw [e13, n_le (by omega) (by omega)]; omega) ?_)
      have w0 : S.1 (e + 24) i = r (1200 + 11 * i) := (hg.2.1.1.2.2 i (by omega)).1
      have w6 : S.1 (e + 29) i = r (1200 + 11 * i + 6) := (hg.2.1.1.2.2 i (by omega)).2.2.1
      have w3 : S.1 (e + 25) i = r (1200 + 11 * i + 3) := (hg.2.2.1 i (by omega)).1
      rw [a_in (by omega) (by omega), a_in (by omega) (by omega), a_in (by omega) (by omega), w0, w6, w3, n_inc]
      have next : ¬ aw_f r p (o_mad r p) i = true → ev_E g m_X2_awaitedBy 3 0 11 [some (ev_o 2 e), some (ev_i (Int32.ofNat p)), some (ev_i (Int32.ofNat (o_mad r p + 1))), some (ev_i (Int32.ofNat (i + 1)))] [] S Q := fun hh => ih (i + 1) (by omega) (fun j hj => by
        by_cases hji : j = i
        · rw [hji]; exact hh
        · exact hn j (by omega))
      unfold aw_f at next
      rw [decide_eq_true_eq] at next
      refine ⟨fun h1 => next (fun hh => hh.1 h1), fun h1 => ⟨fun h2 => next (fun hh => hh.2.1 h2), fun h2 => ⟨fun h3 => ?_, fun h3 => next (fun hh => h3 hh.2.2)⟩⟩⟩
      rw [aw_hit (by omega) hn (by unfold aw_f; rw [decide_eq_true_eq]; exact ⟨h1, h2, h3⟩)] at hQ
      exact hQ
  exact key L 0 (by omega) (fun j hj => by omega)
theorem w_1803 {g : ev_G} {B k0 a m o1 o2 : Nat} {u5 : Int32} {S : ev_S} {Q : ev_O → ev_S → Prop} (c : CS g B k0 a m o1 o2 u5 S Q) : KA g B 1803 k0 a m o1 o2 u5 S Q := by
  obtain ⟨n, lim, np, L, d, ρ, hI, hL, hd, hg, hk⟩ := c.hi.1
  refine sg_L_law_1803 k0 a m o1 o2 u5 ⟨c.v1, ?_⟩
  generalize ev_sx g (u5 + 1).toNatClampNeg = x1
  have bad : ¬ t_X9_isPlayer x1 = true → ev_Cv g m_X10_awaitedLetter 4 0 [ev_o 10 m, ev_i x1] S (RI g B k0 a m o1 o2 u5 Q 1) := by
    intro h
    refine sg_X10_awaitedLetter_0 m _ (fun S1 e1 => j_neg (rpn h) (fun S3 e3 => ?_))
    rw [e3, e1, up_up7]
    exact c.eri (by decide)
  refine sg_L_awaitedLetter_0 a _ _ (sg_X9_awaitedLetter_0 a _ ⟨fun h => ?_, fun h => Or.inr ⟨rfl, _, rfl, bad h⟩⟩)
  obtain ⟨p, rfl, hp⟩ := t_pl.mp h
  obtain ⟨hm, hml, h60⟩ := n_mad (i_dk_of hI.1 hp)
  refine b_awaited hI hL hg hp _ ⟨_, rfl, Or.inl ⟨_, rfl, fun S2 e2 => ⟨_, rfl, ?_⟩⟩⟩
  have e0 : (ev_up S2 m 7 0).1 (m + 1) = S.1 (m + 1) := by rw [m_r (by omega), e2]
  refine sg_X10_awaitedLetter_0 m _ (fun S1 e1 => j_pos (rp.mpr ⟨p, rfl, hp⟩) ?_)
  rw [e1]
  refine c_awaited m p (o_mad (S.1 (m + 1)) p) L hp hL (by rw [e0]; exact hI.1.2.2.2.2.1) (by rw [e0]; exact hm) _ ⟨_, rfl, ?_⟩
  rw [e0]
  exact c.oki (z := S2) (v := o_aw (S.1 (m + 1)) p (o_mad (S.1 (m + 1)) p) L) (by rw [e2]) (by rw [e2])
theorem w_1859 {g : ev_G} {B k0 a m o1 o2 : Nat} {u5 : Int32} {S : ev_S} {Q : ev_O → ev_S → Prop} (c : CS g B k0 a m o1 o2 u5 S Q) : KA g B 1859 k0 a m o1 o2 u5 S Q := by
  obtain ⟨n, lim, np, L, d, ρ, hI, hL, hd, hg, hk⟩ := c.hi.1
  refine sg_L_law_1859 k0 a m o1 o2 u5 ⟨c.v1, ?_⟩
  generalize ev_sx g (u5 + 1).toNatClampNeg = x1
  have bad : ¬ t_X9_isPlayer x1 = true → ev_Cv g m_X10_reasonToWait 5 0 [ev_o 10 m, ev_i x1] S (RI g B k0 a m o1 o2 u5 Q 1) := by
    intro h
    refine sg_X10_reasonToWait_0 m _ (fun S1 e1 => j_neg (rpn h) (fun S3 e3 => ?_))
    rw [e3, e1, up_up7]
    exact c.eri (by decide)
  have good : ∀ p, p < 2 → ∀ (z : ev_S) (v : Int32), z.1 = S.1 → z.2.1 = v.toInt64 →
      v = (if o_turn (S.1 (m + 1)) p n (o_mad (S.1 (m + 1)) p) = true then 0 else if o_over (S.1 (m + 1)) p n = true then 1 else if o_aw (S.1 (m + 1)) p (o_mad (S.1 (m + 1)) p) L = -1 then 2 else 3 + S.1 (m + 1) (1200 + 11 * fnd (aw_f (S.1 (m + 1)) p (o_mad (S.1 (m + 1)) p)) L + 6)) →
      ev_Cv g m_X10_reasonToWait 5 0 [ev_o 10 m, ev_i (Int32.ofNat p)] z (RI g B k0 a m o1 o2 u5 Q 0) := by
    intro p hp z v hz hx hv
    obtain ⟨hm, hml, h60⟩ := n_mad (i_dk_of hI.1 hp)
    have e0 : (ev_up z m 7 0).1 (m + 1) = S.1 (m + 1) := by rw [m_r (by omega), hz]
    refine sg_X10_reasonToWait_0 m _ (fun S1 e1 => j_pos (rp.mpr ⟨p, rfl, hp⟩) ?_)
    rw [e1]
    have hK := c.oki (z := z) (v := v) hz hx
    rw [hv] at hK
    refine c_turnOf m p n (o_mad (S.1 (m + 1)) p) hp (by rw [e0]; exact hI.1.1.1) hI.1.1.2.1 (by rw [e0]; exact hm) (by omega) _ ⟨_, rfl, ?_⟩
    rw [e0]
    refine ⟨fun h1 => by rw [if_pos h1] at hK; exact hK, fun h1 => ?_⟩
    rw [if_neg h1] at hK
    refine c_overOn m p n hp (by rw [e0]; exact hI.1.1.1) hI.1.1.2.1 _ ⟨_, rfl, ?_⟩
    rw [e0]
    refine ⟨fun h2 => by rw [if_pos h2] at hK; exact hK, fun h2 => ?_⟩
    rw [if_neg h2] at hK
    refine c_awaited m p (o_mad (S.1 (m + 1)) p) L hp hL (by rw [e0]; exact hI.1.2.2.2.2.1) (by rw [e0]; exact hm) _ ⟨_, rfl, ?_⟩
    rw [e0]
    refine ⟨fun h3 => by rw [if_pos h3] at hK; exact hK, fun h3 => ?_⟩
    rw [if_neg h3] at hK
    have hlt : fnd (aw_f (S.1 (m + 1)) p (o_mad (S.1 (m + 1)) p)) L < L := Classical.byContradiction (fun hh => h3 (by unfold o_aw; rw [if_neg hh]))
    have haw : o_aw (S.1 (m + 1)) p (o_mad (S.1 (m + 1)) p) L = Int32.ofNat (fnd (aw_f (S.1 (m + 1)) p (o_mad (S.1 (m + 1)) p)) L) := by unfold o_aw; rw [if_pos hlt]
    rw [haw]
    generalize fnd (aw_f (S.1 (m + 1)) p (o_mad (S.1 (m + 1)) p)) L = l at *
    have ix : (1200 : Int32) + 11 * Int32.ofNat l + 6 = Int32.ofNat (1200 + 11 * l + 6) := by simp (disch := omega) only [lm_2, lm_3, lm_6, lm_7, lm_11, lm_12, lm_15, lm_64, lm_124, lm_180, la_1, la_2, la_3, la_12, la_26, la_154, la_514, la_762, la_1140, la_1200, ra_0, ra_1, ra_2, ra_3, ra_4, ra_5, ra_6, ra_7, ra_8, ra_9, ra_10, ra_48, rm_12, rm_2, rm_64, rm_6, n_add, n_mul, n_d1, n_vp, n_c, true_and]
    rw [ix, n_c (by omega)]
    exact ⟨(n_vp (by omega) (by omega)).mpr trivial, hK⟩
  refine sg_L_reasonToWait_0 a _ _ (sg_X9_reasonToWait_0 a _ ⟨fun h => ?_, fun h => Or.inr ⟨rfl, _, rfl, bad h⟩⟩)
  obtain ⟨p, rfl, hp⟩ := t_pl.mp h
  obtain ⟨hm, hml, h60⟩ := n_mad (i_dk_of hI.1 hp)
  rw [a_desk hp, t_may hp hI.1.1.2.1 hm (by omega) (hg.1 p hp), b_fin hI.1.1.2.1 (hg.1 p hp).2.1]
  refine ⟨fun h1 => Or.inl ⟨_, rfl, fun S2 e2 => ⟨_, rfl, good p hp S2 0 (by rw [e2]) (by rw [e2]) (by rw [if_pos h1])⟩⟩, fun h1 => ⟨fun h2 => Or.inl ⟨_, rfl, fun S2 e2 => ⟨_, rfl, good p hp S2 1 (by rw [e2]) (by rw [e2]) (by rw [if_neg h1, if_pos h2])⟩⟩, fun h2 => ?_⟩⟩
  refine b_awaited hI hL hg hp _ ⟨_, rfl, fun h3 => Or.inl ⟨_, rfl, fun S2 e2 => ⟨_, rfl, good p hp S2 2 (by rw [e2]) (by rw [e2]) (by rw [if_neg h1, if_neg h2, if_pos h3])⟩⟩, fun h3 => ?_⟩
  have hlt : fnd (aw_f (S.1 (m + 1)) p (o_mad (S.1 (m + 1)) p)) L < L := Classical.byContradiction (fun hh => h3 (by unfold o_aw; rw [if_neg hh]))
  have haw : o_aw (S.1 (m + 1)) p (o_mad (S.1 (m + 1)) p) L = Int32.ofNat (fnd (aw_f (S.1 (m + 1)) p (o_mad (S.1 (m + 1)) p)) L) := by unfold o_aw; rw [if_pos hlt]
  have hn2 : ¬ S.1 (m + 1) (1200 + 11 * fnd (aw_f (S.1 (m + 1)) p (o_mad (S.1 (m + 1)) p)) L + 6) = 2 := by
    have := (fnd_spec (aw_f (S.1 (m + 1)) p (o_mad (S.1 (m + 1)) p)) L).1 hlt
    unfold aw_f at this
    rw [decide_eq_true_eq] at this
    exact this.2.1
  have hst := (hI.2.1.1.2.2.2.2.2.2.2 _ hlt)
  obtain ⟨bb, qq, -, -, -, -, hs, -⟩ := hst
  have w6 : S.1 (a + 40) (fnd (aw_f (S.1 (m + 1)) p (o_mad (S.1 (m + 1)) p)) L) = S.1 (m + 1) (1200 + 11 * fnd (aw_f (S.1 (m + 1)) p (o_mad (S.1 (m + 1)) p)) L + 6) := (hg.2.1.1.2.2 _ hlt).2.2.1
  rw [haw, a_in (by omega) (by omega), w6]
  refine ⟨fun h4 => Or.inl ⟨_, rfl, fun S2 e2 => ⟨_, rfl, good p hp S2 3 (by rw [e2]) (by rw [e2]) (by rw [if_neg h1, if_neg h2, if_neg h3, h4]; rfl)⟩⟩, fun h4 => Or.inl ⟨_, rfl, fun S2 e2 => ⟨_, rfl, good p hp S2 4 (by rw [e2]) (by rw [e2]) ?_⟩⟩⟩
  have h5 : S.1 (m + 1) (1200 + 11 * fnd (aw_f (S.1 (m + 1)) p (o_mad (S.1 (m + 1)) p)) L + 6) = 1 := by
    rcases hs with hs | hs | hs
    · exact absurd hs h4
    · exact hs
    · exact absurd hs hn2
  rw [if_neg h1, if_neg h2, if_neg h3, h5]
  rfl
