/-! ===== both: the day of an arrival ===== -/
/-- the reference while it looks ahead, a letter v that nobody reads -/
def m_bk (S : ev_S) (a : Nat) (r : Nat → Int32) (v : Int32) : ev_S := ev_up (m_in S a r) a 8 v
theorem m_bk_1 {S : ev_S} {a : Nat} {r : Nat → Int32} {v : Int32} : (m_bk S a r v).1 (a + 1) = r := by
  unfold m_bk
  rw [m_r (by omega)]
  exact m_in_1
theorem m_bk_8 {S : ev_S} {a : Nat} {r : Nat → Int32} {v : Int32} : (m_bk S a r v).1 a 8 = v := m_s _ _ _ _
theorem m_bk_in (S : ev_S) (a : Nat) (r r' : Nat → Int32) (v : Int32) : ev_ur (m_bk S a r v) (a + 1) r' = m_bk S a r' v := by
  unfold m_bk
  rw [m_u, m_u, r_c (by omega), m_in_in]
  have e : (m_in S a r).1 a = (m_in S a r').1 a := by
    unfold m_in
    rw [r_r (by omega), r_r (by omega), r_r (by omega), r_r (by omega)]
  rw [e]
theorem m_bk_back {g : ev_G} {S : ev_S} {a : Nat} {r : Nat → Int32} {v : Int32} (x : Int32) {Q : ev_O → ev_S → Prop} (hQ : ∀ z, m_fc S z a → Q (.inl (some (ev_i x))) z) : ev_Cv g m_X10_back 1 0 [ev_o 10 a, ev_i x] (m_bk S a r v) Q := by
  refine c_back a x _ (hQ _ ?_)
  have := m_in_fc S a r v
  rw [m_bk_1]
  have e : (m_bk S a r v).1 (a + 2) = (m_in S a r).1 (a + 2) := m_r (by omega)
  rw [e]
  exact this
theorem m_bk_self {S : ev_S} {a : Nat} {r : Nat → Int32} (h : S.1 a 8 = -1) : m_bk S a r (-1) = m_in S a r := m_in_up h
theorem c_arrOf {g : ev_G} {S : ev_S} (a n lim np L l : Nat) (v : Int32) (hl : l < L) : ∀ (k i : Nat) (r rp : Nat → Int32) (d : Nat) (ρ : List Nat), i + k = 400 → d + k < 999999 → IR r n lim np L d v → i_pst r np L d ρ → agP rp r → ∀ Q : ev_O → ev_S → Prop,
    (∀ r', Q (.inl (some (ev_i (o_pa l np L k d rp)))) (m_bk S a r' v)) →
    ev_E g m_X10_arrivalOf 9 0 2 [some (ev_o 10 a), some (ev_i (Int32.ofNat l)), some (ev_i (Int32.ofNat i))] [] (m_bk S a r v) Q := by
  have e40 : (400 : Int32) = Int32.ofNat 400 := rfl
  intro k
  induction k with
  | zero =>
    intro i r rp d ρ hik hd h hp ha Q hq
    have hL := h.2.2.2.2.2.1
    have a6 : r (1200 + 11 * l + 6) = rp (1200 + 11 * l + 6) := ha _ (by omega)
    have a10 : r (1200 + 11 * l + 10) = rp (1200 + 11 * l + 10) := ha _ (by omega)
    refine sg_X10_arrivalOf_2 a _ _ (j_neg (by rw [e40, n_lt (by omega) (by omega)]; omega) ?_)
    simp (disch := omega) only [lm_2, lm_3, lm_6, lm_7, lm_11, lm_12, lm_15, lm_64, lm_124, lm_180, la_1, la_2, la_3, la_12, la_26, la_154, la_514, la_762, la_1140, la_1200, ra_0, ra_1, ra_2, ra_3, ra_4, ra_5, ra_6, ra_7, ra_8, ra_9, ra_10, ra_48, rm_12, rm_2, rm_64, rm_6, n_add, n_mul, n_d1, n_vp, n_c, true_and]
    rw [m_bk_1, a6, a10]
    refine ⟨fun h2 => ?_, fun h2 => j_pos (by rw [e40, n_le (by omega) (by omega)]; omega) ?_⟩
    · rw [o_pa_2 h2] at hq
      exact hq r
    · rw [o_pa_0 h2] at hq
      exact sg_X10_arrivalOf_2 a _ _ (j_pos (by rw [e40, n_lt (by omega) (by omega)]; omega) (hq r))
  | succ k ih =>
    intro i r rp d ρ hik hd h hp ha Q hq
    have hL := h.2.2.2.2.2.1
    have a6 : r (1200 + 11 * l + 6) = rp (1200 + 11 * l + 6) := ha _ (by omega)
    have a10 : r (1200 + 11 * l + 10) = rp (1200 + 11 * l + 10) := ha _ (by omega)
    refine sg_X10_arrivalOf_2 a _ _ (j_neg (by rw [e40, n_lt (by omega) (by omega)]; omega) ?_)
    simp (disch := omega) only [lm_2, lm_3, lm_6, lm_7, lm_11, lm_12, lm_15, lm_64, lm_124, lm_180, la_1, la_2, la_3, la_12, la_26, la_154, la_514, la_762, la_1140, la_1200, ra_0, ra_1, ra_2, ra_3, ra_4, ra_5, ra_6, ra_7, ra_8, ra_9, ra_10, ra_48, rm_12, rm_2, rm_64, rm_6, n_add, n_mul, n_d1, n_vp, n_c, true_and]
    rw [m_bk_1, a6, a10]
    refine ⟨fun h2 => ?_, fun h2 => j_neg (by rw [e40, n_le (by omega) (by omega)]; omega) ?_⟩
    · rw [o_pa_2 h2] at hq
      exact hq r
    · rw [o_pa_s h2] at hq
      obtain ⟨b1, ⟨ρ', b2⟩, b3⟩ := IR_dayb (by omega) h hp ha
      refine c_day a n lim np L d ρ (by omega) (by rw [m_bk_1, m_bk_8]; exact h) (by rw [m_bk_1]; exact hp.2.2) _ ⟨rfl, ?_⟩
      rw [m_bk_1, m_bk_8, m_bk_in]
      exact ih (i + 1) _ _ (d + 1) ρ' (by omega) (by omega) b1 b2 b3 Q hq
theorem c_arrDay {g : ev_G} {S : ev_S} (a n lim np L d : Nat) (x : Int32) {ρ : List Nat} (h8 : S.1 a 8 = -1) (hi : IG (S.1 (a + 1)) n lim np L d ρ) (hd : d < 10000) {Q : ev_O → ev_S → Prop}
    (q1 : ¬ (∃ l, x = Int32.ofNat l ∧ l < L) → Q (.inl (some (ev_i 0))) (ev_up S a 7 1))
    (q2 : ∀ l, x = Int32.ofNat l → l < L → ∀ z, m_fc S z a → Q (.inl (some (ev_i (o_pa l np L 400 d (S.1 (a + 1)))))) z) :
    ev_Cv g m_X10_arrivalDay 10 0 [ev_o 10 a, ev_i x] S Q := by
  have e4 := hi.1.2.2.2.2.1
  have hL := hi.1.2.2.2.2.2.1
  refine sg_X10_arrivalDay_0 a x (fun S1 e1 => ?_)
  have h4 : S1.1 (a + 1) 4 = Int32.ofNat L := by rw [e1, m_r (by omega)]; exact e4
  have hin : (t_X10_in x 0 (S1.1 (a + 1) 4 - 1) = true) = ∃ l, x = Int32.ofNat l ∧ l < L := by rw [n_in, h4]; exact propext (n_rng (by omega))
  rw [hin]
  refine ⟨fun h => ?_, fun h S3 e3 => ?_⟩
  · obtain ⟨l, hx, hl⟩ := h
    have q2 := q2 l hx hl
    refine c_tries a _ ⟨rfl, ?_⟩
    rw [e1, m_in_self, hx, ← m_bk_self h8]
    refine sg_X10_arrivalOf_0 a _ ?_
    exact c_arrOf a n lim np L l (-1) hl 400 0 _ _ d ρ rfl (by omega) hi.1 hi.2.1 (agP_refl _) _ (fun r' => ⟨_, rfl, m_bk_back _ (fun z hz => ⟨_, rfl, q2 z hz⟩)⟩)
  · rw [e3, e1, m_u, m_u, r_s, r_rr, u_u, ← m_u]
    exact q1 h
theorem x_arrDay {g : ev_G} {S : ev_S} {b n lim np L d : Nat} {x : Int32} {r : Nat → Int32} {ρ : List Nat} (hi : IG r n lim np L d ρ) (hL : L ≤ 80) (hd : d < 10000) (hg : q_gm S.1 (b + 11) r n L ρ) {Q : ev_O → ev_S → Prop}
    (q1 : ¬ (∃ l, x = Int32.ofNat l ∧ l < L) → Q (.inr 0) S)
    (q2 : ∀ l, x = Int32.ofNat l → l < L → ∀ z, q_fr S z (b + 71) 17 → Q (.inl (some (ev_i (o_pa l np L 400 d r)))) z) :
    ev_Cv g m_X9_arrivalDay 5 1 [ev_o 9 b, ev_i x] S Q := by
  have e40 : (400 : Int32) = Int32.ofNat 400 := rfl
  have e13 : S.1 (b + 30) 13 = Int32.ofNat L := (q_gm_sz hi hg).2.2
  have e4 : S.1 (b + 11) 4 = Int32.ofNat d := by rw [hg.2.2.2.1]; exact hi.1.2.2.2.2.2.2.1
  refine sg_X9_arrivalDay_0 b x ?_
  rw [t_le e13 (by omega)]
  refine ⟨fun h => ?_, q1⟩
  obtain ⟨l, hx, hl⟩ := h
  have q2 := q2 l hx hl
  obtain ⟨w1, w2, w3, w4, w5, w6⟩ := hg.2.1.1.2.2 l hl
  have w3' : S.1 (b + 40) l = r (1200 + 11 * l + 6) := w3
  rw [hx, a_in (by omega) (by omega), a_in (by omega) (by omega), w3']
  have key : ∀ (k i : Nat) (r : Nat → Int32) (d' : Nat) (ρ : List Nat) (z : ev_S), 1 ≤ i → i + k = 401 → d + i = d' + 1 → i_pst r np L d' ρ → q_pst z.1 (b + 71) r L ρ → ¬ r (1200 + 11 * l + 6) = 2 → q_fr S z (b + 71) 17 →
      (∀ z, q_fr S z (b + 71) 17 → Q (.inl (some (ev_i (o_pa l np L k d' r)))) z) →
      ev_E g m_X9_arrivalDay 5 0 62 [some (ev_o 9 b), some (ev_i (Int32.ofNat l)), some (ev_o 6 (b + 71)), some (ev_i (Int32.ofNat i))] [] z Q := by
    intro k
    induction k with
    | zero =>
      intro i r d' ρ z hi1 hik hdd hp hg h2 hf hq
      rw [o_pa_0 h2] at hq
      exact sg_X9_arrivalDay_62 b _ _ (j_pos (by rw [e40, n_lt (by omega) (by omega)]; omega) (hq z hf))
    | succ k ih =>
      intro i r d' ρ z hi1 hik hdd hp hg h2 hf hq
      rw [o_pa_s h2] at hq
      refine sg_X9_arrivalDay_62 b _ _ (j_neg (by rw [e40, n_lt (by omega) (by omega)]; omega) ?_)
      have z4 : z.1 (b + 11) 4 = Int32.ofNat d := by rw [hf.2 _ (by omega)]; exact e4
      rw [z4, n_add, hdd, n_inc]
      refine p_dp (by omega) hp hg (fun v y ρ' y1 y2 y3 => ⟨_, rfl, ?_⟩)
      have fy := q_fr_trans hf y1
      have y4 : y.1 (b + 11) 4 = Int32.ofNat d := by rw [fy.2 _ (by omega)]; exact e4
      have ys : y.1 (b + 81) l = o_dp r np L d' (1200 + 11 * l + 6) := (y3.1.2.2 l hl).2.2.1
      rw [a_in (by omega) (by omega), ys, y4, n_add, hdd]
      refine ⟨fun h3 => ?_, fun h3 => ?_⟩
      · rw [o_pa_2 h3, o_dp_came (by omega) hp hl h2 h3] at hq
        exact hq y fy
      · exact ih (i + 1) _ (d' + 1) ρ' y (by omega) (by omega) (by omega) y2 y3 h3 fy hq
  refine ⟨fun h2 => ?_, fun h2 => ?_⟩
  · have w6' : S.1 (b + 43) l = r (1200 + 11 * l + 10) := w6 h2
    rw [w6']
    rw [o_pa_2 h2] at q2
    exact q2 S ⟨rfl, fun _ _ => rfl⟩
  · have hlen := nd_le L ρ (i_road_nd hi.2.1.2.2) (fun x hx => (hi.2.1.2.2.1 x hx).1)
    refine p_copy (a := b + 71) (b := b + 30) (by omega) (fun z zz => ⟨rfl, ?_⟩)
    have hz : q_pst z.1 (b + 71) r L ρ := p_shift (M := S.1) (a := b + 30) (by omega) (by omega) (fun y y' c k h1 h2 h3 h4 => by rw [h1, h2]; exact zz.2 c k h3 h4) hg.2.1
    exact key 400 1 r d ρ z (by omega) rfl rfl hi.2.1 hz h2 zz.1 q2
