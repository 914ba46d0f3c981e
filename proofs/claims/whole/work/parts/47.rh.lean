/-! ===== the reference: letters leave; the day ===== -/
def o_lv1 (r : Nat → Int32) (q s d l : Nat) : Nat → Int32 :=
  upd (upd (upd (upd (upd r (1140 + 15 * q + (1 + s)) (r (1140 + 15 * q + (1 + s)) - 1)) 6 (r 6 + 1)) (1200 + 11 * l + 6) 1) (1200 + 11 * l + 8) (r 6 + 1)) (1200 + 11 * l + 9) (r (1140 + 15 * q) + r (1140 + 15 * q + (3 + d / 30 % 12)))
def o_lv (q s d L : Nat) : Nat → (Nat → Int32) → (Nat → Int32)
  | 0, r => r
  | k + 1, r =>
    if fnd (o_wt r q s) L < L then
      if r (1140 + 15 * q + (1 + s)) ≤ 0 then r else o_lv q s d L k (o_lv1 r q s d (fnd (o_wt r q s) L))
    else r
theorem cnt_drop {f h : Nat → Bool} {l : Nat} (hf : f l = true) (hh : ¬ h l = true) (he : ∀ j, j ≠ l → h j = f j) : ∀ n, l < n → cnt h n + 1 = cnt f n := by
  intro n
  induction n with
  | zero => intro q; omega
  | succ n ih =>
    intro q
    simp only [cnt]
    by_cases hl : l = n
    · subst hl
      rw [if_neg hh, if_pos hf, cnt_congr l (fun i hi => he i (by omega))]
    · rw [he n (fun q9 => hl q9.symm), ← ih (by omega)]
      omega
theorem o_lv1_at {r : Nat → Int32} {q s d l j : Nat} (h1 : j ≠ 1140 + 15 * q + (1 + s)) (h2 : j ≠ 6) (h3 : j ≠ 1200 + 11 * l + 6) (h4 : j ≠ 1200 + 11 * l + 8) (h5 : j ≠ 1200 + 11 * l + 9) : o_lv1 r q s d l j = r j := by
  rw [o_lv1, u_k h5, u_k h4, u_k h3, u_k h2, u_k h1]
theorem o_wt_lv1 {r : Nat → Int32} {q s d l : Nat} (hq : q < 4) (hs : s < 2) (h : o_wt r q s l = true) : (¬ o_wt (o_lv1 r q s d l) q s l = true) ∧ ∀ j, j ≠ l → o_wt (o_lv1 r q s d l) q s j = o_wt r q s j := by
  constructor
  · unfold o_wt o_lv1
    rw [u_k (by omega), u_k (by omega), u_s]
    simp
  · intro j hj
    unfold o_wt
    rw [o_lv1_at (by omega) (by omega) (by omega) (by omega) (by omega), o_lv1_at (by omega) (by omega) (by omega) (by omega) (by omega), o_lv1_at (by omega) (by omega) (by omega) (by omega) (by omega)]
theorem c_leave7 {g : ev_G} (a q s d L : Nat) (hq : q < 4) (hs : s < 2) (hd : d < 1000000) (hL : L ≤ 81) : ∀ (k : Nat) (S : ev_S), S.1 (a + 1) 4 = Int32.ofNat L → S.1 (a + 1) 2 = Int32.ofNat d → cnt (o_wt (S.1 (a + 1)) q s) L < k →
    ∀ Q : ev_O → ev_S → Prop, Q (.inl none) (ev_ur S (a + 1) (o_lv q s d L k (S.1 (a + 1)))) → ev_E g m_X10_leave 3 0 7 [some (ev_o 10 a), some (ev_i (Int32.ofNat q)), some (ev_i (Int32.ofNat s)), some (ev_i (o_ix L (fnd (o_wt (S.1 (a + 1)) q s) L)))] [] S Q := by
  intro k
  induction k with
  | zero => intro S _ _ h; omega
  | succ k ih =>
    intro S h4 h2 hk Q hQ
    rw [o_lv] at hQ
    refine sg_X10_leave_7 a _ _ _ ?_
    by_cases hf : fnd (o_wt (S.1 (a + 1)) q s) L < L
    · rw [if_pos hf] at hQ
      have hw := (fnd_spec (o_wt (S.1 (a + 1)) q s) L).1 hf
      rw [o_ix, if_pos hf]
      generalize fnd (o_wt (S.1 (a + 1)) q s) L = l at hf hw hQ
      refine j_neg (by rw [n_m1 (by omega)]; exact id) ?_
      simp (disch := omega) only [lm_2, lm_3, lm_6, lm_7, lm_11, lm_12, lm_15, lm_64, lm_124, lm_180, la_1, la_2, la_3, la_12, la_26, la_154, la_514, la_762, la_1140, la_1200, ra_0, ra_1, ra_2, ra_3, ra_4, ra_5, ra_6, ra_7, ra_8, ra_9, ra_10, ra_48, rm_12, rm_2, rm_64, rm_6, n_add, n_mul, n_d1, n_vp, n_c, true_and, forall_eq, m_u, r_s, r_rr, r_2, u_k, u_s, r_r, h2, n_dv30, n_rm12]
      by_cases h0 : S.1 (a + 1) (1140 + 15 * q + (1 + s)) ≤ 0
      · rw [if_pos h0, r_self] at hQ
        exact j_pos h0 hQ
      · rw [if_neg h0] at hQ
        refine j_neg h0 ?_
        have e : upd (upd (upd (upd (upd (S.1 (a + 1)) (1140 + 15 * q + (1 + s)) (S.1 (a + 1) (1140 + 15 * q + (1 + s)) - 1)) 6 (S.1 (a + 1) 6 + 1)) (1200 + 11 * l + 6) 1) (1200 + 11 * l + 8) (S.1 (a + 1) 6 + 1)) (1200 + 11 * l + 9) (S.1 (a + 1) (1140 + 15 * q) + S.1 (a + 1) (1140 + 15 * q + (3 + d / 30 % 12))) = o_lv1 (S.1 (a + 1)) q s d l := rfl
        rw [e]
        have g4 : (ev_ur S (a + 1) (o_lv1 (S.1 (a + 1)) q s d l)).1 (a + 1) 4 = Int32.ofNat L := by rw [r_s, o_lv1_at (by omega) (by omega) (by omega) (by omega) (by omega)]; exact h4
        have g2 : (ev_ur S (a + 1) (o_lv1 (S.1 (a + 1)) q s d l)).1 (a + 1) 2 = Int32.ofNat d := by rw [r_s, o_lv1_at (by omega) (by omega) (by omega) (by omega) (by omega)]; exact h2
        refine c_first a L q s g4 hL _ ⟨_, rfl, ?_⟩
        refine ih _ g4 g2 ?_ Q ?_
        · obtain ⟨w1, w2⟩ := o_wt_lv1 (d := d) hq hs hw
          have := cnt_drop hw w1 w2 L hf
          rw [r_s]
          omega
        · rw [r_s, r_rr]
          exact hQ
    · rw [if_neg hf, r_self] at hQ
      rw [o_ix, if_neg hf]
      exact j_pos rfl hQ
theorem c_leave {g : ev_G} {S : ev_S} (a q s d L : Nat) (hq : q < 4) (hs : s < 2) (hd : d < 1000000) (hL : L ≤ 81) (h4 : S.1 (a + 1) 4 = Int32.ofNat L) (h2 : S.1 (a + 1) 2 = Int32.ofNat d) :
    ev_Fn g m_X10_leave 3 [ev_o 10 a, ev_i (Int32.ofNat q), ev_i (Int32.ofNat s)] S none (ev_ur S (a + 1) (o_lv q s d L (L + 1) (S.1 (a + 1)))) := by
  intro Q hQ
  refine sg_X10_leave_0 a _ _ (c_first a L q s h4 hL _ ⟨_, rfl, ?_⟩)
  exact c_leave7 a q s d L hq hs hd hL (L + 1) S h4 h2 (by have := cnt_le (o_wt (S.1 (a + 1)) q s) L; omega) Q hQ
/-- what leaving touches -/
theorem o_lv_at (q s d L : Nat) : ∀ (k : Nat) (r : Nat → Int32) (j : Nat), j ≠ 1140 + 15 * q + (1 + s) → j ≠ 6 → (∀ l, l < L → j ≠ 1200 + 11 * l + 6 ∧ j ≠ 1200 + 11 * l + 8 ∧ j ≠ 1200 + 11 * l + 9) → o_lv q s d L k r j = r j := by
  intro k
  induction k with
  | zero => intro r j _ _ _; rfl
  | succ k ih =>
    intro r j h1 h2 h3
    rw [o_lv]
    split
    · next hf =>
      split
      · rfl
      · rw [ih _ j h1 h2 h3, o_lv1_at h1 h2 (h3 _ hf).1 (h3 _ hf).2.1 (h3 _ hf).2.2]
    · rfl
def o_lvp (r : Nat → Int32) (q d L : Nat) : Nat → Int32 := if r (1140 + 15 * q + (3 + d / 30 % 12)) = 9 then r else o_lv q 1 d L (L + 1) (o_lv q 0 d L (L + 1) r)
/-- the passes from i on -/
def o_lvs (np d L : Nat) : Nat → (Nat → Int32) → (Nat → Int32)
  | 0, r => r
  | k + 1, r => o_lvs np d L k (o_lvp r (np - (k + 1)) d L)
theorem IR_lv {r : Nat → Int32} {n lim np L d q s : Nat} {blk : Int32} (hq : q < 4) (hs : s < 2) (k : Nat) (h : IR r n lim np L d blk) : IR (o_lv q s d L k r) n lim np L d blk := by
  refine IR_same h (fun j hj => o_lv_at q s d L k r j ?_ ?_ ?_)
  · rcases hj with hj | hj | ⟨l, w, h1, h2, h3⟩ <;> omega
  · rcases hj with hj | hj | ⟨l, w, h1, h2, h3⟩ <;> omega
  · intro l hl
    have := h.2.2.2.2.2.1
    rcases hj with hj | hj | ⟨l', w, h1, h2, h3⟩ <;> omega
theorem IR_lvp {r : Nat → Int32} {n lim np L d q : Nat} {blk : Int32} (hq : q < 4) (h : IR r n lim np L d blk) : IR (o_lvp r q d L) n lim np L d blk := by
  unfold o_lvp
  split
  · exact h
  · exact IR_lv hq (by omega) _ (IR_lv hq (by omega) _ h)
theorem IR_lvs {n lim np L d : Nat} {blk : Int32} (hnp : np ≤ 4) : ∀ (k : Nat) (r : Nat → Int32), k ≤ np → IR r n lim np L d blk → IR (o_lvs np d L k r) n lim np L d blk := by
  intro k
  induction k with
  | zero => intro r _ h; exact h
  | succ k ih => intro r hk h; exact ih _ (by omega) (IR_lvp (by omega) h)
theorem c_day43 {g : ev_G} (a n lim np L d : Nat) (blk : Int32) : ∀ (k : Nat) (S : ev_S), k ≤ np → IR (S.1 (a + 1)) n lim np L d blk → ∀ Q : ev_O → ev_S → Prop, Q (.inl none) (ev_ur S (a + 1) (o_lvs np d L k (S.1 (a + 1)))) →
    ev_E g m_X10_dayPasses 8 0 43 [some (ev_o 10 a), some (ev_i (Int32.ofNat (np - k)))] [] S Q := by
  intro k
  induction k with
  | zero =>
    intro S _ h Q hQ
    rw [o_lvs, r_self] at hQ
    exact sg_X10_dayPasses_43 a _ (j_pos (by rw [h.2.2.1]; exact Int32.le_refl _) hQ)
  | succ k ih =>
    intro S hk h Q hQ
    have hi := h
    obtain ⟨h0, h1, h3, h3', h4, h4', h2, h2', hl⟩ := h
    refine sg_X10_dayPasses_43 a _ (j_neg (by rw [h3, n_le (by omega) (by omega)]; omega) ?_)
    rw [o_lvs] at hQ
    obtain ⟨q, hq⟩ : ∃ q, q = np - (k + 1) := ⟨_, rfl⟩
    rw [← hq] at hQ ⊢
    simp (disch := omega) only [lm_2, lm_3, lm_6, lm_7, lm_11, lm_12, lm_15, lm_64, lm_124, lm_180, la_1, la_2, la_3, la_12, la_26, la_154, la_514, la_762, la_1140, la_1200, ra_0, ra_1, ra_2, ra_3, ra_4, ra_5, ra_6, ra_7, ra_8, ra_9, ra_10, ra_48, rm_12, rm_2, rm_64, rm_6, n_add, n_mul, n_d1, n_vp, n_c, true_and, h2, n_dv30, n_rm12, c_closed (show q < 4 by omega) (show d < 2147483648 by omega) h2]
    have hnext : np - k = q + 1 := by omega
    rw [hnext] at ih
    have hip := IR_lvp (q := q) (by omega) hi
    unfold o_lvp at hQ hip
    by_cases hc : S.1 (a + 1) (1140 + 15 * q + (3 + d / 30 % 12)) = 9
    · rw [if_pos hc] at hQ
      exact j_pos hc (ih S (by omega) hi Q hQ)
    · rw [if_neg hc] at hQ hip
      refine j_neg hc ?_
      refine c_leave a q 0 d L (by omega) (by omega) h2' h4' h4 h2 _ ⟨rfl, ?_⟩
      have i1 := IR_lv (q := q) (s := 0) (by omega) (by omega) (L + 1) hi
      have e4 : (ev_ur S (a + 1) (o_lv q 0 d L (L + 1) (S.1 (a + 1)))).1 (a + 1) 4 = Int32.ofNat L := by rw [r_s]; exact i1.2.2.2.2.1
      have e2 : (ev_ur S (a + 1) (o_lv q 0 d L (L + 1) (S.1 (a + 1)))).1 (a + 1) 2 = Int32.ofNat d := by rw [r_s]; exact i1.2.2.2.2.2.2.1
      refine c_leave a q 1 d L (by omega) (by omega) h2' h4' e4 e2 _ ⟨rfl, ?_⟩
      rw [r_s, r_rr]
      refine ih _ (by omega) (by rw [r_s]; exact hip) Q ?_
      rw [r_s, r_rr]
      exact hQ
