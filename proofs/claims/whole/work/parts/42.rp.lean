/-! ===== the reference: stored moves and promises ===== -/
def i_sto (r : Nat → Int32) (p n : Nat) : Prop := ∀ k, k ≤ 61 → r (514 + 124 * p + 2 * k) = -1 ∨ ∃ f t, f < n * n ∧ t < n * n ∧ f ≠ t ∧ r (514 + 124 * p + 2 * k) = Int32.ofNat f ∧ r (514 + 124 * p + 2 * k + 1) = Int32.ofNat t
def i_pr (r : Nat → Int32) (n k : Nat) : Prop := ∃ ef et rf rt, ef < n * n ∧ et < n * n ∧ ef ≠ et ∧ rf < n * n ∧ rt < n * n ∧ rf ≠ rt ∧ r (762 + 6 * k) = Int32.ofNat ef ∧ r (762 + 6 * k + 1) = Int32.ofNat et ∧ r (762 + 6 * k + 2) = Int32.ofNat rf ∧ r (762 + 6 * k + 3) = Int32.ofNat rt ∧ r (762 + 6 * k + 4) = 1 ∧ (r (762 + 6 * k + 5) = 0 ∨ r (762 + 6 * k + 5) = 1)
def i_pro (r : Nat → Int32) (n : Nat) : Prop := ∀ k, k ≤ 62 → (r (762 + 6 * k + 4) = 0 ∧ r (762 + 6 * k + 5) = 0) ∨ i_pr r n k
def i_dk (r : Nat → Int32) (p n lim : Nat) : Prop := r 0 = Int32.ofNat n ∧ n ≤ 8 ∧ r 1 = Int32.ofNat lim ∧ lim ≤ 60 ∧ (∃ m, r (12 + 7 * p) = Int32.ofNat m ∧ m ≤ lim) ∧ i_sto r p n ∧ i_pro r n
def o_due (r : Nat → Int32) (p m : Nat) : Bool := decide (r (762 + 6 * (m + 1) + (if o_maker (m + 1) = p then 4 else 5)) ≠ 0 ∧ 1 ≤ m ∧ r (154 + 180 * p + 3 * (m - 1)) = r (762 + 6 * (m + 1)) ∧ r (154 + 180 * p + 3 * (m - 1) + 1) = r (762 + 6 * (m + 1) + 1))
theorem c_isDue {g : ev_G} {S : ev_S} (a p m : Nat) (hp : p < 2) (hm : m < 60) :
    ev_Fn g m_X10_isDue 2 [ev_o 10 a, ev_i (Int32.ofNat p), ev_i (Int32.ofNat (m + 1))] S (some (ev_i (if o_due (S.1 (a + 1)) p m = true then 1 else 0))) S := by
  intro Q hQ
  have hmk := o_maker_lt (m + 1)
  refine sg_X10_isDue_0 a _ _ ?_
  have h1 : o_due (S.1 (a + 1)) p m = true → Q (.inl (some (ev_i 1))) S := fun h => by rw [if_pos h] at hQ; exact hQ
  have h0 : ¬ o_due (S.1 (a + 1)) p m = true → Q (.inl (some (ev_i 0))) S := fun h => by rw [if_neg h] at hQ; exact hQ
  clear hQ
  rcases m with _ | j
  · have h2 : ¬ (2 : Int32) ≤ Int32.ofNat (0 + 1) := by decide
    have h3 := h0 (by simp [o_due])
    simp (disch := omega) only [lm_2, lm_3, lm_6, lm_7, lm_11, lm_12, lm_15, lm_64, lm_124, lm_180, la_1, la_2, la_3, la_12, la_26, la_154, la_514, la_762, la_1140, la_1200, ra_0, ra_1, ra_2, ra_3, ra_4, ra_5, ra_6, ra_7, ra_8, ra_9, ra_10, ra_48, rm_12, rm_2, rm_64, rm_6, n_add, n_mul, n_d1, n_vp, n_c, true_and, forall_eq, m_u, r_s, r_rr, r_2, u_k, u_s, r_r, c_maker, n_eq, h2, false_imp_iff, not_false_eq_true, true_imp_iff, h3, imp_true_iff, and_true]
  · have h2 : (2 : Int32) ≤ Int32.ofNat (j + 1 + 1) := by rw [z_le, n_i (by omega)]; show (2 : Int) ≤ _; omega
    simp (disch := omega) only [lm_2, lm_3, lm_6, lm_7, lm_11, lm_12, lm_15, lm_64, lm_124, lm_180, la_1, la_2, la_3, la_12, la_26, la_154, la_514, la_762, la_1140, la_1200, ra_0, ra_1, ra_2, ra_3, ra_4, ra_5, ra_6, ra_7, ra_8, ra_9, ra_10, ra_48, rm_12, rm_2, rm_64, rm_6, n_add, n_mul, n_d1, n_vp, n_c, true_and, forall_eq, m_u, r_s, r_rr, r_2, u_k, u_s, r_r, c_maker, n_eq, h2, not_true_eq_false, true_imp_iff, false_imp_iff, and_true]
    simp only [o_due, decide_eq_true_eq, ne_eq, Nat.add_sub_cancel] at h0 h1
    by_cases hk : o_maker (j + 1 + 1) = p
    · simp only [hk, if_true] at h0 h1
      grind
    · simp only [hk, if_false] at h0 h1
      grind
/-! ===== moves are applied as long as possible ===== -/
def o_clr (r : Nat → Int32) (p k : Nat) : Nat → Int32 := upd (upd r (514 + 124 * p + 2 * k) (-1)) (514 + 124 * p + 2 * k + 1) (-1)
def o_keep (r : Nat → Int32) (p m : Nat) : Nat → Int32 := if o_maker (m + 1) = p then upd r (12 + 7 * p + 6) (r (12 + 7 * p + 6) + 1) else r
def o_mad (r : Nat → Int32) (p : Nat) : Nat := (r (12 + 7 * p)).toNatClampNeg
def o_all (p n : Nat) : Nat → (Nat → Int32) → (Nat → Int32)
  | 0, r => r
  | k + 1, r =>
    if o_over r p n = true then r
    else if r (514 + 124 * p + 2 * (o_mad r p + 1)) = -1 then
      if o_due r p (o_mad r p) = true then
        o_all p n k (o_keep (o_apply (o_clr r p (o_mad r p + 1)) p (o_mad r p) (r (762 + 6 * (o_mad r p + 1) + 2)).toNatClampNeg (r (762 + 6 * (o_mad r p + 1) + 3)).toNatClampNeg) p (o_mad r p))
      else r
    else o_all p n k (o_apply (o_clr r p (o_mad r p + 1)) p (o_mad r p) (r (514 + 124 * p + 2 * (o_mad r p + 1))).toNatClampNeg (r (514 + 124 * p + 2 * (o_mad r p + 1) + 1)).toNatClampNeg)
theorem o_keep_at {r : Nat → Int32} {p m j : Nat} (h : j ≠ 12 + 7 * p + 6) : o_keep r p m j = r j := by
  unfold o_keep
  split
  · rw [u_k h]
  · rfl
theorem i_dk_step {r : Nat → Int32} {p n lim m f t : Nat} (hp : p < 2) (hm : r (12 + 7 * p) = Int32.ofNat m) (hml : m < lim) (hf : f < 64) (ht : t < 64) (h : i_dk r p n lim) : i_dk (o_apply (o_clr r p (m + 1)) p m f t) p n lim := by
  obtain ⟨h0, h8, h1, h60, -, hs, hpr⟩ := h
  refine ⟨?_, h8, ?_, h60, ⟨m + 1, o_apply_made, by omega⟩, ?_, ?_⟩
  · rw [o_apply_at (by omega) (by omega) (by omega) (by omega), o_clr, u_k (by omega), u_k (by omega)]; exact h0
  · rw [o_apply_at (by omega) (by omega) (by omega) (by omega), o_clr, u_k (by omega), u_k (by omega)]; exact h1
  · intro k hk
    by_cases hkm : k = m + 1
    · left
      subst hkm
      rw [o_apply_at (by omega) (by omega) (by omega) (by omega), o_clr, u_k (by omega), u_s]
    · rw [o_apply_at (by omega) (by omega) (by omega) (by omega), o_apply_at (j := 514 + 124 * p + 2 * k + 1) (by omega) (by omega) (by omega) (by omega), o_clr, u_k (by omega), u_k (by omega), u_k (by omega), u_k (by omega)]
      exact hs k hk
  · intro k hk
    have e : ∀ w, w < 6 → o_apply (o_clr r p (m + 1)) p m f t (762 + 6 * k + w) = r (762 + 6 * k + w) := fun w hw => by
      rw [o_apply_at (by omega) (by omega) (by omega) (by omega), o_clr, u_k (by omega), u_k (by omega)]
    have e0 : o_apply (o_clr r p (m + 1)) p m f t (762 + 6 * k) = r (762 + 6 * k) := e 0 (by omega)
    rw [i_pr, e0, e 1 (by omega), e 2 (by omega), e 3 (by omega), e 4 (by omega), e 5 (by omega)]
    exact hpr k hk
theorem i_dk_keep {r : Nat → Int32} {p n lim m : Nat} (hp : p < 2) (h : i_dk r p n lim) : i_dk (o_keep r p m) p n lim := by
  obtain ⟨h0, h8, h1, h60, ⟨m1, hm1, hm2⟩, hs, hpr⟩ := h
  refine ⟨?_, h8, ?_, h60, ⟨m1, ?_, hm2⟩, ?_, ?_⟩
  · rw [o_keep_at (by omega)]; exact h0
  · rw [o_keep_at (by omega)]; exact h1
  · rw [o_keep_at (by omega)]; exact hm1
  · intro k hk
    rw [o_keep_at (by omega), o_keep_at (by omega)]
    exact hs k hk
  · intro k hk
    have e : ∀ w, w < 6 → o_keep r p m (762 + 6 * k + w) = r (762 + 6 * k + w) := fun w hw => o_keep_at (by omega)
    have e0 : o_keep r p m (762 + 6 * k) = r (762 + 6 * k) := e 0 (by omega)
    rw [i_pr, e0, e 1 (by omega), e 2 (by omega), e 3 (by omega), e 4 (by omega), e 5 (by omega)]
    exact hpr k hk
theorem o_over_not {r : Nat → Int32} {p n : Nat} (h : ¬ o_over r p n = true) : r (12 + 7 * p) ≠ r 1 := by
  simp only [o_over, decide_eq_true_eq] at h
  exact fun q => h (Or.inr (Or.inr q))
theorem o_due_pr {r : Nat → Int32} {p n m : Nat} (hm : m < 62) (hpr : i_pro r n) (h : o_due r p m = true) : i_pr r n (m + 1) := by
  rcases hpr (m + 1) (by omega) with ⟨h4, h5⟩ | h9
  · simp only [o_due, decide_eq_true_eq] at h
    exfalso
    apply h.1
    split
    · exact h4
    · exact h5
  · exact h9
theorem c_appliesAll {g : ev_G} (a p n lim : Nat) (hp : p < 2) : ∀ (k : Nat) (S : ev_S), i_dk (S.1 (a + 1)) p n lim → lim < o_mad (S.1 (a + 1)) p + k → ∀ Q : ev_O → ev_S → Prop, Q (.inl none) (ev_ur S (a + 1) (o_all p n k (S.1 (a + 1)))) →
    ev_E g m_X10_appliesAll 4 0 2 [some (ev_o 10 a), some (ev_i (Int32.ofNat p)), some (ev_i 1), none, none, none] [] S Q := by
  intro k
  induction k with
  | zero =>
    intro S h hk
    obtain ⟨h0, h8, h1, h60, ⟨m, hm, hml⟩, hs, hpr⟩ := h
    unfold o_mad at hk
    rw [hm, n_c (by omega)] at hk
    omega
  | succ k ih =>
    intro S h hk Q hQ
    have hall := h
    obtain ⟨h0, h8, h1, h60, ⟨m, hm, hml⟩, hs, hpr⟩ := h
    have hmd : o_mad (S.1 (a + 1)) p = m := by unfold o_mad; rw [hm, n_c (by omega)]
    rw [hmd] at hk
    rw [o_all, hmd] at hQ
    refine sg_X10_appliesAll_2 a _ _ (j_neg (by decide) (c_overOn a p n hp h0 h8 _ ⟨_, rfl, ?_⟩))
    by_cases ho : o_over (S.1 (a + 1)) p n = true
    · refine j_pos ho ?_
      rw [if_pos ho, r_self] at hQ
      exact hQ
    · refine j_neg ho ?_
      rw [if_neg ho] at hQ
      have hlt : m < lim := by
        have := o_over_not ho
        rw [hm, h1, Ne, n_eq (by omega) (by omega)] at this
        omega
      simp (disch := omega) only [lm_2, lm_3, lm_6, lm_7, lm_11, lm_12, lm_15, lm_64, lm_124, lm_180, la_1, la_2, la_3, la_12, la_26, la_154, la_514, la_762, la_1140, la_1200, ra_0, ra_1, ra_2, ra_3, ra_4, ra_5, ra_6, ra_7, ra_8, ra_9, ra_10, ra_48, rm_12, rm_2, rm_64, rm_6, n_add, n_mul, n_d1, n_vp, n_c, true_and, hm]
      by_cases hst : S.1 (a + 1) (514 + 124 * p + 2 * (m + 1)) = -1
      · rw [if_pos hst] at hQ
        refine j_pos hst (c_isDue a p m hp (by omega) _ ⟨_, rfl, ?_⟩)
        by_cases hd : o_due (S.1 (a + 1)) p m = true
        · rw [if_pos hd] at hQ
          refine j_pos hd ?_
          have hpr1 := o_due_pr (by omega) hpr hd
          obtain ⟨ef, et, rf, rt, -, -, -, hrf9, hrt9, hne, -, -, e2, e3, -⟩ := hpr1
          have hn9 := sq_le h8
          have hrf : rf < 64 := by omega
          have hrt : rt < 64 := by omega
          rw [e2, e3, n_c (by omega), n_c (by omega)] at hQ
          simp (disch := omega) only [lm_2, lm_3, lm_6, lm_7, lm_11, lm_12, lm_15, lm_64, lm_124, lm_180, la_1, la_2, la_3, la_12, la_26, la_154, la_514, la_762, la_1140, la_1200, ra_0, ra_1, ra_2, ra_3, ra_4, ra_5, ra_6, ra_7, ra_8, ra_9, ra_10, ra_48, rm_12, rm_2, rm_64, rm_6, n_add, n_mul, n_d1, n_vp, n_c, true_and, forall_eq, m_u, r_s, r_rr, r_2, u_k, u_s, r_r, e2, e3]
          refine c_applies a p m rf rt hp (by rw [r_s, u_k (by omega), u_k (by omega)]; exact hm) (by omega) hrf hrt _ ⟨rfl, ?_⟩
          simp only [r_rr, r_s]
          have hst9 := i_dk_step (f := rf) (t := rt) hp hm hlt hrf hrt hall
          have hmk := o_maker_lt (m + 1)
          simp (disch := omega) only [c_maker, n_eq]
          by_cases hk9 : o_maker (m + 1) = p
          · refine j_pos hk9 ?_
            rw [o_keep, if_pos hk9] at hQ
            have e9 : i_dk (upd (o_apply (o_clr (S.1 (a + 1)) p (m + 1)) p m rf rt) (12 + 7 * p + 6) (o_apply (o_clr (S.1 (a + 1)) p (m + 1)) p m rf rt (12 + 7 * p + 6) + 1)) p n lim := by
              have := i_dk_keep (m := m) hp hst9
              rw [o_keep, if_pos hk9] at this
              exact this
            refine ih _ (by rw [r_s]; exact e9) ?_ _ ?_
            · unfold o_mad
              rw [r_s, u_k (by omega), ← o_clr, o_apply_made, n_c (by omega)]
              omega
            · rw [r_s, r_rr]; exact hQ
          · refine j_neg hk9 ?_
            rw [o_keep, if_neg hk9] at hQ
            refine ih _ (by rw [r_s]; exact hst9) ?_ _ ?_
            · unfold o_mad
              rw [r_s, ← o_clr, o_apply_made, n_c (by omega)]
              omega
            · rw [r_s, r_rr]; exact hQ
        · rw [if_neg hd, r_self] at hQ
          exact j_neg hd hQ
      · rw [if_neg hst] at hQ
        refine j_neg hst ?_
        rcases hs (m + 1) (by omega) with h9 | ⟨f, t, hf9, ht9, hft, ef, et⟩
        · exact absurd h9 hst
        · have hn9 := sq_le h8
          have hf : f < 64 := by omega
          have ht : t < 64 := by omega
          rw [ef, et, n_c (by omega), n_c (by omega)] at hQ
          simp (disch := omega) only [lm_2, lm_3, lm_6, lm_7, lm_11, lm_12, lm_15, lm_64, lm_124, lm_180, la_1, la_2, la_3, la_12, la_26, la_154, la_514, la_762, la_1140, la_1200, ra_0, ra_1, ra_2, ra_3, ra_4, ra_5, ra_6, ra_7, ra_8, ra_9, ra_10, ra_48, rm_12, rm_2, rm_64, rm_6, n_add, n_mul, n_d1, n_vp, n_c, true_and, forall_eq, m_u, r_s, r_rr, r_2, u_k, u_s, r_r, ef, et]
          refine c_applies a p m f t hp (by rw [r_s, u_k (by omega), u_k (by omega)]; exact hm) (by omega) hf ht _ ⟨rfl, ?_⟩
          simp only [r_rr, r_s]
          have hst9 := i_dk_step (f := f) (t := t) hp hm hlt hf ht hall
          refine ih _ (by rw [r_s]; exact hst9) ?_ _ ?_
          · unfold o_mad
            rw [r_s, ← o_clr, o_apply_made, n_c (by omega)]
            omega
          · rw [r_s, r_rr]; exact hQ
theorem c_all {g : ev_G} {S : ev_S} (a p n lim : Nat) (hp : p < 2) (h : i_dk (S.1 (a + 1)) p n lim) :
    ev_Fn g m_X10_appliesAll 4 [ev_o 10 a, ev_i (Int32.ofNat p)] S none (ev_ur S (a + 1) (o_all p n 61 (S.1 (a + 1)))) := by
  intro Q hQ
  refine sg_X10_appliesAll_0 a _ (c_appliesAll a p n lim hp 61 S h ?_ Q hQ)
  have := h.2.2.2.1
  omega
