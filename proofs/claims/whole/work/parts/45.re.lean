/-! ===== the reference: what reading a letter touches; arrivals ===== -/
/-- places of player p's own things -/
def o_own (p j : Nat) : Prop := (154 + 180 * p ≤ j ∧ j < 334 + 180 * p) ∨ (26 + 64 * p ≤ j ∧ j < 90 + 64 * p) ∨ (12 + 7 * p ≤ j ∧ j < 19 + 7 * p) ∨ (514 + 124 * p ≤ j ∧ j < 638 + 124 * p)
theorem o_apply_own {r : Nat → Int32} {p m f t j : Nat} (hm : m < 60) (hf : f < 64) (ht : t < 64) (h : ¬ o_own p j) : o_apply r p m f t j = r j := by
  unfold o_own at h
  exact o_apply_at (by omega) (by omega) (by omega) (by omega)
theorem o_clr_own {r : Nat → Int32} {p k j : Nat} (hk : k ≤ 61) (h : ¬ o_own p j) : o_clr r p k j = r j := by
  unfold o_own at h
  rw [o_clr, u_k (by omega), u_k (by omega)]
theorem o_keep_own {r : Nat → Int32} {p m j : Nat} (h : ¬ o_own p j) : o_keep r p m j = r j := by
  unfold o_own at h
  exact o_keep_at (by omega)
theorem o_all_own {p n lim : Nat} (hp : p < 2) : ∀ (k : Nat) (r : Nat → Int32), i_dk r p n lim → i_dk (o_all p n k r) p n lim ∧ ∀ j, ¬ o_own p j → o_all p n k r j = r j := by
  intro k
  induction k with
  | zero => intro r h; exact ⟨h, fun j _ => rfl⟩
  | succ k ih =>
    intro r h
    have hall := h
    obtain ⟨h0, h8, h1, h60, ⟨m, hm, hml⟩, hs, hpr⟩ := h
    have hmd : o_mad r p = m := by unfold o_mad; rw [hm, n_c (by omega)]
    rw [o_all, hmd]
    by_cases ho : o_over r p n = true
    · rw [if_pos ho]
      exact ⟨hall, fun j _ => rfl⟩
    · rw [if_neg ho]
      have hlt : m < lim := by
        have := o_over_not ho
        rw [hm, h1, Ne, n_eq (by omega) (by omega)] at this
        omega
      by_cases hst : r (514 + 124 * p + 2 * (m + 1)) = -1
      · rw [if_pos hst]
        by_cases hd : o_due r p m = true
        · rw [if_pos hd]
          obtain ⟨ef, et, rf, rt, -, -, -, hrf9, hrt9, hne, -, -, e2, e3, -⟩ := o_due_pr (by omega) hpr hd
          have hn9 := sq_le h8
          have hrf : rf < 64 := by omega
          have hrt : rt < 64 := by omega
          rw [e2, e3, n_c (by omega), n_c (by omega)]
          obtain ⟨a1, a2⟩ := ih _ (i_dk_keep (m := m) hp (i_dk_step (f := rf) (t := rt) hp hm hlt hrf hrt hall))
          refine ⟨a1, fun j hj => ?_⟩
          rw [a2 j hj, o_keep_own hj, o_apply_own (by omega) hrf hrt hj, o_clr_own (by omega) hj]
        · rw [if_neg hd]
          exact ⟨hall, fun j _ => rfl⟩
      · rw [if_neg hst]
        rcases hs (m + 1) (by omega) with h9 | ⟨f, t, hf9, ht9, hft, ef, et⟩
        · exact absurd h9 hst
        · have hn9 := sq_le h8
          have hf : f < 64 := by omega
          have ht : t < 64 := by omega
          rw [ef, et, n_c (by omega), n_c (by omega)]
          obtain ⟨a1, a2⟩ := ih _ (i_dk_step (f := f) (t := t) hp hm hlt hf ht hall)
          refine ⟨a1, fun j hj => ?_⟩
          rw [a2 j hj, o_apply_own (by omega) hf ht hj, o_clr_own (by omega) hj]
theorem i_dk_other {r r' : Nat → Int32} {p n lim : Nat} (hp : p < 2) (h : i_dk r (1 - p) n lim) (he : ∀ j, ¬ o_own p j → r' j = r j) : i_dk r' (1 - p) n lim := by
  obtain ⟨h0, h8, h1, h60, ⟨m, hm, hml⟩, hs, hpr⟩ := h
  have e : ∀ j, ¬ o_own p j → r' j = r j := he
  unfold o_own at e
  refine ⟨by rw [e _ (by omega)]; exact h0, h8, by rw [e _ (by omega)]; exact h1, h60, ⟨m, by rw [e _ (by omega)]; exact hm, hml⟩, ?_, ?_⟩
  · intro k hk
    rw [e _ (by omega), e _ (by omega)]
    exact hs k hk
  · intro k hk
    rw [i_pr, e _ (by omega), e _ (by omega), e _ (by omega), e _ (by omega), e _ (by omega), e _ (by omega)]
    exact hpr k hk
/-- rows that differ only where the two desks' rows do not lie keep a desk -/
theorem i_dk_same {r r' : Nat → Int32} {p n lim : Nat} (hp : p < 2) (h : i_dk r p n lim) (he : ∀ j, j < 2 ∨ (12 ≤ j ∧ j < 1140) → r' j = r j) : i_dk r' p n lim := by
  obtain ⟨h0, h8, h1, h60, ⟨m, hm, hml⟩, hs, hpr⟩ := h
  refine ⟨by rw [he _ (by omega)]; exact h0, h8, by rw [he _ (by omega)]; exact h1, h60, ⟨m, by rw [he _ (by omega)]; exact hm, hml⟩, ?_, ?_⟩
  · intro k hk
    rw [he _ (by omega), he _ (by omega)]
    exact hs k hk
  · intro k hk
    rw [i_pr, he _ (by omega), he _ (by omega), he _ (by omega), he _ (by omega), he _ (by omega), he _ (by omega)]
    exact hpr k hk
theorem i_let_same {r r' : Nat → Int32} {n l b q k : Nat} (h : i_let r n l b q k) (he : ∀ j, (1200 + 11 * l ≤ j ∧ j ≤ 1200 + 11 * l + 5) ∨ (762 ≤ j ∧ j < 1140) → r' j = r j) : i_let r' n l b q k := by
  obtain ⟨hb, hq, hk1, hk, eb, eq, ek, f, t, hf, ht, hft, ef, et, hi⟩ := h
  refine ⟨hb, hq, hk1, hk, by rw [he _ (by omega)]; exact eb, by rw [he _ (by omega)]; exact eq, by rw [he _ (by omega)]; exact ek, f, t, hf, ht, hft, by rw [he _ (by omega)]; exact ef, by rw [he _ (by omega)]; exact et, ?_⟩
  rw [i_pr, he _ (by omega), he _ (by omega), he _ (by omega), he _ (by omega), he _ (by omega), he _ (by omega), he _ (by omega)]
  exact hi
/-- a letter reaches its side: the post's part -/
def o_arr (r : Nat → Int32) (l b q : Nat) : Nat → Int32 :=
  upd (upd (upd (upd (upd r (1200 + 11 * l + 6) 2) (1200 + 11 * l + 10) (r 2)) (1140 + 15 * q + (1 + (1 - b))) (r (1140 + 15 * q + (1 + (1 - b))) + 1)) 7 (r 7 + (r 2 - r (1200 + 11 * l + 7)))) 8 (r 8 + 1)
theorem o_arr_at {r : Nat → Int32} {l b q j : Nat} (h : j ≠ 1200 + 11 * l + 6) (h1 : j ≠ 1200 + 11 * l + 10) (h2 : j ≠ 1140 + 15 * q + (1 + (1 - b))) (h3 : j ≠ 7) (h4 : j ≠ 8) : o_arr r l b q j = r j := by
  rw [o_arr, u_k h4, u_k h3, u_k h2, u_k h1, u_k h]
def o_come (r : Nat → Int32) (n l b q : Nat) (blk : Int32) : Nat → Int32 := if Int32.ofNat l = blk then o_arr r l b q else o_read (o_arr r l b q) n l
theorem c_arrives {g : ev_G} {S : ev_S} (a n lim l b q k : Nat) (hl : l ≤ 80) (hb : b < 2) (hq : q < 4) (eb : S.1 (a + 1) (1200 + 11 * l) = Int32.ofNat b) (eq : S.1 (a + 1) (1200 + 11 * l + 1) = Int32.ofNat q)
    (hL : ¬ Int32.ofNat l = S.1 a 8 → i_let (S.1 (a + 1)) n l b q k ∧ i_dk (S.1 (a + 1)) (1 - b) n lim) :
    ev_Fn g m_X10_arrives 6 [ev_o 10 a, ev_i (Int32.ofNat l)] S none (ev_ur S (a + 1) (o_come (S.1 (a + 1)) n l b q (S.1 a 8))) := by
  intro Q hQ
  refine sg_X10_arrives_0 a _ ?_
  unfold o_come at hQ
  simp (disch := omega) only [lm_2, lm_3, lm_6, lm_7, lm_11, lm_12, lm_15, lm_64, lm_124, lm_180, la_1, la_2, la_3, la_12, la_26, la_154, la_514, la_762, la_1140, la_1200, ra_0, ra_1, ra_2, ra_3, ra_4, ra_5, ra_6, ra_7, ra_8, ra_9, ra_10, ra_48, rm_12, rm_2, rm_64, rm_6, n_add, n_mul, n_d1, n_vp, n_c, true_and, forall_eq, m_u, r_s, r_rr, r_2, u_k, u_s, r_r, eb, eq, n_1s]
  by_cases h : Int32.ofNat l = S.1 a 8
  · rw [if_pos h] at hQ
    exact j_pos h hQ
  · rw [if_neg h] at hQ
    refine j_neg h ?_
    obtain ⟨h1, h2⟩ := hL h
    refine c_isRead a n lim l b q k hl ?_ ?_ _ ⟨rfl, ?_⟩
    · rw [r_s]
      exact i_let_same h1 (fun j hj => by rw [u_k (by omega), u_k (by omega), u_k (by omega), u_k (by omega), u_k (by omega)])
    · rw [r_s]
      exact i_dk_same (by omega) h2 (fun j hj => by rw [u_k (by omega), u_k (by omega), u_k (by omega), u_k (by omega), u_k (by omega)])
    · rw [r_s, r_rr]
      exact hQ
def o_goes (r : Nat → Int32) (n d l b q : Nat) (blk : Int32) : Nat → Int32 :=
  if r (1140 + 15 * q + (3 + d / 30 % 12)) = 9 then r
  else if r (1200 + 11 * l + 9) - 1 = 0 then o_come (upd r (1200 + 11 * l + 9) (r (1200 + 11 * l + 9) - 1)) n l b q blk
  else upd r (1200 + 11 * l + 9) (r (1200 + 11 * l + 9) - 1)
theorem c_goesOn {g : ev_G} {S : ev_S} (a n lim d l b q k : Nat) (hl : l ≤ 80) (hb : b < 2) (hq : q < 4) (hd : d < 2147483648) (ed : S.1 (a + 1) 2 = Int32.ofNat d) (eb : S.1 (a + 1) (1200 + 11 * l) = Int32.ofNat b) (eq : S.1 (a + 1) (1200 + 11 * l + 1) = Int32.ofNat q)
    (hL : ¬ Int32.ofNat l = S.1 a 8 → i_let (S.1 (a + 1)) n l b q k ∧ i_dk (S.1 (a + 1)) (1 - b) n lim) :
    ev_Fn g m_X10_goesOn 7 [ev_o 10 a, ev_i (Int32.ofNat l)] S none (ev_ur S (a + 1) (o_goes (S.1 (a + 1)) n d l b q (S.1 a 8))) := by
  intro Q hQ
  refine sg_X10_goesOn_0 a _ ?_
  unfold o_goes at hQ
  simp (disch := omega) only [lm_2, lm_3, lm_6, lm_7, lm_11, lm_12, lm_15, lm_64, lm_124, lm_180, la_1, la_2, la_3, la_12, la_26, la_154, la_514, la_762, la_1140, la_1200, ra_0, ra_1, ra_2, ra_3, ra_4, ra_5, ra_6, ra_7, ra_8, ra_9, ra_10, ra_48, rm_12, rm_2, rm_64, rm_6, n_add, n_mul, n_d1, n_vp, n_c, true_and, forall_eq, m_u, r_s, r_rr, r_2, u_k, u_s, r_r, eq, ed, n_dv30, n_rm12, c_closed hq hd ed]
  by_cases h : S.1 (a + 1) (1140 + 15 * q + (3 + d / 30 % 12)) = 9
  · rw [if_pos h, r_self] at hQ
    exact j_pos h hQ
  · rw [if_neg h] at hQ
    refine j_neg h ?_
    by_cases h1 : S.1 (a + 1) (1200 + 11 * l + 9) - 1 = 0
    · rw [if_pos h1] at hQ
      refine j_pos h1 ?_
      have e8 : (ev_ur S (a + 1) (upd (S.1 (a + 1)) (1200 + 11 * l + 9) (S.1 (a + 1) (1200 + 11 * l + 9) - 1))).1 a 8 = S.1 a 8 := by rw [r_r (by omega)]
      refine c_arrives a n lim l b q k hl hb hq (by rw [r_s, u_k (by omega)]; exact eb) (by rw [r_s, u_k (by omega)]; exact eq) (fun h9 => ?_) _ ⟨rfl, ?_⟩
      · rw [e8] at h9
        rw [r_s]
        obtain ⟨h2, h3⟩ := hL h9
        exact ⟨i_let_same h2 (fun j hj => u_k (by omega)), i_dk_same (by omega) h3 (fun j hj => u_k (by omega))⟩
      · rw [e8, r_s, r_rr]
        exact hQ
    · rw [if_neg h1] at hQ
      exact j_neg h1 hQ
