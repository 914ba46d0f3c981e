/-! ===== the reference: a move, as asked ===== -/
theorem c_moving {g : ev_G} {S : ev_S} (a n lim np L d u : Nat) (x0 x1 x2 x3 : Int32) {ρ : List Nat} (h7 : S.1 a 7 = 0) (hu : u ≤ 8) (h6 : S.1 a 6 = Int32.ofNat u) (hi : IG (S.1 (a + 1)) n lim np L d ρ) (hL : L ≤ 80) (hn4 : 4 ≤ n) {Q : ev_O → ev_S → Prop}
    (q1 : ¬ ((∃ p, x0 = Int32.ofNat p ∧ p < 2) ∧ (∃ f, x1 = Int32.ofNat f ∧ f < n * n) ∧ (∃ t, x2 = Int32.ofNat t ∧ t < n * n) ∧ ∃ q, x3 = Int32.ofNat q ∧ q < np) → Q (.inl (some (ev_i 0))) (ev_up S a 7 1))
    (q2 : ∀ p f t q, x0 = Int32.ofNat p → p < 2 → x1 = Int32.ofNat f → f < n * n → x2 = Int32.ofNat t → t < n * n → x3 = Int32.ofNat q → q < np → ¬ (o_turn (S.1 (a + 1)) p n (o_mad (S.1 (a + 1)) p) = true ∧ L < 80) → Q (.inl (some (ev_i 0))) (ev_up S a 7 2))
    (q3 : ∀ p f t q, x0 = Int32.ofNat p → p < 2 → x1 = Int32.ofNat f → f < n * n → x2 = Int32.ofNat t → t < n * n → x3 = Int32.ofNat q → q < np → (o_turn (S.1 (a + 1)) p n (o_mad (S.1 (a + 1)) p) = true ∧ L < 80) → ¬ o_moves (S.1 (a + 1)) p n (Int32.ofNat p) f t = true → Q (.inl (some (ev_i 0))) (ev_up S a 7 3))
    (q4 : ∀ p f t q, x0 = Int32.ofNat p → p < 2 → x1 = Int32.ofNat f → f < n * n → x2 = Int32.ofNat t → t < n * n → x3 = Int32.ofNat q → q < np → (o_turn (S.1 (a + 1)) p n (o_mad (S.1 (a + 1)) p) = true ∧ L < 80) → o_moves (S.1 (a + 1)) p n (Int32.ofNat p) f t = true → Q (.inl (some (ev_i (Int32.ofNat (o_mad (S.1 (a + 1)) p + 1))))) (ev_ur (o_chg S a u) (a + 1) (o_move (S.1 (a + 1)) n p (o_mad (S.1 (a + 1)) p) f t q L))) :
    ev_Cv g m_X10_moving 5 0 [ev_o 10 a, ev_i x0, ev_i x1, ev_i x2, ev_i x3] S Q := by
  have hnp := hi.1.2.2.2.1
  have e3 := hi.1.2.2.1
  have e4 := hi.1.2.2.2.2.1
  have h8 := hi.1.1.2.1
  have hn9 := sq_le h8
  have hn0 : S.1 (a + 1) 0 = Int32.ofNat n := hi.1.1.1
  have e80 : (80 : Int32) = Int32.ofNat 80 := rfl
  have hi0 : (t_X10_in x0 0 1 = true) = ∃ p, x0 = Int32.ofNat p ∧ p < 2 := by rw [n_in01]; exact propext n_bit
  have hi1 : (t_X10_in x1 0 (S.1 (a + 1) 0 * S.1 (a + 1) 0 - 1) = true) = ∃ f, x1 = Int32.ofNat f ∧ f < n * n := by rw [n_in, hn0, n_mul]; exact propext (n_rng (by omega))
  have hi2 : (t_X10_in x2 0 (S.1 (a + 1) 0 * S.1 (a + 1) 0 - 1) = true) = ∃ f, x2 = Int32.ofNat f ∧ f < n * n := by rw [n_in, hn0, n_mul]; exact propext (n_rng (by omega))
  have hi3 : (t_X10_in x3 0 (S.1 (a + 1) 3 - 1) = true) = ∃ q, x3 = Int32.ofNat q ∧ q < np := by rw [n_in, e3]; exact propext (n_rng (by omega))
  refine sg_X10_moving_0 a x0 x1 x2 x3 ?_
  rw [hi0, hi1, hi2, hi3]
  refine ⟨fun y0 => ⟨fun y1 => ⟨fun y2 => ⟨fun y3 => j_pos h7 ?_, fun y3 => j_pos h7 (fun T eT => by rw [eT]; exact q1 (fun q => y3 q.2.2.2))⟩, fun y2 => j_pos h7 (fun T eT => by rw [eT]; exact q1 (fun q => y2 q.2.2.1))⟩, fun y1 => j_pos h7 (fun T eT => by rw [eT]; exact q1 (fun q => y1 q.2.1))⟩, fun y0 => j_pos h7 (fun T eT => by rw [eT]; exact q1 (fun q => y0 q.1))⟩
  obtain ⟨p, hp, hp2⟩ := y0
  obtain ⟨f, hf, hf2⟩ := y1
  obtain ⟨t, ht, ht2⟩ := y2
  obtain ⟨q, hq, hq2⟩ := y3
  have q2 := q2 p f t q hp hp2 hf hf2 ht ht2 hq hq2
  have q3 := q3 p f t q hp hp2 hf hf2 ht ht2 hq hq2
  have q4 := q4 p f t q hp hp2 hf hf2 ht ht2 hq hq2
  have hd := i_dk_of hi.1 hp2
  have hd' := hd
  obtain ⟨-, -, h1, h60, ⟨m, hm, hml⟩, -⟩ := hd'
  have hmd : o_mad (S.1 (a + 1)) p = m := by unfold o_mad; rw [hm, n_c (by omega)]
  rw [hmd] at q2 q3 q4
  rw [hp, hf, ht, hq]
  refine c_turnOf a p n m hp2 hn0 h8 hm (by omega) _ ⟨o_turn (S.1 (a + 1)) p n m, rfl, fun hT => ?_, fun hT => j_pos h7 (fun T eT => by rw [eT]; exact q2 (fun q => hT q.1))⟩
  rw [e4, e80, n_le (by omega) (by omega)]
  refine ⟨fun h9 => j_pos h7 (fun T eT => by rw [eT]; exact q2 (fun q => by have := q.2; omega)), fun h9 => j_pos h7 ?_⟩
  refine c_moves a p n f t (Int32.ofNat p) hp2 hn0 hn4 h8 (by omega) (by omega) _ ⟨o_moves (S.1 (a + 1)) p n (Int32.ofNat p) f t, rfl, fun hM => j_pos h7 ?_, fun hM => j_pos h7 (fun T eT => by rw [eT]; exact q3 ⟨hT, by omega⟩ hM)⟩
  refine c_changes a u hu h6 _ ⟨rfl, ?_⟩
  have hr : (o_chg S a u).1 (a + 1) = S.1 (a + 1) := o_chg_r (by omega) (by omega)
  have hov : ¬ o_over (S.1 (a + 1)) p n = true := by
    intro hh
    unfold o_turn at hT
    rw [hh] at hT
    exact absurd hT (by simp)
  have hmlt : m < lim := by
    have := o_over_not hov
    rw [hm, h1, Ne, n_eq (by omega) (by omega)] at this
    omega
  simp (disch := omega) only [lm_2, lm_3, lm_6, lm_7, lm_11, lm_12, lm_15, lm_64, lm_124, lm_180, la_1, la_2, la_3, la_12, la_26, la_154, la_514, la_762, la_1140, la_1200, ra_0, ra_1, ra_2, ra_3, ra_4, ra_5, ra_6, ra_7, ra_8, ra_9, ra_10, ra_48, rm_12, rm_2, rm_64, rm_6, n_add, n_mul, n_d1, n_vp, n_c, true_and]
  rw [hr, hm, n_inc]
  refine c_applies a p m f t hp2 (by rw [hr]; exact hm) (by omega) (by omega) (by omega) _ ⟨rfl, ?_⟩
  rw [hr]
  have e4' : o_apply (S.1 (a + 1)) p m f t 4 = Int32.ofNat L := by rw [o_apply_own (by omega) (by omega) (by omega) (fun hh => by unfold o_own at hh; omega)]; exact e4
  refine c_posts a L _ _ 0 _ _ _ (Or.inl rfl) (by rw [r_s]; exact e4') hL _ ⟨_, rfl, ?_⟩
  rw [r_s, r_rr]
  refine c_all a p n lim hp2 (by rw [r_s]; exact i_dk_same hp2 (i_dk_mine hp2 hm hmlt (by omega) (by omega) hd) (fun j hj => o_post_at (by omega) (by omega))) _ ⟨rfl, ?_⟩
  rw [r_s, r_rr]
  exact q4 ⟨hT, by omega⟩ hM
