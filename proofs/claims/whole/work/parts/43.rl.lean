/-! ===== the reference: letters and days ===== -/
theorem n_divc {d c : Nat} (hd : d < 2147483648) (hc : 0 < c) (hc2 : c < 2147483648) : Int32.ofNat d / Int32.ofNat c = Int32.ofNat (d / c) := by
  have h1 : d / c ≤ d := Nat.div_le_self d c
  rw [z_eq, z_div (by rw [n_i hc2]; omega), n_i hd, n_i hc2, n_i (by omega)]
  rfl
theorem n_remc {d c : Nat} (hd : d < 2147483648) (hc : 0 < c) (hc2 : c < 2147483648) : ev_rem (Int32.ofNat d) (Int32.ofNat c) = Int32.ofNat (d % c) := by
  have h1 := Nat.div_add_mod' d c
  unfold ev_rem
  rw [n_divc hd hc hc2, n_mul, n_sub _ _ (by omega)]
  congr 1
  omega
theorem n_dv30 {d : Nat} (hd : d < 2147483648) : Int32.ofNat d / 30 = Int32.ofNat (d / 30) := n_divc hd (by decide) (by decide)
theorem n_rm12 {d : Nat} (hd : d < 2147483648) : ev_rem (Int32.ofNat d) 12 = Int32.ofNat (d % 12) := n_remc hd (by decide) (by decide)
theorem c_closed {S : ev_S} {a q d : Nat} (hq : q < 4) (hd : d < 2147483648) (h2 : S.1 (a + 1) 2 = Int32.ofNat d) : (t_X10_isClosed S a (Int32.ofNat q) = true) = (S.1 (a + 1) (1140 + 15 * q + (3 + d / 30 % 12)) = 9) := by
  unfold t_X10_isClosed
  simp (disch := omega) only [lm_2, lm_3, lm_6, lm_7, lm_11, lm_12, lm_15, lm_64, lm_124, lm_180, la_1, la_2, la_3, la_12, la_26, la_154, la_514, la_762, la_1140, la_1200, ra_0, ra_1, ra_2, ra_3, ra_4, ra_5, ra_6, ra_7, ra_8, ra_9, ra_10, ra_48, rm_12, rm_2, rm_64, rm_6, n_add, n_mul, n_d1, n_vp, n_c, true_and, h2, n_dv30, n_rm12]
  split
  · next h => simp [h]
  · next h => simp [h]
/-- a letter is posted -/
def o_post (r : Nat → Int32) (l : Nat) (x0 x1 x2 x3 x4 x5 : Int32) : Nat → Int32 :=
  upd (upd (upd (upd (upd (upd (upd (upd (upd r (1200 + 11 * l) x0) (1200 + 11 * l + 1) x1) (1200 + 11 * l + 2) x2) (1200 + 11 * l + 3) x3) (1200 + 11 * l + 4) x4) (1200 + 11 * l + 5) x5) (1200 + 11 * l + 6) 0) (1200 + 11 * l + 7) (r 2)) 4 (Int32.ofNat (l + 1))
theorem c_posts {g : ev_G} {S : ev_S} (a l : Nat) (x0 x1 x2 x3 x4 x5 : Int32) (hx : x2 = 0 ∨ x2 = 1) (hl : S.1 (a + 1) 4 = Int32.ofNat l) (hl2 : l ≤ 80) :
    ev_Fn g m_X10_posts 2 [ev_o 10 a, ev_i x0, ev_i x1, ev_i x2, ev_i x3, ev_i x4, ev_i x5] S (some (ev_i (Int32.ofNat l))) (ev_ur S (a + 1) (o_post (S.1 (a + 1)) l x0 x1 x2 x3 x4 x5)) := by
  intro Q hQ
  refine sg_X10_posts_0 a x0 x1 x2 x3 x4 x5 ?_
  unfold o_post at hQ
  simp (disch := omega) only [lm_2, lm_3, lm_6, lm_7, lm_11, lm_12, lm_15, lm_64, lm_124, lm_180, la_1, la_2, la_3, la_12, la_26, la_154, la_514, la_762, la_1140, la_1200, ra_0, ra_1, ra_2, ra_3, ra_4, ra_5, ra_6, ra_7, ra_8, ra_9, ra_10, ra_48, rm_12, rm_2, rm_64, rm_6, n_add, n_mul, n_d1, n_vp, n_c, true_and, forall_eq, m_u, r_s, r_rr, r_2, u_k, u_s, r_r, hl]
  rcases hx with rfl | rfl
  · exact j_pos rfl hQ
  · exact j_neg (by decide) hQ
/-- the least index below n with f, or n -/
def fnd (f : Nat → Bool) : Nat → Nat
  | 0 => 0
  | n + 1 => if fnd f n < n then fnd f n else if f n = true then n else n + 1
theorem fnd_le (f : Nat → Bool) : ∀ n, fnd f n ≤ n := by
  intro n
  induction n with
  | zero => exact Nat.le_refl _
  | succ n ih => simp only [fnd]; split
                 · omega
                 · split <;> omega
theorem fnd_none {f : Nat → Bool} : ∀ n, (∀ i, i < n → ¬ f i = true) → fnd f n = n := by
  intro n
  induction n with
  | zero => intro _; rfl
  | succ n ih =>
    intro h
    simp only [fnd]
    rw [ih (fun i hi => h i (by omega)), if_neg (by omega), if_neg (h n (by omega))]
theorem fnd_some {f : Nat → Bool} {k : Nat} (hk : f k = true) (hm : ∀ i, i < k → ¬ f i = true) : ∀ n, k < n → fnd f n = k := by
  intro n
  induction n with
  | zero => intro h; omega
  | succ n ih =>
    intro h
    simp only [fnd]
    by_cases hkn : k < n
    · rw [ih hkn, if_pos hkn]
    · rw [show k = n by omega] at hk hm ⊢
      rw [fnd_none n hm, if_neg (by omega), if_pos hk]
theorem fnd_spec (f : Nat → Bool) : ∀ n, (fnd f n < n → f (fnd f n) = true) ∧ ∀ i, i < fnd f n → ¬ f i = true := by
  intro n
  induction n with
  | zero => exact ⟨fun h => absurd h (Nat.lt_irrefl _), fun i h => absurd h (Nat.not_lt_zero _)⟩
  | succ n ih =>
    have hle := fnd_le f n
    simp only [fnd]
    split
    · next h => exact ⟨fun _ => ih.1 h, ih.2⟩
    · next h =>
      have e : fnd f n = n := by omega
      rw [e] at ih
      split
      · next h1 => exact ⟨fun _ => h1, ih.2⟩
      · next h1 =>
        refine ⟨fun h2 => absurd h2 (Nat.lt_irrefl _), fun i hi => ?_⟩
        by_cases hin : i = n
        · rw [hin]; exact h1
        · exact ih.2 i (by omega)
/-- an index, or none of n -/
def o_ix (n k : Nat) : Int32 := if k < n then Int32.ofNat k else -1
def o_wt (r : Nat → Int32) (q d l : Nat) : Bool := decide (r (1200 + 11 * l + 6) = 0 ∧ r (1200 + 11 * l + 1) = Int32.ofNat q ∧ r (1200 + 11 * l) = Int32.ofNat d)
theorem c_first {g : ev_G} {S : ev_S} (a l q d : Nat) (hl : S.1 (a + 1) 4 = Int32.ofNat l) (hl2 : l ≤ 81) :
    ev_Fn g m_X10_firstInQueue 2 [ev_o 10 a, ev_i (Int32.ofNat q), ev_i (Int32.ofNat d)] S (some (ev_i (o_ix l (fnd (o_wt (S.1 (a + 1)) q d) l)))) S := by
  intro Q hQ
  refine sg_X10_firstInQueue_0 a _ _ ?_
  have key := dn (n := l) (P := fun i => (∀ j, j < i → ¬ o_wt (S.1 (a + 1)) q d j = true) → ev_E g m_X10_firstInQueue 2 0 2 [some (ev_o 10 a), some (ev_i (Int32.ofNat q)), some (ev_i (Int32.ofNat d)), some (ev_i (Int32.ofNat i))] [] S Q) ?_ ?_ 0 (Nat.zero_le _)
  · exact key (fun j hj => absurd hj (Nat.not_lt_zero _))
  · intro hn
    refine sg_X10_firstInQueue_2 a _ _ _ (j_pos (by rw [hl]; exact Int32.le_refl _) ?_)
    rw [fnd_none l hn, o_ix, if_neg (Nat.lt_irrefl _)] at hQ
    exact hQ
  · intro i hi ih hn
    refine sg_X10_firstInQueue_2 a _ _ _ (j_neg (by rw [hl, n_le (by omega) (by omega)]; omega) ?_)
    have h1 : o_wt (S.1 (a + 1)) q d i = true → Q (.inl (some (ev_i (Int32.ofNat i)))) S := by
      intro h
      rw [fnd_some h hn l hi, o_ix, if_pos hi] at hQ
      exact hQ
    have h0 : ¬ o_wt (S.1 (a + 1)) q d i = true → ev_E g m_X10_firstInQueue 2 0 2 [some (ev_o 10 a), some (ev_i (Int32.ofNat q)), some (ev_i (Int32.ofNat d)), some (ev_i (Int32.ofNat (i + 1)))] [] S Q := by
      intro h
      refine ih (fun j hj => ?_)
      by_cases hji : j = i
      · rw [hji]; exact h
      · exact hn j (by omega)
    simp only [o_wt, decide_eq_true_eq] at h0 h1
    simp (disch := omega) only [lm_2, lm_3, lm_6, lm_7, lm_11, lm_12, lm_15, lm_64, lm_124, lm_180, la_1, la_2, la_3, la_12, la_26, la_154, la_514, la_762, la_1140, la_1200, ra_0, ra_1, ra_2, ra_3, ra_4, ra_5, ra_6, ra_7, ra_8, ra_9, ra_10, ra_48, rm_12, rm_2, rm_64, rm_6, n_add, n_mul, n_d1, n_vp, n_c, true_and]
    clear hQ ih hn
    grind
theorem c_queued {g : ev_G} {S : ev_S} (a l q d : Nat) (hl : S.1 (a + 1) 4 = Int32.ofNat l) (hl2 : l ≤ 81) :
    ev_Fn g m_X10_queued 2 [ev_o 10 a, ev_i (Int32.ofNat q), ev_i (Int32.ofNat d)] S (some (ev_i (Int32.ofNat (cnt (o_wt (S.1 (a + 1)) q d) l)))) S := by
  intro Q hQ
  refine sg_X10_queued_0 a _ _ ?_
  have key := dn (n := l) (P := fun i => ev_E g m_X10_queued 2 0 5 [some (ev_o 10 a), some (ev_i (Int32.ofNat q)), some (ev_i (Int32.ofNat d)), some (ev_i (Int32.ofNat (cnt (o_wt (S.1 (a + 1)) q d) i))), some (ev_i (Int32.ofNat i))] [] S Q) ?_ ?_ 0 (Nat.zero_le _)
  · exact key
  · exact sg_X10_queued_5 a _ _ _ _ (j_pos (by rw [hl]; exact Int32.le_refl _) hQ)
  · intro i hi ih
    refine sg_X10_queued_5 a _ _ _ _ (j_neg (by rw [hl, n_le (by omega) (by omega)]; omega) ?_)
    have h1 : o_wt (S.1 (a + 1)) q d i = true → ev_E g m_X10_queued 2 0 5 [some (ev_o 10 a), some (ev_i (Int32.ofNat q)), some (ev_i (Int32.ofNat d)), some (ev_i (Int32.ofNat (cnt (o_wt (S.1 (a + 1)) q d) i + 1))), some (ev_i (Int32.ofNat (i + 1)))] [] S Q := by
      intro h; rw [← cnt_t h]; exact ih
    have h0 : ¬ o_wt (S.1 (a + 1)) q d i = true → ev_E g m_X10_queued 2 0 5 [some (ev_o 10 a), some (ev_i (Int32.ofNat q)), some (ev_i (Int32.ofNat d)), some (ev_i (Int32.ofNat (cnt (o_wt (S.1 (a + 1)) q d) i))), some (ev_i (Int32.ofNat (i + 1)))] [] S Q := by
      intro h; rw [← cnt_f h]; exact ih
    generalize cnt (o_wt (S.1 (a + 1)) q d) i = c at h0 h1 ⊢
    simp only [o_wt, decide_eq_true_eq] at h0 h1
    simp (disch := omega) only [lm_2, lm_3, lm_6, lm_7, lm_11, lm_12, lm_15, lm_64, lm_124, lm_180, la_1, la_2, la_3, la_12, la_26, la_154, la_514, la_762, la_1140, la_1200, ra_0, ra_1, ra_2, ra_3, ra_4, ra_5, ra_6, ra_7, ra_8, ra_9, ra_10, ra_48, rm_12, rm_2, rm_64, rm_6, n_add, n_mul, n_d1, n_vp, n_c, true_and]
    clear hQ ih
    grind
/-- the best letter under way behind a departure -/
def o_nu (r : Nat → Int32) (dep : Int32) : Nat → Int32
  | 0 => -1
  | i + 1 =>
    if r (1200 + 11 * i + 6) = 1 then
      if r (1200 + 11 * i + 8) ≤ dep then o_nu r dep i
      else if o_nu r dep i = -1 then Int32.ofNat i
      else if r (1200 + 11 * (o_nu r dep i).toNatClampNeg + 8) ≤ r (1200 + 11 * i + 8) then o_nu r dep i else Int32.ofNat i
    else o_nu r dep i
theorem o_nu_form (r : Nat → Int32) (dep : Int32) : ∀ n, o_nu r dep n = -1 ∨ ∃ j, j < n ∧ o_nu r dep n = Int32.ofNat j := by
  intro n
  induction n with
  | zero => exact Or.inl rfl
  | succ n ih =>
    have ih2 : o_nu r dep n = -1 ∨ ∃ j, j < n + 1 ∧ o_nu r dep n = Int32.ofNat j := by
      rcases ih with h | ⟨j, h1, h2⟩
      · exact Or.inl h
      · exact Or.inr ⟨j, by omega, h2⟩
    have own : Int32.ofNat n = -1 ∨ ∃ j, j < n + 1 ∧ Int32.ofNat n = Int32.ofNat j := Or.inr ⟨n, by omega, rfl⟩
    simp only [o_nu]
    split
    · split
      · exact ih2
      · split
        · exact own
        · split
          · exact ih2
          · exact own
    · exact ih2
theorem c_nu {g : ev_G} {S : ev_S} (a l : Nat) (dep : Int32) (hl : S.1 (a + 1) 4 = Int32.ofNat l) (hl2 : l ≤ 81) :
    ev_Fn g m_X10_nextUnderWay 2 [ev_o 10 a, ev_i dep] S (some (ev_i (o_nu (S.1 (a + 1)) dep l))) S := by
  intro Q hQ
  refine sg_X10_nextUnderWay_0 a _ ?_
  have key := dn (n := l) (P := fun i => ev_E g m_X10_nextUnderWay 2 0 4 [some (ev_o 10 a), some (ev_i dep), some (ev_i (o_nu (S.1 (a + 1)) dep i)), some (ev_i (Int32.ofNat i))] [] S Q) ?_ ?_ 0 (Nat.zero_le _)
  · exact key
  · exact sg_X10_nextUnderWay_4 a _ _ _ (j_pos (by rw [hl]; exact Int32.le_refl _) hQ)
  · intro i hi ih
    refine sg_X10_nextUnderWay_4 a _ _ _ (j_neg (by rw [hl, n_le (by omega) (by omega)]; omega) ?_)
    rw [o_nu] at ih
    clear hQ
    rcases o_nu_form (S.1 (a + 1)) dep i with h9 | ⟨j, hj, h9⟩
    · rw [h9] at ih ⊢
      simp (disch := omega) only [lm_2, lm_3, lm_6, lm_7, lm_11, lm_12, lm_15, lm_64, lm_124, lm_180, la_1, la_2, la_3, la_12, la_26, la_154, la_514, la_762, la_1140, la_1200, ra_0, ra_1, ra_2, ra_3, ra_4, ra_5, ra_6, ra_7, ra_8, ra_9, ra_10, ra_48, rm_12, rm_2, rm_64, rm_6, n_add, n_mul, n_d1, n_vp, n_c, true_and]
      grind
    · rw [h9] at ih ⊢
      have hne : ¬ Int32.ofNat j = -1 := by rw [n_m1 (by omega)]; exact id
      simp (disch := omega) only [lm_2, lm_3, lm_6, lm_7, lm_11, lm_12, lm_15, lm_64, lm_124, lm_180, la_1, la_2, la_3, la_12, la_26, la_154, la_514, la_762, la_1140, la_1200, ra_0, ra_1, ra_2, ra_3, ra_4, ra_5, ra_6, ra_7, ra_8, ra_9, ra_10, ra_48, rm_12, rm_2, rm_64, rm_6, n_add, n_mul, n_d1, n_vp, n_c, true_and] at ih ⊢
      grind
