/-! ===== a bishop's way, for both sides ===== -/
def w_dr (n f t : Nat) : Int := ((t / n : Nat) : Int) - ((f / n : Nat) : Int)
def w_dc (n f t : Nat) : Int := ((t % n : Nat) : Int) - ((f % n : Nat) : Int)
def w_st (n f t : Nat) : Int := (if w_dr n f t ≤ 0 then -(n : Int) else (n : Int)) + (if w_dc n f t ≤ 0 then -1 else 1)
/-- the squares 1 .. k steps away are empty -/
def w_fr (o : Nat → Int32) (f s : Int) : Nat → Bool
  | 0 => true
  | k + 1 => w_fr o f s k && decide (o (f + ((k : Int) + 1) * s).toNat = -1)
def w_reach (o : Nat → Int32) (n f t : Nat) : Bool := decide (w_dr n f t ≠ 0 ∧ (w_dr n f t).natAbs = (w_dc n f t).natAbs) && w_fr o f (w_st n f t) ((w_dr n f t).natAbs - 1)
theorem w_line {n f t : Nat} (h4 : 4 ≤ n) (h8 : n ≤ 8) (h0 : w_dr n f t ≠ 0) (h1 : (w_dr n f t).natAbs = (w_dc n f t).natAbs) : (t : Int) = f + ((w_dr n f t).natAbs : Int) * w_st n f t ∧ w_st n f t ≠ 0 ∧ -9 ≤ w_st n f t ∧ w_st n f t ≤ 9 := by
  unfold w_st
  unfold w_dr w_dc at *
  have : n = 4 ∨ n = 5 ∨ n = 6 ∨ n = 7 ∨ n = 8 := by omega
  rcases this with rfl | rfl | rfl | rfl | rfl <;> (split <;> split <;> omega)
theorem w_between {f t s : Int} {k i : Nat} (h : t = f + (k : Int) * s) (hi : i ≤ k) : (f ≤ f + (i : Int) * s ∧ f + (i : Int) * s ≤ t) ∨ (t ≤ f + (i : Int) * s ∧ f + (i : Int) * s ≤ f) := by
  by_cases hs : 0 ≤ s
  · left
    have h1 : (i : Int) * s ≤ (k : Int) * s := Int.mul_le_mul_of_nonneg_right (by omega) hs
    have h2 : 0 ≤ (i : Int) * s := Int.mul_nonneg (by omega) hs
    omega
  · right
    have h1 : (k : Int) * s ≤ (i : Int) * s := Int.mul_le_mul_of_nonpos_right (by omega) (by omega)
    have h2 : (i : Int) * s ≤ 0 * s := Int.mul_le_mul_of_nonpos_right (by omega) (by omega)
    rw [Int.zero_mul] at h2
    omega
theorem w_inj {s : Int} {i k : Nat} (hs : s ≠ 0) (h : (i : Int) * s = (k : Int) * s) : i = k := by
  have := Int.eq_of_mul_eq_mul_right hs h
  omega
/-- the numbers of the listing -/
theorem w_e1 {n f t : Nat} (h4 : 4 ≤ n) (h8 : n ≤ 8) (hf : f < 64) (ht : t < 64) : (Int32.ofNat t / Int32.ofNat n - Int32.ofNat f / Int32.ofNat n).toInt = w_dr n f t := by
  have a1 := Nat.div_le_self t n
  have a2 := Nat.div_le_self f n
  rw [n_divc (by omega) (by omega) (by omega), n_divc (by omega) (by omega) (by omega)]
  unfold w_dr
  generalize t / n = x at a1 ⊢
  generalize f / n = y at a2 ⊢
  rw [z_sub (by rw [n_i (by omega), n_i (by omega)]; omega) (by rw [n_i (by omega), n_i (by omega)]; omega), n_i (by omega), n_i (by omega)]
theorem w_e2 {n f t : Nat} (h4 : 4 ≤ n) (h8 : n ≤ 8) (hf : f < 64) (ht : t < 64) : (ev_rem (Int32.ofNat t) (Int32.ofNat n) - ev_rem (Int32.ofNat f) (Int32.ofNat n)).toInt = w_dc n f t := by
  have a1 := Nat.mod_lt t (show n > 0 by omega)
  have a2 := Nat.mod_lt f (show n > 0 by omega)
  rw [n_remc (by omega) (by omega) (by omega), n_remc (by omega) (by omega) (by omega), z_sub (by rw [n_i (by omega), n_i (by omega)]; omega) (by rw [n_i (by omega), n_i (by omega)]; omega), n_i (by omega), n_i (by omega)]
  rfl
theorem w_abs {x : Int32} (h : -2147483648 < x.toInt) : (ev_abs x).toInt = (x.toInt.natAbs : Int) := by
  unfold ev_abs
  have e0 : (0 : Int32).toInt = 0 := rfl
  split
  · next q => rw [z_le, e0] at q; omega
  · next q =>
    rw [z_le, e0] at q
    rw [z_sub (by rw [e0]; have := z_hi x; omega) (by rw [e0]; omega), e0]
    omega
theorem w_lt64 {n f : Nat} (h4 : 4 ≤ n) (h8 : n ≤ 8) (hf : f < n * n) : f < 64 := by have := sq_le h8; omega
theorem w_dr_b {n f t : Nat} (hf : f < 64) (ht : t < 64) : -64 < w_dr n f t ∧ w_dr n f t < 64 := by
  have a1 := Nat.div_le_self t n
  have a2 := Nat.div_le_self f n
  unfold w_dr
  generalize t / n = x at a1 ⊢
  generalize f / n = y at a2 ⊢
  omega
theorem w_dc_b {n f t : Nat} (hn : 0 < n) (h8 : n ≤ 8) : -64 < w_dc n f t ∧ w_dc n f t < 64 := by
  have a1 := Nat.mod_lt t hn
  have a2 := Nat.mod_lt f hn
  unfold w_dc; omega
theorem w_c0 {n f t : Nat} (h4 : 4 ≤ n) (h8 : n ≤ 8) (hf : f < 64) (ht : t < 64) : (Int32.ofNat t / Int32.ofNat n - Int32.ofNat f / Int32.ofNat n = 0) = (w_dr n f t = 0) := by
  rw [z_eq, w_e1 h4 h8 hf ht]; rfl
theorem w_cabs {n f t : Nat} (h4 : 4 ≤ n) (h8 : n ≤ 8) (hf : f < 64) (ht : t < 64) : (ev_abs (Int32.ofNat t / Int32.ofNat n - Int32.ofNat f / Int32.ofNat n) = ev_abs (ev_rem (Int32.ofNat t) (Int32.ofNat n) - ev_rem (Int32.ofNat f) (Int32.ofNat n))) = ((w_dr n f t).natAbs = (w_dc n f t).natAbs) := by
  have b1 := w_dr_b (n := n) hf ht
  have b2 := w_dc_b (f := f) (t := t) (show 0 < n by omega) h8
  rw [z_eq, w_abs (by rw [w_e1 h4 h8 hf ht]; omega), w_abs (by rw [w_e2 h4 h8 hf ht]; omega), w_e1 h4 h8 hf ht, w_e2 h4 h8 hf ht]
  exact propext (by omega)
theorem w_cr {n f t : Nat} (h4 : 4 ≤ n) (h8 : n ≤ 8) (hf : f < 64) (ht : t < 64) : (Int32.ofNat t / Int32.ofNat n - Int32.ofNat f / Int32.ofNat n ≤ 0) = (w_dr n f t ≤ 0) := by
  rw [z_le, w_e1 h4 h8 hf ht]; rfl
theorem w_cc {n f t : Nat} (h4 : 4 ≤ n) (h8 : n ≤ 8) (hf : f < 64) (ht : t < 64) : (ev_rem (Int32.ofNat t) (Int32.ofNat n) - ev_rem (Int32.ofNat f) (Int32.ofNat n) ≤ 0) = (w_dc n f t ≤ 0) := by
  rw [z_le, w_e2 h4 h8 hf ht]; rfl
/-- the i-th square of the way, as the listing has it -/
def w_at (n f t i : Nat) : Nat := ((f : Int) + (i : Int) * w_st n f t).toNat
theorem w_at_lt {n f t i : Nat} (h4 : 4 ≤ n) (h8 : n ≤ 8) (hf : f < 64) (ht : t < 64) (h0 : w_dr n f t ≠ 0) (h1 : (w_dr n f t).natAbs = (w_dc n f t).natAbs) (hi : i ≤ (w_dr n f t).natAbs) : ((w_at n f t i : Nat) : Int) = (f : Int) + (i : Int) * w_st n f t ∧ w_at n f t i < 64 := by
  obtain ⟨a1, a2, a3, a4⟩ := w_line h4 h8 h0 h1
  have := w_between a1 hi
  unfold w_at
  omega
/-- the reference: nothing stands between -/
theorem c_between {g : ev_G} {S : ev_S} (a p n f t : Nat) (st : Int32) (hp : p < 2) (h4 : 4 ≤ n) (h8 : n ≤ 8) (hf : f < 64) (ht : t < 64) (h0 : w_dr n f t ≠ 0) (h1 : (w_dr n f t).natAbs = (w_dc n f t).natAbs) (hst : st.toInt = w_st n f t) :
    ev_Fn g m_X10_isEmptyBetween 2 [ev_o 10 a, ev_i (Int32.ofNat p), ev_i (Int32.ofNat f), ev_i (Int32.ofNat t), ev_i st] S (some (ev_i (if w_fr (fun s => S.1 (a + 1) (26 + 64 * p + s)) f (w_st n f t) ((w_dr n f t).natAbs - 1) = true then 1 else 0))) S := by
  intro Q hQ
  obtain ⟨a1, a2, a3, a4⟩ := w_line h4 h8 h0 h1
  have hk : 0 < (w_dr n f t).natAbs := by omega
  obtain ⟨k, hk9⟩ : ∃ k, (w_dr n f t).natAbs = k + 1 := ⟨(w_dr n f t).natAbs - 1, by omega⟩
  have hnext : ∀ i, i < k + 1 → Int32.ofNat (w_at n f t i) + st = Int32.ofNat (w_at n f t (i + 1)) := by
    intro i hi
    obtain ⟨b1, b2⟩ := w_at_lt (i := i) h4 h8 hf ht h0 h1 (by omega)
    obtain ⟨b3, b4⟩ := w_at_lt (i := i + 1) h4 h8 hf ht h0 h1 (by omega)
    have e : ((i + 1 : Nat) : Int) * w_st n f t = (i : Int) * w_st n f t + w_st n f t := by rw [Int.natCast_add, Int.add_mul]; omega
    rw [e] at b3
    rw [z_eq, z_add (by rw [n_i (by omega), hst]; omega) (by rw [n_i (by omega), hst]; omega), n_i (by omega), n_i (by omega), hst]
    omega
  refine sg_X10_isEmptyBetween_0 a _ _ _ _ ?_
  have es : Int32.ofNat f + st = Int32.ofNat (w_at n f t 1) := by
    have := hnext 0 (by omega)
    have e0 : w_at n f t 0 = f := by unfold w_at; omega
    rw [e0] at this
    exact this
  rw [es]
  rw [hk9, Nat.add_sub_cancel] at hQ
  have key := dn (n := k) (P := fun i => w_fr (fun s => S.1 (a + 1) (26 + 64 * p + s)) f (w_st n f t) i = true → ev_E g m_X10_isEmptyBetween 2 0 6 [some (ev_o 10 a), some (ev_i (Int32.ofNat p)), none, some (ev_i (Int32.ofNat t)), some (ev_i st), some (ev_i (Int32.ofNat (w_at n f t (i + 1))))] [] S Q) ?_ ?_ 0 (Nat.zero_le _)
  · exact key rfl
  · intro hfr
    obtain ⟨b1, b2⟩ := w_at_lt (i := k + 1) h4 h8 hf ht h0 h1 (by omega)
    rw [hk9] at a1
    have e : w_at n f t (k + 1) = t := by omega
    refine sg_X10_isEmptyBetween_6 a _ _ _ _ (j_pos (by rw [e]) ?_)
    rw [if_pos hfr] at hQ
    exact hQ
  · intro i hi ih hfr
    obtain ⟨b1, b2⟩ := w_at_lt (i := i + 1) h4 h8 hf ht h0 h1 (by omega)
    rw [hk9] at a1
    have hne : ¬ w_at n f t (i + 1) = t := by
      intro q
      have := w_inj a2 (show ((i + 1 : Nat) : Int) * w_st n f t = ((k + 1 : Nat) : Int) * w_st n f t by omega)
      omega
    refine sg_X10_isEmptyBetween_6 a _ _ _ _ (j_neg (by rw [n_eq (by omega) (by omega)]; exact hne) ?_)
    simp (disch := omega) only [lm_2, lm_3, lm_6, lm_7, lm_11, lm_12, lm_15, lm_64, lm_124, lm_180, la_1, la_2, la_3, la_12, la_26, la_154, la_514, la_762, la_1140, la_1200, ra_0, ra_1, ra_2, ra_3, ra_4, ra_5, ra_6, ra_7, ra_8, ra_9, ra_10, ra_48, rm_12, rm_2, rm_64, rm_6, n_add, n_mul, n_d1, n_vp, n_c, true_and]
    have ew : w_fr (fun s => S.1 (a + 1) (26 + 64 * p + s)) f (w_st n f t) (i + 1) = (w_fr (fun s => S.1 (a + 1) (26 + 64 * p + s)) f (w_st n f t) i && decide (S.1 (a + 1) (26 + 64 * p + w_at n f t (i + 1)) = -1)) := rfl
    by_cases hc : S.1 (a + 1) (26 + 64 * p + w_at n f t (i + 1)) = -1
    · refine j_pos hc ?_
      rw [hnext (i + 1) (by omega)]
      exact ih (by rw [ew, hfr]; simp [hc])
    · refine j_neg hc ?_
      have hno : ∀ j, i + 1 ≤ j → ¬ w_fr (fun s => S.1 (a + 1) (26 + 64 * p + s)) f (w_st n f t) j = true := by
        intro j
        induction j with
        | zero => intro h; omega
        | succ j ihj =>
          intro h
          by_cases hji : j = i
          · rw [hji, ew]; simp [hc]
          · have := ihj (by omega)
            simp only [w_fr]
            simp [this]
      rw [if_neg (hno k (by omega))] at hQ
      exact hQ
def o_moves (r : Nat → Int32) (p n : Nat) (its : Int32) (f t : Nat) : Bool := decide (r (26 + 64 * p + f) = its ∧ its ≠ -1 ∧ r (26 + 64 * p + t) ≠ its) && w_reach (fun s => r (26 + 64 * p + s)) n f t
theorem c_moves {g : ev_G} {S : ev_S} (a p n f t : Nat) (its : Int32) (hp : p < 2) (hn : S.1 (a + 1) 0 = Int32.ofNat n) (h4 : 4 ≤ n) (h8 : n ≤ 8) (hf : f < 64) (ht : t < 64) :
    ev_Fn g m_X10_moves 3 [ev_o 10 a, ev_i (Int32.ofNat p), ev_i its, ev_i (Int32.ofNat f), ev_i (Int32.ofNat t)] S (some (ev_i (if o_moves (S.1 (a + 1)) p n its f t = true then 1 else 0))) S := by
  intro Q hQ
  refine sg_X10_moves_0 a _ its _ _ ?_
  have h1 : o_moves (S.1 (a + 1)) p n its f t = true → Q (.inl (some (ev_i 1))) S := fun h => by rw [if_pos h] at hQ; exact hQ
  have h0 : ¬ o_moves (S.1 (a + 1)) p n its f t = true → Q (.inl (some (ev_i 0))) S := fun h => by rw [if_neg h] at hQ; exact hQ
  clear hQ
  rw [hn]
  refine ⟨by rw [n_z (by omega)]; omega, ?_⟩
  simp (disch := omega) only [lm_2, lm_3, lm_6, lm_7, lm_11, lm_12, lm_15, lm_64, lm_124, lm_180, la_1, la_2, la_3, la_12, la_26, la_154, la_514, la_762, la_1140, la_1200, ra_0, ra_1, ra_2, ra_3, ra_4, ra_5, ra_6, ra_7, ra_8, ra_9, ra_10, ra_48, rm_12, rm_2, rm_64, rm_6, n_add, n_mul, n_d1, n_vp, n_c, true_and]
  by_cases c1 : S.1 (a + 1) (26 + 64 * p + f) = its
  · refine j_pos c1 ?_
    by_cases c2 : its = -1
    · exact j_pos c2 (h0 (by simp [o_moves, c2]))
    · refine j_neg c2 ?_
      by_cases c3 : w_dr n f t = 0
      · exact j_pos (by rw [w_c0 h4 h8 hf ht]; exact c3) (h0 (by simp [o_moves, w_reach, c3]))
      · refine j_neg (by rw [w_c0 h4 h8 hf ht]; exact c3) ?_
        by_cases c4 : (w_dr n f t).natAbs = (w_dc n f t).natAbs
        · refine j_pos (by rw [w_cabs h4 h8 hf ht]; exact c4) ?_
          by_cases c5 : S.1 (a + 1) (26 + 64 * p + t) = its
          · exact j_pos c5 (h0 (by simp [o_moves, c5]))
          · refine j_neg c5 ?_
            have hval : o_moves (S.1 (a + 1)) p n its f t = w_fr (fun s => S.1 (a + 1) (26 + 64 * p + s)) f (w_st n f t) ((w_dr n f t).natAbs - 1) := by
              simp [o_moves, w_reach, c1, c2, c3, c4, c5]
            have fin : ∀ st : Int32, st.toInt = w_st n f t → ev_Cv g m_X10_isEmptyBetween 2 0 [ev_o 10 a, ev_i (Int32.ofNat p), ev_i (Int32.ofNat f), ev_i (Int32.ofNat t), ev_i st] S (fun o S1 => ∃ v1_ : Bool, o = .inl (some (ev_i (if v1_ = true then 1 else 0))) ∧ ((v1_ = true → Q (.inl (some (ev_i 1))) S1) ∧ (¬ (v1_ = true) → Q (.inl (some (ev_i 0))) S1))) := by
              intro st hst
              refine c_between a p n f t st hp h4 h8 hf ht c3 c4 hst _ ⟨_, rfl, ?_⟩
              rw [← hval]
              exact ⟨h1, h0⟩
            have e1 : (1 : Int32).toInt = 1 := rfl
            have em : (-1 : Int32).toInt = -1 := rfl
            have en : (-Int32.ofNat n).toInt = -(n : Int) := by rw [z_negt (by rw [n_i (by omega)]; omega), n_i (by omega)]
            by_cases c6 : w_dr n f t ≤ 0
            · refine j_pos (by rw [w_cr h4 h8 hf ht]; exact c6) ?_
              by_cases c7 : w_dc n f t ≤ 0
              · refine j_pos (by rw [w_cc h4 h8 hf ht]; exact c7) (fin _ ?_)
                rw [w_st, if_pos c6, if_pos c7, z_add (by rw [en, em]; omega) (by rw [en, em]; omega), en, em]
              · refine j_neg (by rw [w_cc h4 h8 hf ht]; exact c7) (fin _ ?_)
                rw [w_st, if_pos c6, if_neg c7, z_add (by rw [en, e1]; omega) (by rw [en, e1]; omega), en, e1]
            · refine j_neg (by rw [w_cr h4 h8 hf ht]; exact c6) ?_
              by_cases c7 : w_dc n f t ≤ 0
              · refine j_pos (by rw [w_cc h4 h8 hf ht]; exact c7) (fin _ ?_)
                rw [w_st, if_neg c6, if_pos c7, z_add (by rw [n_i (by omega), em]; omega) (by rw [n_i (by omega), em]; omega), n_i (by omega), em]
              · refine j_neg (by rw [w_cc h4 h8 hf ht]; exact c7) (fin _ ?_)
                rw [w_st, if_neg c6, if_neg c7, n_i (by omega)]
                omega
        · exact j_neg (by rw [w_cabs h4 h8 hf ht]; exact c4) (h0 (by simp [o_moves, w_reach, c4]))
  · exact j_neg c1 (h0 (by simp [o_moves, c1]))
