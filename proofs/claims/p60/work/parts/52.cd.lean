/-! ===== the class: reach, finished; a desk ===== -/
theorem b_reach {g : ev_G} {S : ev_S} {b p n m f t : Nat} {r : Nat → Int32} (h4 : 4 ≤ n) (h8 : n ≤ 8) (hf : f < 64) (ht : t < 64) (hn : r 0 = Int32.ofNat n) (h : q_board S.1 b r p n m) :
    ev_Fn g m_X0_canReach 3 [ev_o 0 b, ev_i (Int32.ofNat f), ev_i (Int32.ofNat t)] S (some (ev_i (if o_moves r p n (r (26 + 64 * p + f)) f t = true then 1 else 0))) S := by
  intro Q hQ
  obtain ⟨a1, a2, a3, a4, a5, a6, a7, a8, a9⟩ := h
  refine sg_X0_canReach_0 b _ _ ?_
  have h1 : o_moves r p n (r (26 + 64 * p + f)) f t = true → Q (.inl (some (ev_i 1))) S := fun h => by rw [if_pos h] at hQ; exact hQ
  have h0 : ¬ o_moves r p n (r (26 + 64 * p + f)) f t = true → Q (.inl (some (ev_i 0))) S := fun h => by rw [if_neg h] at hQ; exact hQ
  clear hQ
  rw [a_in hf (by omega), a_in ht (by omega), a1 f hf, a1 t ht, a4, hn]
  by_cases c2 : r (26 + 64 * p + f) = -1
  · exact j_pos c2 (h0 (by simp [o_moves, c2]))
  · refine j_neg c2 ?_
    by_cases c5 : r (26 + 64 * p + f) = r (26 + 64 * p + t)
    · exact j_pos c5 (h0 (by simp [o_moves, c5]))
    · refine j_neg c5 (j_pos (by rw [z_le, n_i (by omega)]; show (4 : Int) ≤ _; omega) ⟨by rw [n_z (by omega)]; omega, ?_⟩)
      have b1 := w_dr_b (n := n) hf ht
      have e1 := w_e1 h4 h8 hf ht
      have eabs : (ev_abs (Int32.ofNat t / Int32.ofNat n - Int32.ofNat f / Int32.ofNat n)).toInt = ((w_dr n f t).natAbs : Int) := by rw [w_abs (by rw [e1]; omega), e1]
      have ek : ev_abs (Int32.ofNat t / Int32.ofNat n - Int32.ofNat f / Int32.ofNat n) = Int32.ofNat (w_dr n f t).natAbs := by rw [z_eq, eabs, n_i (by omega)]
      by_cases c3 : w_dr n f t = 0
      · exact j_pos (by rw [ek, c3]; rfl) (h0 (by simp [o_moves, w_reach, c3]))
      · refine j_neg (by rw [ek, n_z (by omega)]; omega) ?_
        by_cases c4 : (w_dr n f t).natAbs = (w_dc n f t).natAbs
        · refine j_pos (by rw [w_cabs h4 h8 hf ht]; exact c4) ?_
          rw [ek]
          have hval : o_moves r p n (r (26 + 64 * p + f)) f t = w_fr (fun s => r (26 + 64 * p + s)) f (w_st n f t) ((w_dr n f t).natAbs - 1) := by
            have c5' : ¬ r (26 + 64 * p + t) = r (26 + 64 * p + f) := fun q => c5 q.symm
            simp [o_moves, w_reach, c2, c3, c4, c5']
          obtain ⟨l1, l2, l3, l4⟩ := w_line h4 h8 c3 c4
          obtain ⟨k, hk9⟩ : ∃ k, (w_dr n f t).natAbs = k + 1 := ⟨(w_dr n f t).natAbs - 1, by omega⟩
          have fin : ∀ st : Int32, st.toInt = w_st n f t → ev_E g m_X0_canReach 3 0 117 [some (ev_o 0 b), some (ev_i (Int32.ofNat f)), none, none, none, none, some (ev_i (Int32.ofNat (w_dr n f t).natAbs)), some (ev_i st), some (ev_i 1)] [] S Q := by
            intro st hst
            have hat : ∀ i, i ≤ k + 1 → Int32.ofNat f + Int32.ofNat i * st = Int32.ofNat (w_at n f t i) := by
              intro i hi
              obtain ⟨d1, d2⟩ := w_at_lt (i := i) h4 h8 hf ht c3 c4 (by omega)
              have em : (Int32.ofNat i * st).toInt = (i : Int) * w_st n f t := by
                rw [z_mul, n_i (by omega), hst] <;> rw [n_i (by omega), hst] <;> omega
              rw [z_eq, z_add (by rw [n_i (by omega), em]; omega) (by rw [n_i (by omega), em]; omega), n_i (by omega), n_i (by omega), em]
              omega
            rw [hk9, Nat.add_sub_cancel] at hval
            rw [hk9]
            have key := dn (n := k) (P := fun i => w_fr (fun s => r (26 + 64 * p + s)) f (w_st n f t) i = true → ev_E g m_X0_canReach 3 0 117 [some (ev_o 0 b), some (ev_i (Int32.ofNat f)), none, none, none, none, some (ev_i (Int32.ofNat (k + 1))), some (ev_i st), some (ev_i (Int32.ofNat (i + 1)))] [] S Q) ?_ ?_ 0 (Nat.zero_le _)
            · exact key rfl
            · intro hfr
              exact sg_X0_canReach_117 b _ _ _ _ (j_pos (Int32.le_refl _) (h1 (by rw [hval]; exact hfr)))
            · intro i hi ih hfr
              refine sg_X0_canReach_117 b _ _ _ _ (j_neg (by rw [n_le (by omega) (by omega)]; omega) ?_)
              obtain ⟨d1, d2⟩ := w_at_lt (i := i + 1) h4 h8 hf ht c3 c4 (by omega)
              rw [hat (i + 1) (by omega), a_in d2 (by omega), a1 _ d2, n_inc]
              have ew : w_fr (fun s => r (26 + 64 * p + s)) f (w_st n f t) (i + 1) = (w_fr (fun s => r (26 + 64 * p + s)) f (w_st n f t) i && decide (r (26 + 64 * p + w_at n f t (i + 1)) = -1)) := rfl
              by_cases hc : r (26 + 64 * p + w_at n f t (i + 1)) = -1
              · exact j_pos hc (ih (by rw [ew, hfr]; simp [hc]))
              · refine j_neg hc (h0 ?_)
                have hno : ∀ j, i + 1 ≤ j → ¬ w_fr (fun s => r (26 + 64 * p + s)) f (w_st n f t) j = true := by
                  intro j
                  induction j with
                  | zero => intro h; omega
                  | succ j ihj =>
                    intro h
                    by_cases hji : j = i
                    · rw [hji, ew]; simp [hc]
                    · have := ihj (by omega)
                      simp only [w_fr]
                      simp [this]
                rw [hval]
                exact hno k (by omega)
          have e1 : (1 : Int32).toInt = 1 := rfl
          have em : (-1 : Int32).toInt = -1 := rfl
          have en : (-Int32.ofNat n).toInt = -(n : Int) := by rw [z_negt (by rw [n_i (by omega)]; omega), n_i (by omega)]
          by_cases c6 : w_dr n f t ≤ 0
          · refine j_pos (by rw [w_cr h4 h8 hf ht]; exact c6) ?_
            by_cases c7 : w_dc n f t ≤ 0
            · refine j_pos (by rw [w_cc h4 h8 hf ht]; exact c7) (fin _ ?_)
              rw [w_st, if_pos c6, if_pos c7, z_add (by rw [en, em]; omega) (by rw [en, em]; omega), en, em]
            · refine j_neg (by rw [w_cc h4 h8 hf ht]; exact c7) (fin _ ?_)
              rw [w_st, if_pos c6, if_neg c7, z_add (by rw [en, e1]; omega) (by rw [en, e1]; omega), en, e1]
          · refine j_neg (by rw [w_cr h4 h8 hf ht]; exact c6) ?_
            by_cases c7 : w_dc n f t ≤ 0
            · refine j_pos (by rw [w_cc h4 h8 hf ht]; exact c7) (fin _ ?_)
              rw [w_st, if_neg c6, if_pos c7, z_add (by rw [n_i (by omega), em]; omega) (by rw [n_i (by omega), em]; omega), n_i (by omega), em]
            · refine j_neg (by rw [w_cc h4 h8 hf ht]; exact c7) (fin _ ?_)
              rw [w_st, if_neg c6, if_neg c7, z_add (by rw [n_i (by omega), e1]; omega) (by rw [n_i (by omega), e1]; omega), n_i (by omega), e1]
        · exact j_neg (by rw [w_cabs h4 h8 hf ht]; exact c4) (h0 (by simp [o_moves, w_reach, c4]))
theorem b_fin {S : ev_S} {b p n m : Nat} {r : Nat → Int32} (h8 : n ≤ 8) (h : q_board S.1 b r p n m) : (t_X0_isFinished S b = true) = (o_over r p n = true) := by
  obtain ⟨a1, a2, a3, a4, a5, a6, a7, a8, a9⟩ := h
  have b0 := o_bish_le r p n 0 h8
  have b1 := o_bish_le r p n 1 h8
  have e0 : j_at (S.1 (b + 2)) 2 0 = Int32.ofNat (o_bish r p n 0) := by rw [← a2]; exact a_in (k := 0) (by omega) (by omega)
  have e1 : j_at (S.1 (b + 2)) 2 1 = Int32.ofNat (o_bish r p n 1) := by rw [← a3]; exact a_in (k := 1) (by omega) (by omega)
  unfold t_X0_isFinished o_over
  rw [e0, e1, a5, a6]
  have z0 := n_z (a := o_bish r p n 0) (by omega)
  have z1 := n_z (a := o_bish r p n 1) (by omega)
  simp only [z0, z1, decide_eq_true_eq]
  apply propext
  grind
theorem c_mover {k : Nat} (h : k < 2147483647) : f_X9_moverOf (Int32.ofNat k) = Int32.ofNat (o_maker k) := c_maker h
theorem b_frame {M M' : Nat → Nat → Int32} {b p n m : Nat} {r : Nat → Int32} (he : ∀ q, b ≤ q → q < b + 5 → M' q = M q) (h : q_board M b r p n m) : q_board M' b r p n m := by
  unfold q_board at *
  rw [he b (by omega) (by omega), he (b + 1) (by omega) (by omega), he (b + 2) (by omega) (by omega), he (b + 3) (by omega) (by omega), he (b + 4) (by omega) (by omega)]
  exact h
theorem b_row {M : Nat → Nat → Int32} {b p n m : Nat} {r r' : Nat → Int32} (hn : n ≤ 8) (hm : m ≤ 60) (he : ∀ j, j < 2 ∨ j = 9 ∨ j = 10 ∨ j = 12 + 7 * p ∨ j = 12 + 7 * p + 1 ∨ (26 + 64 * p ≤ j ∧ j < 90 + 64 * p) ∨ (154 + 180 * p ≤ j ∧ j < 334 + 180 * p) → r' j = r j) (h : q_board M b r p n m) : q_board M b r' p n m := by
  have hn9 := sq_le hn
  obtain ⟨a1, a2, a3, a4, a5, a6, a7, a8, a9⟩ := h
  have eb : ∀ q, o_bish r' p n q = o_bish r p n q := fun q => cnt_congr _ (fun s hs => by rw [he _ (by omega)])
  refine ⟨fun s hs => by rw [he _ (by omega)]; exact a1 s hs, by rw [eb]; exact a2, by rw [eb]; exact a3, by rw [he 0 (by omega)]; exact a4, by rw [he 1 (by omega)]; exact a5, by rw [he _ (by omega)]; exact a6, by rw [he _ (by omega)]; exact a7, by rw [he 9 (by omega), he 10 (by omega)]; exact a8, fun k hk => ?_⟩
  rw [he _ (by omega), he _ (by omega), he _ (by omega)]
  exact a9 k hk
def q_sto (M : Nat → Nat → Int32) (e : Nat) (r : Nat → Int32) (p : Nat) : Prop := ∀ k, k ≤ 60 → M (e + 6) k = if r (514 + 124 * p + 2 * k) = -1 then -1 else r (514 + 124 * p + 2 * k) * 64 + r (514 + 124 * p + 2 * k + 1)
def o_fl (p k : Nat) : Nat := if o_maker k = p then 4 else 5
def q_prm (M : Nat → Nat → Int32) (e : Nat) (r : Nat → Int32) (p : Nat) : Prop := ∀ k, k ≤ 60 → (r (762 + 6 * k + o_fl p k) = 0 → M (e + 7) k = -1 ∧ M (e + 8) k = -1) ∧
  (¬ r (762 + 6 * k + o_fl p k) = 0 → M (e + 7) k = r (762 + 6 * k) * 64 + r (762 + 6 * k + 1) ∧ M (e + 8) k = r (762 + 6 * k + 2) * 64 + r (762 + 6 * k + 3))
def o_nst (r : Nat → Int32) (p : Nat) : Nat := cnt (fun k => decide (r (514 + 124 * p + 2 * (k + 1)) ≠ -1)) 60
def q_desk (M : Nat → Nat → Int32) (e : Nat) (r : Nat → Int32) (p n m : Nat) : Prop :=
  M e 0 = Int32.ofNat p ∧ q_board M (e + 1) r p n m ∧ q_sto M e r p ∧ q_prm M e r p ∧ M e 5 = Int32.ofNat (o_nst r p) ∧ M e 6 = r (12 + 7 * p + 6) ∧ M e 7 = r (12 + 7 * p + 2) ∧ M e 8 = r (12 + 7 * p + 5) ∧ M e 9 = r (12 + 7 * p + 4) ∧ M e 10 = r (12 + 7 * p + 3)
