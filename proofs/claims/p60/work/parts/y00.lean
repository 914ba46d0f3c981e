/-! ===== the law's own game: its picture of a row r ===== -/
theorem w_bdA {a p : Nat} (hp : p < 2) : a_bd (a + 1) (Int32.ofNat p) = a + 2 + 7 * p := by
  unfold a_bd
  rw [n_c (by omega)]
/-- a board of the law's at b is player p's of the row -/
def w_bd (M : Nat → Nat → Int32) (b : Nat) (r : Nat → Int32) (p : Nat) : Prop :=
  (∀ s, s < 64 → M (b + 1) s = r (26 + 64 * p + s)) ∧
  (∀ k, k < o_mad r p → M (b + 2) (k + 1) = r (154 + 180 * p + 3 * k) ∧ M (b + 3) (k + 1) = r (154 + 180 * p + 3 * k + 1)) ∧
  (∀ k, k ≤ 60 → M (b + 4) k = r (514 + 124 * p + 2 * k) ∧ (¬ r (514 + 124 * p + 2 * k) = -1 → M (b + 5) k = r (514 + 124 * p + 2 * k + 1))) ∧
  M b 6 = r (12 + 7 * p) ∧ M b 7 = r (12 + 7 * p + 2) ∧ M b 8 = r (12 + 7 * p + 3) ∧ M b 9 = r (12 + 7 * p + 4) ∧ M b 10 = r (12 + 7 * p + 5) ∧ M b 11 = r (12 + 7 * p + 6)
/-- the passes -/
def w_ps (M : Nat → Nat → Int32) (a : Nat) (r : Nat → Int32) : Prop :=
  ∀ q, q < 4 → M (a + 16) q = r (1140 + 15 * q) ∧ (∀ s, s < 2 → M (a + 17) (2 * q + s) = r (1140 + 15 * q + (1 + s))) ∧ ∀ t, t < 12 → M (a + 18) (12 * q + t) = r (1140 + 15 * q + (3 + t))
/-- a letter -/
def w_lt (M : Nat → Nat → Int32) (a : Nat) (r : Nat → Int32) (l : Nat) : Prop :=
  M (a + 19) l = r (1200 + 11 * l) ∧ M (a + 20) l = r (1200 + 11 * l + 1) ∧ M (a + 29) l = r (1200 + 11 * l + 2) ∧ M (a + 21) l = r (1200 + 11 * l + 3) ∧ M (a + 22) l = r (1200 + 11 * l + 4) ∧ M (a + 23) l = r (1200 + 11 * l + 5) ∧
  M (a + 24) l = r (1200 + 11 * l + 6) ∧ M (a + 25) l = r (1200 + 11 * l + 7) ∧ (r (1200 + 11 * l + 6) = 1 → M (a + 26) l = r (1200 + 11 * l + 8) ∧ M (a + 27) l = r (1200 + 11 * l + 9)) ∧ (r (1200 + 11 * l + 6) = 2 → M (a + 28) l = r (1200 + 11 * l + 10))
/-- a promise -/
def w_pr (M : Nat → Nat → Int32) (a : Nat) (r : Nat → Int32) (k : Nat) : Prop :=
  M (a + 30) k = r (762 + 6 * k + 4) ∧ M (a + 31) k = r (762 + 6 * k + 5) ∧ (¬ r (762 + 6 * k + 4) = 0 → M (a + 32) k = r (762 + 6 * k) ∧ M (a + 33) k = r (762 + 6 * k + 1) ∧ M (a + 34) k = r (762 + 6 * k + 2) ∧ M (a + 35) k = r (762 + 6 * k + 3))
/-- what else the law's own game lives on: when a player moved last, no promise is a first move -/
def w_ex (r : Nat → Int32) (L : Nat) : Prop :=
  (0 ≤ (r 2).toInt ∧ ∀ p, p < 2 → r (12 + 7 * p + 2) = -1 ∨ 0 ≤ (r (12 + 7 * p + 2)).toInt) ∧ (r 772 = 0 ∧ r 773 = 0) ∧ ∀ l, l < L → r (1200 + 11 * l + 2) = 1 → ¬ r (1200 + 11 * l + 3) = 1
/-- the law's own game at a is the row r, L letters -/
def w_gm (M : Nat → Nat → Int32) (a : Nat) (r : Nat → Int32) (L : Nat) : Prop :=
  (∀ k, k < 9 → M a k = r k) ∧ (∀ p, p < 2 → w_bd M (a + 2 + 7 * p) r p) ∧ w_ps M a r ∧ (∀ l, l < L → w_lt M a r l) ∧ (∀ k, k ≤ 62 → w_pr M a r k) ∧ w_ex r L
theorem w_bd_fr {M M' : Nat → Nat → Int32} {b p : Nat} {r : Nat → Int32} (f : ∀ q, b ≤ q → q < b + 6 → M' q = M q) (h : w_bd M b r p) : w_bd M' b r p := by
  unfold w_bd at *
  rw [f b (by omega) (by omega), f (b + 1) (by omega) (by omega), f (b + 2) (by omega) (by omega), f (b + 3) (by omega) (by omega), f (b + 4) (by omega) (by omega), f (b + 5) (by omega) (by omega)]
  exact h
theorem w_ps_fr {M M' : Nat → Nat → Int32} {a : Nat} {r : Nat → Int32} (f : ∀ q, a + 16 ≤ q → q < a + 19 → M' q = M q) (h : w_ps M a r) : w_ps M' a r := by
  unfold w_ps at *
  rw [f (a + 16) (by omega) (by omega), f (a + 17) (by omega) (by omega), f (a + 18) (by omega) (by omega)]
  exact h
theorem w_lt_fr {M M' : Nat → Nat → Int32} {a l : Nat} {r : Nat → Int32} (f : ∀ q, a + 19 ≤ q → q < a + 30 → M' q = M q) (h : w_lt M a r l) : w_lt M' a r l := by
  unfold w_lt at *
  rw [f (a + 19) (by omega) (by omega), f (a + 20) (by omega) (by omega), f (a + 21) (by omega) (by omega), f (a + 22) (by omega) (by omega), f (a + 23) (by omega) (by omega), f (a + 24) (by omega) (by omega), f (a + 25) (by omega) (by omega), f (a + 26) (by omega) (by omega), f (a + 27) (by omega) (by omega), f (a + 28) (by omega) (by omega), f (a + 29) (by omega) (by omega)]
  exact h
theorem w_pr_fr {M M' : Nat → Nat → Int32} {a k : Nat} {r : Nat → Int32} (f : ∀ q, a + 30 ≤ q → q < a + 36 → M' q = M q) (h : w_pr M a r k) : w_pr M' a r k := by
  unfold w_pr at *
  rw [f (a + 30) (by omega) (by omega), f (a + 31) (by omega) (by omega), f (a + 32) (by omega) (by omega), f (a + 33) (by omega) (by omega), f (a + 34) (by omega) (by omega), f (a + 35) (by omega) (by omega)]
  exact h
theorem w_gm_fr {M M' : Nat → Nat → Int32} {a L : Nat} {r : Nat → Int32} (f : ∀ q, a ≤ q → q < a + 36 → M' q = M q) (h : w_gm M a r L) : w_gm M' a r L := by
  obtain ⟨h1, h2, h3, h4, h5, h6⟩ := h
  exact ⟨fun k hk => by rw [f a (by omega) (by omega)]; exact h1 k hk, fun p hp => w_bd_fr (fun q q1 q2 => f q (by omega) (by omega)) (h2 p hp), w_ps_fr (fun q q1 q2 => f q (by omega) (by omega)) h3, fun l hl => w_lt_fr (fun q q1 q2 => f q (by omega) (by omega)) (h4 l hl), fun k hk => w_pr_fr (fun q q1 q2 => f q (by omega) (by omega)) (h5 k hk), h6⟩
/-- a letter's picture when the row changes elsewhere -/
theorem w_lt_row {M : Nat → Nat → Int32} {a l : Nat} {r r' : Nat → Int32} (e : ∀ w, w < 11 → r' (1200 + 11 * l + w) = r (1200 + 11 * l + w)) (h : w_lt M a r l) : w_lt M a r' l := by
  have e0 : r' (1200 + 11 * l) = r (1200 + 11 * l) := e 0 (by omega)
  unfold w_lt at *
  rw [e0, e 1 (by omega), e 2 (by omega), e 3 (by omega), e 4 (by omega), e 5 (by omega), e 6 (by omega), e 7 (by omega), e 8 (by omega), e 9 (by omega), e 10 (by omega)]
  exact h
theorem w_pr_row {M : Nat → Nat → Int32} {a k : Nat} {r r' : Nat → Int32} (e : ∀ w, w < 6 → r' (762 + 6 * k + w) = r (762 + 6 * k + w)) (h : w_pr M a r k) : w_pr M a r' k := by
  have e0 : r' (762 + 6 * k) = r (762 + 6 * k) := e 0 (by omega)
  unfold w_pr at *
  rw [e0, e 1 (by omega), e 2 (by omega), e 3 (by omega), e 4 (by omega), e 5 (by omega)]
  exact h
theorem w_ps_row {M : Nat → Nat → Int32} {a : Nat} {r r' : Nat → Int32} (e : ∀ j, 1140 ≤ j → j < 1200 → r' j = r j) (h : w_ps M a r) : w_ps M a r' := by
  intro q hq
  obtain ⟨h1, h2, h3⟩ := h q hq
  exact ⟨by rw [e _ (by omega) (by omega)]; exact h1, fun s hs => by rw [e _ (by omega) (by omega)]; exact h2 s hs, fun t ht => by rw [e _ (by omega) (by omega)]; exact h3 t ht⟩
theorem w_bd_row {M : Nat → Nat → Int32} {b p : Nat} {r r' : Nat → Int32} (hm : o_mad r p ≤ 60) (hp : p < 2) (e : ∀ j, o_own p j → r' j = r j) (h : w_bd M b r p) : w_bd M b r' p := by
  have em : o_mad r' p = o_mad r p := by unfold o_mad; rw [e _ (by unfold o_own; omega)]
  obtain ⟨h1, h2, h3, h4, h5, h6, h7, h8, h9⟩ := h
  refine ⟨fun s hs => by rw [e _ (by unfold o_own; omega)]; exact h1 s hs, fun k hk => ?_, fun k hk => ?_, by rw [e _ (by unfold o_own; omega)]; exact h4, by rw [e _ (by unfold o_own; omega)]; exact h5, by rw [e _ (by unfold o_own; omega)]; exact h6, by rw [e _ (by unfold o_own; omega)]; exact h7, by rw [e _ (by unfold o_own; omega)]; exact h8, by rw [e _ (by unfold o_own; omega)]; exact h9⟩
  · rw [em] at hk
    rw [e _ (by unfold o_own; omega), e (154 + 180 * p + 3 * k + 1) (by unfold o_own; omega)]
    exact h2 k hk
  · rw [e _ (by unfold o_own; omega), e (514 + 124 * p + 2 * k + 1) (by unfold o_own; omega)]
    exact h3 k hk
theorem cnt_cut {f : Nat → Bool} {n : Nat} : ∀ k, (∀ i, n ≤ i → i < n + k → ¬ f i = true) → cnt f (n + k) = cnt f n := by
  intro k
  induction k with
  | zero => intro _; rfl
  | succ k ih =>
    intro h
    rw [show n + (k + 1) = n + k + 1 by omega, cnt_f (h (n + k) (by omega) (by omega)), ih (fun i h1 h2 => h i h1 (by omega))]
/-- the bishops, counted over all squares -/
theorem w_bish {r : Nat → Int32} {p n : Nat} {q : Int32} (h8 : n ≤ 8) (hsq : i_sq r p n) (hq : ¬ q = -1) : cnt (fun s => decide (r (26 + 64 * p + s) = q)) 64 = o_bish r p n q := by
  have hn9 := sq_le h8
  unfold o_bish
  refine (congrArg (cnt _) (show 64 = n * n + (64 - n * n) by omega)).trans (cnt_cut _ (fun i h1 h2 h3 => ?_))
  have h3 := of_decide_eq_true h3
  rcases hsq i (by omega) with h | ⟨h, -⟩
  · exact hq (h3.symm.trans h)
  · omega
theorem w_bishops {g : ev_G} {S : ev_S} {b p n : Nat} {r : Nat → Int32} {q : Int32} (h8 : n ≤ 8) (hsq : i_sq r p n) (hq : ¬ q = -1) (h : ∀ s, s < 64 → S.1 (b + 1) s = r (26 + 64 * p + s)) :
    ev_Fn g m_X10_bishops 1 [ev_o 10 b, ev_i q] S (some (ev_i (Int32.ofNat (o_bish r p n q)))) S := by
  intro Q hQ
  rw [← w_bish h8 hsq hq] at hQ
  refine sg_X10_bishops_0 b q ?_
  have e64 : (64 : Int32) = Int32.ofNat 64 := rfl
  have key := dn (n := 64) (P := fun i => ev_E g m_X10_bishops 1 0 4 [some (ev_o 10 b), some (ev_i q), some (ev_i (Int32.ofNat (cnt (fun s => decide (r (26 + 64 * p + s) = q)) i))), some (ev_i (Int32.ofNat i))] [] S Q) ?_ ?_ 0 (Nat.zero_le _)
  · exact key
  · refine sg_X10_bishops_4 b q _ _ ?_
    exact j_pos (by rw [e64, n_le (by omega) (by omega)]; exact Nat.le_refl _) hQ
  · intro i hi ih
    refine sg_X10_bishops_4 b q _ _ ?_
    refine j_neg (by rw [e64, n_le (by omega) (by omega)]; omega) ⟨(n_vp (by omega) (by omega)).mpr trivial, ?_⟩
    rw [n_c (by omega), h i hi, n_inc, n_inc, ra_0]
    by_cases h9 : r (26 + 64 * p + i) = q
    · refine j_pos h9 ?_
      rw [← cnt_t (f := fun s => decide (r (26 + 64 * p + s) = q)) (by simp [h9])]
      exact ih
    · refine j_neg h9 ?_
      rw [← cnt_f (f := fun s => decide (r (26 + 64 * p + s) = q)) (by simp [h9])]
      exact ih
theorem w_isOver {g : ev_G} {S : ev_S} {a p n : Nat} {r : Nat → Int32} (hp : p < 2) (h8 : n ≤ 8) (hsq : i_sq r p n) (h : w_bd S.1 (a + 2 + 7 * p) r p) (h1 : S.1 a 1 = r 1) :
    ev_Fn g m_X11_isOver 2 [ev_o 11 a, ev_i (Int32.ofNat p)] S (some (ev_i (if o_over r p n = true then 1 else 0))) S := by
  intro Q hQ
  have b0 := o_bish_le r p n 0 h8
  have b1 := o_bish_le r p n 1 h8
  refine sg_X11_isOver_0 a _ ⟨(n_vp (by omega) (by omega)).mpr trivial, ?_⟩
  rw [w_bdA hp]
  refine w_bishops h8 hsq (by decide) h.1 _ ⟨_, rfl, ?_⟩
  by_cases h0 : o_bish r p n 0 = 0
  · refine j_pos (by rw [n_z (by omega)]; exact h0) ?_
    rw [if_pos (by simp [o_over, h0])] at hQ
    exact hQ
  · refine j_neg (by rw [n_z (by omega)]; exact h0) ?_
    refine w_bishops h8 hsq (by decide) h.1 _ ⟨_, rfl, ?_⟩
    by_cases h2 : o_bish r p n 1 = 0
    · refine j_pos (by rw [n_z (by omega)]; exact h2) ?_
      rw [if_pos (by simp [o_over, h2])] at hQ
      exact hQ
    · refine j_neg (by rw [n_z (by omega)]; exact h2) ?_
      rw [h.2.2.2.1, h1]
      by_cases h3 : r (12 + 7 * p) = r 1
      · refine j_pos h3 ?_
        rw [if_pos (by simp only [o_over, h3, or_true, decide_true])] at hQ
        exact hQ
      · refine j_neg h3 ?_
        rw [if_neg (by simp only [o_over, h0, h2, h3, or_self, decide_false]; decide)] at hQ
        exact hQ
theorem n_rem2 {k : Nat} (h : k < 2147483647) : ev_rem (Int32.ofNat k) 2 = Int32.ofNat (k % 2) := by
  rw [z_eq]
  unfold ev_rem
  have h2 : (2 : Int32).toInt = 2 := rfl
  have hd : (Int32.ofNat k / 2).toInt = (k / 2 : Nat) := by
    rw [z_div (by rw [h2]; decide), n_i (by omega), h2]
    rfl
  have hm : (Int32.ofNat k / 2 * 2).toInt = (k / 2 : Nat) * 2 := by
    rw [z_mul, hd, h2] <;> rw [hd, h2] <;> omega
  rw [z_sub, hm, n_i (by omega), n_i (by omega)]
  · omega
  · rw [hm, n_i (by omega)]; omega
  · rw [hm, n_i (by omega)]; omega
/-- whose the next move is -/
theorem w_mk {p m : Nat} (hp : p < 2) : (m % 2 = p) = (o_maker (m + 1) = p) := by
  unfold o_maker
  apply propext
  by_cases h : (m + 1) % 2 = 1
  · rw [if_pos h]; omega
  · rw [if_neg h]; omega
theorem w_isTurn {g : ev_G} {S : ev_S} {a p n m : Nat} {r : Nat → Int32} (hp : p < 2) (h8 : n ≤ 8) (hsq : i_sq r p n) (hm : r (12 + 7 * p) = Int32.ofNat m) (hm6 : m ≤ 60) (h : w_bd S.1 (a + 2 + 7 * p) r p) (h1 : S.1 a 1 = r 1) :
    ev_Fn g m_X11_isTurn 3 [ev_o 11 a, ev_i (Int32.ofNat p)] S (some (ev_i (if o_turn r p n m = true then 1 else 0))) S := by
  intro Q hQ
  refine sg_X11_isTurn_0 a _ (w_isOver hp h8 hsq h h1 _ ⟨_, rfl, ?_⟩)
  by_cases h0 : o_over r p n = true
  · refine j_pos h0 ?_
    rw [if_neg (by simp [o_turn, h0])] at hQ
    exact hQ
  · refine j_neg h0 ⟨(n_vp (by omega) (by omega)).mpr trivial, ?_⟩
    rw [w_bdA hp, h.2.2.2.1, hm, n_rem2 (by omega), n_eq (by omega) (by omega), w_mk hp]
    by_cases h2 : o_maker (m + 1) = p
    · refine j_pos h2 ?_
      rw [if_pos (by simp [o_turn, h0, h2])] at hQ
      exact hQ
    · refine j_neg h2 ?_
      rw [if_neg (by simp [o_turn, h2])] at hQ
      exact hQ
/-- rows of truth values -/
def w_bl (R : Nat → Int32) : Prop := ∀ k, R k = 0 ∨ R k = 1
theorem w_bl_up {R : Nat → Int32} {k : Nat} {v : Int32} (hv : v = 0 ∨ v = 1) (h : w_bl R) : w_bl (upd R k v) := by
  intro j
  by_cases hj : j = k
  · rw [hj, u_s]; exact hv
  · rw [u_k hj]; exact h j
/-- of the board at b alone something has changed, and its row of captures goes on to hold truth values -/
def q_fb (S z : ev_S) (b : Nat) : Prop := q_fr S z b 7 ∧ (w_bl (S.1 (b + 6)) → w_bl (z.1 (b + 6)))
theorem q_fb_rf (S : ev_S) (b : Nat) : q_fb S S b := ⟨⟨rfl, fun _ _ => rfl⟩, fun h => h⟩
theorem q_fb_trans {S z y : ev_S} {b : Nat} (h1 : q_fb S z b) (h2 : q_fb z y b) : q_fb S y b := ⟨q_fr_trans h1.1 h2.1, fun h => h2.2 (h1.2 h)⟩
theorem q_fb_up {S T : ev_S} {b x k : Nat} {v : Int32} (hx : b ≤ x) (hx2 : x < b + 6) (e : T = ev_up S x k v) : q_fb S T b := ⟨⟨by rw [e]; rfl, fun q hq => by rw [e, m_r (by omega)]⟩, fun h => by rw [e, m_r (by omega)]; exact h⟩
