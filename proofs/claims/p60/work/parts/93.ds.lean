/-! ===== both: are the boards equal ===== -/
def o_df (r : Nat → Int32) (s : Nat) : Bool := !decide (r (26 + s) = r (90 + s))
def o_eq (r : Nat → Int32) (n : Nat) : Bool := decide (r 12 = r 19) && decide (cnt (o_df r) (n * n) = 0)
theorem o_eq_t {r : Nat → Int32} {n : Nat} (h : r 12 = r 19) (h2 : ∀ s, s < n * n → r (26 + s) = r (90 + s)) : o_eq r n = true := by
  have hc : cnt (o_df r) (n * n) = 0 := by
    have key : ∀ k, k ≤ n * n → cnt (o_df r) k = 0 := by
      intro k
      induction k with
      | zero => intro _; rfl
      | succ k ih =>
        intro hk
        rw [cnt_f (by unfold o_df; simp [h2 k (by omega)])]
        exact ih (by omega)
    exact key _ (Nat.le_refl _)
  unfold o_eq
  simp [h, hc]
theorem o_eq_f {r : Nat → Int32} {n s : Nat} (hs : s < n * n) (h : ¬ r (26 + s) = r (90 + s)) : ¬ o_eq r n = true := by
  intro hh
  unfold o_eq at hh
  rw [Bool.and_eq_true, decide_eq_true_eq, decide_eq_true_eq] at hh
  exact cnt_none _ hh.2 s hs (by unfold o_df; simp [h])
theorem o_eq_m {r : Nat → Int32} {n : Nat} (h : ¬ r 12 = r 19) : ¬ o_eq r n = true := by
  intro hh
  unfold o_eq at hh
  rw [Bool.and_eq_true, decide_eq_true_eq] at hh
  exact h hh.1
theorem b_agrees {g : ev_G} {S : ev_S} {b c n m0 m1 : Nat} {r : Nat → Int32} (h8 : n ≤ 8) (h0 : q_board S.1 b r 0 n m0) (h1 : q_board S.1 c r 1 n m1) (i0 : i_sq r 0 n) (i1 : i_sq r 1 n) : ev_Fn g m_X0_agreesWith 3 [ev_o 0 b, ev_o 0 c] S (some (ev_i (if o_eq r n = true then 1 else 0))) S := by
  intro Q hQ
  have hn9 := sq_le h8
  have y1 : o_eq r n = true → Q (.inl (some (ev_i 1))) S := fun h => by rw [if_pos h] at hQ; exact hQ
  have y0 : ¬ o_eq r n = true → Q (.inl (some (ev_i 0))) S := fun h => by rw [if_neg h] at hQ; exact hQ
  clear hQ
  have e64 : (64 : Int32) = Int32.ofNat 64 := rfl
  have c0 : ∀ s, s < 64 → S.1 (b + 1) s = r (26 + s) := fun s hs => by
    have := h0.1 s hs
    rw [show 26 + 64 * 0 + s = 26 + s by omega] at this
    exact this
  have c1 : ∀ s, s < 64 → S.1 (c + 1) s = r (90 + s) := fun s hs => by
    have := h1.1 s hs
    rw [show 26 + 64 * 1 + s = 90 + s by omega] at this
    exact this
  have m0' : S.1 b 6 = r 12 := h0.2.2.2.2.2.1
  have m1' : S.1 c 6 = r 19 := h1.2.2.2.2.2.1
  refine sg_X0_agreesWith_0 b c ?_
  rw [m0', m1']
  refine ⟨fun hm => ?_, fun hm => y0 (o_eq_m hm)⟩
  have key : ∀ k i : Nat, i + k = 64 → (∀ s, s < i → r (26 + s) = r (90 + s)) → ev_E g m_X0_agreesWith 3 0 15 [some (ev_o 0 b), some (ev_o 0 c), some (ev_i (Int32.ofNat i))] [] S Q := by
    intro k
    induction k with
    | zero =>
      intro i hi hb
      exact sg_X0_agreesWith_15 b c _ (j_pos (by rw [e64, n_le (by omega) (by omega)]; omega) (y1 (o_eq_t hm (fun s hs => hb s (by omega)))))
    | succ k ih =>
      intro i hi hb
      refine sg_X0_agreesWith_15 b c _ (j_neg (by rw [e64, n_le (by omega) (by omega)]; omega) ?_)
      rw [a_in (by omega) (by omega), a_in (by omega) (by omega), c0 i (by omega), c1 i (by omega), n_inc]
      refine ⟨fun he => ih (i + 1) (by omega) (fun s hs => ?_), fun he => ?_⟩
      · by_cases hsi : s = i
        · rw [hsi]; exact he
        · exact hb s (by omega)
      · by_cases hin : i < n * n
        · exact y0 (o_eq_f hin he)
        · refine absurd ?_ he
          have z0 := i0 i (by omega)
          have z1 := i1 i (by omega)
          rw [show 26 + 64 * 0 + i = 26 + i by omega] at z0
          rw [show 26 + 64 * 1 + i = 90 + i by omega] at z1
          rcases z0 with z0 | z0
          · rcases z1 with z1 | z1
            · rw [z0, z1]
            · exact absurd z1.1 hin
          · exact absurd z0.1 hin
  exact key 64 0 (by omega) (fun s hs => absurd hs (by omega))
theorem a_desk1 (e : Nat) : a_X2_deskOf e 1 = e + 10 := if_neg (by decide)
theorem g_agree {g : ev_G} {S : ev_S} {e n lim np L d : Nat} {r : Nat → Int32} {ρ : List Nat} (hi : IG r n lim np L d ρ) (hg : q_gm S.1 e r n L ρ) : ev_Fn g m_X2_boardsAgree 4 [ev_o 2 e] S (some (ev_i (if o_eq r n = true then 1 else 0))) S := by
  intro Q hQ
  have h0 := (hg.1 0 (by omega)).2.1
  have h1 := (hg.1 1 (by omega)).2.1
  rw [show e + 1 + 9 * 0 + 1 = e + 1 + 1 by omega] at h0
  rw [show e + 1 + 9 * 1 + 1 = e + 10 + 1 by omega] at h1
  refine sg_X2_boardsAgree_0 e ?_
  rw [a_desk0, a_desk1]
  refine b_agrees hi.1.1.2.1 h0 h1 (hi.2.2 0 (by omega)).1 (hi.2.2 1 (by omega)).1 _ ⟨o_eq r n, rfl, fun h => ?_, fun h => ?_⟩
  · rw [if_pos h] at hQ; exact hQ
  · rw [if_neg h] at hQ; exact hQ
/-! ===== forecasts: days pass on a copy ===== -/
theorem o_lv_none {q s d L : Nat} {r : Nat → Int32} (h : ∀ l, l < L → r (1200 + 11 * l + 6) = 2) : ∀ k, o_lv q s d L k r = r := by
  intro k
  cases k with
  | zero => rw [o_lv]
  | succ k =>
    refine o_lv_stop (by omega) (Or.inl (fun i hi hw => ?_))
    simp only [o_wt, decide_eq_true_eq] at hw
    rw [h i hi] at hw
    exact absurd hw.1 (by decide)
theorem o_lvs_none {np d L : Nat} {r : Nat → Int32} (h : ∀ l, l < L → r (1200 + 11 * l + 6) = 2) : ∀ k, o_lvs np d L k r = r := by
  intro k
  induction k with
  | zero => rw [o_lvs]
  | succ k ih =>
    rw [o_lvs]
    have e : o_lvp r (np - (k + 1)) d L = r := by
      unfold o_lvp
      split
      · rfl
      · rw [o_lv_none h, o_lv_none h]
    rw [e]
    exact ih
/-- all letters have arrived -/
theorem i_idle {r : Nat → Int32} {L np : Nat} (k : i_pk r np L) (h4 : r 4 = Int32.ofNat L) (hL : L ≤ 84) (h : r 8 = r 4) : ∀ l, l < L → r (1200 + 11 * l + 6) = 2 := by
  have hc := cnt_le (o_st2 r) L
  rw [k.2, h4, n_eq (by omega) (by omega)] at h
  intro l hl
  have key : ∀ n, cnt (o_st2 r) n = n → ∀ i, i < n → o_st2 r i = true := by
    intro n
    induction n with
    | zero => intro _ i hi; omega
    | succ n ih =>
      intro hn i hi
      have hl := cnt_le (o_st2 r) n
      have h1 : o_st2 r n = true := by
        by_cases hh : o_st2 r n = true
        · exact hh
        · rw [cnt_f hh] at hn; omega
      rw [cnt_t h1] at hn
      by_cases hin : i = n
      · rw [hin]; exact h1
      · exact ih (by omega) i (by omega)
  have := key L h l hl
  unfold o_st2 at this
  rw [decide_eq_true_eq] at this
  exact this
theorem o_dayf_idle {r : Nat → Int32} {n lim np L d : Nat} {ρ : List Nat} (hd : d + 1 < 1000000) (h : IG r n lim np L d ρ) (hz : ∀ l, l < L → r (1200 + 11 * l + 6) = 2) : o_dayf r n np L d = upd r 2 (Int32.ofNat (d + 1)) := by
  have hρ : ρ = [] := by
    cases ρ with
    | nil => rfl
    | cons x ρ =>
      have := h.2.1.2.2.1 x List.mem_cons_self
      rw [hz x this.1] at this
      exact absurd this.2.1 (by decide)
  unfold o_dayf
  rw [IG_rl h, day_split hd h.1 h.2.1.2.2, hρ, o_ar, rds]
  unfold o_dayP
  rw [o_tp]
  exact o_lvs_none (fun l hl => by rw [u_k (by omega)]; exact hz l hl) np
/-- the first day on which T holds; none within k days -/
def o_fw (T : (Nat → Int32) → Bool) (n np L : Nat) : Nat → Nat → Nat → (Nat → Int32) → Int32
  | 0, _, _, _ => -1
  | k + 1, i, d, r => if T r = true then Int32.ofNat i else o_fw T n np L k (i + 1) (d + 1) (o_dayf r n np L d)
theorem o_fw_idle {T : (Nat → Int32) → Bool} (hT : ∀ r v, T (upd r 2 v) = T r) {n lim np L : Nat} : ∀ (k i d : Nat) (r : Nat → Int32) (ρ : List Nat), d + k < 1000000 → IG r n lim np L d ρ → (∀ l, l < L → r (1200 + 11 * l + 6) = 2) → ¬ T r = true → o_fw T n np L k i d r = -1 := by
  intro k
  induction k with
  | zero => intro i d r ρ _ _ _ _; rfl
  | succ k ih =>
    intro i d r ρ hd h hz hn
    obtain ⟨⟨ρ', hI⟩, -⟩ := IG_day (by omega) h
    rw [o_fw, if_neg hn]
    rw [o_dayf_idle (by omega) h hz] at hI ⊢
    exact ih _ _ _ ρ' (by omega) hI (fun l hl => by rw [u_k (by omega)]; exact hz l hl) (by rw [hT]; exact hn)
/-- what a forecast of the reference leaves -/
def m_fc (S z : ev_S) (a : Nat) : Prop := z.2 = S.2 ∧ (∀ q, q ≠ a → q ≠ a + 1 → q ≠ a + 2 → z.1 q = S.1 q) ∧ (∀ j, j ≠ 7 → j ≠ 8 → z.1 a j = S.1 a j) ∧ z.1 a 7 = 0 ∧ z.1 a 8 = -1 ∧ ∀ j, j < 2091 → z.1 (a + 1) j = S.1 (a + 1) j
/-- the reference once its row is aside, a row r in its place -/
def m_in (S : ev_S) (a : Nat) (r : Nat → Int32) : ev_S := ev_ur (ev_ur (ev_up S a 7 0) (a + 2) (o_rw (S.1 (a + 2)) (S.1 (a + 1)) 0)) (a + 1) r
theorem m_in_fc (S : ev_S) (a : Nat) (r : Nat → Int32) (v : Int32) : m_fc S (ev_up (ev_ur (ev_up (m_in S a r) a 8 v) (a + 1) (o_rw r ((m_in S a r).1 (a + 2)) 0)) a 8 (-1)) a := by
  unfold m_in
  refine ⟨rfl, fun q h0 h1 h2 => by rw [m_r h0, r_r h1, m_r h0, r_r h1, r_r h2, m_r h0], fun j h7 h8 => by rw [m_k h8, r_r (by omega), m_k h8, r_r (by omega), r_r (by omega), m_k h7], by rw [m_k (by omega), r_r (by omega), m_k (by omega), r_r (by omega), r_r (by omega), m_s], m_s _ _ _ _, fun j hj => ?_⟩
  rw [m_r (by omega), r_s, o_rw_lt hj, r_r (by omega), r_s, o_rw_lt hj]
theorem m_in_1 {S : ev_S} {a : Nat} {r : Nat → Int32} : (m_in S a r).1 (a + 1) = r := r_s _ _ _
theorem m_in_8 {S : ev_S} {a : Nat} {r : Nat → Int32} (h : S.1 a 8 = -1) : (m_in S a r).1 a 8 = -1 := by
  unfold m_in
  rw [r_r (by omega), r_r (by omega), m_k (by omega)]
  exact h
theorem m_in_self (S : ev_S) (a : Nat) : ev_ur (ev_up S a 7 0) (a + 2) (o_rw ((ev_up S a 7 0).1 (a + 2)) ((ev_up S a 7 0).1 (a + 1)) 0) = m_in S a (S.1 (a + 1)) := by
  unfold m_in
  have e1 : (ev_up S a 7 0).1 (a + 2) = S.1 (a + 2) := m_r (by omega)
  have e2 : (ev_up S a 7 0).1 (a + 1) = S.1 (a + 1) := m_r (by omega)
  rw [e1, e2]
  have e3 : (ev_ur (ev_up S a 7 0) (a + 2) (o_rw (S.1 (a + 2)) (S.1 (a + 1)) 0)).1 (a + 1) = S.1 (a + 1) := by rw [r_r (by omega), m_r (by omega)]
  have e4 := r_self (ev_ur (ev_up S a 7 0) (a + 2) (o_rw (S.1 (a + 2)) (S.1 (a + 1)) 0)) (a + 1)
  rw [e3] at e4
  exact e4.symm
theorem m_in_in (S : ev_S) (a : Nat) (r r' : Nat → Int32) : ev_ur (m_in S a r) (a + 1) r' = m_in S a r' := by
  unfold m_in
  rw [r_rr]
theorem m_in_up {S : ev_S} {a : Nat} {r : Nat → Int32} (h : S.1 a 8 = -1) : ev_up (m_in S a r) a 8 (-1) = m_in S a r := by
  rw [m_u]
  have e : upd ((m_in S a r).1 a) 8 (-1) = (m_in S a r).1 a := by
    funext j
    by_cases hj : j = 8
    · rw [hj, u_s, m_in_8 h]
    · rw [u_k hj]
  rw [e, r_self]