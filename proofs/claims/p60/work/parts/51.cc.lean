/-! ===== the class: a board's methods ===== -/
theorem o_apply_mv {r : Nat → Int32} {p m f t : Nat} (hm : m < 60) (hp : p < 2) (hf : f < 64) (ht : t < 64) :
    o_apply r p m f t (154 + 180 * p + 3 * m) = Int32.ofNat f ∧ o_apply r p m f t (154 + 180 * p + 3 * m + 1) = Int32.ofNat t ∧ o_apply r p m f t (154 + 180 * p + 3 * m + 2) = (if r (26 + 64 * p + t) = -1 then 0 else 1) ∧
    o_apply r p m f t (12 + 7 * p + 1) = (if r (26 + 64 * p + t) = -1 then r (12 + 7 * p + 1) else r (12 + 7 * p + 1) + 1) := by
  by_cases h : r (26 + 64 * p + t) = -1
  · simp only [o_apply, h, ne_eq, not_true_eq_false, if_false, if_true]
    split <;> (try split) <;> (try unfold o_waits) <;> simp (disch := omega) only [u_k, u_s, and_self]
  · simp only [o_apply, h, ne_eq, not_false_eq_true, if_false, if_true]
    split <;> (try split) <;> (try unfold o_waits) <;> simp (disch := omega) only [u_k, u_s, and_self]
/-- player p's waits behind a move -/
theorem o_apply_wt {r : Nat → Int32} {p m f t : Nat} (hm : m < 60) (hp : p < 2) (hf : f < 64) (ht : t < 64) :
    o_apply r p m f t (12 + 7 * p + 2) = (if o_maker (m + 1) = p then r 2 else r (12 + 7 * p + 2)) ∧
    o_apply r p m f t (12 + 7 * p + 3) = (if o_maker (m + 1) = p then r (12 + 7 * p + 3) else if r (12 + 7 * p + 2) = -1 then r (12 + 7 * p + 3) else ev_max (r (12 + 7 * p + 3)) (r 2 - r (12 + 7 * p + 2))) ∧
    o_apply r p m f t (12 + 7 * p + 4) = (if o_maker (m + 1) = p then r (12 + 7 * p + 4) else if r (12 + 7 * p + 2) = -1 then r (12 + 7 * p + 4) else r (12 + 7 * p + 4) + (r 2 - r (12 + 7 * p + 2))) ∧
    o_apply r p m f t (12 + 7 * p + 5) = (if o_maker (m + 1) = p then r (12 + 7 * p + 5) else if r (12 + 7 * p + 2) = -1 then r (12 + 7 * p + 5) else r (12 + 7 * p + 5) + 1) := by
  by_cases h : r (26 + 64 * p + t) = -1
  · simp only [o_apply, h, ne_eq, not_true_eq_false, if_false, if_true]
    split
    · simp (disch := omega) only [u_k, u_s, and_self]
    · split
      · simp (disch := omega) only [u_k, u_s, and_self]
      · unfold o_waits
        simp (disch := omega) only [u_k, u_s, and_self]
  · simp only [o_apply, h, ne_eq, not_false_eq_true, if_false, if_true]
    split
    · simp (disch := omega) only [u_k, u_s, and_self]
    · split
      · simp (disch := omega) only [u_k, u_s, and_self]
      · unfold o_waits
        simp (disch := omega) only [u_k, u_s, and_self]
theorem i_sq_apply {r : Nat → Int32} {p m f t n : Nat} (hm : m < 60) (hp : p < 2) (h8 : n ≤ 8) (hf : f < n * n) (ht : t < n * n) (hft : f ≠ t) (h : i_sq r p n) : i_sq (o_apply r p m f t) p n := by
  have hn9 := sq_le h8
  intro s hs
  rw [o_apply_sq hm hp (by omega) (by omega) hft hs]
  by_cases h1 : s = f
  · rw [if_pos h1]; exact Or.inl rfl
  · rw [if_neg h1]
    by_cases h2 : s = t
    · rw [if_pos h2]
      rcases h f (by omega) with h3 | ⟨-, h3⟩
      · exact Or.inl h3
      · exact Or.inr ⟨by omega, h3⟩
    · rw [if_neg h2]
      exact h s hs
theorem i_mv_apply {r : Nat → Int32} {p m f t n : Nat} (hm : m < 60) (hp : p < 2) (h8 : n ≤ 8) (hf : f < n * n) (ht : t < n * n) (h : i_mv r p n m) : i_mv (o_apply r p m f t) p n (m + 1) := by
  have hn9 := sq_le h8
  obtain ⟨e1, e2, e3, -⟩ := o_apply_mv (r := r) hm hp (show f < 64 by omega) (show t < 64 by omega)
  intro k hk
  by_cases hkm : k = m
  · subst hkm
    refine ⟨f, t, hf, ht, e1, e2, ?_⟩
    rw [e3]
    split
    · exact Or.inl rfl
    · exact Or.inr rfl
  · rw [o_apply_at (by omega) (by omega) (by omega) (by omega), o_apply_at (by omega) (by omega) (by omega) (by omega), o_apply_at (by omega) (by omega) (by omega) (by omega)]
    exact h k (by omega)
/-- what a memory keeps outside [b, b + w) -/
def q_fr (S z : ev_S) (b w : Nat) : Prop := z.2 = S.2 ∧ ∀ q, q < b ∨ b + w ≤ q → z.1 q = S.1 q
theorem n_mvn (f t : Nat) : Int32.ofNat f * 64 + Int32.ofNat t = Int32.ofNat (f * 64 + t) := by rw [rm_64, n_add]
theorem q_board_play {S : ev_S} {b p n m f t : Nat} {r : Nat → Int32} (hm : m < 60) (hp : p < 2) (h8 : n ≤ 8) (hf : f < n * n) (ht : t < n * n) (hft : f ≠ t) (hsq : i_sq r p n) (hmr : r (12 + 7 * p) = Int32.ofNat m) (h : q_board S.1 b r p n m)
    (z : ev_S) (v : Int32) (hv : v = r (26 + 64 * p + t)) (hz1 : z.1 (b + 1) = upd (upd (S.1 (b + 1)) f (-1)) t (r (26 + 64 * p + f))) (hz2 : z.1 (b + 2) = if v = -1 then S.1 (b + 2) else upd (S.1 (b + 2)) v.toNatClampNeg (S.1 (b + 2) v.toNatClampNeg - 1))
    (hz0 : z.1 b = upd (if v = -1 then S.1 b else upd (S.1 b) 7 (S.1 b 7 + 1)) 6 (Int32.ofNat (m + 1))) (hz3 : z.1 (b + 3) = upd (S.1 (b + 3)) (m + 1) (Int32.ofNat (f * 64 + t))) (hz4 : z.1 (b + 4) = upd (S.1 (b + 4)) (m + 1) (if v = -1 then 0 else 1)) :
    q_board z.1 b (o_apply r p m f t) p n (m + 1) := by
  have hn9 := sq_le h8
  obtain ⟨a1, a2, a3, a4, a5, a6, a7, a8, a9⟩ := h
  obtain ⟨e1, e2, e3, e4⟩ := o_apply_mv (r := r) hm hp (show f < 64 by omega) (show t < 64 by omega)
  have b0 := o_bish_apply (r := r) (q := 0) hm hp h8 hf ht hft (by decide)
  have b1 := o_bish_apply (r := r) (q := 1) hm hp h8 hf ht hft (by decide)
  have l0 := o_bish_le r p n 0 h8
  have l1 := o_bish_le r p n 1 h8
  rw [← hv] at b0 b1 e3 e4
  have fr : ∀ j, j < 12 → o_apply r p m f t j = r j := fun j hj => o_apply_at (by omega) (by omega) (by omega) (by omega)
  refine ⟨fun s hs => ?_, ?_, ?_, ?_, ?_, ?_, ?_, ?_, fun k hk => ?_⟩
  · rw [hz1, o_apply_sq hm hp (by omega) (by omega) hft hs]
    by_cases h1 : s = f
    · rw [if_pos h1, h1, u_k (by omega), u_s]
    · rw [if_neg h1]
      by_cases h2 : s = t
      · rw [if_pos h2, h2, u_s]
      · rw [if_neg h2, u_k h2, u_k h1]
        exact a1 s hs
  · rw [hz2]
    rcases hsq t (by omega) with h9 | ⟨-, h9 | h9⟩
    · rw [← hv] at h9
      rw [if_pos h9, a2, ← b0, h9, if_neg (by decide), Nat.add_zero]
    · rw [← hv] at h9
      rw [h9] at b0 ⊢
      rw [if_pos rfl] at b0
      rw [if_neg (by decide), show (0 : Int32).toNatClampNeg = 0 from rfl, u_s, a2, n_dec _ (by omega)]
      congr 1
      omega
    · rw [← hv] at h9
      rw [h9] at b0 ⊢
      rw [if_neg (by decide)] at b0
      rw [if_neg (by decide), show (1 : Int32).toNatClampNeg = 1 from rfl, u_k (by omega), a2, ← b0, Nat.add_zero]
  · rw [hz2]
    rcases hsq t (by omega) with h9 | ⟨-, h9 | h9⟩
    · rw [← hv] at h9
      rw [if_pos h9, a3, ← b1, h9, if_neg (by decide), Nat.add_zero]
    · rw [← hv] at h9
      rw [h9] at b1 ⊢
      rw [if_neg (by decide)] at b1
      rw [if_neg (by decide), show (0 : Int32).toNatClampNeg = 0 from rfl, u_k (by omega), a3, ← b1, Nat.add_zero]
    · rw [← hv] at h9
      rw [h9] at b1 ⊢
      rw [if_pos rfl] at b1
      rw [if_neg (by decide), show (1 : Int32).toNatClampNeg = 1 from rfl, u_s, a3, n_dec _ (by omega)]
      congr 1
      omega
  · rw [hz0, fr 0 (by omega), ← a4]
    split
    · rw [u_k (by omega)]
    · rw [u_k (by omega), u_k (by omega)]
  · rw [hz0, fr 1 (by omega), ← a5]
    split
    · rw [u_k (by omega)]
    · rw [u_k (by omega), u_k (by omega)]
  · rw [hz0, o_apply_made, u_s]
  · rw [hz0, e4, ← a7]
    split
    · rw [u_k (by omega)]
    · rw [u_k (by omega), u_s]
  · rw [hz0, fr 9 (by omega), fr 10 (by omega), ← a8]
    split
    · rw [u_k (by omega)]
    · rw [u_k (by omega), u_k (by omega)]
  · rw [hz3, hz4]
    by_cases hkm : k = m
    · subst hkm
      rw [u_s, u_s, e1, e2, e3, n_mvn]
      exact ⟨rfl, rfl⟩
    · rw [u_k (by omega), u_k (by omega), o_apply_at (by omega) (by omega) (by omega) (by omega), o_apply_at (by omega) (by omega) (by omega) (by omega), o_apply_at (by omega) (by omega) (by omega) (by omega)]
      exact a9 k (by omega)
theorem b_play {g : ev_G} {S : ev_S} {b p n m f t : Nat} {r : Nat → Int32} (hm : m < 60) (hp : p < 2) (h8 : n ≤ 8) (hf : f < n * n) (ht : t < n * n) (hft : f ≠ t) (hsq : i_sq r p n) (hmr : r (12 + 7 * p) = Int32.ofNat m) (h : q_board S.1 b r p n m)
    {Q : ev_O → ev_S → Prop} (hQ : ∀ z, q_fr S z b 5 → q_board z.1 b (o_apply r p m f t) p n (m + 1) → Q (.inl none) z) : ev_Cv g m_X0_play 3 0 [ev_o 0 b, ev_i (Int32.ofNat (f * 64 + t))] S Q := by
  have hn9 := sq_le h8
  have hh := h
  obtain ⟨a1, a2, a3, a4, a5, a6, a7, a8, a9⟩ := h
  refine sg_X0_play_0 b _ ?_
  rw [n_dv64 (by omega) (by omega), n_rm64 (by omega) (by omega)]
  rcases hsq t (by omega) with h9 | ⟨-, h9⟩
  · simp (disch := omega) only [lm_2, lm_3, lm_6, lm_7, lm_11, lm_12, lm_15, lm_64, lm_124, lm_180, la_1, la_2, la_3, la_12, la_26, la_154, la_514, la_762, la_1140, la_1200, ra_0, ra_1, ra_2, ra_3, ra_4, ra_5, ra_6, ra_7, ra_8, ra_9, ra_10, ra_48, rm_12, rm_2, rm_64, rm_6, n_add, n_mul, n_d1, n_vp, n_c, true_and, forall_eq, m_u, r_s, r_rr, r_2, u_k, u_s, r_r, a_in, a_put, a1, a6, hmr]
    refine j_pos h9 (hQ _ ⟨rfl, fun q hq => ?_⟩ ?_)
    · simp (disch := omega) only [r_r]
    · refine q_board_play hm hp h8 hf ht hft hsq hmr hh _ _ rfl ?_ ?_ ?_ ?_ ?_
      · simp (disch := omega) only [forall_eq, m_u, r_s, r_rr, r_2, u_k, u_s, r_r]
      · simp (disch := omega) only [forall_eq, m_u, r_s, r_rr, r_2, u_k, u_s, r_r, h9, if_true]
      · simp (disch := omega) only [forall_eq, m_u, r_s, r_rr, r_2, u_k, u_s, r_r, h9, if_true]
      · simp (disch := omega) only [forall_eq, m_u, r_s, r_rr, r_2, u_k, u_s, r_r]
      · simp (disch := omega) only [forall_eq, m_u, r_s, r_rr, r_2, u_k, u_s, r_r, h9, if_true]
  · have hne : ¬ r (26 + 64 * p + t) = -1 := by rcases h9 with h9 | h9 <;> rw [h9] <;> decide
    have hvn : ∃ v : Nat, v < 2 ∧ r (26 + 64 * p + t) = Int32.ofNat v := by
      rcases h9 with h9 | h9
      · exact ⟨0, by omega, h9⟩
      · exact ⟨1, by omega, h9⟩
    obtain ⟨v, hv2, hv⟩ := hvn
    simp (disch := omega) only [lm_2, lm_3, lm_6, lm_7, lm_11, lm_12, lm_15, lm_64, lm_124, lm_180, la_1, la_2, la_3, la_12, la_26, la_154, la_514, la_762, la_1140, la_1200, ra_0, ra_1, ra_2, ra_3, ra_4, ra_5, ra_6, ra_7, ra_8, ra_9, ra_10, ra_48, rm_12, rm_2, rm_64, rm_6, n_add, n_mul, n_d1, n_vp, n_c, true_and, forall_eq, m_u, r_s, r_rr, r_2, u_k, u_s, r_r, a_in, a_put, a1, a6, hmr, hv]
    refine j_neg (by rw [← hv]; exact hne) (hQ _ ⟨rfl, fun q hq => ?_⟩ ?_)
    · simp (disch := omega) only [r_r]
    · refine q_board_play hm hp h8 hf ht hft hsq hmr hh _ _ rfl ?_ ?_ ?_ ?_ ?_
      · simp (disch := omega) only [forall_eq, m_u, r_s, r_rr, r_2, u_k, u_s, r_r]
      · rw [if_neg hne]; simp (disch := omega) only [forall_eq, m_u, r_s, r_rr, r_2, u_k, u_s, r_r, hv, n_c]
      · rw [if_neg hne]; simp (disch := omega) only [forall_eq, m_u, r_s, r_rr, r_2, u_k, u_s, r_r]
      · simp (disch := omega) only [forall_eq, m_u, r_s, r_rr, r_2, u_k, u_s, r_r]
      · rw [if_neg hne]; simp (disch := omega) only [forall_eq, m_u, r_s, r_rr, r_2, u_k, u_s, r_r]
