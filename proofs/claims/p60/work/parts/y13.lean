/-! ===== the class's answers, by the row ===== -/
def CF (M : Nat → Nat → Int32) (b : Nat) (r : Nat → Int32) (n lim np L d : Nat) (ρ : List Nat) : Prop := (IG r n lim np L d ρ ∧ L ≤ 80 ∧ d < 10000 ∧ q_gm M (b + 11) r n L ρ ∧ i_ok r n np L) ∧ CX r n np L
section KF
variable {g : ev_G} {S : ev_S} {b n lim np L d : Nat} {r : Nat → Int32} {ρ : List Nat} {Q : ev_O → ev_S → Prop}
theorem CF_m (c : CF S.1 b r n lim np L d ρ) {p : Nat} (hp : p < 2) : r (12 + 7 * p) = Int32.ofNat (o_mad r p) ∧ o_mad r p ≤ lim ∧ lim ≤ 60 := by
  have hdk := i_dk_p c.1.1.1 hp
  obtain ⟨m, hm, hml⟩ := hdk.2.2.2.2.1
  have h60 := hdk.2.2.2.1
  have hmd : o_mad r p = m := by unfold o_mad; rw [hm, n_c (by omega)]
  rw [hmd]
  exact ⟨hm, hml, h60⟩
theorem k_owner {p s : Nat} (c : CF S.1 b r n lim np L d ρ) (hp : p < 2) (hs : s < n * n) (hQ : Q (.inl (some (ev_i (r (26 + 64 * p + s))))) S) : ev_Cv g m_X9_bishopOwner 4 1 [ev_o 9 b, ev_i (Int32.ofNat p), ev_i (Int32.ofNat s)] S Q := by
  obtain ⟨⟨hI, hL, hd, hg, hk⟩, hx⟩ := c
  obtain ⟨en, -, -⟩ := q_gm_sz hI hg
  have h8 := hI.1.1.2.1
  have hn9 := sq_le h8
  refine sg_X9_bishopOwner_0 b _ _ (j_pos (t_pl.mpr ⟨p, rfl, hp⟩) (j_pos ((t_sq en h8).mpr ⟨s, rfl, hs⟩) ?_))
  have hv : S.1 (b + 11 + 1 + 9 * p + 2) s = r (26 + 64 * p + s) := (hg.1 p hp).2.1.1 s (by omega)
  rw [a_desk hp, a_in (by omega) (by omega), hv]
  exact hQ
theorem k_count {p s : Nat} (c : CF S.1 b r n lim np L d ρ) (hp : p < 2) (hs : s < 2) (hQ : Q (.inl (some (ev_i (Int32.ofNat (o_bish r p n (Int32.ofNat s)))))) S) : ev_Cv g m_X9_bishopCount 3 1 [ev_o 9 b, ev_i (Int32.ofNat p), ev_i (Int32.ofNat s)] S Q := by
  obtain ⟨⟨hI, hL, hd, hg, hk⟩, hx⟩ := c
  refine sg_X9_bishopCount_0 b _ _ (j_pos (t_pl.mpr ⟨p, rfl, hp⟩) (j_pos (t_pl.mpr ⟨s, rfl, hs⟩) ?_))
  have hv : S.1 (b + 11 + 1 + 9 * p + 3) s = Int32.ofNat (o_bish r p n (Int32.ofNat s)) := by
    have hs' : s = 0 ∨ s = 1 := by omega
    rcases hs' with rfl | rfl
    · exact (hg.1 p hp).2.1.2.1
    · exact (hg.1 p hp).2.1.2.2.1
  rw [a_desk hp, a_in (by omega) (by omega), hv]
  exact hQ
theorem k_made {p : Nat} (c : CF S.1 b r n lim np L d ρ) (hp : p < 2) (hQ : Q (.inl (some (ev_i (r (12 + 7 * p))))) S) : ev_Cv g m_X9_moveCount 3 1 [ev_o 9 b, ev_i (Int32.ofNat p)] S Q := by
  obtain ⟨⟨hI, hL, hd, hg, hk⟩, hx⟩ := c
  refine sg_X9_moveCount_0 b _ (j_pos (t_pl.mpr ⟨p, rfl, hp⟩) ?_)
  have hv : S.1 (b + 11 + 1 + 9 * p + 1) 6 = r (12 + 7 * p) := (hg.1 p hp).2.1.2.2.2.2.2.1
  rw [a_desk hp, hv]
  exact hQ
theorem k_turn {p : Nat} (c : CF S.1 b r n lim np L d ρ) (hp : p < 2) (hQ : Q (.inl (some (ev_i (if o_turn r p n (o_mad r p) = true then 1 else 0)))) S) : ev_Cv g m_X9_isTurn 5 1 [ev_o 9 b, ev_i (Int32.ofNat p)] S Q := by
  obtain ⟨hm, hml, h60⟩ := CF_m c hp
  obtain ⟨⟨hI, hL, hd, hg, hk⟩, hx⟩ := c
  refine sg_X9_isTurn_0 b _ (j_pos (t_pl.mpr ⟨p, rfl, hp⟩) ?_)
  rw [a_desk hp, t_may hp hI.1.1.2.1 hm (by omega) (hg.1 p hp)]
  exact ⟨fun h => by rw [if_pos h] at hQ; exact hQ, fun h => by rw [if_neg h] at hQ; exact hQ⟩
theorem k_over {p : Nat} (c : CF S.1 b r n lim np L d ρ) (hp : p < 2) (hQ : Q (.inl (some (ev_i (if o_over r p n = true then 1 else 0)))) S) : ev_Cv g m_X9_isOver 4 1 [ev_o 9 b, ev_i (Int32.ofNat p)] S Q := by
  obtain ⟨⟨hI, hL, hd, hg, hk⟩, hx⟩ := c
  refine sg_X9_isOver_0 b _ (j_pos (t_pl.mpr ⟨p, rfl, hp⟩) ?_)
  rw [a_desk hp, b_fin hI.1.1.2.1 (hg.1 p hp).2.1]
  exact ⟨fun h => by rw [if_pos h] at hQ; exact hQ, fun h => by rw [if_neg h] at hQ; exact hQ⟩
/-- who has won -/
def o_win (r : Nat → Int32) (p n : Nat) : Int32 := if o_over r p n = true then (if Int32.ofNat (o_bish r p n 0) - Int32.ofNat (o_bish r p n 1) = 0 then -1 else if Int32.ofNat (o_bish r p n 0) - Int32.ofNat (o_bish r p n 1) ≤ 0 then 1 else 0) else -1
theorem k_winner {p : Nat} (c : CF S.1 b r n lim np L d ρ) (hp : p < 2) (hQ : Q (.inl (some (ev_i (o_win r p n)))) S) : ev_Cv g m_X9_winner 4 1 [ev_o 9 b, ev_i (Int32.ofNat p)] S Q := by
  obtain ⟨⟨hI, hL, hd, hg, hk⟩, hx⟩ := c
  have b0 : j_at (S.1 (b + 11 + 1 + 9 * p + 3)) 2 0 = Int32.ofNat (o_bish r p n 0) := (a_in (k := 0) (by omega) (by omega)).trans (hg.1 p hp).2.1.2.1
  have b1 : j_at (S.1 (b + 11 + 1 + 9 * p + 3)) 2 1 = Int32.ofNat (o_bish r p n 1) := (a_in (k := 1) (by omega) (by omega)).trans (hg.1 p hp).2.1.2.2.1
  refine sg_X9_winner_0 b _ (j_pos (t_pl.mpr ⟨p, rfl, hp⟩) ?_)
  rw [a_desk hp, b_fin hI.1.1.2.1 (hg.1 p hp).2.1, b0, b1]
  unfold o_win at hQ
  refine ⟨fun h1 => ?_, fun h1 => ?_⟩
  · rw [if_pos h1] at hQ
    refine ⟨fun h2 => ?_, fun h2 => ?_⟩
    · rw [if_pos h2] at hQ; exact hQ
    · rw [if_neg h2] at hQ
      exact ⟨fun h3 => by rw [if_pos h3] at hQ; exact hQ, fun h3 => by rw [if_neg h3] at hQ; exact hQ⟩
  · rw [if_neg h1] at hQ; exact hQ
theorem k_stored {p : Nat} (c : CF S.1 b r n lim np L d ρ) (hp : p < 2) (hQ : Q (.inl (some (ev_i (Int32.ofNat (o_nst r p))))) S) : ev_Cv g m_X9_storedMoves 2 1 [ev_o 9 b, ev_i (Int32.ofNat p)] S Q := by
  obtain ⟨⟨hI, hL, hd, hg, hk⟩, hx⟩ := c
  refine sg_X9_storedMoves_0 b _ (j_pos (t_pl.mpr ⟨p, rfl, hp⟩) ?_)
  have hv : S.1 (b + 11 + 1 + 9 * p) 5 = Int32.ofNat (o_nst r p) := (hg.1 p hp).2.2.2.2.1
  rw [a_desk hp, hv]
  exact hQ
theorem k_from {p k : Nat} (c : CF S.1 b r n lim np L d ρ) (hp : p < 2) (hkm : k < o_mad r p) (hQ : Q (.inl (some (ev_i (r (154 + 180 * p + 3 * k))))) S) : ev_Cv g m_X9_movedFrom 4 2 [ev_o 9 b, ev_i (Int32.ofNat p), ev_i (Int32.ofNat (k + 1))] S Q := by
  obtain ⟨hm, hml, h60⟩ := CF_m c hp
  obtain ⟨⟨hI, hL, hd, hg, hk⟩, hx⟩ := c
  obtain ⟨h1, h2⟩ := mv_at (x := Int32.ofNat (k + 1)) hI.1.1.2.1 hm (by omega) (hI.2.2 p hp).2 (hg.1 p hp).2.1
  refine sg_X9_movedFrom_0 b _ _ (j_pos (t_pl.mpr ⟨p, rfl, hp⟩) ?_)
  rw [a_desk hp]
  refine j_neg (fun h => (h1.mp h) ⟨k, rfl, hkm⟩) ?_
  rw [(h2 k rfl hkm).1]
  exact hQ
theorem k_to {p k : Nat} (c : CF S.1 b r n lim np L d ρ) (hp : p < 2) (hkm : k < o_mad r p) (hQ : Q (.inl (some (ev_i (r (154 + 180 * p + 3 * k + 1))))) S) : ev_Cv g m_X9_movedTo 4 2 [ev_o 9 b, ev_i (Int32.ofNat p), ev_i (Int32.ofNat (k + 1))] S Q := by
  obtain ⟨hm, hml, h60⟩ := CF_m c hp
  obtain ⟨⟨hI, hL, hd, hg, hk⟩, hx⟩ := c
  obtain ⟨h1, h2⟩ := mv_at (x := Int32.ofNat (k + 1)) hI.1.1.2.1 hm (by omega) (hI.2.2 p hp).2 (hg.1 p hp).2.1
  refine sg_X9_movedTo_0 b _ _ (j_pos (t_pl.mpr ⟨p, rfl, hp⟩) ?_)
  rw [a_desk hp]
  refine j_neg (fun h => (h1.mp h) ⟨k, rfl, hkm⟩) ?_
  rw [(h2 k rfl hkm).2]
  exact hQ
theorem k_awaited {p : Nat} (c : CF S.1 b r n lim np L d ρ) (hp : p < 2) (hQ : Q (.inl (some (ev_i (o_aw r p (o_mad r p) L)))) S) : ev_Cv g m_X9_awaitedLetter 4 1 [ev_o 9 b, ev_i (Int32.ofNat p)] S Q := by
  obtain ⟨⟨hI, hL, hd, hg, hk⟩, hx⟩ := c
  exact sg_X9_awaitedLetter_0 b _ (j_pos (t_pl.mpr ⟨p, rfl, hp⟩) (b_awaited hI hL hg hp _ ⟨_, rfl, hQ⟩))
theorem k_kept {p : Nat} (c : CF S.1 b r n lim np L d ρ) (hp : p < 2) (hQ : Q (.inl (some (ev_i (r (12 + 7 * p + 6))))) S) : ev_Cv g m_X9_keptPromises 2 1 [ev_o 9 b, ev_i (Int32.ofNat p)] S Q := by
  obtain ⟨⟨hI, hL, hd, hg, hk⟩, hx⟩ := c
  refine sg_X9_keptPromises_0 b _ (j_pos (t_pl.mpr ⟨p, rfl, hp⟩) ?_)
  have hv : S.1 (b + 11 + 1 + 9 * p) 6 = r (12 + 7 * p + 6) := (hg.1 p hp).2.2.2.2.2.1
  rw [a_desk hp, hv]
  exact hQ
theorem k_longest {p : Nat} (c : CF S.1 b r n lim np L d ρ) (hp : p < 2) (hQ : Q (.inl (some (ev_i (r (12 + 7 * p + 3))))) S) : ev_Cv g m_X9_longestWait 2 1 [ev_o 9 b, ev_i (Int32.ofNat p)] S Q := by
  obtain ⟨⟨hI, hL, hd, hg, hk⟩, hx⟩ := c
  refine sg_X9_longestWait_0 b _ (j_pos (t_pl.mpr ⟨p, rfl, hp⟩) ?_)
  have hv : S.1 (b + 11 + 1 + 9 * p) 10 = r (12 + 7 * p + 3) := (hg.1 p hp).2.2.2.2.2.2.2.2.2
  rw [a_desk hp, hv]
  exact hQ
theorem k_mean {p : Nat} (c : CF S.1 b r n lim np L d ρ) (hp : p < 2) (q0 : r (12 + 7 * p + 5) = 0 → Q (.inl (some (ev_d 0))) S) (q1 : ¬ r (12 + 7 * p + 5) = 0 → Q (.inl (some (ev_d (FP.ddiv (FP.i2d (r (12 + 7 * p + 4))) (FP.i2d (r (12 + 7 * p + 5))))))) S) : ev_Cv g m_X9_meanWait 2 1 [ev_o 9 b, ev_i (Int32.ofNat p)] S Q := by
  obtain ⟨⟨hI, hL, hd, hg, hk⟩, hx⟩ := c
  refine sg_X9_meanWait_0 b _ (j_pos (t_pl.mpr ⟨p, rfl, hp⟩) ?_)
  have e8 : S.1 (b + 11 + 1 + 9 * p) 8 = r (12 + 7 * p + 5) := (hg.1 p hp).2.2.2.2.2.2.2.1
  have e9 : S.1 (b + 11 + 1 + 9 * p) 9 = r (12 + 7 * p + 4) := (hg.1 p hp).2.2.2.2.2.2.2.2.1
  rw [a_desk hp, e8, e9]
  exact ⟨q0, fun h => ⟨mean64 h, q1 h⟩⟩
/-- why a player waits -/
def o_why (r : Nat → Int32) (p n L : Nat) : Int32 := if o_turn r p n (o_mad r p) = true then 0 else if o_over r p n = true then 1 else if o_aw r p (o_mad r p) L = -1 then 2 else 3 + r (1200 + 11 * (o_aw r p (o_mad r p) L).toNatClampNeg + 6)
theorem o_aw_lt {p : Nat} (hL : L ≤ 84) (h : ¬ o_aw r p (o_mad r p) L = -1) : ∃ l, o_aw r p (o_mad r p) L = Int32.ofNat l ∧ l < L ∧ aw_f r p (o_mad r p) l = true := by
  unfold o_aw at h ⊢
  by_cases hl : fnd (aw_f r p (o_mad r p)) L < L
  · rw [if_pos hl]
    exact ⟨_, rfl, hl, (fnd_spec _ L).1 hl⟩
  · rw [if_neg hl] at h
    exact absurd rfl h
theorem k_reason {p : Nat} (c : CF S.1 b r n lim np L d ρ) (hp : p < 2) (hQ : Q (.inl (some (ev_i (o_why r p n L)))) S) : ev_Cv g m_X9_reasonToWait 5 1 [ev_o 9 b, ev_i (Int32.ofNat p)] S Q := by
  obtain ⟨hm, hml, h60⟩ := CF_m c hp
  obtain ⟨⟨hI, hL, hd, hg, hk⟩, hx⟩ := c
  refine sg_X9_reasonToWait_0 b _ (j_pos (t_pl.mpr ⟨p, rfl, hp⟩) ?_)
  rw [a_desk hp, t_may hp hI.1.1.2.1 hm (by omega) (hg.1 p hp), b_fin hI.1.1.2.1 (hg.1 p hp).2.1]
  unfold o_why at hQ
  refine ⟨fun h1 => by rw [if_pos h1] at hQ; exact hQ, fun h1 => ?_⟩
  rw [if_neg h1] at hQ
  refine ⟨fun h2 => by rw [if_pos h2] at hQ; exact hQ, fun h2 => ?_⟩
  rw [if_neg h2] at hQ
  refine b_awaited hI hL hg hp _ ⟨_, rfl, fun h3 => by rw [if_pos h3] at hQ; exact hQ, fun h3 => ?_⟩
  rw [if_neg h3] at hQ
  obtain ⟨l, e1, hl, hf⟩ := o_aw_lt (by omega) h3
  rw [e1, n_c (by omega)] at hQ
  have w6 : S.1 (b + 40) l = r (1200 + 11 * l + 6) := (hg.2.1.1.2.2 l hl).2.2.1
  rw [e1, a_in (by omega) (by omega), w6]
  simp only [aw_f, decide_eq_true_eq] at hf
  obtain ⟨-, -, -, -, hst, -⟩ := i_ps_bq hI.2.1.1 hl
  have z30 : (3 : Int32) + 0 = 3 := by decide
  have z31 : (3 : Int32) + 1 = 4 := by decide
  rcases hst with hst | hst | hst
  · rw [hst, z30] at hQ
    exact j_pos hst hQ
  · rw [hst, z31] at hQ
    exact j_neg (by rw [hst]; decide) hQ
  · exact absurd hst hf.2.1
theorem k_snow {q t : Nat} (c : CF S.1 b r n lim np L d ρ) (hq : q < np) (ht : t < 12) (hQ : Q (.inl (some (ev_i (r (1140 + 15 * q + (3 + t)))))) S) : ev_Cv g m_X9_snowDepth 3 1 [ev_o 9 b, ev_i (Int32.ofNat q), ev_i (Int32.ofNat t)] S Q := by
  obtain ⟨⟨hI, hL, hd, hg, hk⟩, hx⟩ := c
  obtain ⟨-, e3, -⟩ := q_gm_sz hI hg
  have hnp := hI.1.2.2.2.1
  refine sg_X9_snowDepth_0 b _ _ (j_pos ((t_ex e3 (by omega)).mpr ⟨q, rfl, hq⟩) (j_pos (t_mo.mpr ⟨t, rfl, ht⟩) ?_))
  have hv : S.1 (b + 33) (q * 12 + t) = r (1140 + 15 * q + (3 + t)) := (hg.2.1.1.2.1 q (by omega)).2.2.1 t ht
  rw [rm_12, n_add, a_in (by omega) (by omega), hv]
  exact hQ
theorem k_travel {q : Nat} (c : CF S.1 b r n lim np L d ρ) (hq : q < np) (hQ : Q (.inl (some (ev_i (if r (1140 + 15 * q + (3 + d / 30 % 12)) = 9 then -1 else r (1140 + 15 * q) + r (1140 + 15 * q + (3 + d / 30 % 12)))))) S) : ev_Cv g m_X9_travelDays 4 1 [ev_o 9 b, ev_i (Int32.ofNat q)] S Q := by
  obtain ⟨⟨hI, hL, hd, hg, hk⟩, hx⟩ := c
  obtain ⟨-, e3, -⟩ := q_gm_sz hI hg
  have hnp := hI.1.2.2.2.1
  have hlt : d / 30 % 12 < 12 := Nat.mod_lt _ (by decide)
  have w2 : S.1 (b + 31 + 2) (q * 12 + d / 30 % 12) = r (1140 + 15 * q + (3 + d / 30 % 12)) := (hg.2.1.1.2.1 q (by omega)).2.2.1 _ hlt
  have w1 : S.1 (b + 31 + 1) q = r (1140 + 15 * q) := (hg.2.1.1.2.1 q (by omega)).1
  have hmo : ev_rem (r 2 / 30) 12 = Int32.ofNat (d / 30 % 12) := by rw [hI.1.2.2.2.2.2.2.1, n_dv30 (by omega), n_rm12 (by omega)]
  refine sg_X9_travelDays_0 b _ (j_pos ((t_ex e3 (by omega)).mpr ⟨q, rfl, hq⟩) ?_)
  rw [hg.2.2.2.1, hmo]
  have hval : f_X5_daysOver S (b + 31) (Int32.ofNat q) (Int32.ofNat (d / 30 % 12)) = (if r (1140 + 15 * q + (3 + d / 30 % 12)) = 9 then -1 else r (1140 + 15 * q) + r (1140 + 15 * q + (3 + d / 30 % 12))) := by
    unfold f_X5_daysOver
    rw [rm_12, n_add, a_in (by omega) (by omega), a_in (by omega) (by omega), w2, w1]
    have hb9 := (hI.2.1.1.2.2.2.2.2.2.1 q hq).2 _ hlt
    have e9 : (9 : Int32).toInt = 9 := rfl
    by_cases h9 : r (1140 + 15 * q + (3 + d / 30 % 12)) = 9
    · rw [if_pos h9, if_neg (by rw [h9]; decide)]
    · rw [if_neg h9, if_pos (by rw [z_lt, e9]; rw [z_eq, e9] at h9; omega)]
  rw [hval]
  exact hQ
theorem k_mules {q s : Nat} (c : CF S.1 b r n lim np L d ρ) (hq : q < np) (hs : s < 2) (hQ : Q (.inl (some (ev_i (r (1140 + 15 * q + (1 + s)))))) S) : ev_Cv g m_X9_mules 3 1 [ev_o 9 b, ev_i (Int32.ofNat q), ev_i (Int32.ofNat s)] S Q := by
  obtain ⟨⟨hI, hL, hd, hg, hk⟩, hx⟩ := c
  obtain ⟨-, e3, -⟩ := q_gm_sz hI hg
  have hnp := hI.1.2.2.2.1
  refine sg_X9_mules_0 b _ _ (j_pos ((t_ex e3 (by omega)).mpr ⟨q, rfl, hq⟩) (j_pos (t_pl.mpr ⟨s, rfl, hs⟩) ?_))
  have hv : S.1 (b + 34) (q * 2 + s) = r (1140 + 15 * q + (1 + s)) := (hg.2.1.1.2.1 q (by omega)).2.1 s hs
  rw [rm_2, n_add, a_in (by omega) (by omega), hv]
  exact hQ
theorem k_queue {q s : Nat} (c : CF S.1 b r n lim np L d ρ) (hq : q < np) (hs : s < 2) (hQ : Q (.inl (some (ev_i (Int32.ofNat (cnt (o_wt r q s) L))))) S) : ev_Cv g m_X9_queueLength 3 1 [ev_o 9 b, ev_i (Int32.ofNat q), ev_i (Int32.ofNat s)] S Q := by
  obtain ⟨⟨hI, hL, hd, hg, hk⟩, hx⟩ := c
  obtain ⟨-, e3, -⟩ := q_gm_sz hI hg
  have hnp := hI.1.2.2.2.1
  refine sg_X9_queueLength_0 b _ _ (j_pos ((t_ex e3 (by omega)).mpr ⟨q, rfl, hq⟩) (j_pos (t_pl.mpr ⟨s, rfl, hs⟩) ?_))
  have hv : S.1 (b + 46) (q * 2 + s) = Int32.ofNat (cnt (o_wt r q s) L) := (hg.2.1.1.2.1 q (by omega)).2.2.2 s hs
  rw [rm_2, n_add, a_in (by omega) (by omega), hv]
  exact hQ
theorem k_writer {l : Nat} (c : CF S.1 b r n lim np L d ρ) (hl : l < L) (hQ : Q (.inl (some (ev_i (r (1200 + 11 * l))))) S) : ev_Cv g m_X9_writer 3 1 [ev_o 9 b, ev_i (Int32.ofNat l)] S Q := by
  obtain ⟨⟨hI, hL, hd, hg, hk⟩, hx⟩ := c
  obtain ⟨-, -, e13⟩ := q_gm_sz hI hg
  refine sg_X9_writer_0 b _ (j_pos ((t_le e13 (by omega)).mpr ⟨l, rfl, hl⟩) ?_)
  have hv : S.1 (b + 35) l = r (1200 + 11 * l) := (hg.2.1.1.2.2 l hl).1
  rw [a_in (by omega) (by omega), hv]
  exact hQ
theorem k_number {l : Nat} (c : CF S.1 b r n lim np L d ρ) (hl : l < L) (hQ : Q (.inl (some (ev_i (r (1200 + 11 * l + 3))))) S) : ev_Cv g m_X9_letterNumber 3 1 [ev_o 9 b, ev_i (Int32.ofNat l)] S Q := by
  obtain ⟨⟨hI, hL, hd, hg, hk⟩, hx⟩ := c
  obtain ⟨-, -, e13⟩ := q_gm_sz hI hg
  refine sg_X9_letterNumber_0 b _ (j_pos ((t_le e13 (by omega)).mpr ⟨l, rfl, hl⟩) ?_)
  have hv : S.1 (b + 36) l = r (1200 + 11 * l + 3) := (hg.2.2.1 l hl).1
  rw [a_in (by omega) (by omega), hv]
  exact hQ
theorem k_state {l : Nat} (c : CF S.1 b r n lim np L d ρ) (hl : l < L) (hQ : Q (.inl (some (ev_i (r (1200 + 11 * l + 6))))) S) : ev_Cv g m_X9_letterState 3 1 [ev_o 9 b, ev_i (Int32.ofNat l)] S Q := by
  obtain ⟨⟨hI, hL, hd, hg, hk⟩, hx⟩ := c
  obtain ⟨-, -, e13⟩ := q_gm_sz hI hg
  refine sg_X9_letterState_0 b _ (j_pos ((t_le e13 (by omega)).mpr ⟨l, rfl, hl⟩) ?_)
  have hv : S.1 (b + 40) l = r (1200 + 11 * l + 6) := (hg.2.1.1.2.2 l hl).2.2.1
  rw [a_in (by omega) (by omega), hv]
  exact hQ
theorem k_prm_l {l : Nat} (c : CF S.1 b r n lim np L d ρ) (hl : l < L) : r (1200 + 11 * l + 2) = 0 ∨ r (1200 + 11 * l + 2) = 1 := by
  obtain ⟨kk, hlet⟩ := IR_let c.1.1.1 hl
  obtain ⟨-, -, -, -, -, -, -, _, _, -, -, -, -, -, h9⟩ := hlet
  rcases h9 with h9 | h9
  · exact Or.inl h9
  · exact Or.inr h9.1
theorem k_isPrm {l : Nat} (c : CF S.1 b r n lim np L d ρ) (hl : l < L) (q0 : r (1200 + 11 * l + 2) = 0 → Q (.inl (some (ev_i 0))) S) (q1 : r (1200 + 11 * l + 2) = 1 → Q (.inl (some (ev_i 1))) S) : ev_Cv g m_X9_isPromise 3 1 [ev_o 9 b, ev_i (Int32.ofNat l)] S Q := by
  have h01 := k_prm_l c hl
  obtain ⟨⟨hI, hL, hd, hg, hk⟩, hx⟩ := c
  obtain ⟨-, -, e13⟩ := q_gm_sz hI hg
  refine sg_X9_isPromise_0 b _ (j_pos ((t_le e13 (by omega)).mpr ⟨l, rfl, hl⟩) ?_)
  have hv : S.1 (b + 38) l = (if r (1200 + 11 * l + 2) = 1 then r (762 + 6 * (r (1200 + 11 * l + 3)).toNatClampNeg) * 64 + r (762 + 6 * (r (1200 + 11 * l + 3)).toNatClampNeg + 1) else -1) := (hg.2.2.1 l hl).2.2
  obtain ⟨kk, hlet⟩ := IR_let hI.1 hl
  obtain ⟨-, -, hk1, hk60, -, -, hr3, f, t, hf, ht, hft, hrf, hrt, hpr⟩ := hlet
  have hbit : S.1 (b + 38) l = -1 ↔ ¬ r (1200 + 11 * l + 2) = 1 := by
    rw [hv]
    rcases hpr with h0 | ⟨h1, h2, -⟩
    · rw [h0]
      exact ⟨fun _ => by decide, fun _ => if_neg (by decide)⟩
    · rw [if_pos h1, hr3, n_c (by omega)]
      obtain ⟨ef, et, rf, rt, g1, g2, -, -, -, -, g4, g5, -⟩ := h2
      rw [g4, g5]
      have h8 := hI.1.1.2.1
      have hn9 := sq_le h8
      have e64 : (64 : Int32) = Int32.ofNat 64 := rfl
      rw [e64, n_mul, n_add, n_m1 (by omega)]
      exact ⟨fun hh => absurd hh id, fun hh => absurd h1 hh⟩
  rw [a_in (by omega) (by omega), hbit]
  refine ⟨fun h => q0 ?_, fun h => q1 (Classical.not_not.mp h)⟩
  rcases h01 with h9 | h9
  · exact h9
  · exact absurd h9 h
theorem k_can {p f t : Nat} (c : CF S.1 b r n lim np L d ρ) (hp : p < 2) (hf : f < n * n) (ht : t < n * n) (hQ : Q (.inl (some (ev_i (if o_moves r p n (r (26 + 64 * p + f)) f t = true then 1 else 0)))) S) : ev_Cv g m_X9_canMove 4 1 [ev_o 9 b, ev_i (Int32.ofNat p), ev_i (Int32.ofNat f), ev_i (Int32.ofNat t)] S Q := by
  obtain ⟨⟨hI, hL, hd, hg, hk⟩, hx⟩ := c
  obtain ⟨en, -, -⟩ := q_gm_sz hI hg
  have h8 := hI.1.1.2.1
  have hn9 := sq_le h8
  refine sg_X9_canMove_0 b _ _ _ (j_pos (t_pl.mpr ⟨p, rfl, hp⟩) (j_pos ((t_sq en h8).mpr ⟨f, rfl, hf⟩) (j_pos ((t_sq en h8).mpr ⟨t, rfl, ht⟩) ?_)))
  rw [a_desk hp]
  refine b_reach hk.1 h8 (by omega) (by omega) hI.1.1.1 (hg.1 p hp).2.1 _ ⟨_, rfl, ?_⟩
  exact ⟨fun h => by rw [if_pos h] at hQ; exact hQ, fun h => by rw [if_neg h] at hQ; exact hQ⟩
theorem k_mobility {p s : Nat} (c : CF S.1 b r n lim np L d ρ) (hp : p < 2) (hs : s < 2) (hQ : Q (.inl (some (ev_i (Int32.ofNat (mob r p n s (n * n) 0))))) S) : ev_Cv g m_X9_mobility 5 1 [ev_o 9 b, ev_i (Int32.ofNat p), ev_i (Int32.ofNat s)] S Q := by
  obtain ⟨⟨hI, hL, hd, hg, hk⟩, hx⟩ := c
  refine sg_X9_mobility_0 b _ _ (j_pos (t_pl.mpr ⟨p, rfl, hp⟩) (j_pos (t_pl.mpr ⟨s, rfl, hs⟩) ?_))
  rw [a_desk hp]
  exact b_ways hk.1 hI.1.1.2.1 hI.1.1.1 (hg.1 p hp).2.1 _ ⟨_, rfl, hQ⟩
theorem k_equal (c : CF S.1 b r n lim np L d ρ) (hQ : Q (.inl (some (ev_i (if o_eq r n = true then 1 else 0)))) S) : ev_Cv g m_X9_areBoardsEqual 5 0 [ev_o 9 b] S Q := by
  obtain ⟨⟨hI, hL, hd, hg, hk⟩, hx⟩ := c
  refine sg_X9_areBoardsEqual_0 b (g_agree hI hg _ ⟨_, rfl, ?_⟩)
  exact ⟨fun h => by rw [if_pos h] at hQ; exact hQ, fun h => by rw [if_neg h] at hQ; exact hQ⟩
/-- nothing contradicts -/
theorem k_contra (c : CF S.1 b r n lim np L d ρ) (hQ : Q (.inl (some (ev_i 0))) S) : ev_Cv g m_X9_contradictions 5 0 [ev_o 9 b] S Q := by
  obtain ⟨g0, l0, h60⟩ := CF_m c (show 0 < 2 by omega)
  obtain ⟨g1, l1, -⟩ := CF_m c (show 1 < 2 by omega)
  obtain ⟨⟨hI, hL, hd, hg, hk⟩, hx⟩ := c
  have h8 := hI.1.1.2.1
  obtain ⟨K, hK, k0', k1'⟩ := n_mn (a := o_mad r 0) (b := o_mad r 1) (by omega) (by omega)
  have b0 : q_board S.1 (b + 11 + 1 + 1) r 0 n (o_mad r 0) := (hg.1 0 (by omega)).2.1
  have b1 : q_board S.1 (b + 11 + 10 + 1) r 1 n (o_mad r 1) := (hg.1 1 (by omega)).2.1
  have hpst := hg.2.1
  have ea : ev_abs (0 : Int32) = 0 := by decide
  have ast : ∀ p, p < 2 → ab_f r p n = 0 := fun p hp => by
    have hb := hx.1.2.1 p hp
    unfold CB at hb
    unfold ab_f
    rw [sub3, hb, n_add, Int32.sub_self, ea]
  refine sg_X9_contradictions_0 b (sg_X2_flaws_0 (b + 11) ?_)
  have a0 : a_X2_deskOf (b + 11) 0 = b + 11 + 1 := a_desk (e := b + 11) (p := 0) (by omega)
  rw [a0, a_desk1]
  refine b_diff h8 g0 g1 (by omega) (by omega) (hI.2.2 0 (by omega)).2 (hI.2.2 1 (by omega)).2 b0 b1 hK k0' k1' _ ⟨_, rfl, ?_⟩
  refine b_astray h8 (hI.2.2 0 (by omega)).1 b0 _ ⟨_, rfl, ?_⟩
  refine b_astray h8 (hI.2.2 1 (by omega)).1 b1 _ ⟨_, rfl, ?_⟩
  have h14 : S.1 (b + 11 + 19) 14 = Int32.ofNat (cnt (fun l => decide (r (1200 + 11 * l + 6) = 1)) L) := by rw [hpst.2.2, road_len hI.2.1]
  rw [h14]
  refine b_mules (r := r) hI.1.2.2.2.1 hpst.1.1.2.1 (fun q hq s hs => (hpst.1.2.1 q hq).2.1 s hs) hk.2.2.1 _ ⟨_, rfl, _, rfl, ?_⟩
  have e1 := ast 0 (by omega)
  have e2 := ast 1 (by omega)
  unfold ab_f at e1 e2
  have hM := hx.2
  unfold CM o_s1 at hM
  have hd0 : cnt (df_f r) K = 0 := by
    refine cnt_0 K (fun i hi hf => ?_)
    simp only [df_f, decide_eq_true_eq] at hf
    have w0 := hx.1.1.1 0 (by omega) (i + 1) (by omega) (by omega) (show i + 1 ≤ o_mad r 1 by omega) 0 (by omega)
    have w1 := hx.1.1.1 0 (by omega) (i + 1) (by omega) (by omega) (show i + 1 ≤ o_mad r 1 by omega) 1 (by omega)
    exact hf ⟨w0, w1⟩
  rw [e1, e2, hd0, hM, Int32.sub_self, ea]
  exact hQ
end KF
