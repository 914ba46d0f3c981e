/-! ===== an own move: the row behind it; all that is due ===== -/
theorem i_dk_mine {r : Nat → Int32} {p n lim m f t : Nat} (hp : p < 2) (hm : r (12 + 7 * p) = Int32.ofNat m) (hml : m < lim) (hf : f < 64) (ht : t < 64) (h : i_dk r p n lim) : i_dk (o_apply r p m f t) p n lim := by
  obtain ⟨h0, h8, h1, h60, -, hs, hpr⟩ := h
  have ap : ∀ j, 514 ≤ j → o_apply r p m f t j = r j := fun j hj => o_apply_at (by omega) (by omega) (by omega) (by omega)
  refine ⟨?_, h8, ?_, h60, ⟨m + 1, o_apply_made, by omega⟩, fun k hk => ?_, fun k hk => ?_⟩
  · rw [o_apply_at (by omega) (by omega) (by omega) (by omega)]; exact h0
  · rw [o_apply_at (by omega) (by omega) (by omega) (by omega)]; exact h1
  · rw [ap _ (by omega), ap _ (by omega)]
    exact hs k hk
  · rw [i_pr, ap _ (by omega), ap _ (by omega), ap _ (by omega), ap _ (by omega), ap _ (by omega), ap _ (by omega)]
    exact hpr k hk
theorem i_bd_mine {r : Nat → Int32} {p n lim m f t : Nat} (hp : p < 2) (hm : r (12 + 7 * p) = Int32.ofNat m) (hml : m < lim) (hf : f < n * n) (ht : t < n * n) (hft : f ≠ t) (hd : i_dk r p n lim) (h : i_bd r p n) : i_bd (o_apply r p m f t) p n := by
  have h8 := hd.2.1
  have h60 := hd.2.2.2.1
  obtain ⟨h1, h2⟩ := h
  have hmd : o_mad r p = m := by unfold o_mad; rw [hm, n_c (by omega)]
  rw [hmd] at h2
  refine ⟨i_sq_apply (by omega) hp h8 hf ht hft h1, ?_⟩
  have e : o_mad (o_apply r p m f t) p = m + 1 := by unfold o_mad; rw [o_apply_made, n_c (by omega)]
  rw [e]
  exact i_mv_apply (by omega) hp h8 hf ht h2
/-- a row of which only player p's own cells have changed -/
theorem IG_mine {r r' : Nat → Int32} {n lim np L d p : Nat} {ρ : List Nat} (hp : p < 2) (h : IG r n lim np L d ρ) (e : ∀ j, ¬ o_own p j → r' j = r j) (hd : i_dk r' p n lim) (hb : i_bd r' p n) : IG r' n lim np L d ρ := by
  obtain ⟨⟨i0, i1, i3, i3', i4, i4', i2, i2', il⟩, hps, hbd⟩ := h
  have ho : i_dk r (1 - p) n lim → i_dk r' (1 - p) n lim := fun hh => i_dk_other hp hh e
  have e2 : ∀ j, (j < 12 ∨ 762 ≤ j) → r' j = r j := fun j hj => e j (fun hh => by unfold o_own at hh; omega)
  have both : ∀ q, q < 2 → i_dk r' q n lim := fun q hq => by
    by_cases hqp : q = p
    · rw [hqp]; exact hd
    · have hq1 : q = 1 - p := by omega
      rw [hq1]
      refine ho ?_
      have : 1 - p = 0 ∨ 1 - p = 1 := by omega
      rcases this with h9 | h9
      · rw [h9]; exact i0
      · rw [h9]; exact i1
  refine ⟨⟨both 0 (by decide), both 1 (by decide), by rw [e2 _ (by omega)]; exact i3, i3', by rw [e2 _ (by omega)]; exact i4, i4', by rw [e2 _ (by omega)]; exact i2, i2', fun l hl => ?_⟩, i_pst_agP hps (fun j hj => e2 j (by omega)), fun q hq => ?_⟩
  · obtain ⟨b', q', c1, c2, c3, c4, c5⟩ := il l hl
    refine ⟨b', q', c1, c2, by rw [e2 _ (by omega)]; exact c3, by rw [e2 _ (by omega)]; exact c4, fun hn => ?_⟩
    obtain ⟨k', c6⟩ := c5 hn
    exact ⟨k', i_let_same c6 (fun j hj => e2 j (by omega))⟩
  · by_cases hqp : q = p
    · rw [hqp]; exact hb
    · have hdq : i_dk r q n lim := by
        have : q = 0 ∨ q = 1 := by omega
        rcases this with rfl | rfl
        · exact i0
        · exact i1
      exact i_bd_same i0.2.1 (i_dk_mad hdq) hq (fun j hj => e j (fun hh => by unfold o_own at hh; omega)) (hbd q hq)
theorem IG_all {r : Nat → Int32} {n lim np L d p : Nat} {ρ : List Nat} (hp : p < 2) (h : IG r n lim np L d ρ) : IG (o_all p n 61 r) n lim np L d ρ := by
  obtain ⟨a1, a2⟩ := o_all_own hp 61 r (i_dk_of h.1 hp)
  exact IG_mine hp h a2 a1 (i_bd_all hp 61 r (i_dk_of h.1 hp) (h.2.2 p hp))
theorem IG_apply {r : Nat → Int32} {n lim np L d p m f t : Nat} {ρ : List Nat} (hp : p < 2) (hm : r (12 + 7 * p) = Int32.ofNat m) (hml : m < lim) (hf : f < n * n) (ht : t < n * n) (hft : f ≠ t) (h : IG r n lim np L d ρ) : IG (o_apply r p m f t) n lim np L d ρ := by
  have hd := i_dk_of h.1 hp
  have hn9 := sq_le hd.2.1
  have h60 := hd.2.2.2.1
  exact IG_mine hp h (fun j hj => o_apply_own (by omega) (by omega) (by omega) hj) (i_dk_mine hp hm hml (by omega) (by omega) hd) (i_bd_mine hp hm hml hf ht hft hd (h.2.2 p hp))
/-- the picture once one desk, and its row, has changed -/
theorem q_gm_mine {M M' : Nat → Nat → Int32} {e n lim np L d p : Nat} {r r' : Nat → Int32} {ρ : List Nat} (hp : p < 2) (h : IG r n lim np L d ρ) (hg : q_gm M e r n L ρ) (a : ∀ j, ¬ o_own p j → r' j = r j)
    (f : ∀ q, e ≤ q → q < e + 36 → (q < e + 1 + 9 * p ∨ e + 1 + 9 * p + 9 ≤ q) → M' q = M q) (hd : q_dk M' (e + 1 + 9 * p) r' p n) : q_gm M' e r' n L ρ := by
  obtain ⟨g1, g2, g3, g4, g5⟩ := hg
  have e2 : ∀ j, (j < 12 ∨ 762 ≤ j) → r' j = r j := fun j hj => a j (fun hh => by unfold o_own at hh; omega)
  refine ⟨fun q hq => ?_, ?_, fun l hl => ?_, ?_, ?_⟩
  · by_cases hqp : q = p
    · rw [hqp]; exact hd
    · refine q_dk_same2 h.1.1.2.1 (i_dk_mad (i_dk_of h.1 hq)) hq (fun j hj => a j (fun hh => by unfold o_own at hh hj; omega)) (fun k w hk hw => e2 _ (by omega)) (q_dk_frame (M := M) (fun y h1 h2 => f y (by omega) (by omega) (by omega)) (g1 q hq))
  · have := q_pst_frame (M := M) (M' := M') (fun y h1 h2 => f y (by omega) (by omega) (by omega)) g2
    exact ⟨q_mid_agP this.1 (fun j hj => e2 j (by omega)), this.2.1, this.2.2⟩
  · have c := g3 l hl
    unfold q_con at c ⊢
    rw [f _ (by omega) (by omega) (by omega), f (e + 26) (by omega) (by omega) (by omega), f (e + 27) (by omega) (by omega) (by omega), e2 (1200 + 11 * l + 3) (by omega), e2 (1200 + 11 * l + 4) (by omega), e2 (1200 + 11 * l + 5) (by omega), e2 (1200 + 11 * l + 2) (by omega), e2 (762 + 6 * (r (1200 + 11 * l + 3)).toNatClampNeg) (by omega), e2 (762 + 6 * (r (1200 + 11 * l + 3)).toNatClampNeg + 1) (by omega)]
    exact c
  · rw [f e (by omega) (by omega) (by omega), g4, e2 2 (by omega)]
  · rw [f e (by omega) (by omega) (by omega), g5, e2 5 (by omega)]
