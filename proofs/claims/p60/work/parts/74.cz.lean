/-! ===== both: a mule is brought, snow is set ===== -/
theorem IG_post2 {r r' : Nat → Int32} {n lim np L d : Nat} {ρ : List Nat} (h : IG r n lim np L d ρ) (he : ∀ j, (j < 5 ∨ j = 6 ∨ (12 ≤ j ∧ j < 1140) ∨ (∃ q, q < 4 ∧ j = 1140 + 15 * q) ∨ 1200 ≤ j) → r' j = r j)
    (hs : ∀ q, q < np → ∀ t, t < 12 → 0 ≤ (r' (1140 + 15 * q + (3 + t))).toInt ∧ (r' (1140 + 15 * q + (3 + t))).toInt ≤ 9) : IG r' n lim np L d ρ := by
  have hL := h.1.2.2.2.2.2.1
  have hnp := h.1.2.2.2.1
  obtain ⟨h1, ⟨⟨g1, g2, g3, g4, g5, g5', g6, g7⟩, ⟨dp, h6, hdp, hlv⟩, hro⟩, hb⟩ := h
  have e5 : ∀ j, j < 5 → r' j = r j := fun j hj => he j (Or.inl hj)
  have eD : ∀ j, 12 ≤ j → j < 1140 → r' j = r j := fun j h1 h2 => he j (Or.inr (Or.inr (Or.inl ⟨h1, h2⟩)))
  have eL : ∀ j, 1200 ≤ j → r' j = r j := fun j h1 => he j (Or.inr (Or.inr (Or.inr (Or.inr h1))))
  refine ⟨IR_same h1 (fun j hj => ?_), ⟨⟨by rw [e5 _ (by omega)]; exact g1, g2, by rw [e5 _ (by omega)]; exact g3, g4, by rw [e5 _ (by omega)]; exact g5, g5', fun q hq => ?_, fun l hl => ?_⟩, ⟨dp, by rw [he 6 (Or.inr (Or.inl rfl))]; exact h6, ?_, fun l hl => ?_⟩, fun l hl => ?_, ?_, fun l hl => ?_⟩, fun p hp => i_bd_same h1.1.2.1 (i_dk_mad (i_dk_of h1 hp)) hp (fun j hj => eD j (by omega) (by omega)) (hb p hp)⟩
  · rcases hj with hj | hj | ⟨l, w, h1, h2, h3⟩
    · exact e5 j hj
    · exact eD j hj.1 hj.2
    · exact eL j (by omega)
  · refine ⟨?_, hs q hq⟩
    rw [he (1140 + 15 * q) (Or.inr (Or.inr (Or.inr (Or.inl ⟨q, by omega, rfl⟩))))]
    exact (g6 q hq).1
  · rw [eL (1200 + 11 * l) (by omega), eL (1200 + 11 * l + 1) (by omega), eL (1200 + 11 * l + 6) (by omega), eL (1200 + 11 * l + 9) (by omega)]
    exact g7 l hl
  · rw [cnt_congr (h := fun l => decide (r (1200 + 11 * l + 6) = 0)) L (fun i hi => by simp only [eL (1200 + 11 * i + 6) (by omega)])]
    exact hdp
  · rw [eL (1200 + 11 * l + 6) (by omega), eL (1200 + 11 * l + 8) (by omega)]
    exact hlv l hl
  · rw [eL (1200 + 11 * l + 6) (by omega), eL (1200 + 11 * l + 8) (by omega)]
    exact hro.1 l hl
  · refine hro.2.1.imp (fun {x y} hxy => ?_)
    rw [eL _ (by omega), eL _ (by omega)]
    exact hxy
  · rw [eL (1200 + 11 * l + 6) (by omega), eL (1200 + 11 * l + 8) (by omega)]
    exact hro.2.2 l hl
/-- a picture whose desks' rows have not changed; the mules' number may have -/
theorem q_gm_post2 {M M' : Nat → Nat → Int32} {e n lim np L d : Nat} {r r' : Nat → Int32} {ρ ρ' : List Nat} (h : IR r n lim np L d (-1)) (hg : q_gm M e r n L ρ) (he : ∀ j, (j < 2 ∨ j = 5 ∨ j = 9 ∨ j = 10 ∨ (12 ≤ j ∧ j < 1140) ∨ ∃ l' w, w ≤ 5 ∧ j = 1200 + 11 * l' + w) → r' j = r j)
    (f : ∀ q, e < q → q < e + 19 ∨ q = e + 25 ∨ q = e + 26 ∨ q = e + 27 → M' q = M q) (hp : q_pst M' (e + 19) r' L ρ') (h4 : M' e 4 = r' 2) (h5 : M' e 5 = M e 5) : q_gm M' e r' n L ρ' := by
  obtain ⟨g1, g2, g3, g4, g5⟩ := hg
  refine ⟨fun p hp2 => ?_, hp, fun l hl => ?_, h4, by rw [h5, g5, he 5 (by omega)]⟩
  · refine q_dk_same2 h.1.2.1 (i_dk_mad (i_dk_of h hp2)) hp2 (fun j hj => he j ?_) (fun k w hk hw => he _ ?_) (q_dk_frame (M := M) (fun q h1 h2 => f q (by omega) (by omega)) (g1 p hp2))
    · unfold o_own at hj
      have : j < 2 ∨ j = 9 ∨ j = 10 ∨ (12 ≤ j ∧ j < 1140) := by omega
      rcases this with q | q | q | q
      · exact Or.inl q
      · exact Or.inr (Or.inr (Or.inl q))
      · exact Or.inr (Or.inr (Or.inr (Or.inl q)))
      · exact Or.inr (Or.inr (Or.inr (Or.inr (Or.inl q))))
    · have := o_fl_or p k
      exact Or.inr (Or.inr (Or.inr (Or.inr (Or.inl (by omega)))))
  · obtain ⟨c1, c2, c3⟩ := g3 l hl
    obtain ⟨k', hL'⟩ := IR_let h hl
    obtain ⟨-, -, -, hk', -, -, ek', -⟩ := hL'
    have w : ∀ w, w ≤ 5 → r' (1200 + 11 * l + w) = r (1200 + 11 * l + w) := fun w hw => he _ (Or.inr (Or.inr (Or.inr (Or.inr (Or.inr ⟨l, w, hw, rfl⟩)))))
    have wk : ∀ j, 12 ≤ j → j < 1140 → r' j = r j := fun j h1 h2 => he _ (Or.inr (Or.inr (Or.inr (Or.inr (Or.inl ⟨h1, h2⟩)))))
    unfold q_con
    rw [f (e + 25) (by omega) (by omega), f (e + 26) (by omega) (by omega), f (e + 27) (by omega) (by omega), w 3 (by decide), w 4 (by decide), w 5 (by decide), w 2 (by decide), c1, c2, c3, ek', n_c (by omega), wk (762 + 6 * k') (by omega) (by omega), wk (762 + 6 * k' + 1) (by omega) (by omega)]
    exact ⟨rfl, rfl, rfl⟩
def o_mule (r : Nat → Int32) (q s : Nat) : Nat → Int32 := upd (upd r (1140 + 15 * q + (1 + s)) (r (1140 + 15 * q + (1 + s)) + 1)) 11 (r 11 + 1)
theorem o_mule_at {r : Nat → Int32} {q s j : Nat} (h : j ≠ 1140 + 15 * q + (1 + s)) (h1 : j ≠ 11) : o_mule r q s j = r j := by unfold o_mule; rw [u_k h1, u_k h]
theorem IG_mule {r : Nat → Int32} {n lim np L d q s : Nat} {ρ : List Nat} (hq : q < np) (hs : s < 2) (h : IG r n lim np L d ρ) : IG (o_mule r q s) n lim np L d ρ := by
  have hnp := h.1.2.2.2.1
  refine IG_post2 h (fun j hj => ?_) (fun q' hq' t ht => ?_)
  · refine o_mule_at ?_ ?_ <;> rcases hj with hj | hj | hj | ⟨q', hq', hj⟩ | hj <;> omega
  · rw [o_mule_at (by omega) (by omega)]
    exact (h.2.1.1.2.2.2.2.2.2.1 q' hq').2 t ht
theorem i_ok_mule {r : Nat → Int32} {n np L q s : Nat} (hnp : np ≤ 4) (hq : q < np) (hs : s < 2) (h : i_ok r n np L) : i_ok (o_mule r q s) n np L := by
  refine ⟨h.1, by rw [o_mule_at (by omega) (by omega)]; exact h.2.1, fun q' h1 h2 s hs => by rw [o_mule_at (by omega) (by omega)]; exact h.2.2.1 q' h1 h2 s hs, ?_⟩
  rw [o_mule_at (by omega) (by omega), h.2.2.2]
  refine congrArg Int32.ofNat (cnt_congr L (fun i hi => ?_))
  unfold o_st2
  rw [o_mule_at (by omega) (by omega)]
theorem q_mid_mule {M M' : Nat → Nat → Int32} {e np L d q s : Nat} {r : Nat → Int32} (hi : i_ps r np L d) (hq : q < np) (hs : s < 2) (h : q_mid M e r L)
    (f : ∀ x, x = e ∨ x = e + 2 ∨ x = e + 3 ∨ x = e + 5 ∨ x = e + 9 ∨ x = e + 10 ∨ x = e + 11 ∨ x = e + 12 ∨ x = e + 13 ∨ x = e + 16 → M' x = M x)
    (k3 : M' (e + 1) 3 = M (e + 1) 3) (k4 : M' (e + 1) 4 = M (e + 1) 4 + 1) (g4 : ∀ k, M' (e + 4) k = if k = q * 2 + s then M (e + 4) k + 1 else M (e + 4) k) : q_mid M' e (o_mule r q s) L := by
  obtain ⟨⟨a1, a2, a3, a4, a5⟩, c, w⟩ := h
  have hnp := hi.2.1
  have hL := hi.2.2.2.1
  have e11 : o_mule r q s 11 = r 11 + 1 := by unfold o_mule; rw [u_s]
  have es : o_mule r q s (1140 + 15 * q + (1 + s)) = r (1140 + 15 * q + (1 + s)) + 1 := by unfold o_mule; rw [u_k (by omega), u_s]
  refine ⟨⟨?_, ?_, ?_, ?_, ?_⟩, fun q' hq9 => ⟨?_, fun s' hs9 => ?_, fun t ht => ?_, fun s' hs9 => ?_⟩, fun l hl => ?_⟩
  · rw [k3, o_mule_at (by omega) (by omega)]; exact a1
  · rw [k4, e11, a2]
  · rw [f _ (by omega), o_mule_at (by omega) (by omega)]; exact a3
  · rw [f _ (by omega), o_mule_at (by omega) (by omega)]; exact a4
  · rw [f _ (by omega), o_mule_at (by omega) (by omega)]; exact a5
  · rw [f _ (by omega), o_mule_at (by omega) (by omega)]; exact (c q' hq9).1
  · rw [g4, (c q' hq9).2.1 s' hs9]
    by_cases hk : q' * 2 + s' = q * 2 + s
    · have hqq : q' = q := by omega
      have hss : s' = s := by omega
      rw [if_pos hk, hqq, hss, es]
    · rw [if_neg hk, o_mule_at (by omega) (by omega)]
  · rw [f _ (by omega), o_mule_at (by omega) (by omega)]; exact (c q' hq9).2.2.1 t ht
  · rw [f _ (by omega), (c q' hq9).2.2.2 s' hs9]
    refine congrArg Int32.ofNat ?_
    exact cnt_congr L (fun i hi9 => (o_wt_same (o_mule_at (by omega) (by omega)) (o_mule_at (by omega) (by omega)) (by rw [o_mule_at (by omega) (by omega)])).symm)
  · rw [f (e + 5) (by omega), f (e + 9) (by omega), f (e + 10) (by omega), f (e + 11) (by omega), f (e + 12) (by omega), f (e + 13) (by omega), o_mule_at (j := 1200 + 11 * l) (by omega) (by omega), o_mule_at (j := 1200 + 11 * l + 1) (by omega) (by omega), o_mule_at (j := 1200 + 11 * l + 6) (by omega) (by omega), o_mule_at (j := 1200 + 11 * l + 7) (by omega) (by omega), o_mule_at (j := 1200 + 11 * l + 9) (by omega) (by omega), o_mule_at (j := 1200 + 11 * l + 10) (by omega) (by omega)]
    exact w l hl
/-- the class brings a mule: the picture -/
theorem q_gm_mule {S z : ev_S} {e n lim np L d q s : Nat} {r : Nat → Int32} {ρ : List Nat} (hi : IG r n lim np L d ρ) (hq : q < np) (hs : s < 2) (hg : q_gm S.1 e r n L ρ) (hz : z = ev_up (ev_up S (e + 20) 4 (S.1 (e + 20) 4 + 1)) (e + 23) (q * 2 + s) (S.1 (e + 23) (q * 2 + s) + 1)) : q_gm z.1 e (o_mule r q s) n L ρ := by
  have x : ∀ y, y ≠ e + 20 → y ≠ e + 23 → z.1 y = S.1 y := fun y h1 h2 => by rw [hz, m_r h2, m_r h1]
  have hnp := hi.1.2.2.2.1
  refine q_gm_post2 hi.1 hg (fun j hj => ?_) (fun y h1 h2 => x y (by omega) (by omega)) ⟨?_, ?_, ?_⟩ ?_ ?_
  · refine o_mule_at ?_ ?_ <;> rcases hj with hj | hj | hj | hj | hj | ⟨l, w, hw, hj⟩ <;> omega
  · refine q_mid_mule hi.2.1.1 hq hs hg.2.1.1 (fun y hy => x y (by omega) (by omega)) ?_ ?_ (fun k => ?_)
    · rw [hz, m_r (by omega), m_k (by omega)]
    · rw [hz, m_r (by omega), m_s]
    · rw [hz]
      by_cases hk : k = q * 2 + s
      · rw [if_pos hk, hk, m_s]
      · rw [if_neg hk, m_k hk, m_r (by omega)]
  · rw [x _ (by omega) (by omega)]; exact hg.2.1.2.1
  · rw [x _ (by omega) (by omega)]; exact hg.2.1.2.2
  · rw [x _ (by omega) (by omega), o_mule_at (by omega) (by omega)]; exact hg.2.2.2.1
  · rw [x _ (by omega) (by omega)]
