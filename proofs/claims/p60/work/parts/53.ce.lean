/-! ===== the class: a desk settles ===== -/
theorem o_fl_or (p k : Nat) : o_fl p k = 4 ∨ o_fl p k = 5 := by unfold o_fl; split <;> simp
/-- a desk behind one move of settle: own: by the desk's own player; pr: by a promise -/
theorem q_desk_step {M M' : Nat → Nat → Int32} {e p n m f t : Nat} {r : Nat → Int32} (hm : m < 60) (hp : p < 2) (hf : f < 64) (ht : t < 64) (h : q_desk M e r p n m) (pr : Bool)
    (hpr : pr = true ↔ r (514 + 124 * p + 2 * (m + 1)) = -1)
    (g0 : M' e 0 = M e 0) (g1 : q_board M' (e + 1) (o_apply (o_clr r p (m + 1)) p m f t) p n (m + 1)) (g6 : ∀ k, k ≤ 60 → M' (e + 6) k = if k = m + 1 then -1 else M (e + 6) k) (g7 : M' (e + 7) = M (e + 7)) (g8 : M' (e + 8) = M (e + 8))
    (g5 : M' e 5 = if pr = true then M e 5 else M e 5 - 1) (gk : M' e 6 = if pr = true ∧ o_maker (m + 1) = p then M e 6 + 1 else M e 6)
    (gl : M' e 7 = if o_maker (m + 1) = p then r 2 else M e 7)
    (gw : M' e 8 = if o_maker (m + 1) = p then M e 8 else if M e 7 = -1 then M e 8 else M e 8 + 1)
    (gs : M' e 9 = if o_maker (m + 1) = p then M e 9 else if M e 7 = -1 then M e 9 else M e 9 + (r 2 - M e 7))
    (gx : M' e 10 = if o_maker (m + 1) = p then M e 10 else if M e 7 = -1 then M e 10 else ev_max (M e 10) (r 2 - M e 7)) :
    q_desk M' e (if pr = true then o_keep (o_apply (o_clr r p (m + 1)) p m f t) p m else o_apply (o_clr r p (m + 1)) p m f t) p n (m + 1) := by
  obtain ⟨a0, a1, a2, a3, a4, a5, a6, a7, a8, a9⟩ := h
  have hb := a1
  obtain ⟨w1, w2, w3, w4⟩ := o_apply_wt (r := o_clr r p (m + 1)) hm hp hf ht
  have fc : ∀ j, j < 514 + 124 * p + 2 * (m + 1) ∨ 514 + 124 * p + 2 * (m + 1) + 1 < j → o_clr r p (m + 1) j = r j := fun j hj => by rw [o_clr, u_k (by omega), u_k (by omega)]
  rw [fc _ (by omega), fc _ (by omega)] at w1
  rw [fc _ (by omega), fc _ (by omega), fc _ (by omega)] at w2 w3
  rw [fc _ (by omega), fc _ (by omega)] at w4
  have fa : ∀ j, (19 + 7 * p ≤ j ∧ j < 26) ∨ 514 ≤ j ∨ j = 12 + 7 * p + 6 → o_apply (o_clr r p (m + 1)) p m f t j = o_clr r p (m + 1) j := fun j hj => o_apply_at (by omega) (by omega) (by omega) (by omega)
  obtain ⟨r2, hr2⟩ : ∃ z, z = o_apply (o_clr r p (m + 1)) p m f t := ⟨_, rfl⟩
  rw [← hr2] at g1 w1 w2 w3 w4 fa ⊢
  obtain ⟨r3, hr3⟩ : ∃ z, z = (if pr = true then o_keep r2 p m else r2) := ⟨_, rfl⟩
  rw [← hr3]
  have f3 : ∀ j, j ≠ 12 + 7 * p + 6 → r3 j = r2 j := fun j hj => by
    rw [hr3]
    split
    · exact o_keep_at hj
    · rfl
  have f6 : r3 (12 + 7 * p + 6) = if pr = true ∧ o_maker (m + 1) = p then r (12 + 7 * p + 6) + 1 else r (12 + 7 * p + 6) := by
    have e6 : r2 (12 + 7 * p + 6) = r (12 + 7 * p + 6) := by rw [fa _ (by omega), fc _ (by omega)]
    rw [hr3]
    by_cases hpr9 : pr = true
    · rw [if_pos hpr9]
      unfold o_keep
      by_cases ho : o_maker (m + 1) = p
      · rw [if_pos ho, if_pos ⟨hpr9, ho⟩, u_s, e6]
      · rw [if_neg ho, if_neg (fun q => ho q.2), e6]
    · rw [if_neg hpr9, if_neg (fun q => hpr9 q.1), e6]
  have es : ∀ k w, k ≤ 60 → w < 2 → r3 (514 + 124 * p + 2 * k + w) = if k = m + 1 then -1 else r (514 + 124 * p + 2 * k + w) := by
    intro k w hk hw
    rw [f3 _ (by omega), fa _ (by omega)]
    by_cases hkm : k = m + 1
    · rw [if_pos hkm, hkm, o_clr]
      by_cases hw0 : w = 0
      · rw [hw0, u_k (by omega)]
        exact u_s _ _ _
      · rw [show w = 1 by omega, u_s]
    · rw [if_neg hkm, fc _ (by omega)]
  have es0 : ∀ k, k ≤ 60 → r3 (514 + 124 * p + 2 * k) = if k = m + 1 then -1 else r (514 + 124 * p + 2 * k) := fun k hk => es k 0 hk (by omega)
  refine ⟨by rw [g0]; exact a0, ?_, fun k hk => ?_, fun k hk => ?_, ?_, ?_, ?_, ?_, ?_, ?_⟩
  · have hm2 := g1
    obtain ⟨b1, b2, b3, b4, b5, b6, b7, b8, b9⟩ := g1
    have eb : ∀ q, o_bish r3 p n q = o_bish r2 p n q := fun q => cnt_congr _ (fun s hs => by rw [f3 _ (by omega)])
    refine ⟨fun s hs => by rw [f3 _ (by omega)]; exact b1 s hs, by rw [eb]; exact b2, by rw [eb]; exact b3, by rw [f3 0 (by omega)]; exact b4, by rw [f3 1 (by omega)]; exact b5, by rw [f3 _ (by omega)]; exact b6, by rw [f3 _ (by omega)]; exact b7, by rw [f3 9 (by omega), f3 10 (by omega)]; exact b8, fun k hk => ?_⟩
    rw [f3 _ (by omega), f3 _ (by omega), f3 _ (by omega)]
    exact b9 k hk
  · rw [g6 k hk, es0 k hk, es k 1 hk (by omega)]
    by_cases hkm : k = m + 1
    · rw [if_pos hkm, if_pos hkm, if_pos rfl]
    · rw [if_neg hkm, if_neg hkm, if_neg hkm]
      exact a2 k hk
  · have ep : ∀ w, w < 6 → r3 (762 + 6 * k + w) = r (762 + 6 * k + w) := fun w hw => by rw [f3 _ (by omega), fa _ (by omega), fc _ (by omega)]
    have ep0 : r3 (762 + 6 * k) = r (762 + 6 * k) := ep 0 (by omega)
    have hfl := o_fl_or p k
    rw [ep _ (by omega), ep0, ep 1 (by omega), ep 2 (by omega), ep 3 (by omega), g7, g8]
    exact a3 k hk
  · rw [g5, a4]
    have en : o_nst r3 p + (if r (514 + 124 * p + 2 * (m + 1)) = -1 then 0 else 1) = o_nst r p := by
      unfold o_nst
      have := cnt_one (l := m) (f := fun k => decide (r (514 + 124 * p + 2 * (k + 1)) ≠ -1)) (h := fun k => decide ((if k + 1 = m + 1 then -1 else r (514 + 124 * p + 2 * (k + 1))) ≠ -1)) (fun j hj => by rw [if_neg (by omega)]) 60 hm
      have e2 := cnt_congr (f := fun k => decide (r3 (514 + 124 * p + 2 * (k + 1)) ≠ -1)) (h := fun k => decide ((if k + 1 = m + 1 then -1 else r (514 + 124 * p + 2 * (k + 1))) ≠ -1)) 60 (fun i hi => by rw [es0 (i + 1) (by omega)])
      rw [e2]
      simp only [if_true, ne_eq, not_true_eq_false, decide_false, decide_eq_true_eq, ite_not] at this
      simpa using this
    have hle : o_nst r p ≤ 60 := cnt_le _ _
    by_cases hpr9 : pr = true
    · rw [if_pos (hpr.mp hpr9)] at en
      rw [if_pos hpr9, ← en, Nat.add_zero]
    · rw [if_neg (fun q => hpr9 (hpr.mpr q))] at en
      rw [if_neg hpr9, n_dec _ (by omega)]
      congr 1
      omega
  · rw [gk, f6, a5]
  · rw [gl, f3 _ (by omega), w1, a6]
  · rw [gw, f3 _ (by omega), w4, a6, a7]
  · rw [gs, f3 _ (by omega), w3, a6, a8]
  · rw [gx, f3 _ (by omega), w2, a6, a9]
