/-! ===== both boards agree: what holds between moves, stored moves, promises and letters ===== -/
def MV (r : Nat → Int32) (p k w : Nat) : Int32 := r (154 + 180 * p + 3 * (k - 1) + w)
def CI (r : Nat → Int32) (L : Nat) : Prop :=
  (∀ p, p < 2 → ∀ k, 1 ≤ k → k ≤ o_mad r p → k ≤ o_mad r (1 - p) → ∀ w, w < 2 → MV r p k w = MV r (1 - p) k w) ∧
  (∀ p, p < 2 → ∀ k, o_mad r p < k → k ≤ o_mad r (1 - p) → o_maker k = p → 2 ≤ k ∧ r (762 + 6 * k + 4) = 1 ∧ ∀ w, w < 2 → MV r (1 - p) k w = r (762 + 6 * k + (2 + w)) ∧ MV r (1 - p) (k - 1) w = r (762 + 6 * k + w)) ∧
  (∀ p, p < 2 → ∀ k, k ≤ 60 → o_mad r p < k → ¬ r (514 + 124 * p + 2 * k) = -1 → o_maker k = 1 - p ∧ k ≤ o_mad r (1 - p) ∧ ∀ w, w < 2 → r (514 + 124 * p + 2 * k + w) = MV r (1 - p) k w) ∧
  (∀ l, l < L → r (1200 + 11 * l + 2) = 0 → ∃ b k, b < 2 ∧ r (1200 + 11 * l) = Int32.ofNat b ∧ r (1200 + 11 * l + 3) = Int32.ofNat k ∧ 1 ≤ k ∧ k ≤ o_mad r b ∧ o_maker k = b ∧ ∀ w, w < 2 → r (1200 + 11 * l + (4 + w)) = MV r b k w) ∧
  (∀ p, p < 2 → ∀ k, 2 ≤ k → k ≤ o_mad r p → o_maker k = p → r (762 + 6 * k + 4) = 1 → (∀ w, w < 2 → MV r p (k - 1) w = r (762 + 6 * k + w)) → ∀ w, w < 2 → MV r p k w = r (762 + 6 * k + (2 + w)))
theorem p01 {p p' : Nat} (hp : p < 2) (hp' : p' < 2) (h : ¬ p' = p) : p' = 1 - p ∧ 1 - p' = p := by omega
/-- a move is applied on board p -/
theorem CI_step {r y : Nat → Int32} {L p m : Nat} {f t : Int32} (hp : p < 2) (hm : r (12 + 7 * p) = Int32.ofNat m) (hm60 : m < 60) (hmad : ∀ p, p < 2 → o_mad r p ≤ 60) (h : CI r L)
    (ym : y (12 + 7 * p) = Int32.ofNat (m + 1)) (yf : y (154 + 180 * p + 3 * m) = f) (yt : y (154 + 180 * p + 3 * m + 1) = t)
    (e : ∀ j, (¬ o_own p j ∨ (154 + 180 * p ≤ j ∧ j < 154 + 180 * p + 3 * m) ∨ (514 + 124 * p ≤ j ∧ j < 638 + 124 * p ∧ j ≠ 514 + 124 * p + 2 * (m + 1) ∧ j ≠ 514 + 124 * p + 2 * (m + 1) + 1)) → y j = r j)
    (H1 : m + 1 ≤ o_mad r (1 - p) → f = MV r (1 - p) (m + 1) 0 ∧ t = MV r (1 - p) (m + 1) 1)
    (H2 : o_mad r (1 - p) < m + 1 → o_maker (m + 1) = 1 - p → 1 ≤ m ∧ r (762 + 6 * (m + 1) + 4) = 1 ∧ f = r (762 + 6 * (m + 1) + 2) ∧ t = r (762 + 6 * (m + 1) + 3) ∧ ∀ w, w < 2 → MV r p m w = r (762 + 6 * (m + 1) + w))
    (H6 : o_maker (m + 1) = p → 1 ≤ m → r (762 + 6 * (m + 1) + 4) = 1 → (∀ w, w < 2 → MV r p m w = r (762 + 6 * (m + 1) + w)) → f = r (762 + 6 * (m + 1) + 2) ∧ t = r (762 + 6 * (m + 1) + 3)) : CI y L := by
  obtain ⟨c1, c2, c3, c4, c6⟩ := h
  have hmd : o_mad r p = m := by unfold o_mad; rw [hm, n_c (by omega)]
  have hmy : o_mad y p = m + 1 := by unfold o_mad; rw [ym, n_c (by omega)]
  have hmq : o_mad y (1 - p) = o_mad r (1 - p) := by unfold o_mad; rw [e _ (Or.inl (by unfold o_own; omega))]
  have hq60 := hmad (1 - p) (by omega)
  have vp : ∀ k w, 1 ≤ k → k ≤ m → w < 2 → MV y p k w = MV r p k w := fun k w k1 k2 hw => by
    unfold MV
    exact e _ (Or.inr (Or.inl (by omega)))
  have vq : ∀ k w, 1 ≤ k → k ≤ 60 → w < 2 → MV y (1 - p) k w = MV r (1 - p) k w := fun k w k1 k2 hw => by
    unfold MV
    exact e _ (Or.inl (by unfold o_own; omega))
  have vn0 : MV y p (m + 1) 0 = f := by unfold MV; rw [← yf]; rfl
  have vn1 : MV y p (m + 1) 1 = t := by unfold MV; rw [← yt]; rfl
  have pr : ∀ k w, k ≤ 62 → w < 6 → y (762 + 6 * k + w) = r (762 + 6 * k + w) := fun k w hk hw => e _ (Or.inl (by unfold o_own; omega))
  have w01 : ∀ w, w < 2 → w = 0 ∨ w = 1 := fun w hw => by omega
  have q1p : 1 - (1 - p) = p := by omega
  refine ⟨fun p' hp' k k1 k2 k3 w hw => ?_, fun p' hp' k k1 k2 hk => ?_, fun p' hp' k k60 k1 hst => ?_, fun l hl h0 => ?_, fun p' hp' k k2 k3 hk hwr hex w hw => ?_⟩
  · by_cases hpp : p' = p
    · subst hpp
      rw [hmy] at k2
      rw [hmq] at k3
      rw [vq k w k1 (by omega) hw]
      by_cases hkm : k = m + 1
      · subst hkm
        obtain ⟨a1, a2⟩ := H1 k3
        rcases w01 w hw with rfl | rfl
        · rw [vn0, a1]
        · rw [vn1, a2]
      · rw [vp k w k1 (by omega) hw]
        exact c1 p' hp' k k1 (by omega) k3 w hw
    · obtain ⟨e1, e2⟩ := p01 hp hp' hpp
      rw [e2] at k3 ⊢
      rw [e1] at k2 ⊢
      rw [hmy] at k3
      rw [hmq] at k2
      rw [vq k w k1 (by omega) hw]
      by_cases hkm : k = m + 1
      · subst hkm
        obtain ⟨a1, a2⟩ := H1 k2
        rcases w01 w hw with rfl | rfl
        · rw [vn0, a1]
        · rw [vn1, a2]
      · rw [vp k w k1 (by omega) hw]
        exact (c1 p hp k k1 (by omega) k2 w hw).symm
  · by_cases hpp : p' = p
    · subst hpp
      rw [hmy] at k1
      rw [hmq] at k2
      obtain ⟨a1, a2, a3⟩ := c2 p' hp' k (by omega) k2 hk
      refine ⟨a1, by rw [pr k 4 (by omega) (by omega)]; exact a2, fun w hw => ?_⟩
      rw [vq k w (by omega) (by omega) hw, vq (k - 1) w (by omega) (by omega) hw, pr k (2 + w) (by omega) (by omega), pr k w (by omega) (by omega)]
      exact a3 w hw
    · obtain ⟨e1, e2⟩ := p01 hp hp' hpp
      rw [e2] at k2 ⊢
      rw [e1] at k1 hk
      rw [hmy] at k2
      rw [hmq] at k1
      by_cases hkm : k = m + 1
      · subst hkm
        obtain ⟨a1, a2, a3, a4, a5⟩ := H2 k1 hk
        refine ⟨by omega, by rw [pr (m + 1) 4 (by omega) (by omega)]; exact a2, fun w hw => ⟨?_, ?_⟩⟩
        · rw [pr (m + 1) (2 + w) (by omega) (by omega)]
          rcases w01 w hw with rfl | rfl
          · rw [vn0]; exact a3
          · rw [vn1]; exact a4
        · rw [Nat.add_sub_cancel, vp m w a1 (Nat.le_refl _) hw, pr (m + 1) w (by omega) (by omega)]
          exact a5 w hw
      · obtain ⟨a1, a2, a3⟩ := c2 (1 - p) (by omega) k k1 (by rw [q1p]; omega) hk
        rw [q1p] at a3
        refine ⟨a1, by rw [pr k 4 (by omega) (by omega)]; exact a2, fun w hw => ?_⟩
        rw [vp k w (by omega) (by omega) hw, vp (k - 1) w (by omega) (by omega) hw, pr k (2 + w) (by omega) (by omega), pr k w (by omega) (by omega)]
        exact a3 w hw
  · by_cases hpp : p' = p
    · subst hpp
      rw [hmy] at k1
      rw [e _ (Or.inr (Or.inr (by omega)))] at hst
      obtain ⟨a1, a2, a3⟩ := c3 p' hp' k k60 (by omega) hst
      refine ⟨a1, by rw [hmq]; exact a2, fun w hw => ?_⟩
      rw [vq k w (by omega) (by omega) hw, e _ (Or.inr (Or.inr (by omega)))]
      exact a3 w hw
    · obtain ⟨e1, e2⟩ := p01 hp hp' hpp
      rw [e2]
      rw [e1] at k1 hst ⊢
      rw [hmq] at k1
      rw [e _ (Or.inl (by unfold o_own; omega))] at hst
      obtain ⟨a1, a2, a3⟩ := c3 (1 - p) (by omega) k k60 k1 hst
      rw [q1p] at a1 a2 a3
      refine ⟨a1, by rw [hmy]; omega, fun w hw => ?_⟩
      rw [vp k w (by omega) (by omega) hw, e _ (Or.inl (by unfold o_own; omega))]
      exact a3 w hw
  · rw [e _ (Or.inl (by unfold o_own; omega))] at h0
    obtain ⟨b, k, a1, a2, a3, a4, a5, a6, a7⟩ := c4 l hl h0
    refine ⟨b, k, a1, by rw [e _ (Or.inl (by unfold o_own; omega))]; exact a2, by rw [e _ (Or.inl (by unfold o_own; omega))]; exact a3, a4, ?_, a6, fun w hw => ?_⟩
    · by_cases hbp : b = p
      · rw [hbp, hmy]; rw [hbp] at a5; omega
      · obtain ⟨e1, -⟩ := p01 hp a1 hbp
        rw [e1, hmq]; rw [e1] at a5; exact a5
    · rw [e _ (Or.inl (by unfold o_own; omega)), a7 w hw]
      by_cases hbp : b = p
      · rw [hbp]; rw [hbp] at a5; exact (vp k w a4 (by omega) hw).symm
      · obtain ⟨e1, -⟩ := p01 hp a1 hbp
        rw [e1]; rw [e1] at a5; exact (vq k w a4 (by omega) hw).symm
  · by_cases hpp : p' = p
    · subst hpp
      rw [hmy] at k3
      rw [pr k 4 (by omega) (by omega)] at hwr
      rw [pr k (2 + w) (by omega) (by omega)]
      by_cases hkm : k = m + 1
      · subst hkm
        obtain ⟨a1, a2⟩ := H6 hk (by omega) hwr (fun w hw => by
          have := hex w hw
          rw [Nat.add_sub_cancel, vp m w (by omega) (Nat.le_refl _) hw, pr (m + 1) w (by omega) (by omega)] at this
          exact this)
        rcases w01 w hw with rfl | rfl
        · rw [vn0]; exact a1
        · rw [vn1]; exact a2
      · rw [vp k w (by omega) (by omega) hw]
        have := c6 p' hp' k k2 (by omega) hk hwr (fun w hw => by
          have := hex w hw
          rw [vp (k - 1) w (by omega) (by omega) hw, pr k w (by omega) (by omega)] at this
          exact this) w hw
        exact this
    · obtain ⟨e1, e2⟩ := p01 hp hp' hpp
      rw [e1] at k3 hk hex ⊢
      rw [hmq] at k3
      rw [pr k 4 (by omega) (by omega)] at hwr
      rw [pr k (2 + w) (by omega) (by omega), vq k w (by omega) (by omega) hw]
      have := c6 (1 - p) (by omega) k k2 k3 hk hwr (fun w hw => by
        have := hex w hw
        rw [vq (k - 1) w (by omega) (by omega) hw, pr k w (by omega) (by omega)] at this
        exact this) w hw
      exact this
theorem CI_same {r r' : Nat → Int32} {L : Nat} (hL : L ≤ 84) (hmad : ∀ p, p < 2 → o_mad r p ≤ 60) (h : CI r L) (e : ∀ j, ((12 ≤ j ∧ j < 762) ∨ (∃ k w, k ≤ 62 ∧ w < 5 ∧ j = 762 + 6 * k + w) ∨ ∃ l w, l < L ∧ w < 6 ∧ j = 1200 + 11 * l + w) → r' j = r j) : CI r' L := by
  obtain ⟨c1, c2, c3, c4, c6⟩ := h
  have em : ∀ p, p < 2 → o_mad r' p = o_mad r p := fun p hp => by unfold o_mad; rw [e _ (Or.inl (by omega))]
  have ev : ∀ p k w, p < 2 → k ≤ 60 → w < 2 → MV r' p k w = MV r p k w := fun p k w hp hk hw => by unfold MV; exact e _ (Or.inl (by omega))
  have ep : ∀ k w, k ≤ 62 → w < 5 → r' (762 + 6 * k + w) = r (762 + 6 * k + w) := fun k w hk hw => e _ (Or.inr (Or.inl ⟨k, w, hk, hw, rfl⟩))
  have el : ∀ l w, l < L → w < 6 → r' (1200 + 11 * l + w) = r (1200 + 11 * l + w) := fun l w hl hw => e _ (Or.inr (Or.inr ⟨l, w, hl, hw, rfl⟩))
  refine ⟨fun p hp k k1 k2 k3 w hw => ?_, fun p hp k k1 k2 hk => ?_, fun p hp k k60 k1 hst => ?_, fun l hl h0 => ?_, fun p hp k k2 k3 hk hwr hex w hw => ?_⟩
  · have := hmad p hp
    rw [em p hp] at k2
    rw [em (1 - p) (by omega)] at k3
    rw [ev p k w hp (by omega) hw, ev (1 - p) k w (by omega) (by omega) hw]
    exact c1 p hp k k1 k2 k3 w hw
  · have := hmad (1 - p) (by omega)
    rw [em p hp] at k1
    rw [em (1 - p) (by omega)] at k2
    obtain ⟨a1, a2, a3⟩ := c2 p hp k k1 k2 hk
    refine ⟨a1, by rw [ep k 4 (by omega) (by omega)]; exact a2, fun w hw => ?_⟩
    rw [ev (1 - p) k w (by omega) (by omega) hw, ev (1 - p) (k - 1) w (by omega) (by omega) hw, ep k (2 + w) (by omega) (by omega), ep k w (by omega) (by omega)]
    exact a3 w hw
  · rw [em p hp] at k1
    rw [e _ (Or.inl (by omega))] at hst
    obtain ⟨a1, a2, a3⟩ := c3 p hp k k60 k1 hst
    have := hmad (1 - p) (by omega)
    refine ⟨a1, by rw [em (1 - p) (by omega)]; exact a2, fun w hw => ?_⟩
    rw [ev (1 - p) k w (by omega) (by omega) hw, e _ (Or.inl (by omega))]
    exact a3 w hw
  · rw [el l 2 hl (by omega)] at h0
    obtain ⟨b, k, a1, a2, a3, a4, a5, a6, a7⟩ := c4 l hl h0
    have := hmad b a1
    have el0 := el l 0 hl (by omega)
    rw [Nat.add_zero] at el0
    refine ⟨b, k, a1, by rw [el0]; exact a2, by rw [el l 3 hl (by omega)]; exact a3, a4, by rw [em b a1]; exact a5, a6, fun w hw => ?_⟩
    rw [ev b k w a1 (by omega) hw, el l (4 + w) hl (by omega)]
    exact a7 w hw
  · have := hmad p hp
    rw [em p hp] at k3
    rw [ep k 4 (by omega) (by omega)] at hwr
    rw [ev p k w hp (by omega) hw, ep k (2 + w) (by omega) (by omega)]
    refine c6 p hp k k2 k3 hk hwr (fun w hw => ?_) w hw
    have h9 := hex w hw
    rw [ev p (k - 1) w hp (by omega) hw, ep k w (by omega) (by omega)] at h9
    exact h9
/-- nothing more can be applied on board p -/
def CR (r : Nat → Int32) (n p : Nat) : Prop := ¬ o_over r p n = true → r (514 + 124 * p + 2 * (o_mad r p + 1)) = -1 ∧ ¬ o_due r p (o_mad r p) = true
theorem o_over_same {r r' : Nat → Int32} {p n : Nat} (hp : p < 2) (h8 : n ≤ 8) (e : ∀ j, (j < 2 ∨ (12 + 7 * p ≤ j ∧ j < 19 + 7 * p) ∨ (26 + 64 * p ≤ j ∧ j < 90 + 64 * p)) → r' j = r j) : o_over r' p n = o_over r p n := by
  have hn9 := sq_le h8
  have eb : ∀ q, o_bish r' p n q = o_bish r p n q := fun q => by
    unfold o_bish
    refine cnt_congr _ (fun i hi => ?_)
    rw [e _ (by omega)]
  unfold o_over
  rw [eb, eb, e (12 + 7 * p) (by omega), e 1 (by omega)]
theorem CR_same {r r' : Nat → Int32} {p n : Nat} (hp : p < 2) (h8 : n ≤ 8) (h60 : o_mad r p ≤ 60) (h : CR r n p) (e : ∀ j, (j < 2 ∨ o_own p j) → r' j = r j) (ep : ∀ w, w < 2 → r' (762 + 6 * (o_mad r p + 1) + w) = r (762 + 6 * (o_mad r p + 1) + w)) (ef : r' (762 + 6 * (o_mad r p + 1) + (if o_maker (o_mad r p + 1) = p then 4 else 5)) = r (762 + 6 * (o_mad r p + 1) + (if o_maker (o_mad r p + 1) = p then 4 else 5))) : CR r' n p := by
  intro ho
  have em : o_mad r' p = o_mad r p := by unfold o_mad; rw [e _ (Or.inr (by unfold o_own; omega))]
  rw [o_over_same hp h8 (fun j hj => e j (by unfold o_own; omega))] at ho
  obtain ⟨a1, a2⟩ := h ho
  rw [em]
  refine ⟨by rw [e _ (Or.inr (by unfold o_own; omega))]; exact a1, fun hd => a2 ?_⟩
  simp only [o_due, decide_eq_true_eq] at hd ⊢
  have ep0 := ep 0 (by omega)
  rw [Nat.add_zero] at ep0
  rw [ef, ep0, ep 1 (by omega), e (154 + 180 * p + 3 * (o_mad r p - 1)) (Or.inr (by unfold o_own; omega)), e (154 + 180 * p + 3 * (o_mad r p - 1) + 1) (Or.inr (by unfold o_own; omega))] at hd
  exact hd
/-- a bishop is on the board, or taken -/
def CB (r : Nat → Int32) (n p : Nat) : Prop := r 9 + r 10 = Int32.ofNat (o_bish r p n 0) + Int32.ofNat (o_bish r p n 1) + r (12 + 7 * p + 1)
theorem CB_same {r r' : Nat → Int32} {p n : Nat} (hp : p < 2) (h8 : n ≤ 8) (h : CB r n p) (e : ∀ j, (j = 9 ∨ j = 10 ∨ j = 12 + 7 * p + 1 ∨ (26 + 64 * p ≤ j ∧ j < 90 + 64 * p)) → r' j = r j) : CB r' n p := by
  have hn9 := sq_le h8
  have eb : ∀ q, o_bish r' p n q = o_bish r p n q := fun q => by
    unfold o_bish
    refine cnt_congr _ (fun i hi => ?_)
    rw [e _ (by omega)]
  unfold CB
  rw [eb, eb, e 9 (by omega), e 10 (by omega), e _ (Or.inr (Or.inr (Or.inl rfl)))]
  exact h
theorem i_alc (a b c : Int32) : a + (b + c) = b + (a + c) := by rw [← Int32.add_assoc, Int32.add_comm a b, Int32.add_assoc]
theorem CB_apply {r : Nat → Int32} {p m f t n : Nat} (hm : m < 60) (hp : p < 2) (h8 : n ≤ 8) (hf : f < n * n) (ht : t < n * n) (hft : f ≠ t) (hsq : i_sq r p n) (h : CB r n p) : CB (o_apply r p m f t) n p := by
  have hn9 := sq_le h8
  have b0 := o_bish_apply (r := r) (q := 0) hm hp h8 hf ht hft (by decide)
  have b1 := o_bish_apply (r := r) (q := 1) hm hp h8 hf ht hft (by decide)
  obtain ⟨-, -, -, v4⟩ := o_apply_mv (r := r) (m := m) (f := f) (t := t) hm hp (by omega) (by omega)
  have l0 := o_bish_le r p n 0 h8
  have l1 := o_bish_le r p n 1 h8
  unfold CB at h ⊢
  rw [v4, o_apply_at (j := 9) (by omega) (by omega) (by omega) (by omega), o_apply_at (j := 10) (by omega) (by omega) (by omega) (by omega), h]
  have z0 : ¬ (0 : Int32) = -1 := by decide
  have z1 : ¬ (1 : Int32) = -1 := by decide
  have z10 : ¬ (1 : Int32) = 0 := by decide
  have z01 : ¬ (0 : Int32) = 1 := by decide
  have zm0 : ¬ (-1 : Int32) = 0 := by decide
  have zm1 : ¬ (-1 : Int32) = 1 := by decide
  rcases hsq t (by omega) with hv | ⟨-, hv | hv⟩
  · rw [hv, if_neg zm0] at b0
    rw [hv, if_neg zm1] at b1
    rw [if_pos hv, show o_bish (o_apply r p m f t) p n 0 = o_bish r p n 0 by omega, show o_bish (o_apply r p m f t) p n 1 = o_bish r p n 1 by omega]
  · rw [hv, if_pos rfl] at b0
    rw [hv, if_neg z01] at b1
    rw [if_neg (by rw [hv]; exact z0), show o_bish r p n 0 = o_bish (o_apply r p m f t) p n 0 + 1 by omega, show o_bish (o_apply r p m f t) p n 1 = o_bish r p n 1 by omega, ← n_inc]
    simp only [Int32.add_assoc, Int32.add_comm, i_alc]
  · rw [hv, if_neg z10] at b0
    rw [hv, if_pos rfl] at b1
    rw [if_neg (by rw [hv]; exact z1), show o_bish r p n 1 = o_bish (o_apply r p m f t) p n 1 + 1 by omega, show o_bish (o_apply r p m f t) p n 0 = o_bish r p n 0 by omega, ← n_inc]
    simp only [Int32.add_assoc, Int32.add_comm, i_alc]
