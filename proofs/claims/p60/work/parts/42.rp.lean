/-! ===== the reference: stored moves and promises ===== -/
def i_sto (r : Nat → Int32) (p n : Nat) : Prop := ∀ k, k ≤ 61 → r (514 + 124 * p + 2 * k) = -1 ∨ ∃ f t, f < n * n ∧ t < n * n ∧ f ≠ t ∧ r (514 + 124 * p + 2 * k) = Int32.ofNat f ∧ r (514 + 124 * p + 2 * k + 1) = Int32.ofNat t
def i_pr (r : Nat → Int32) (n k : Nat) : Prop := ∃ ef et rf rt, ef < n * n ∧ et < n * n ∧ ef ≠ et ∧ rf < n * n ∧ rt < n * n ∧ rf ≠ rt ∧ r (762 + 6 * k) = Int32.ofNat ef ∧ r (762 + 6 * k + 1) = Int32.ofNat et ∧ r (762 + 6 * k + 2) = Int32.ofNat rf ∧ r (762 + 6 * k + 3) = Int32.ofNat rt ∧ r (762 + 6 * k + 4) = 1 ∧ (r (762 + 6 * k + 5) = 0 ∨ r (762 + 6 * k + 5) = 1)
def i_pro (r : Nat → Int32) (n : Nat) : Prop := ∀ k, k ≤ 62 → (r (762 + 6 * k + 4) = 0 ∧ r (762 + 6 * k + 5) = 0) ∨ i_pr r n k
def i_dk (r : Nat → Int32) (p n lim : Nat) : Prop := r 0 = Int32.ofNat n ∧ n ≤ 8 ∧ r 1 = Int32.ofNat lim ∧ lim ≤ 60 ∧ (∃ m, r (12 + 7 * p) = Int32.ofNat m ∧ m ≤ lim) ∧ i_sto r p n ∧ i_pro r n
def o_due (r : Nat → Int32) (p m : Nat) : Bool := decide (r (762 + 6 * (m + 1) + (if o_maker (m + 1) = p then 4 else 5)) ≠ 0 ∧ 1 ≤ m ∧ r (154 + 180 * p + 3 * (m - 1)) = r (762 + 6 * (m + 1)) ∧ r (154 + 180 * p + 3 * (m - 1) + 1) = r (762 + 6 * (m + 1) + 1))
/-! ===== moves are applied as long as possible ===== -/
def o_clr (r : Nat → Int32) (p k : Nat) : Nat → Int32 := upd (upd r (514 + 124 * p + 2 * k) (-1)) (514 + 124 * p + 2 * k + 1) (-1)
def o_keep (r : Nat → Int32) (p m : Nat) : Nat → Int32 := if o_maker (m + 1) = p then upd r (12 + 7 * p + 6) (r (12 + 7 * p + 6) + 1) else r
def o_mad (r : Nat → Int32) (p : Nat) : Nat := (r (12 + 7 * p)).toNatClampNeg
def o_all (p n : Nat) : Nat → (Nat → Int32) → (Nat → Int32)
  | 0, r => r
  | k + 1, r =>
    if o_over r p n = true then r
    else if r (514 + 124 * p + 2 * (o_mad r p + 1)) = -1 then
      if o_due r p (o_mad r p) = true then
        o_all p n k (o_keep (o_apply (o_clr r p (o_mad r p + 1)) p (o_mad r p) (r (762 + 6 * (o_mad r p + 1) + 2)).toNatClampNeg (r (762 + 6 * (o_mad r p + 1) + 3)).toNatClampNeg) p (o_mad r p))
      else r
    else o_all p n k (o_apply (o_clr r p (o_mad r p + 1)) p (o_mad r p) (r (514 + 124 * p + 2 * (o_mad r p + 1))).toNatClampNeg (r (514 + 124 * p + 2 * (o_mad r p + 1) + 1)).toNatClampNeg)
theorem o_keep_at {r : Nat → Int32} {p m j : Nat} (h : j ≠ 12 + 7 * p + 6) : o_keep r p m j = r j := by
  unfold o_keep
  split
  · rw [u_k h]
  · rfl
theorem i_dk_step {r : Nat → Int32} {p n lim m f t : Nat} (hp : p < 2) (hm : r (12 + 7 * p) = Int32.ofNat m) (hml : m < lim) (hf : f < 64) (ht : t < 64) (h : i_dk r p n lim) : i_dk (o_apply (o_clr r p (m + 1)) p m f t) p n lim := by
  obtain ⟨h0, h8, h1, h60, -, hs, hpr⟩ := h
  refine ⟨?_, h8, ?_, h60, ⟨m + 1, o_apply_made, by omega⟩, ?_, ?_⟩
  · rw [o_apply_at (by omega) (by omega) (by omega) (by omega), o_clr, u_k (by omega), u_k (by omega)]; exact h0
  · rw [o_apply_at (by omega) (by omega) (by omega) (by omega), o_clr, u_k (by omega), u_k (by omega)]; exact h1
  · intro k hk
    by_cases hkm : k = m + 1
    · left
      subst hkm
      rw [o_apply_at (by omega) (by omega) (by omega) (by omega), o_clr, u_k (by omega), u_s]
    · rw [o_apply_at (by omega) (by omega) (by omega) (by omega), o_apply_at (j := 514 + 124 * p + 2 * k + 1) (by omega) (by omega) (by omega) (by omega), o_clr, u_k (by omega), u_k (by omega), u_k (by omega), u_k (by omega)]
      exact hs k hk
  · intro k hk
    have e : ∀ w, w < 6 → o_apply (o_clr r p (m + 1)) p m f t (762 + 6 * k + w) = r (762 + 6 * k + w) := fun w hw => by
      rw [o_apply_at (by omega) (by omega) (by omega) (by omega), o_clr, u_k (by omega), u_k (by omega)]
    have e0 : o_apply (o_clr r p (m + 1)) p m f t (762 + 6 * k) = r (762 + 6 * k) := e 0 (by omega)
    rw [i_pr, e0, e 1 (by omega), e 2 (by omega), e 3 (by omega), e 4 (by omega), e 5 (by omega)]
    exact hpr k hk
theorem i_dk_keep {r : Nat → Int32} {p n lim m : Nat} (hp : p < 2) (h : i_dk r p n lim) : i_dk (o_keep r p m) p n lim := by
  obtain ⟨h0, h8, h1, h60, ⟨m1, hm1, hm2⟩, hs, hpr⟩ := h
  refine ⟨?_, h8, ?_, h60, ⟨m1, ?_, hm2⟩, ?_, ?_⟩
  · rw [o_keep_at (by omega)]; exact h0
  · rw [o_keep_at (by omega)]; exact h1
  · rw [o_keep_at (by omega)]; exact hm1
  · intro k hk
    rw [o_keep_at (by omega), o_keep_at (by omega)]
    exact hs k hk
  · intro k hk
    have e : ∀ w, w < 6 → o_keep r p m (762 + 6 * k + w) = r (762 + 6 * k + w) := fun w hw => o_keep_at (by omega)
    have e0 : o_keep r p m (762 + 6 * k) = r (762 + 6 * k) := e 0 (by omega)
    rw [i_pr, e0, e 1 (by omega), e 2 (by omega), e 3 (by omega), e 4 (by omega), e 5 (by omega)]
    exact hpr k hk
theorem o_over_not {r : Nat → Int32} {p n : Nat} (h : ¬ o_over r p n = true) : r (12 + 7 * p) ≠ r 1 := by
  simp only [o_over, decide_eq_true_eq] at h
  exact fun q => h (Or.inr (Or.inr q))
theorem o_due_pr {r : Nat → Int32} {p n m : Nat} (hm : m < 62) (hpr : i_pro r n) (h : o_due r p m = true) : i_pr r n (m + 1) := by
  rcases hpr (m + 1) (by omega) with ⟨h4, h5⟩ | h9
  · simp only [o_due, decide_eq_true_eq] at h
    exfalso
    apply h.1
    split
    · exact h4
    · exact h5
  · exact h9