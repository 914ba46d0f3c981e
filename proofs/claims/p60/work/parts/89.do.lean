/-! ===== the reference: a promise, as asked ===== -/
theorem w_fr_congr {o o' : Nat → Int32} {f s : Int} : ∀ k : Nat, (∀ i : Nat, 1 ≤ i → i ≤ k → o' (f + (i : Int) * s).toNat = o (f + (i : Int) * s).toNat) → w_fr o' f s k = w_fr o f s k := by
  intro k
  induction k with
  | zero => intro _; rfl
  | succ k ih =>
    intro h
    simp only [w_fr]
    rw [ih (fun i h1 h2 => h i h1 (by omega))]
    have := h (k + 1) (by omega) (by omega)
    rw [show (((k + 1 : Nat) : Int)) = (k : Int) + 1 by omega] at this
    rw [this]
theorem o_moves_congr {r r' : Nat → Int32} {p n f t : Nat} {its : Int32} (h4 : 4 ≤ n) (h8 : n ≤ 8) (hf : f < 64) (ht : t < 64) (e : ∀ s, s < 64 → r' (26 + 64 * p + s) = r (26 + 64 * p + s)) : o_moves r' p n its f t = o_moves r p n its f t := by
  unfold o_moves
  rw [e f hf, e t ht]
  refine congrArg _ ?_
  unfold w_reach
  by_cases hc : w_dr n f t ≠ 0 ∧ (w_dr n f t).natAbs = (w_dc n f t).natAbs
  · refine congrArg _ (w_fr_congr _ (fun i h1 h2 => ?_))
    obtain ⟨d1, d2⟩ := w_at_lt (i := i) h4 h8 hf ht hc.1 hc.2 (by omega)
    exact e _ d2
  · simp [hc]
/-- a move laid on the board, and no more -/
def o_laid (r : Nat → Int32) (p f t : Nat) : Nat → Int32 := upd (upd r (26 + 64 * p + t) (r (26 + 64 * p + f))) (26 + 64 * p + f) (-1)
def o_ams (r : Nat → Int32) (p n m f t rf rt : Nat) : Bool :=
  o_moves r p n (Int32.ofNat (1 - p)) f t && (decide (¬ Int32.ofNat (m + 1) = r 1) && (decide (1 ≤ o_bish (o_laid r p f t) p n (Int32.ofNat p)) && o_moves (o_laid r p f t) p n (Int32.ofNat p) rf rt))
/-- alike but for what the reference notes while it looks at a promise -/
def m_alk (S z : ev_S) (a : Nat) : Prop := z.2 = S.2 ∧ (∀ q, q ≠ a → z.1 q = S.1 q) ∧ ∀ j, j ≠ 24 → j ≠ 25 → z.1 a j = S.1 a j
def o_prm (r : Nat → Int32) (k : Nat) (v0 v1 v2 v3 : Int32) : Nat → Int32 := upd (upd (upd (upd (upd r (762 + 6 * k) v0) (762 + 6 * k + 1) v1) (762 + 6 * k + 2) v2) (762 + 6 * k + 3) v3) (762 + 6 * k + 4) 1
/-- the row behind a promise k of player p -/
def o_prom (r : Nat → Int32) (p q k f t rf rt L : Nat) : Nat → Int32 := o_post (o_prm r k (Int32.ofNat f) (Int32.ofNat t) (Int32.ofNat rf) (Int32.ofNat rt)) L (Int32.ofNat p) (Int32.ofNat q) 1 (Int32.ofNat k) (Int32.ofNat rf) (Int32.ofNat rt)
def k_prm (n np : Nat) (x0 x1 x2 x3 x4 x5 : Int32) (p q f t rf rt : Nat) : Prop := (x0 = Int32.ofNat p ∧ p < 2) ∧ (x1 = Int32.ofNat q ∧ q < np) ∧ (x2 = Int32.ofNat f ∧ f < n * n) ∧ (x3 = Int32.ofNat t ∧ t < n * n) ∧ (x4 = Int32.ofNat rf ∧ rf < n * n) ∧ (x5 = Int32.ofNat rt ∧ rt < n * n)
def o_mayp (r : Nat → Int32) (p n m L : Nat) : Prop := ¬ o_over r p n = true ∧ ¬ o_turn r p n m = true ∧ r (762 + 6 * (m + 2) + 4) = 0 ∧ L < 80