/-! ===== the class: a board ===== -/
def q_board (M : Nat → Nat → Int32) (b : Nat) (r : Nat → Int32) (p n m : Nat) : Prop :=
  (∀ s, s < 64 → M (b + 1) s = r (26 + 64 * p + s)) ∧ M (b + 2) 0 = Int32.ofNat (o_bish r p n 0) ∧ M (b + 2) 1 = Int32.ofNat (o_bish r p n 1) ∧
  M b 4 = r 0 ∧ M b 5 = r 1 ∧ M b 6 = r (12 + 7 * p) ∧ M b 7 = r (12 + 7 * p + 1) ∧ M b 8 = r 9 + r 10 ∧
  ∀ k, k < m → M (b + 3) (k + 1) = r (154 + 180 * p + 3 * k) * 64 + r (154 + 180 * p + 3 * k + 1) ∧ M (b + 4) (k + 1) = r (154 + 180 * p + 3 * k + 2)
def i_sq (r : Nat → Int32) (p n : Nat) : Prop := ∀ s, s < 64 → r (26 + 64 * p + s) = -1 ∨ s < n * n ∧ (r (26 + 64 * p + s) = 0 ∨ r (26 + 64 * p + s) = 1)
def i_mv (r : Nat → Int32) (p n m : Nat) : Prop := ∀ k, k < m → ∃ f t, f < n * n ∧ t < n * n ∧ r (154 + 180 * p + 3 * k) = Int32.ofNat f ∧ r (154 + 180 * p + 3 * k + 1) = Int32.ofNat t ∧ (r (154 + 180 * p + 3 * k + 2) = 0 ∨ r (154 + 180 * p + 3 * k + 2) = 1)
theorem n_dv64 {f t : Nat} (hf : f < 64) (ht : t < 64) : Int32.ofNat (f * 64 + t) / 64 = Int32.ofNat f := by
  have := n_divc (d := f * 64 + t) (c := 64) (by omega) (by decide) (by decide)
  rw [show (f * 64 + t) / 64 = f by omega] at this
  exact this
theorem n_rm64 {f t : Nat} (hf : f < 64) (ht : t < 64) : ev_rem (Int32.ofNat (f * 64 + t)) 64 = Int32.ofNat t := by
  have := n_remc (d := f * 64 + t) (c := 64) (by omega) (by decide) (by decide)
  rw [show (f * 64 + t) % 64 = t by omega] at this
  exact this
theorem cnt_one {f h : Nat → Bool} {l : Nat} (he : ∀ j, j ≠ l → h j = f j) : ∀ n, l < n → cnt h n + (if f l = true then 1 else 0) = cnt f n + (if h l = true then 1 else 0) := by
  intro n
  induction n with
  | zero => intro q; omega
  | succ n ih =>
    intro q
    simp only [cnt]
    by_cases hl : l = n
    · subst hl
      rw [cnt_congr l (fun i hi => he i (by omega))]
      omega
    · rw [he n (fun q9 => hl q9.symm)]
      have := ih (by omega)
      omega
/-- the bishops behind a move -/
theorem o_bish_apply {r : Nat → Int32} {p n m f t : Nat} {q : Int32} (hm : m < 60) (hp : p < 2) (h8 : n ≤ 8) (hf : f < n * n) (ht : t < n * n) (hft : f ≠ t) (hq : q ≠ -1) :
    o_bish (o_apply r p m f t) p n q + (if r (26 + 64 * p + t) = q then 1 else 0) = o_bish r p n q := by
  have hn9 := sq_le h8
  have eo : ∀ s, s < 64 → o_apply r p m f t (26 + 64 * p + s) = if s = f then -1 else if s = t then r (26 + 64 * p + f) else r (26 + 64 * p + s) := by
    intro s hs
    by_cases h1 : s = f
    · rw [if_pos h1, h1]
      unfold o_apply
      split <;> split <;> (try split) <;> (try rw [o_waits_at (by omega)]) <;> (try split) <;> simp (disch := omega) only [u_k, u_s]
    · rw [if_neg h1]
      by_cases h2 : s = t
      · rw [if_pos h2, h2]
        unfold o_apply
        split <;> split <;> (try split) <;> (try rw [o_waits_at (by omega)]) <;> (try split) <;> simp (disch := omega) only [u_k, u_s]
      · rw [if_neg h2, o_apply_at (by omega) (by omega) (by omega) (by omega)]
  unfold o_bish
  have e1 := cnt_congr (f := fun s => decide (o_apply r p m f t (26 + 64 * p + s) = q)) (h := fun s => decide ((if s = f then -1 else if s = t then r (26 + 64 * p + f) else r (26 + 64 * p + s)) = q)) (n * n) (fun s hs => by simp only [eo s (by omega)])
  rw [e1]
  have e2 := cnt_one (l := f) (f := fun s => decide ((if s = t then r (26 + 64 * p + f) else r (26 + 64 * p + s)) = q)) (h := fun s => decide ((if s = f then -1 else if s = t then r (26 + 64 * p + f) else r (26 + 64 * p + s)) = q)) (fun j hj => by simp only [hj, if_false]) (n * n) hf
  have e3 := cnt_one (l := t) (f := fun s => decide (r (26 + 64 * p + s) = q)) (h := fun s => decide ((if s = t then r (26 + 64 * p + f) else r (26 + 64 * p + s)) = q)) (fun j hj => by simp only [hj, if_false]) (n * n) ht
  simp only [hft, if_false, if_true, decide_eq_true_eq, Ne.symm hq] at e2 e3
  omega
theorem o_apply_sq {r : Nat → Int32} {p m f t s : Nat} (hm : m < 60) (hp : p < 2) (hf : f < 64) (ht : t < 64) (hft : f ≠ t) (hs : s < 64) :
    o_apply r p m f t (26 + 64 * p + s) = if s = f then -1 else if s = t then r (26 + 64 * p + f) else r (26 + 64 * p + s) := by
  by_cases h1 : s = f
  · rw [if_pos h1, h1]
    unfold o_apply
    split <;> split <;> (try split) <;> (try rw [o_waits_at (by omega)]) <;> (try split) <;> simp (disch := omega) only [u_k, u_s]
  · rw [if_neg h1]
    by_cases h2 : s = t
    · rw [if_pos h2, h2]
      unfold o_apply
      split <;> split <;> (try split) <;> (try rw [o_waits_at (by omega)]) <;> (try split) <;> simp (disch := omega) only [u_k, u_s]
    · rw [if_neg h2, o_apply_at (by omega) (by omega) (by omega) (by omega)]
