/-! ===== a bishop's way, for both sides ===== -/
def w_dr (n f t : Nat) : Int := ((t / n : Nat) : Int) - ((f / n : Nat) : Int)
def w_dc (n f t : Nat) : Int := ((t % n : Nat) : Int) - ((f % n : Nat) : Int)
def w_st (n f t : Nat) : Int := (if w_dr n f t ≤ 0 then -(n : Int) else (n : Int)) + (if w_dc n f t ≤ 0 then -1 else 1)
/-- the squares 1 .. k steps away are empty -/
def w_fr (o : Nat → Int32) (f s : Int) : Nat → Bool
  | 0 => true
  | k + 1 => w_fr o f s k && decide (o (f + ((k : Int) + 1) * s).toNat = -1)
def w_reach (o : Nat → Int32) (n f t : Nat) : Bool := decide (w_dr n f t ≠ 0 ∧ (w_dr n f t).natAbs = (w_dc n f t).natAbs) && w_fr o f (w_st n f t) ((w_dr n f t).natAbs - 1)
theorem w_line {n f t : Nat} (h4 : 4 ≤ n) (h8 : n ≤ 8) (h0 : w_dr n f t ≠ 0) (h1 : (w_dr n f t).natAbs = (w_dc n f t).natAbs) : (t : Int) = f + ((w_dr n f t).natAbs : Int) * w_st n f t ∧ w_st n f t ≠ 0 ∧ -9 ≤ w_st n f t ∧ w_st n f t ≤ 9 := by
  unfold w_st
  unfold w_dr w_dc at *
  have : n = 4 ∨ n = 5 ∨ n = 6 ∨ n = 7 ∨ n = 8 := by omega
  rcases this with rfl | rfl | rfl | rfl | rfl <;> (split <;> split <;> omega)
theorem w_between {f t s : Int} {k i : Nat} (h : t = f + (k : Int) * s) (hi : i ≤ k) : (f ≤ f + (i : Int) * s ∧ f + (i : Int) * s ≤ t) ∨ (t ≤ f + (i : Int) * s ∧ f + (i : Int) * s ≤ f) := by
  by_cases hs : 0 ≤ s
  · left
    have h1 : (i : Int) * s ≤ (k : Int) * s := Int.mul_le_mul_of_nonneg_right (by omega) hs
    have h2 : 0 ≤ (i : Int) * s := Int.mul_nonneg (by omega) hs
    omega
  · right
    have h1 : (k : Int) * s ≤ (i : Int) * s := Int.mul_le_mul_of_nonpos_right (by omega) (by omega)
    have h2 : (i : Int) * s ≤ 0 * s := Int.mul_le_mul_of_nonpos_right (by omega) (by omega)
    rw [Int.zero_mul] at h2
    omega
theorem w_inj {s : Int} {i k : Nat} (hs : s ≠ 0) (h : (i : Int) * s = (k : Int) * s) : i = k := by
  have := Int.eq_of_mul_eq_mul_right hs h
  omega
/-- the numbers of the listing -/
theorem w_e1 {n f t : Nat} (h4 : 4 ≤ n) (h8 : n ≤ 8) (hf : f < 64) (ht : t < 64) : (Int32.ofNat t / Int32.ofNat n - Int32.ofNat f / Int32.ofNat n).toInt = w_dr n f t := by
  have a1 := Nat.div_le_self t n
  have a2 := Nat.div_le_self f n
  rw [n_divc (by omega) (by omega) (by omega), n_divc (by omega) (by omega) (by omega)]
  unfold w_dr
  generalize t / n = x at a1 ⊢
  generalize f / n = y at a2 ⊢
  rw [z_sub (by rw [n_i (by omega), n_i (by omega)]; omega) (by rw [n_i (by omega), n_i (by omega)]; omega), n_i (by omega), n_i (by omega)]
theorem w_e2 {n f t : Nat} (h4 : 4 ≤ n) (h8 : n ≤ 8) (hf : f < 64) (ht : t < 64) : (ev_rem (Int32.ofNat t) (Int32.ofNat n) - ev_rem (Int32.ofNat f) (Int32.ofNat n)).toInt = w_dc n f t := by
  have a1 := Nat.mod_lt t (show n > 0 by omega)
  have a2 := Nat.mod_lt f (show n > 0 by omega)
  rw [n_remc (by omega) (by omega) (by omega), n_remc (by omega) (by omega) (by omega), z_sub (by rw [n_i (by omega), n_i (by omega)]; omega) (by rw [n_i (by omega), n_i (by omega)]; omega), n_i (by omega), n_i (by omega)]
  rfl
theorem w_abs {x : Int32} (h : -2147483648 < x.toInt) : (ev_abs x).toInt = (x.toInt.natAbs : Int) := by
  unfold ev_abs
  have e0 : (0 : Int32).toInt = 0 := rfl
  split
  · next q => rw [z_le, e0] at q; omega
  · next q =>
    rw [z_le, e0] at q
    rw [z_sub (by rw [e0]; have := z_hi x; omega) (by rw [e0]; omega), e0]
    omega
theorem w_lt64 {n f : Nat} (h4 : 4 ≤ n) (h8 : n ≤ 8) (hf : f < n * n) : f < 64 := by have := sq_le h8; omega
theorem w_dr_b {n f t : Nat} (hf : f < 64) (ht : t < 64) : -64 < w_dr n f t ∧ w_dr n f t < 64 := by
  have a1 := Nat.div_le_self t n
  have a2 := Nat.div_le_self f n
  unfold w_dr
  generalize t / n = x at a1 ⊢
  generalize f / n = y at a2 ⊢
  omega
theorem w_dc_b {n f t : Nat} (hn : 0 < n) (h8 : n ≤ 8) : -64 < w_dc n f t ∧ w_dc n f t < 64 := by
  have a1 := Nat.mod_lt t hn
  have a2 := Nat.mod_lt f hn
  unfold w_dc; omega
theorem w_c0 {n f t : Nat} (h4 : 4 ≤ n) (h8 : n ≤ 8) (hf : f < 64) (ht : t < 64) : (Int32.ofNat t / Int32.ofNat n - Int32.ofNat f / Int32.ofNat n = 0) = (w_dr n f t = 0) := by
  rw [z_eq, w_e1 h4 h8 hf ht]; rfl
theorem w_cabs {n f t : Nat} (h4 : 4 ≤ n) (h8 : n ≤ 8) (hf : f < 64) (ht : t < 64) : (ev_abs (Int32.ofNat t / Int32.ofNat n - Int32.ofNat f / Int32.ofNat n) = ev_abs (ev_rem (Int32.ofNat t) (Int32.ofNat n) - ev_rem (Int32.ofNat f) (Int32.ofNat n))) = ((w_dr n f t).natAbs = (w_dc n f t).natAbs) := by
  have b1 := w_dr_b (n := n) hf ht
  have b2 := w_dc_b (f := f) (t := t) (show 0 < n by omega) h8
  rw [z_eq, w_abs (by rw [w_e1 h4 h8 hf ht]; omega), w_abs (by rw [w_e2 h4 h8 hf ht]; omega), w_e1 h4 h8 hf ht, w_e2 h4 h8 hf ht]
  exact propext (by omega)
theorem w_cr {n f t : Nat} (h4 : 4 ≤ n) (h8 : n ≤ 8) (hf : f < 64) (ht : t < 64) : (Int32.ofNat t / Int32.ofNat n - Int32.ofNat f / Int32.ofNat n ≤ 0) = (w_dr n f t ≤ 0) := by
  rw [z_le, w_e1 h4 h8 hf ht]; rfl
theorem w_cc {n f t : Nat} (h4 : 4 ≤ n) (h8 : n ≤ 8) (hf : f < 64) (ht : t < 64) : (ev_rem (Int32.ofNat t) (Int32.ofNat n) - ev_rem (Int32.ofNat f) (Int32.ofNat n) ≤ 0) = (w_dc n f t ≤ 0) := by
  rw [z_le, w_e2 h4 h8 hf ht]; rfl
/-- the i-th square of the way, as the listing has it -/
def w_at (n f t i : Nat) : Nat := ((f : Int) + (i : Int) * w_st n f t).toNat
theorem w_at_lt {n f t i : Nat} (h4 : 4 ≤ n) (h8 : n ≤ 8) (hf : f < 64) (ht : t < 64) (h0 : w_dr n f t ≠ 0) (h1 : (w_dr n f t).natAbs = (w_dc n f t).natAbs) (hi : i ≤ (w_dr n f t).natAbs) : ((w_at n f t i : Nat) : Int) = (f : Int) + (i : Int) * w_st n f t ∧ w_at n f t i < 64 := by
  obtain ⟨a1, a2, a3, a4⟩ := w_line h4 h8 h0 h1
  have := w_between a1 hi
  unfold w_at
  omega
def o_moves (r : Nat → Int32) (p n : Nat) (its : Int32) (f t : Nat) : Bool := decide (r (26 + 64 * p + f) = its ∧ its ≠ -1 ∧ r (26 + 64 * p + t) ≠ its) && w_reach (fun s => r (26 + 64 * p + s)) n f t