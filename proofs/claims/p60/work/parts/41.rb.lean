/-! ===== the reference: its board, in words of its row r ===== -/
def cnt (f : Nat → Bool) : Nat → Nat
  | 0 => 0
  | n + 1 => cnt f n + (if f n = true then 1 else 0)
theorem cnt_t {f : Nat → Bool} {n : Nat} (h : f n = true) : cnt f (n + 1) = cnt f n + 1 := by simp [cnt, h]
theorem cnt_f {f : Nat → Bool} {n : Nat} (h : ¬ f n = true) : cnt f (n + 1) = cnt f n := by simp [cnt, h]
theorem cnt_le (f : Nat → Bool) : ∀ n, cnt f n ≤ n := by
  intro n
  induction n with
  | zero => exact Nat.le_refl _
  | succ n ih => simp only [cnt]; split <;> omega
theorem cnt_congr {f h : Nat → Bool} : ∀ n, (∀ i, i < n → f i = h i) → cnt f n = cnt h n := by
  intro n
  induction n with
  | zero => intro _; rfl
  | succ n ih =>
    intro q
    simp only [cnt]
    rw [ih (fun i hi => q i (by omega)), q n (by omega)]
theorem cnt_mono {f : Nat → Bool} {n m : Nat} (h : n ≤ m) : cnt f n ≤ cnt f m := by
  induction m with
  | zero => rw [show n = 0 by omega]; exact Nat.le_refl _
  | succ m ih =>
    by_cases h1 : n = m + 1
    · rw [h1]; exact Nat.le_refl _
    · have := ih (by omega)
      simp only [cnt]; omega
theorem dn {P : Nat → Prop} {n : Nat} (hn : P n) (hs : ∀ i, i < n → P (i + 1) → P i) : ∀ i, i ≤ n → P i := by
  have key : ∀ k i, i + k = n → P i := by
    intro k
    induction k with
    | zero => intro i h; rw [show i = n by omega]; exact hn
    | succ k ih => intro i h; exact hs i (by omega) (ih (i + 1) (by omega))
  intro i hi
  exact key (n - i) i (by omega)
theorem n_z {a : Nat} (ha : a < 2147483648) : (Int32.ofNat a = 0) = (a = 0) := n_eq (b := 0) ha (by decide)
theorem sq_le {n : Nat} (h : n ≤ 8) : n * n ≤ 64 := Nat.mul_le_mul h h
def o_bish (r : Nat → Int32) (p n : Nat) (q : Int32) : Nat := cnt (fun s => decide (r (26 + 64 * p + s) = q)) (n * n)
/-- the game is over on p's board -/
def o_over (r : Nat → Int32) (p n : Nat) : Bool := decide (o_bish r p n 0 = 0 ∨ o_bish r p n 1 = 0 ∨ r (12 + 7 * p) = r 1)
theorem o_bish_le (r : Nat → Int32) (p n : Nat) (q : Int32) (h8 : n ≤ 8) : o_bish r p n q ≤ 64 := Nat.le_trans (cnt_le _ _) (sq_le h8)
/-- who makes a move by its number -/
def o_maker (k : Nat) : Nat := if k % 2 = 1 then 0 else 1
theorem c_maker {k : Nat} (h : k < 2147483647) : f_X9_moverOf (Int32.ofNat k) = Int32.ofNat (o_maker k) := by
  have e : ev_rem (Int32.ofNat k) 2 = Int32.ofNat (k % 2) := by
    rw [z_eq]
    unfold ev_rem
    have h2 : (2 : Int32).toInt = 2 := rfl
    have hd : (Int32.ofNat k / 2).toInt = (k / 2 : Nat) := by
      rw [z_div (by rw [h2]; decide), n_i (by omega), h2]
      rfl
    have hm : (Int32.ofNat k / 2 * 2).toInt = (k / 2 : Nat) * 2 := by
      rw [z_mul, hd, h2] <;> rw [hd, h2] <;> omega
    rw [z_sub, hm, n_i (by omega), n_i (by omega)]
    · omega
    · rw [hm, n_i (by omega)]; omega
    · rw [hm, n_i (by omega)]; omega
  unfold f_X9_moverOf o_maker
  rw [e]
  by_cases h1 : k % 2 = 1
  · rw [if_pos h1, if_pos (by rw [h1]; rfl)]; rfl
  · rw [if_neg h1, if_neg (by rw [show k % 2 = 0 by omega]; decide)]; rfl
def o_turn (r : Nat → Int32) (p n m : Nat) : Bool := !o_over r p n && decide (o_maker (m + 1) = p)
theorem o_maker_lt (k : Nat) : o_maker k < 2 := by unfold o_maker; split <;> omega
/-- the waits of p are counted -/
def o_waits (r : Nat → Int32) (p : Nat) (d : Int32) : Nat → Int32 :=
  upd (upd (upd r (12 + 7 * p + 3) (ev_max (r (12 + 7 * p + 3)) d)) (12 + 7 * p + 4) (r (12 + 7 * p + 4) + d)) (12 + 7 * p + 5) (r (12 + 7 * p + 5) + 1)
/-- a move is applied -/
def o_apply (r : Nat → Int32) (p m f t : Nat) : Nat → Int32 :=
  let by_ := r (26 + 64 * p + f)
  let take := r (26 + 64 * p + t) ≠ -1
  let r1 := upd (upd (upd r (154 + 180 * p + 3 * m) (Int32.ofNat f)) (154 + 180 * p + 3 * m + 1) (Int32.ofNat t)) (154 + 180 * p + 3 * m + 2) (if take then 1 else 0)
  let r2 := upd (upd (upd r1 (26 + 64 * p + t) by_) (26 + 64 * p + f) (-1)) (12 + 7 * p) (Int32.ofNat (m + 1))
  let r3 := if take then upd r2 (12 + 7 * p + 1) (r (12 + 7 * p + 1) + 1) else r2
  if o_maker (m + 1) = p then upd r3 (12 + 7 * p + 2) (r 2)
  else if r (12 + 7 * p + 2) = -1 then r3 else o_waits r3 p (r 2 - r (12 + 7 * p + 2))
theorem n_1s {b : Nat} (h : b < 2) : (1 : Int32) - Int32.ofNat b = Int32.ofNat (1 - b) := (Int32.ofNat_sub 1 b (by omega)).symm
theorem o_waits_at {r : Nat → Int32} {p j : Nat} {d : Int32} (h : j < 12 + 7 * p + 3 ∨ 12 + 7 * p + 5 < j) : o_waits r p d j = r j := by
  unfold o_waits
  rw [u_k (by omega), u_k (by omega), u_k (by omega)]
/-- what a move leaves as it was -/
theorem o_apply_at {r : Nat → Int32} {p m f t j : Nat} (h : ¬ (154 + 180 * p + 3 * m ≤ j ∧ j ≤ 154 + 180 * p + 3 * m + 2)) (h1 : j ≠ 26 + 64 * p + f) (h2 : j ≠ 26 + 64 * p + t) (h3 : j < 12 + 7 * p ∨ 12 + 7 * p + 5 < j) : o_apply r p m f t j = r j := by
  unfold o_apply
  split
  · split
    · rw [u_k (by omega), u_k (by omega), u_k (by omega), u_k (by omega), u_k (by omega), u_k (by omega), u_k (by omega), u_k (by omega)]
    · rw [u_k (by omega), u_k (by omega), u_k (by omega), u_k (by omega), u_k (by omega), u_k (by omega), u_k (by omega)]
  · split
    · split
      · rw [u_k (by omega), u_k (by omega), u_k (by omega), u_k (by omega), u_k (by omega), u_k (by omega), u_k (by omega)]
      · rw [u_k (by omega), u_k (by omega), u_k (by omega), u_k (by omega), u_k (by omega), u_k (by omega)]
    · rw [o_waits_at (by omega)]
      split
      · rw [u_k (by omega), u_k (by omega), u_k (by omega), u_k (by omega), u_k (by omega), u_k (by omega), u_k (by omega)]
      · rw [u_k (by omega), u_k (by omega), u_k (by omega), u_k (by omega), u_k (by omega), u_k (by omega)]
theorem o_apply_made {r : Nat → Int32} {p m f t : Nat} : o_apply r p m f t (12 + 7 * p) = Int32.ofNat (m + 1) := by
  unfold o_apply
  split
  · split
    · rw [u_k (by omega), u_k (by omega), u_s]
    · rw [u_k (by omega), u_s]
  · split
    · split
      · rw [u_k (by omega), u_s]
      · rw [u_s]
    · rw [o_waits_at (by omega)]
      split
      · rw [u_k (by omega), u_s]
      · rw [u_s]
