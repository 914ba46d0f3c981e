/-! ===== the reference: letters and days ===== -/
theorem n_divc {d c : Nat} (hd : d < 2147483648) (hc : 0 < c) (hc2 : c < 2147483648) : Int32.ofNat d / Int32.ofNat c = Int32.ofNat (d / c) := by
  have h1 : d / c ≤ d := Nat.div_le_self d c
  rw [z_eq, z_div (by rw [n_i hc2]; omega), n_i hd, n_i hc2, n_i (by omega)]
  rfl
theorem n_remc {d c : Nat} (hd : d < 2147483648) (hc : 0 < c) (hc2 : c < 2147483648) : ev_rem (Int32.ofNat d) (Int32.ofNat c) = Int32.ofNat (d % c) := by
  have h1 := Nat.div_add_mod' d c
  unfold ev_rem
  rw [n_divc hd hc hc2, n_mul, n_sub _ _ (by omega)]
  congr 1
  omega
theorem n_dv30 {d : Nat} (hd : d < 2147483648) : Int32.ofNat d / 30 = Int32.ofNat (d / 30) := n_divc hd (by decide) (by decide)
theorem n_rm12 {d : Nat} (hd : d < 2147483648) : ev_rem (Int32.ofNat d) 12 = Int32.ofNat (d % 12) := n_remc hd (by decide) (by decide)
/-- a letter is posted -/
def o_post (r : Nat → Int32) (l : Nat) (x0 x1 x2 x3 x4 x5 : Int32) : Nat → Int32 :=
  upd (upd (upd (upd (upd (upd (upd (upd (upd r (1200 + 11 * l) x0) (1200 + 11 * l + 1) x1) (1200 + 11 * l + 2) x2) (1200 + 11 * l + 3) x3) (1200 + 11 * l + 4) x4) (1200 + 11 * l + 5) x5) (1200 + 11 * l + 6) 0) (1200 + 11 * l + 7) (r 2)) 4 (Int32.ofNat (l + 1))
/-- the least index below n with f, or n -/
def fnd (f : Nat → Bool) : Nat → Nat
  | 0 => 0
  | n + 1 => if fnd f n < n then fnd f n else if f n = true then n else n + 1
theorem fnd_le (f : Nat → Bool) : ∀ n, fnd f n ≤ n := by
  intro n
  induction n with
  | zero => exact Nat.le_refl _
  | succ n ih => simp only [fnd]; split
                 · omega
                 · split <;> omega
theorem fnd_none {f : Nat → Bool} : ∀ n, (∀ i, i < n → ¬ f i = true) → fnd f n = n := by
  intro n
  induction n with
  | zero => intro _; rfl
  | succ n ih =>
    intro h
    simp only [fnd]
    rw [ih (fun i hi => h i (by omega)), if_neg (by omega), if_neg (h n (by omega))]
theorem fnd_some {f : Nat → Bool} {k : Nat} (hk : f k = true) (hm : ∀ i, i < k → ¬ f i = true) : ∀ n, k < n → fnd f n = k := by
  intro n
  induction n with
  | zero => intro h; omega
  | succ n ih =>
    intro h
    simp only [fnd]
    by_cases hkn : k < n
    · rw [ih hkn, if_pos hkn]
    · rw [show k = n by omega] at hk hm ⊢
      rw [fnd_none n hm, if_neg (by omega), if_pos hk]
theorem fnd_spec (f : Nat → Bool) : ∀ n, (fnd f n < n → f (fnd f n) = true) ∧ ∀ i, i < fnd f n → ¬ f i = true := by
  intro n
  induction n with
  | zero => exact ⟨fun h => absurd h (Nat.lt_irrefl _), fun i h => absurd h (Nat.not_lt_zero _)⟩
  | succ n ih =>
    have hle := fnd_le f n
    simp only [fnd]
    split
    · next h => exact ⟨fun _ => ih.1 h, ih.2⟩
    · next h =>
      have e : fnd f n = n := by omega
      rw [e] at ih
      split
      · next h1 => exact ⟨fun _ => h1, ih.2⟩
      · next h1 =>
        refine ⟨fun h2 => absurd h2 (Nat.lt_irrefl _), fun i hi => ?_⟩
        by_cases hin : i = n
        · rw [hin]; exact h1
        · exact ih.2 i (by omega)
/-- an index, or none of n -/
def o_ix (n k : Nat) : Int32 := if k < n then Int32.ofNat k else -1
def o_wt (r : Nat → Int32) (q d l : Nat) : Bool := decide (r (1200 + 11 * l + 6) = 0 ∧ r (1200 + 11 * l + 1) = Int32.ofNat q ∧ r (1200 + 11 * l) = Int32.ofNat d)
/-- the best letter under way behind a departure -/
def o_nu (r : Nat → Int32) (dep : Int32) : Nat → Int32
  | 0 => -1
  | i + 1 =>
    if r (1200 + 11 * i + 6) = 1 then
      if r (1200 + 11 * i + 8) ≤ dep then o_nu r dep i
      else if o_nu r dep i = -1 then Int32.ofNat i
      else if r (1200 + 11 * (o_nu r dep i).toNatClampNeg + 8) ≤ r (1200 + 11 * i + 8) then o_nu r dep i else Int32.ofNat i
    else o_nu r dep i
theorem o_nu_form (r : Nat → Int32) (dep : Int32) : ∀ n, o_nu r dep n = -1 ∨ ∃ j, j < n ∧ o_nu r dep n = Int32.ofNat j := by
  intro n
  induction n with
  | zero => exact Or.inl rfl
  | succ n ih =>
    have ih2 : o_nu r dep n = -1 ∨ ∃ j, j < n + 1 ∧ o_nu r dep n = Int32.ofNat j := by
      rcases ih with h | ⟨j, h1, h2⟩
      · exact Or.inl h
      · exact Or.inr ⟨j, by omega, h2⟩
    have own : Int32.ofNat n = -1 ∨ ∃ j, j < n + 1 ∧ Int32.ofNat n = Int32.ofNat j := Or.inr ⟨n, by omega, rfl⟩
    simp only [o_nu]
    split
    · split
      · exact ih2
      · split
        · exact own
        · split
          · exact ih2
          · exact own
    · exact ih2