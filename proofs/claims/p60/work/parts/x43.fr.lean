/-! ===== the law's cases: moves written, a byte of them ===== -/
def nm (x : Int32) : List Int32 := if x < 10 then [48 + ev_rem x 10] else [48 + x / 10, 48 + ev_rem x 10]
theorem nm_len (x : Int32) : (nm x).length ≤ 2 := by
  unfold nm
  by_cases h : x < 10
  · rw [if_pos h]; show 1 ≤ 2; omega
  · rw [if_neg h]; exact Nat.le_refl _
def mvl (r : Nat → Int32) (p k : Nat) : List Int32 := nm (r (154 + 180 * p + 3 * k)) ++ ((if r (154 + 180 * p + 3 * k + 2) = 1 then 120 else 45) :: nm (r (154 + 180 * p + 3 * k + 1)))
def wmv (r : Nat → Int32) (p : Nat) : Nat → Nat → List Int32
  | 0, _ => []
  | w + 1, k => (if k = 0 then [] else [32]) ++ (mvl r p k ++ wmv r p w (k + 1))
theorem mvl_len (r : Nat → Int32) (p k : Nat) : (mvl r p k).length ≤ 5 := by
  unfold mvl
  have h1 := nm_len (r (154 + 180 * p + 3 * k))
  have h2 := nm_len (r (154 + 180 * p + 3 * k + 1))
  rw [List.length_append, List.length_cons]
  omega
theorem sp_len (k : Nat) : (if k = 0 then ([] : List Int32) else [32]).length ≤ 1 := by
  by_cases h : k = 0
  · rw [if_pos h]; exact Nat.zero_le _
  · rw [if_neg h]; exact Nat.le_refl _
theorem wmv_len (r : Nat → Int32) (p : Nat) : ∀ w k, (wmv r p w k).length ≤ 6 * w := by
  intro w
  induction w with
  | zero => intro k; exact Nat.zero_le _
  | succ w ih =>
    intro k
    have h1 := mvl_len r p k
    have h2 := sp_len k
    have h3 := ih (k + 1)
    rw [wmv, List.length_append, List.length_append]
    omega
theorem le9 {x : Int32} : x ≤ 9 ↔ x < 10 := by
  have i9 : (9 : Int32).toInt = 9 := rfl
  have i10 : (10 : Int32).toInt = 10 := rfl
  rw [z_le, z_lt, i9, i10]
  omega
theorem qb_fr {M M' : Nat → Nat → Int32} {b p n mm : Nat} {r : Nat → Int32} (h : q_board M b r p n mm) (f : ∀ q, b ≤ q → q < b + 5 → M' q = M q) : q_board M' b r p n mm := by
  unfold q_board at h ⊢
  rw [f b (by omega) (by omega), f (b + 1) (by omega) (by omega), f (b + 2) (by omega) (by omega), f (b + 3) (by omega) (by omega), f (b + 4) (by omega) (by omega)]
  exact h