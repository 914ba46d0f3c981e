/-! ===== the reference: a letter is read, arrives; days pass ===== -/
/-- what a letter holds -/
def i_let (r : Nat → Int32) (n l b q k : Nat) : Prop := b < 2 ∧ q < 4 ∧ 1 ≤ k ∧ k ≤ 60 ∧ r (1200 + 11 * l) = Int32.ofNat b ∧ r (1200 + 11 * l + 1) = Int32.ofNat q ∧ r (1200 + 11 * l + 3) = Int32.ofNat k ∧
  (∃ f t, f < n * n ∧ t < n * n ∧ f ≠ t ∧ r (1200 + 11 * l + 4) = Int32.ofNat f ∧ r (1200 + 11 * l + 5) = Int32.ofNat t ∧
    (r (1200 + 11 * l + 2) = 0 ∨ r (1200 + 11 * l + 2) = 1 ∧ i_pr r n k ∧ o_maker k = b ∧ r (762 + 6 * k + 2) = Int32.ofNat f ∧ r (762 + 6 * k + 3) = Int32.ofNat t))
/-- player p takes in a letter (isp, k, f, t) -/
def o_take (r : Nat → Int32) (p k : Nat) (isp f t : Int32) : Nat → Int32 :=
  if isp = 1 then (if r (762 + 6 * k + 5) = 1 then upd r 5 (r 5 + 1) else upd r (762 + 6 * k + 5) 1)
  else if k ≤ o_mad r p then upd r 5 (r 5 + 1)
  else if r (514 + 124 * p + 2 * k) = -1 then upd (upd r (514 + 124 * p + 2 * k) f) (514 + 124 * p + 2 * k + 1) t
  else upd r 5 (r 5 + 1)
theorem i_dk_dup {r : Nat → Int32} {p n lim : Nat} {v : Int32} (hp : p < 2) (h : i_dk r p n lim) : i_dk (upd r 5 v) p n lim := by
  obtain ⟨h0, h8, h1, h60, ⟨m, hm, hml⟩, hs, hpr⟩ := h
  refine ⟨by rw [u_k (by omega)]; exact h0, h8, by rw [u_k (by omega)]; exact h1, h60, ⟨m, by rw [u_k (by omega)]; exact hm, hml⟩, ?_, ?_⟩
  · intro k hk
    rw [u_k (by omega), u_k (by omega)]
    exact hs k hk
  · intro k hk
    rw [i_pr, u_k (by omega), u_k (by omega), u_k (by omega), u_k (by omega), u_k (by omega), u_k (by omega)]
    exact hpr k hk
theorem i_dk_take {r : Nat → Int32} {p n lim k f t : Nat} {isp : Int32} (hp : p < 2) (hk1 : 1 ≤ k) (hk : k ≤ 60) (hf : f < n * n) (ht : t < n * n) (hft : f ≠ t) (hi : isp = 1 → i_pr r n k) (h : i_dk r p n lim) : i_dk (o_take r p k isp (Int32.ofNat f) (Int32.ofNat t)) p n lim := by
  have hd := i_dk_dup (v := r 5 + 1) hp h
  obtain ⟨h0, h8, h1, h60, ⟨m, hm, hml⟩, hs, hpr⟩ := h
  unfold o_take
  split
  · next h9 =>
    split
    · exact hd
    · refine ⟨by rw [u_k (by omega)]; exact h0, h8, by rw [u_k (by omega)]; exact h1, h60, ⟨m, by rw [u_k (by omega)]; exact hm, hml⟩, ?_, ?_⟩
      · intro j hj
        rw [u_k (by omega), u_k (by omega)]
        exact hs j hj
      · intro j hj
        by_cases hjk : j = k
        · right
          subst hjk
          obtain ⟨ef, et, rf, rt, a1, a2, a3, a4, a5, a6, a7, a8, a9, a10, a11, a12⟩ := hi h9
          refine ⟨ef, et, rf, rt, a1, a2, a3, a4, a5, a6, ?_, ?_, ?_, ?_, ?_, ?_⟩
          · rw [u_k (by omega)]; exact a7
          · rw [u_k (by omega)]; exact a8
          · rw [u_k (by omega)]; exact a9
          · rw [u_k (by omega)]; exact a10
          · rw [u_k (by omega)]; exact a11
          · rw [u_s]; exact Or.inr rfl
        · rw [i_pr, u_k (by omega), u_k (by omega), u_k (by omega), u_k (by omega), u_k (by omega), u_k (by omega)]
          exact hpr j hj
  · split
    · exact hd
    · split
      · refine ⟨by rw [u_k (by omega), u_k (by omega)]; exact h0, h8, by rw [u_k (by omega), u_k (by omega)]; exact h1, h60, ⟨m, by rw [u_k (by omega), u_k (by omega)]; exact hm, hml⟩, ?_, ?_⟩
        · intro j hj
          by_cases hjk : j = k
          · right
            subst hjk
            refine ⟨f, t, hf, ht, hft, ?_, ?_⟩
            · rw [u_k (by omega), u_s]
            · rw [u_s]
          · rw [u_k (by omega), u_k (by omega), u_k (by omega), u_k (by omega)]
            exact hs j hj
        · intro j hj
          rw [i_pr]
          simp (disch := omega) only [u_k]
          exact hpr j hj
      · exact hd
def o_read (r : Nat → Int32) (n l : Nat) : Nat → Int32 :=
  o_all (1 - (r (1200 + 11 * l)).toNatClampNeg) n 61 (o_take r (1 - (r (1200 + 11 * l)).toNatClampNeg) (r (1200 + 11 * l + 3)).toNatClampNeg (r (1200 + 11 * l + 2)) (r (1200 + 11 * l + 4)) (r (1200 + 11 * l + 5)))