/-! ===== the reference: what reading a letter touches; arrivals ===== -/
/-- places of player p's own things -/
def o_own (p j : Nat) : Prop := (154 + 180 * p ≤ j ∧ j < 334 + 180 * p) ∨ (26 + 64 * p ≤ j ∧ j < 90 + 64 * p) ∨ (12 + 7 * p ≤ j ∧ j < 19 + 7 * p) ∨ (514 + 124 * p ≤ j ∧ j < 638 + 124 * p)
theorem o_apply_own {r : Nat → Int32} {p m f t j : Nat} (hm : m < 60) (hf : f < 64) (ht : t < 64) (h : ¬ o_own p j) : o_apply r p m f t j = r j := by
  unfold o_own at h
  exact o_apply_at (by omega) (by omega) (by omega) (by omega)
theorem o_clr_own {r : Nat → Int32} {p k j : Nat} (hk : k ≤ 61) (h : ¬ o_own p j) : o_clr r p k j = r j := by
  unfold o_own at h
  rw [o_clr, u_k (by omega), u_k (by omega)]
theorem o_keep_own {r : Nat → Int32} {p m j : Nat} (h : ¬ o_own p j) : o_keep r p m j = r j := by
  unfold o_own at h
  exact o_keep_at (by omega)
theorem o_all_own {p n lim : Nat} (hp : p < 2) : ∀ (k : Nat) (r : Nat → Int32), i_dk r p n lim → i_dk (o_all p n k r) p n lim ∧ ∀ j, ¬ o_own p j → o_all p n k r j = r j := by
  intro k
  induction k with
  | zero => intro r h; exact ⟨h, fun j _ => rfl⟩
  | succ k ih =>
    intro r h
    have hall := h
    obtain ⟨h0, h8, h1, h60, ⟨m, hm, hml⟩, hs, hpr⟩ := h
    have hmd : o_mad r p = m := by unfold o_mad; rw [hm, n_c (by omega)]
    rw [o_all, hmd]
    by_cases ho : o_over r p n = true
    · rw [if_pos ho]
      exact ⟨hall, fun j _ => rfl⟩
    · rw [if_neg ho]
      have hlt : m < lim := by
        have := o_over_not ho
        rw [hm, h1, Ne, n_eq (by omega) (by omega)] at this
        omega
      by_cases hst : r (514 + 124 * p + 2 * (m + 1)) = -1
      · rw [if_pos hst]
        by_cases hd : o_due r p m = true
        · rw [if_pos hd]
          obtain ⟨ef, et, rf, rt, -, -, -, hrf9, hrt9, hne, -, -, e2, e3, -⟩ := o_due_pr (by omega) hpr hd
          have hn9 := sq_le h8
          have hrf : rf < 64 := by omega
          have hrt : rt < 64 := by omega
          rw [e2, e3, n_c (by omega), n_c (by omega)]
          obtain ⟨a1, a2⟩ := ih _ (i_dk_keep (m := m) hp (i_dk_step (f := rf) (t := rt) hp hm hlt hrf hrt hall))
          refine ⟨a1, fun j hj => ?_⟩
          rw [a2 j hj, o_keep_own hj, o_apply_own (by omega) hrf hrt hj, o_clr_own (by omega) hj]
        · rw [if_neg hd]
          exact ⟨hall, fun j _ => rfl⟩
      · rw [if_neg hst]
        rcases hs (m + 1) (by omega) with h9 | ⟨f, t, hf9, ht9, hft, ef, et⟩
        · exact absurd h9 hst
        · have hn9 := sq_le h8
          have hf : f < 64 := by omega
          have ht : t < 64 := by omega
          rw [ef, et, n_c (by omega), n_c (by omega)]
          obtain ⟨a1, a2⟩ := ih _ (i_dk_step (f := f) (t := t) hp hm hlt hf ht hall)
          refine ⟨a1, fun j hj => ?_⟩
          rw [a2 j hj, o_apply_own (by omega) hf ht hj, o_clr_own (by omega) hj]
theorem i_dk_other {r r' : Nat → Int32} {p n lim : Nat} (hp : p < 2) (h : i_dk r (1 - p) n lim) (he : ∀ j, ¬ o_own p j → r' j = r j) : i_dk r' (1 - p) n lim := by
  obtain ⟨h0, h8, h1, h60, ⟨m, hm, hml⟩, hs, hpr⟩ := h
  have e : ∀ j, ¬ o_own p j → r' j = r j := he
  unfold o_own at e
  refine ⟨by rw [e _ (by omega)]; exact h0, h8, by rw [e _ (by omega)]; exact h1, h60, ⟨m, by rw [e _ (by omega)]; exact hm, hml⟩, ?_, ?_⟩
  · intro k hk
    rw [e _ (by omega), e _ (by omega)]
    exact hs k hk
  · intro k hk
    rw [i_pr, e _ (by omega), e _ (by omega), e _ (by omega), e _ (by omega), e _ (by omega), e _ (by omega)]
    exact hpr k hk
/-- rows that differ only where the two desks' rows do not lie keep a desk -/
theorem i_dk_same {r r' : Nat → Int32} {p n lim : Nat} (hp : p < 2) (h : i_dk r p n lim) (he : ∀ j, j < 2 ∨ (12 ≤ j ∧ j < 1140) → r' j = r j) : i_dk r' p n lim := by
  obtain ⟨h0, h8, h1, h60, ⟨m, hm, hml⟩, hs, hpr⟩ := h
  refine ⟨by rw [he _ (by omega)]; exact h0, h8, by rw [he _ (by omega)]; exact h1, h60, ⟨m, by rw [he _ (by omega)]; exact hm, hml⟩, ?_, ?_⟩
  · intro k hk
    rw [he _ (by omega), he _ (by omega)]
    exact hs k hk
  · intro k hk
    rw [i_pr, he _ (by omega), he _ (by omega), he _ (by omega), he _ (by omega), he _ (by omega), he _ (by omega)]
    exact hpr k hk
theorem i_let_same {r r' : Nat → Int32} {n l b q k : Nat} (h : i_let r n l b q k) (he : ∀ j, (1200 + 11 * l ≤ j ∧ j ≤ 1200 + 11 * l + 5) ∨ (762 ≤ j ∧ j < 1140) → r' j = r j) : i_let r' n l b q k := by
  obtain ⟨hb, hq, hk1, hk, eb, eq, ek, f, t, hf, ht, hft, ef, et, hi⟩ := h
  refine ⟨hb, hq, hk1, hk, by rw [he _ (by omega)]; exact eb, by rw [he _ (by omega)]; exact eq, by rw [he _ (by omega)]; exact ek, f, t, hf, ht, hft, by rw [he _ (by omega)]; exact ef, by rw [he _ (by omega)]; exact et, ?_⟩
  rw [i_pr, he _ (by omega), he _ (by omega), he _ (by omega), he _ (by omega), he _ (by omega), he _ (by omega), he _ (by omega)]
  exact hi
/-- a letter reaches its side: the post's part -/
def o_arr (r : Nat → Int32) (l b q : Nat) : Nat → Int32 :=
  upd (upd (upd (upd (upd r (1200 + 11 * l + 6) 2) (1200 + 11 * l + 10) (r 2)) (1140 + 15 * q + (1 + (1 - b))) (r (1140 + 15 * q + (1 + (1 - b))) + 1)) 7 (r 7 + (r 2 - r (1200 + 11 * l + 7)))) 8 (r 8 + 1)
theorem o_arr_at {r : Nat → Int32} {l b q j : Nat} (h : j ≠ 1200 + 11 * l + 6) (h1 : j ≠ 1200 + 11 * l + 10) (h2 : j ≠ 1140 + 15 * q + (1 + (1 - b))) (h3 : j ≠ 7) (h4 : j ≠ 8) : o_arr r l b q j = r j := by
  rw [o_arr, u_k h4, u_k h3, u_k h2, u_k h1, u_k h]
def o_come (r : Nat → Int32) (n l b q : Nat) (blk : Int32) : Nat → Int32 := if Int32.ofNat l = blk then o_arr r l b q else o_read (o_arr r l b q) n l
def o_goes (r : Nat → Int32) (n d l b q : Nat) (blk : Int32) : Nat → Int32 :=
  if r (1140 + 15 * q + (3 + d / 30 % 12)) = 9 then r
  else if r (1200 + 11 * l + 9) - 1 = 0 then o_come (upd r (1200 + 11 * l + 9) (r (1200 + 11 * l + 9) - 1)) n l b q blk
  else upd r (1200 + 11 * l + 9) (r (1200 + 11 * l + 9) - 1)