/-! ===== the reference: a day ===== -/
theorem o_take_at {r : Nat → Int32} {p k j : Nat} {isp f t : Int32} (hk : k ≤ 60) (h : ¬ o_own p j) (h5 : j ≠ 5) (hj : j < 762 ∨ 1140 ≤ j) : o_take r p k isp f t j = r j := by
  unfold o_own at h
  unfold o_take
  split
  · split
    · rw [u_k (by omega)]
    · rw [u_k (by omega)]
  · split
    · rw [u_k (by omega)]
    · split
      · rw [u_k (by omega), u_k (by omega)]
      · rw [u_k (by omega)]
/-- a letter that is read: what stays, and what goes on to hold -/
theorem o_read_ok {r : Nat → Int32} {n lim l b q k : Nat} (hL : i_let r n l b q k) (h0 : i_dk r 0 n lim) (h1 : i_dk r 1 n lim) :
    (i_dk (o_read r n l) 0 n lim ∧ i_dk (o_read r n l) 1 n lim ∧ ∀ k', k' ≤ 62 → i_pr r n k' → i_pr (o_read r n l) n k' ∧ ∀ w, w < 4 → o_read r n l (762 + 6 * k' + w) = r (762 + 6 * k' + w)) ∧ ∀ j, ¬ o_own (1 - b) j → j ≠ 5 → (j < 762 ∨ 1140 ≤ j) → o_read r n l j = r j := by
  obtain ⟨hb, hq, hk1, hk, eb, eq, ek, f, t, hf, ht, hft, ef, et, hi⟩ := hL
  have hn9 := sq_le h0.2.1
  unfold o_read
  rw [eb, ek, ef, et, n_c (by omega), n_c (by omega)]
  have hp : 1 - b < 2 := by omega
  have hd : i_dk r (1 - b) n lim := by
    have : b = 0 ∨ b = 1 := by omega
    rcases this with rfl | rfl
    · exact h1
    · exact h0
  have hdo : i_dk r b n lim := by
    have : b = 0 ∨ b = 1 := by omega
    rcases this with rfl | rfl
    · exact h0
    · exact h1
  have hd' := i_dk_take (k := k) (f := f) (t := t) (isp := r (1200 + 11 * l + 2)) hp hk1 hk hf ht hft (fun h => by
    rcases hi with h9 | h9
    · rw [h9] at h; exact absurd h (by decide)
    · exact h9.2.1) hd
  have hdo' := i_dk_take (k := k) (f := f) (t := t) (isp := r (1200 + 11 * l + 2)) hb hk1 hk hf ht hft (fun h => by
    rcases hi with h9 | h9
    · rw [h9] at h; exact absurd h (by decide)
    · exact h9.2.1) hdo
  obtain ⟨a1, a2⟩ := o_all_own hp 61 _ hd'
  -- the other desk: it differs from r by the promise and the duplicates alone
  have htk : ∀ j, ¬ o_own (1 - b) j → j ≠ 5 → j ≠ 762 + 6 * k + 5 → o_take r (1 - b) k (r (1200 + 11 * l + 2)) (Int32.ofNat f) (Int32.ofNat t) j = r j := by
    intro j hj h5 h6
    unfold o_own at hj
    unfold o_take
    split
    · split
      · rw [u_k h5]
      · rw [u_k h6]
    · split
      · rw [u_k h5]
      · split
        · rw [u_k (by omega), u_k (by omega)]
        · rw [u_k h5]
  have hpk : (r (1200 + 11 * l + 2) = 1 → i_pr r n k) := fun h => by
    rcases hi with h9 | h9
    · rw [h9] at h; exact absurd h (by decide)
    · exact h9.2.1
  have hK : o_take r (1 - b) k (r (1200 + 11 * l + 2)) (Int32.ofNat f) (Int32.ofNat t) (762 + 6 * k + 5) = r (762 + 6 * k + 5) ∨ (i_pr r n k ∧ o_take r (1 - b) k (r (1200 + 11 * l + 2)) (Int32.ofNat f) (Int32.ofNat t) (762 + 6 * k + 5) = 1) := by
    unfold o_take
    split
    · next h9 =>
      split
      · left; rw [u_k (by omega)]
      · right; exact ⟨hpk h9, u_s _ _ _⟩
    · left
      split
      · rw [u_k (by omega)]
      · split
        · rw [u_k (by omega), u_k (by omega)]
        · rw [u_k (by omega)]
  have hother : i_dk (o_take r (1 - b) k (r (1200 + 11 * l + 2)) (Int32.ofNat f) (Int32.ofNat t)) b n lim := by
    obtain ⟨h0, h8, h1, h60, ⟨m, hm, hml⟩, hs, hpr⟩ := hdo
    have e := htk
    unfold o_own at e
    refine ⟨by rw [e _ (by omega) (by omega) (by omega)]; exact h0, h8, by rw [e _ (by omega) (by omega) (by omega)]; exact h1, h60, ⟨m, by rw [e _ (by omega) (by omega) (by omega)]; exact hm, hml⟩, ?_, ?_⟩
    · intro j hj
      rw [e _ (by omega) (by omega) (by omega), e _ (by omega) (by omega) (by omega)]
      exact hs j hj
    · exact hd'.2.2.2.2.2.2
  have hb1 : i_dk (o_all (1 - b) n 61 (o_take r (1 - b) k (r (1200 + 11 * l + 2)) (Int32.ofNat f) (Int32.ofNat t))) b n lim := by
    have e : 1 - (1 - b) = b := by omega
    have := i_dk_other (p := 1 - b) (n := n) (lim := lim) hp (by rw [e]; exact hother) a2
    rw [e] at this
    exact this
  refine ⟨⟨?_, ?_, ?_⟩, ?_⟩
  · have : b = 0 ∨ b = 1 := by omega
    rcases this with rfl | rfl
    · exact hb1
    · exact a1
  · have : b = 0 ∨ b = 1 := by omega
    rcases this with rfl | rfl
    · exact a1
    · exact hb1
  · intro k' hk' hp'
    have e : ∀ w, w < 5 → o_all (1 - b) n 61 (o_take r (1 - b) k (r (1200 + 11 * l + 2)) (Int32.ofNat f) (Int32.ofNat t)) (762 + 6 * k' + w) = r (762 + 6 * k' + w) := by
      intro w hw
      rw [a2 _ (by unfold o_own; omega), htk _ (by unfold o_own; omega) (by omega) (by omega)]
    refine ⟨?_, fun w hw => e w (by omega)⟩
    obtain ⟨ef1, et1, rf, rt, b1, b2, b3, b4, b5, b6, b7, b8, b9, b10, b11, b12⟩ := hp'
    have e0 : o_all (1 - b) n 61 (o_take r (1 - b) k (r (1200 + 11 * l + 2)) (Int32.ofNat f) (Int32.ofNat t)) (762 + 6 * k') = r (762 + 6 * k') := e 0 (by omega)
    refine ⟨ef1, et1, rf, rt, b1, b2, b3, b4, b5, b6, by rw [e0]; exact b7, by rw [e 1 (by omega)]; exact b8, by rw [e 2 (by omega)]; exact b9, by rw [e 3 (by omega)]; exact b10, by rw [e 4 (by omega)]; exact b11, ?_⟩
    rw [a2 _ (by unfold o_own; omega)]
    by_cases hkk : k' = k
    · subst hkk
      rcases hK with h9 | ⟨-, h9⟩
      · rw [h9]; exact b12
      · rw [h9]; exact Or.inr rfl
    · rw [htk _ (by unfold o_own; omega) (by omega) (by omega)]
      exact b12
  · intro j hj h5 hj2
    rw [a2 j hj, o_take_at hk hj h5 hj2]
/-- what a row holds: n board size, lim limit, np passes, L letters, d the day; blk: the letter that nobody reads -/
def IR (r : Nat → Int32) (n lim np L d : Nat) (blk : Int32) : Prop :=
  i_dk r 0 n lim ∧ i_dk r 1 n lim ∧ r 3 = Int32.ofNat np ∧ np ≤ 4 ∧ r 4 = Int32.ofNat L ∧ L ≤ 81 ∧ r 2 = Int32.ofNat d ∧ d < 1000000 ∧
  ∀ l, l < L → ∃ b q, b < 2 ∧ q < np ∧ r (1200 + 11 * l) = Int32.ofNat b ∧ r (1200 + 11 * l + 1) = Int32.ofNat q ∧ (¬ Int32.ofNat l = blk → ∃ k, i_let r n l b q k)
/-- rows alike but in the post's changing parts -/
theorem IR_same {r r' : Nat → Int32} {n lim np L d : Nat} {blk : Int32} (h : IR r n lim np L d blk) (he : ∀ j, j < 5 ∨ (12 ≤ j ∧ j < 1140) ∨ (∃ l w, l < 81 ∧ w < 6 ∧ j = 1200 + 11 * l + w) → r' j = r j) : IR r' n lim np L d blk := by
  obtain ⟨h0, h1, h3, h3', h4, h4', h2, h2', hl⟩ := h
  refine ⟨i_dk_same (by omega) h0 (fun j hj => he j (by omega)), i_dk_same (by omega) h1 (fun j hj => he j (by omega)), by rw [he 3 (by omega)]; exact h3, h3', by rw [he 4 (by omega)]; exact h4, h4', by rw [he 2 (by omega)]; exact h2, h2', ?_⟩
  intro l hlL
  obtain ⟨b, q, hb, hq, eb, eq, hk⟩ := hl l hlL
  refine ⟨b, q, hb, hq, by rw [he (1200 + 11 * l) (Or.inr (Or.inr ⟨l, 0, by omega, by omega, rfl⟩))]; exact eb, by rw [he _ (Or.inr (Or.inr ⟨l, 1, by omega, by omega, rfl⟩))]; exact eq, fun hn => ?_⟩
  obtain ⟨k, hk'⟩ := hk hn
  refine ⟨k, i_let_same hk' (fun j hj => he j ?_)⟩
  rcases hj with hj | hj
  · exact Or.inr (Or.inr ⟨l, j - (1200 + 11 * l), by omega, by omega, by omega⟩)
  · exact Or.inr (Or.inl (by omega))
theorem IR_read {r : Nat → Int32} {n lim np L d l b q k : Nat} {blk : Int32} (h : IR r n lim np L d blk) (hL : i_let r n l b q k) : IR (o_read r n l) n lim np L d blk ∧ ∀ j, ¬ o_own (1 - b) j → j ≠ 5 → (j < 762 ∨ 1140 ≤ j) → o_read r n l j = r j := by
  obtain ⟨h0, h1, h3, h3', h4, h4', h2, h2', hl⟩ := h
  obtain ⟨⟨a0, a1, ap⟩, a2⟩ := o_read_ok hL h0 h1
  have hb9 : b < 2 := hL.1
  refine ⟨⟨a0, a1, by rw [a2 3 (by unfold o_own; omega) (by omega) (by omega)]; exact h3, h3', by rw [a2 4 (by unfold o_own; omega) (by omega) (by omega)]; exact h4, h4', by rw [a2 2 (by unfold o_own; omega) (by omega) (by omega)]; exact h2, h2', ?_⟩, a2⟩
  intro l' hlL
  obtain ⟨b', q', hb, hq, eb, eq, hk⟩ := hl l' hlL
  have e : ∀ w, o_read r n l (1200 + 11 * l' + w) = r (1200 + 11 * l' + w) := fun w => a2 _ (by unfold o_own; omega) (by omega) (by omega)
  have e0 : o_read r n l (1200 + 11 * l') = r (1200 + 11 * l') := e 0
  refine ⟨b', q', hb, hq, by rw [e0]; exact eb, by rw [e]; exact eq, fun hn => ?_⟩
  obtain ⟨k', c1, c2, c3, c4, c5, c6, c7, f, t, c8, c9, c10, c11, c12, c13⟩ := hk hn
  refine ⟨k', c1, c2, c3, c4, by rw [e0]; exact c5, by rw [e]; exact c6, by rw [e]; exact c7, f, t, c8, c9, c10, by rw [e]; exact c11, by rw [e]; exact c12, ?_⟩
  rw [e]
  rcases c13 with h9 | ⟨h9, h10, h11, h12, h13⟩
  · exact Or.inl h9
  · obtain ⟨p1, p2⟩ := ap k' (by omega) h10
    exact Or.inr ⟨h9, p1, h11, by rw [p2 2 (by omega)]; exact h12, by rw [p2 3 (by omega)]; exact h13⟩
