/-! ===== the class: a letter is read; what stays in the picture ===== -/
theorem q_dk_frame {M M' : Nat → Nat → Int32} {e p n : Nat} {r : Nat → Int32} (f : ∀ q, e ≤ q → q < e + 9 → M' q = M q) (h : q_dk M e r p n) : q_dk M' e r p n := by
  unfold q_dk at *
  obtain ⟨a0, a1, a2, a3, a4, a5, a6, a7, a8, a9⟩ := h
  refine ⟨by rw [f _ (by omega) (by omega)]; exact a0, b_frame (M := M) (fun q h1 h2 => f q (by omega) (by omega)) a1, ?_, ?_, by rw [f _ (by omega) (by omega)]; exact a4, by rw [f _ (by omega) (by omega)]; exact a5, by rw [f _ (by omega) (by omega)]; exact a6, by rw [f _ (by omega) (by omega)]; exact a7, by rw [f _ (by omega) (by omega)]; exact a8, by rw [f _ (by omega) (by omega)]; exact a9⟩
  · intro k hk
    rw [f _ (by omega) (by omega)]
    exact a2 k hk
  · intro k hk
    rw [f _ (by omega) (by omega), f _ (by omega) (by omega)]
    exact a3 k hk
theorem q_dk_same2 {M : Nat → Nat → Int32} {e p n : Nat} {r r' : Nat → Int32} (h8 : n ≤ 8) (h60 : o_mad r p ≤ 60) (hp : p < 2) (he : ∀ j, j < 2 ∨ j = 9 ∨ j = 10 ∨ o_own p j → r' j = r j) (hf : ∀ k w, k ≤ 62 → (w < 4 ∨ w = o_fl p k) → r' (762 + 6 * k + w) = r (762 + 6 * k + w)) (h : q_dk M e r p n) : q_dk M e r' p n := by
  unfold o_own at he
  unfold q_dk at *
  have em : o_mad r' p = o_mad r p := by unfold o_mad; rw [he _ (by omega)]
  rw [em]
  obtain ⟨a0, a1, a2, a3, a4, a5, a6, a7, a8, a9⟩ := h
  refine ⟨a0, b_row h8 h60 (fun j hj => he j (by omega)) a1, fun k hk => by rw [he _ (by omega), he _ (by omega)]; exact a2 k hk, fun k hk => ?_, ?_, by rw [he _ (by omega)]; exact a5, by rw [he _ (by omega)]; exact a6, by rw [he _ (by omega)]; exact a7, by rw [he _ (by omega)]; exact a8, by rw [he _ (by omega)]; exact a9⟩
  · have e0 : r' (762 + 6 * k) = r (762 + 6 * k) := hf k 0 (by omega) (Or.inl (by decide))
    rw [hf k _ (by omega) (Or.inr rfl), e0, hf k 1 (by omega) (Or.inl (by decide)), hf k 2 (by omega) (Or.inl (by decide)), hf k 3 (by omega) (Or.inl (by decide))]
    exact a3 k hk
  · rw [a4]
    refine congrArg Int32.ofNat ?_
    exact cnt_congr 60 (fun i hi => by rw [he _ (by omega)])
theorem q_mid_agP {M : Nat → Nat → Int32} {e L : Nat} {r r' : Nat → Int32} (h : q_mid M e r L) (a : agP r r') : q_mid M e r' L := by
  obtain ⟨⟨a1, a2, a3, a4, a5⟩, c, w⟩ := h
  refine ⟨⟨by rw [a _ (by omega)]; exact a1, by rw [a _ (by omega)]; exact a2, by rw [a _ (by omega)]; exact a3, by rw [a _ (by omega)]; exact a4, by rw [a _ (by omega)]; exact a5⟩, fun q hq => ?_, fun l hl => ?_⟩
  · obtain ⟨c1, c2, c3, c4⟩ := c q hq
    refine ⟨by rw [a _ (by omega)]; exact c1, fun s hs => by rw [a _ (by omega)]; exact c2 s hs, fun t ht => by rw [a _ (by omega)]; exact c3 t ht, fun s hs => ?_⟩
    rw [agP_wt a]
    exact c4 s hs
  · rw [a (1200 + 11 * l) (by omega), a (1200 + 11 * l + 1) (by omega), a (1200 + 11 * l + 6) (by omega), a (1200 + 11 * l + 7) (by omega), a (1200 + 11 * l + 9) (by omega), a (1200 + 11 * l + 10) (by omega)]
    exact w l hl
theorem i_pst_agP {np L d : Nat} {r r' : Nat → Int32} {ρ : List Nat} (h : i_pst r np L d ρ) (a : agP r r') : i_pst r' np L d ρ := by
  obtain ⟨⟨g1, g2, g3, g4, g5, g5', g6, g7⟩, ⟨dp, h6, hdp, hlv⟩, hro⟩ := h
  refine ⟨⟨by rw [a _ (by omega)]; exact g1, g2, by rw [a _ (by omega)]; exact g3, g4, by rw [a _ (by omega)]; exact g5, g5', fun q hq => ?_, fun l hl => ?_⟩, ⟨dp, by rw [a _ (by omega)]; exact h6, ?_, fun l hl => ?_⟩, fun l hl => ?_, ?_, fun l hl => ?_⟩
  · rw [a _ (by omega)]
    refine ⟨(g6 q hq).1, fun t ht => ?_⟩
    rw [a _ (by omega)]
    exact (g6 q hq).2 t ht
  · rw [a (1200 + 11 * l) (by omega), a (1200 + 11 * l + 1) (by omega), a (1200 + 11 * l + 6) (by omega), a (1200 + 11 * l + 9) (by omega)]
    exact g7 l hl
  · rw [cnt_congr (h := fun l => decide (r (1200 + 11 * l + 6) = 0)) L (fun i hi => by simp only [a (1200 + 11 * i + 6) (by omega)])]
    exact hdp
  · rw [a (1200 + 11 * l + 6) (by omega), a (1200 + 11 * l + 8) (by omega)]
    exact hlv l hl
  · rw [a (1200 + 11 * l + 6) (by omega), a (1200 + 11 * l + 8) (by omega)]
    exact hro.1 l hl
  · refine hro.2.1.imp (fun {x y} hxy => ?_)
    rw [a _ (by omega), a _ (by omega)]
    exact hxy
  · rw [a (1200 + 11 * l + 6) (by omega), a (1200 + 11 * l + 8) (by omega)]
    exact hro.2.2 l hl
/-- reading, spelt out -/
theorem rd_eq {r : Nat → Int32} {n l b q k : Nat} (hL : i_let r n l b q k) : o_read r n l = o_all (1 - b) n 61 (o_take r (1 - b) k (r (1200 + 11 * l + 2)) (r (1200 + 11 * l + 4)) (r (1200 + 11 * l + 5))) := by
  obtain ⟨hb, hq, hk1, hk, eb, eq, ek, -⟩ := hL
  unfold o_read
  rw [eb, ek, n_c (by omega), n_c (by omega)]
theorem rd_facts {r : Nat → Int32} {n lim l b q k : Nat} (hL : i_let r n l b q k) (h0 : i_dk r 0 n lim) (h1 : i_dk r 1 n lim) :
    agP r (o_read r n l) ∧ (∀ j, j < 5 ∨ (6 ≤ j ∧ j < 12) ∨ o_own b j → o_read r n l j = r j) ∧ (∀ k' w, k' ≤ 62 → (w < 4 ∨ w = o_fl b k') → o_read r n l (762 + 6 * k' + w) = r (762 + 6 * k' + w)) ∧ o_read r n l 5 = o_take r (1 - b) k (r (1200 + 11 * l + 2)) (r (1200 + 11 * l + 4)) (r (1200 + 11 * l + 5)) 5 := by
  have hall := hL
  obtain ⟨hb, hq, hk1, hk, eb, eq, ek, f, t, hf, ht, hft, ef, et, hi⟩ := hL
  have hn9 := sq_le h0.2.1
  have o1 := (o_read_ok hall h0 h1).2
  have hdb : i_dk r (1 - b) n lim := by
    have : b = 0 ∨ b = 1 := by omega
    rcases this with rfl | rfl
    · exact h1
    · exact h0
  have hi1 : r (1200 + 11 * l + 2) = 1 → i_pr r n k := fun h1 => by
    rcases hi with hi | hi
    · rw [hi] at h1; exact absurd h1 (by decide)
    · exact hi.2.1
  have htk := i_dk_take (p := 1 - b) (k := k) (f := f) (t := t) (isp := r (1200 + 11 * l + 2)) (by omega) hk1 hk hf ht hft hi1 hdb
  have oa := (o_all_own (by omega : 1 - b < 2) 61 _ htk).2
  rw [← ef, ← et] at oa
  refine ⟨fun j hj => o1 j (fun hh => by unfold o_own at hh; omega) (by omega) (by omega), fun j hj => o1 j (fun hh => by unfold o_own at hh hj; omega) (by unfold o_own at hj; omega) (by unfold o_own at hj; omega), fun k' w hk' hw => ?_, ?_⟩
  · have hfl := o_fl_or b k'
    rw [rd_eq hall, oa _ (fun hh => by unfold o_own at hh; omega)]
    rcases hi with hi | hi
    · unfold o_take
      rw [hi, if_neg (by decide)]
      split
      · rw [u_k (by omega)]
      · split
        · rw [u_k (by omega), u_k (by omega)]
        · rw [u_k (by omega)]
    · unfold o_take
      rw [hi.1, if_pos rfl]
      have hne : 762 + 6 * k' + w ≠ 762 + 6 * k + 5 := by
        intro q
        have h1 : k' = k := by omega
        subst h1
        have h5 : w = 5 := by omega
        unfold o_fl at hw
        rw [if_pos hi.2.2.1] at hw
        omega
      split
      · rw [u_k (by omega)]
      · rw [u_k hne]
  · rw [rd_eq hall, oa _ (fun hh => by unfold o_own at hh; omega)]
