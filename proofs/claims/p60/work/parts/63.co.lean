/-! ===== reading and the post do not meet ===== -/
def agD (r r' : Nat → Int32) : Prop := ∀ j, j < 3 ∨ j = 5 ∨ (12 ≤ j ∧ j < 1140) → r' j = r j
def agP (r r' : Nat → Int32) : Prop := ∀ j, ¬ (j = 5 ∨ (12 ≤ j ∧ j < 1140)) → r' j = r j
theorem agD_upd {r r' : Nat → Int32} {k : Nat} {v v' : Int32} (h : agD r r') (hv : v' = v) : agD (upd r k v) (upd r' k v') := by
  intro j hj
  by_cases hjk : j = k
  · rw [hjk, u_s, u_s, hv]
  · rw [u_k hjk, u_k hjk]; exact h j hj
theorem agP_upd {r r' : Nat → Int32} {k : Nat} {v v' : Int32} (h : agP r r') (hv : v' = v) : agP (upd r k v) (upd r' k v') := by
  intro j hj
  by_cases hjk : j = k
  · rw [hjk, u_s, u_s, hv]
  · rw [u_k hjk, u_k hjk]; exact h j hj
theorem agD_waits {r r' : Nat → Int32} {p : Nat} {d : Int32} (hp : p < 2) (h : agD r r') : agD (o_waits r p d) (o_waits r' p d) := by
  unfold o_waits
  rw [h (12 + 7 * p + 3) (by omega), h (12 + 7 * p + 4) (by omega), h (12 + 7 * p + 5) (by omega)]
  exact agD_upd (agD_upd (agD_upd h rfl) rfl) rfl
theorem agD_apply {r r' : Nat → Int32} {p m f t : Nat} (hp : p < 2) (hm : m < 60) (hf : f < 64) (ht : t < 64) (h : agD r r') : agD (o_apply r p m f t) (o_apply r' p m f t) := by
  unfold o_apply
  dsimp only
  rw [h (26 + 64 * p + f) (by omega), h (26 + 64 * p + t) (by omega), h (12 + 7 * p + 1) (by omega), h (12 + 7 * p + 2) (by omega), h 2 (by omega)]
  have b2 := fun v : Int32 => agD_upd (k := 12 + 7 * p) (v := Int32.ofNat (m + 1)) (agD_upd (k := 26 + 64 * p + f) (v := -1) (agD_upd (k := 26 + 64 * p + t) (v := r (26 + 64 * p + f)) (agD_upd (k := 154 + 180 * p + 3 * m + 2) (v := v) (agD_upd (k := 154 + 180 * p + 3 * m + 1) (v := Int32.ofNat t) (agD_upd (k := 154 + 180 * p + 3 * m) (v := Int32.ofNat f) h rfl) rfl) rfl) rfl) rfl) rfl
  have b3 := fun v : Int32 => agD_upd (k := 12 + 7 * p + 1) (v := r (12 + 7 * p + 1) + 1) (b2 v) rfl
  split
  · split
    · exact agD_upd (b3 _) rfl
    · exact agD_upd (b2 _) rfl
  · split
    · split
      · exact b3 _
      · exact b2 _
    · split
      · exact agD_waits hp (b3 _)
      · exact agD_waits hp (b2 _)
theorem agD_clr {r r' : Nat → Int32} {p k : Nat} (h : agD r r') : agD (o_clr r p k) (o_clr r' p k) := agD_upd (agD_upd h rfl) rfl
theorem agD_keep {r r' : Nat → Int32} {p m : Nat} (hp : p < 2) (h : agD r r') : agD (o_keep r p m) (o_keep r' p m) := by
  unfold o_keep
  split
  · rw [h (12 + 7 * p + 6) (by omega)]; exact agD_upd h rfl
  · exact h
theorem agD_over {r r' : Nat → Int32} {p n : Nat} (hp : p < 2) (h8 : n ≤ 8) (h : agD r r') : o_over r' p n = o_over r p n := by
  have hn9 := sq_le h8
  have e : ∀ q, o_bish r' p n q = o_bish r p n q := fun q => cnt_congr (n * n) (fun i hi => by rw [h (26 + 64 * p + i) (by omega)])
  unfold o_over
  rw [e, e, h (12 + 7 * p) (by omega), h 1 (by omega)]
theorem agD_due {r r' : Nat → Int32} {p m : Nat} (hp : p < 2) (hm : m < 60) (h : agD r r') : o_due r' p m = o_due r p m := by
  have hx : o_maker (m + 1) = p ∨ ¬ o_maker (m + 1) = p := Decidable.em _
  unfold o_due
  rw [h (154 + 180 * p + 3 * (m - 1)) (by omega), h (154 + 180 * p + 3 * (m - 1) + 1) (by omega), h (762 + 6 * (m + 1)) (by omega), h (762 + 6 * (m + 1) + 1) (by omega)]
  rcases hx with hx | hx
  · rw [if_pos hx, h (762 + 6 * (m + 1) + 4) (by omega)]
  · rw [if_neg hx, h (762 + 6 * (m + 1) + 5) (by omega)]
theorem agD_all {p n lim : Nat} (hp : p < 2) : ∀ (k : Nat) (r r' : Nat → Int32), i_dk r p n lim → agD r r' → agD (o_all p n k r) (o_all p n k r') := by
  intro k
  induction k with
  | zero => intro r r' _ h; exact h
  | succ k ih =>
    intro r r' h hg
    have hall := h
    obtain ⟨h0, h8, h1, h60, ⟨m, hm, hml⟩, hs, hpr⟩ := h
    have hmd : o_mad r p = m := by unfold o_mad; rw [hm, n_c (by omega)]
    have hmd' : o_mad r' p = m := by unfold o_mad; rw [hg _ (by omega), hm, n_c (by omega)]
    rw [o_all, o_all, hmd, hmd', agD_over hp h8 hg]
    by_cases ho : o_over r p n = true
    · rw [if_pos ho, if_pos ho]; exact hg
    · rw [if_neg ho, if_neg ho]
      have hlt : m < lim := by
        have := o_over_not ho
        rw [hm, h1, Ne, n_eq (by omega) (by omega)] at this
        omega
      rw [hg (514 + 124 * p + 2 * (m + 1)) (by omega), hg (514 + 124 * p + 2 * (m + 1) + 1) (by omega), agD_due hp (by omega) hg, hg (762 + 6 * (m + 1) + 2) (by omega), hg (762 + 6 * (m + 1) + 3) (by omega)]
      by_cases hst : r (514 + 124 * p + 2 * (m + 1)) = -1
      · rw [if_pos hst, if_pos hst]
        by_cases hd : o_due r p m = true
        · rw [if_pos hd, if_pos hd]
          obtain ⟨ef, et, rf, rt, -, -, -, hrf9, hrt9, hne, -, -, e2, e3, -⟩ := o_due_pr (by omega) hpr hd
          have hn9 := sq_le h8
          have hrf : rf < 64 := by omega
          have hrt : rt < 64 := by omega
          rw [e2, e3, n_c (by omega), n_c (by omega)]
          exact ih _ _ (i_dk_keep (m := m) hp (i_dk_step (f := rf) (t := rt) hp hm hlt hrf hrt hall)) (agD_keep hp (agD_apply hp (by omega) hrf hrt (agD_clr hg)))
        · rw [if_neg hd, if_neg hd]
          exact hg
      · rw [if_neg hst, if_neg hst]
        rcases hs (m + 1) (by omega) with h9 | ⟨f, t, hf9, ht9, hft, ef, et⟩
        · exact absurd h9 hst
        · have hn9 := sq_le h8
          have hf : f < 64 := by omega
          have ht : t < 64 := by omega
          rw [ef, et, n_c (by omega), n_c (by omega)]
          exact ih _ _ (i_dk_step (f := f) (t := t) hp hm hlt hf ht hall) (agD_apply hp (by omega) hf ht (agD_clr hg))
theorem agD_take {r r' : Nat → Int32} {p k : Nat} {isp f t : Int32} (hp : p < 2) (hk : k ≤ 60) (h : agD r r') : agD (o_take r p k isp f t) (o_take r' p k isp f t) := by
  have em : o_mad r' p = o_mad r p := by unfold o_mad; rw [h (12 + 7 * p) (by omega)]
  unfold o_take
  rw [em, h (762 + 6 * k + 5) (by omega), h 5 (by omega), h (514 + 124 * p + 2 * k) (by omega)]
  split
  · split
    · exact agD_upd h rfl
    · exact agD_upd h rfl
  · split
    · exact agD_upd h rfl
    · split
      · exact agD_upd (agD_upd h rfl) rfl
      · exact agD_upd h rfl
theorem agD_read {r r' : Nat → Int32} {n lim l b q k : Nat} (hL : i_let r n l b q k) (hd : i_dk r (1 - b) n lim) (h : agD r r') (hl : ∀ j, 1200 + 11 * l ≤ j → j ≤ 1200 + 11 * l + 5 → r' j = r j) : agD (o_read r n l) (o_read r' n l) := by
  obtain ⟨hb, hq, hk1, hk, eb, eq, ek, f, t, hf, ht, hft, ef, et, hi⟩ := hL
  have hi1 : r (1200 + 11 * l + 2) = 1 → i_pr r n k := fun h1 => by
    rcases hi with hi | hi
    · rw [hi] at h1; exact absurd h1 (by decide)
    · exact hi.2.1
  have htk := i_dk_take (p := 1 - b) (k := k) (f := f) (t := t) (isp := r (1200 + 11 * l + 2)) (by omega) hk1 hk hf ht hft hi1 hd
  unfold o_read
  rw [hl _ (by omega) (by omega), hl (1200 + 11 * l + 2) (by omega) (by omega), hl (1200 + 11 * l + 3) (by omega) (by omega), hl (1200 + 11 * l + 4) (by omega) (by omega), hl (1200 + 11 * l + 5) (by omega) (by omega), eb, ek, ef, et, n_c (by omega), n_c (by omega)]
  exact agD_all (by omega) 61 _ _ htk (agD_take (by omega) hk h)
/-- a step of the post and a reading change places -/
theorem rd_comm {F : (Nat → Int32) → (Nat → Int32)} {r : Nat → Int32} {n lim l b q k : Nat} (hL : i_let r n l b q k) (h0 : i_dk r 0 n lim) (h1 : i_dk r 1 n lim)
    (F1 : ∀ j, j < 3 ∨ j = 5 ∨ (12 ≤ j ∧ j < 1140) ∨ (1200 + 11 * l ≤ j ∧ j ≤ 1200 + 11 * l + 5) → F r j = r j)
    (F3 : ∀ j, j = 5 ∨ (12 ≤ j ∧ j < 1140) → F (o_read r n l) j = o_read r n l j)
    (F2 : ∀ x y, agP x y → agP (F x) (F y)) : F (o_read r n l) = o_read (F r) n l := by
  have hb : b < 2 := hL.1
  have hdb : i_dk r (1 - b) n lim := by
    have : b = 0 ∨ b = 1 := by omega
    rcases this with rfl | rfl
    · exact h1
    · exact h0
  have hL' : i_let (F r) n l b q k := i_let_same hL (fun j hj => F1 j (by omega))
  have g0 : i_dk (F r) 0 n lim := i_dk_same (by omega) h0 (fun j hj => F1 j (by omega))
  have g1 : i_dk (F r) 1 n lim := i_dk_same (by omega) h1 (fun j hj => F1 j (by omega))
  have o1 := (o_read_ok hL h0 h1).2
  have o2 := (o_read_ok hL' g0 g1).2
  have ag := agD_read hL hdb (r' := F r) (fun j hj => F1 j (by omega)) (fun j h1 h2 => F1 j (by omega))
  have ow : ∀ j, ¬ (j = 5 ∨ (12 ≤ j ∧ j < 1140)) → ¬ o_own (1 - b) j := fun j hj hh => by unfold o_own at hh; omega
  funext j
  by_cases hj : j = 5 ∨ (12 ≤ j ∧ j < 1140)
  · rw [F3 j hj]
    exact (ag j (by omega)).symm
  · rw [o2 j (ow j hj) (by omega) (by omega)]
    exact F2 r (o_read r n l) (fun i hi => o1 i (ow i hi) (by omega) (by omega)) j hj
