/-! ===== the reference: a letter is read, arrives; days pass ===== -/
/-- what a letter holds -/
def i_let (r : Nat → Int32) (n l b q k : Nat) : Prop := b < 2 ∧ q < 4 ∧ 1 ≤ k ∧ k ≤ 60 ∧ r (1200 + 11 * l) = Int32.ofNat b ∧ r (1200 + 11 * l + 1) = Int32.ofNat q ∧ r (1200 + 11 * l + 3) = Int32.ofNat k ∧
  (∃ f t, f < n * n ∧ t < n * n ∧ f ≠ t ∧ r (1200 + 11 * l + 4) = Int32.ofNat f ∧ r (1200 + 11 * l + 5) = Int32.ofNat t ∧
    (r (1200 + 11 * l + 2) = 0 ∨ r (1200 + 11 * l + 2) = 1 ∧ i_pr r n k ∧ o_maker k = b ∧ r (762 + 6 * k + 2) = Int32.ofNat f ∧ r (762 + 6 * k + 3) = Int32.ofNat t))
/-- player p takes in a letter (isp, k, f, t) -/
def o_take (r : Nat → Int32) (p k : Nat) (isp f t : Int32) : Nat → Int32 :=
  if isp = 1 then (if r (762 + 6 * k + 5) = 1 then upd r 5 (r 5 + 1) else upd r (762 + 6 * k + 5) 1)
  else if k ≤ o_mad r p then upd r 5 (r 5 + 1)
  else if r (514 + 124 * p + 2 * k) = -1 then upd (upd r (514 + 124 * p + 2 * k) f) (514 + 124 * p + 2 * k + 1) t
  else upd r 5 (r 5 + 1)
theorem i_dk_dup {r : Nat → Int32} {p n lim : Nat} {v : Int32} (hp : p < 2) (h : i_dk r p n lim) : i_dk (upd r 5 v) p n lim := by
  obtain ⟨h0, h8, h1, h60, ⟨m, hm, hml⟩, hs, hpr⟩ := h
  refine ⟨by rw [u_k (by omega)]; exact h0, h8, by rw [u_k (by omega)]; exact h1, h60, ⟨m, by rw [u_k (by omega)]; exact hm, hml⟩, ?_, ?_⟩
  · intro k hk
    rw [u_k (by omega), u_k (by omega)]
    exact hs k hk
  · intro k hk
    rw [i_pr, u_k (by omega), u_k (by omega), u_k (by omega), u_k (by omega), u_k (by omega), u_k (by omega)]
    exact hpr k hk
theorem i_dk_take {r : Nat → Int32} {p n lim k f t : Nat} {isp : Int32} (hp : p < 2) (hk1 : 1 ≤ k) (hk : k ≤ 60) (hf : f < n * n) (ht : t < n * n) (hft : f ≠ t) (hi : isp = 1 → i_pr r n k) (h : i_dk r p n lim) : i_dk (o_take r p k isp (Int32.ofNat f) (Int32.ofNat t)) p n lim := by
  have hd := i_dk_dup (v := r 5 + 1) hp h
  obtain ⟨h0, h8, h1, h60, ⟨m, hm, hml⟩, hs, hpr⟩ := h
  unfold o_take
  split
  · next h9 =>
    split
    · exact hd
    · refine ⟨by rw [u_k (by omega)]; exact h0, h8, by rw [u_k (by omega)]; exact h1, h60, ⟨m, by rw [u_k (by omega)]; exact hm, hml⟩, ?_, ?_⟩
      · intro j hj
        rw [u_k (by omega), u_k (by omega)]
        exact hs j hj
      · intro j hj
        by_cases hjk : j = k
        · right
          subst hjk
          obtain ⟨ef, et, rf, rt, a1, a2, a3, a4, a5, a6, a7, a8, a9, a10, a11, a12⟩ := hi h9
          refine ⟨ef, et, rf, rt, a1, a2, a3, a4, a5, a6, ?_, ?_, ?_, ?_, ?_, ?_⟩
          · rw [u_k (by omega)]; exact a7
          · rw [u_k (by omega)]; exact a8
          · rw [u_k (by omega)]; exact a9
          · rw [u_k (by omega)]; exact a10
          · rw [u_k (by omega)]; exact a11
          · rw [u_s]; exact Or.inr rfl
        · rw [i_pr, u_k (by omega), u_k (by omega), u_k (by omega), u_k (by omega), u_k (by omega), u_k (by omega)]
          exact hpr j hj
  · split
    · exact hd
    · split
      · refine ⟨by rw [u_k (by omega), u_k (by omega)]; exact h0, h8, by rw [u_k (by omega), u_k (by omega)]; exact h1, h60, ⟨m, by rw [u_k (by omega), u_k (by omega)]; exact hm, hml⟩, ?_, ?_⟩
        · intro j hj
          by_cases hjk : j = k
          · right
            subst hjk
            refine ⟨f, t, hf, ht, hft, ?_, ?_⟩
            · rw [u_k (by omega), u_s]
            · rw [u_s]
          · rw [u_k (by omega), u_k (by omega), u_k (by omega), u_k (by omega)]
            exact hs j hj
        · intro j hj
          rw [i_pr]
          simp (disch := omega) only [u_k]
          exact hpr j hj
      · exact hd
def o_read (r : Nat → Int32) (n l : Nat) : Nat → Int32 :=
  o_all (1 - (r (1200 + 11 * l)).toNatClampNeg) n 61 (o_take r (1 - (r (1200 + 11 * l)).toNatClampNeg) (r (1200 + 11 * l + 3)).toNatClampNeg (r (1200 + 11 * l + 2)) (r (1200 + 11 * l + 4)) (r (1200 + 11 * l + 5)))
theorem c_isRead {g : ev_G} {S : ev_S} (a n lim l b q k : Nat) (hl : l ≤ 80) (hL : i_let (S.1 (a + 1)) n l b q k) (hd : i_dk (S.1 (a + 1)) (1 - b) n lim) :
    ev_Fn g m_X10_isRead 5 [ev_o 10 a, ev_i (Int32.ofNat l)] S none (ev_ur S (a + 1) (o_read (S.1 (a + 1)) n l)) := by
  intro Q hQ
  obtain ⟨hb, hq, hk1, hk, eb, eq, ek, f, t, hf, ht, hft, ef, et, hi⟩ := hL
  have hn9 := sq_le hd.2.1
  have hd' := i_dk_take (k := k) (f := f) (t := t) (isp := S.1 (a + 1) (1200 + 11 * l + 2)) (by omega) hk1 hk hf ht hft (fun h => by
    rcases hi with h9 | h9
    · rw [h9] at h; exact absurd h (by decide)
    · exact h9.2.1) hd
  obtain ⟨h0, h8, h1, h60, ⟨m, hm, hml⟩, hs, hpr⟩ := hd
  have hmd : o_mad (S.1 (a + 1)) (1 - b) = m := by unfold o_mad; rw [hm, n_c (by omega)]
  refine sg_X10_isRead_0 a _ ?_
  unfold o_read at hQ
  rw [eb, ek, ef, et, n_c (by omega), n_c (by omega)] at hQ
  have fin : ∀ r1, r1 = o_take (S.1 (a + 1)) (1 - b) k (S.1 (a + 1) (1200 + 11 * l + 2)) (Int32.ofNat f) (Int32.ofNat t) → ev_Cv g m_X10_appliesAll 4 0 [ev_o 10 a, ev_i (Int32.ofNat (1 - b))] (ev_ur S (a + 1) r1) (fun o S2 => o = .inl none ∧ Q (.inl none) S2) := by
    intro r1 e1
    refine c_all a (1 - b) n lim (by omega) (by rw [r_s, e1]; exact hd') _ ⟨rfl, ?_⟩
    rw [r_s, r_rr, e1]
    exact hQ
  simp (disch := omega) only [lm_2, lm_3, lm_6, lm_7, lm_11, lm_12, lm_15, lm_64, lm_124, lm_180, la_1, la_2, la_3, la_12, la_26, la_154, la_514, la_762, la_1140, la_1200, ra_0, ra_1, ra_2, ra_3, ra_4, ra_5, ra_6, ra_7, ra_8, ra_9, ra_10, ra_48, rm_12, rm_2, rm_64, rm_6, n_add, n_mul, n_d1, n_vp, n_c, true_and, forall_eq, m_u, r_s, r_rr, r_2, u_k, u_s, r_r, eb, ek, ef, et, n_1s, hm, n_le, n_add]
  rcases hi with h9 | ⟨h9, -⟩
  · rw [h9] at fin ⊢
    refine j_neg (by decide) ?_
    rw [o_take, if_neg (by decide), hmd] at fin
    by_cases hkm : k ≤ m
    · rw [if_pos hkm] at fin
      exact j_pos hkm (fin _ rfl)
    · rw [if_neg hkm] at fin
      refine j_neg hkm ?_
      by_cases hst : S.1 (a + 1) (514 + 124 * (1 - b) + 2 * k) = -1
      · rw [if_pos hst] at fin
        exact j_pos hst (fin _ rfl)
      · rw [if_neg hst] at fin
        exact j_neg hst (fin _ rfl)
  · rw [h9] at fin ⊢
    refine j_pos rfl ?_
    rw [o_take, if_pos rfl] at fin
    by_cases hkn : S.1 (a + 1) (762 + 6 * k + 5) = 1
    · rw [if_pos hkn] at fin
      exact j_pos hkn (fin _ rfl)
    · rw [if_neg hkn] at fin
      exact j_neg hkn (fin _ rfl)
