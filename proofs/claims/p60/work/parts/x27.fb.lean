/-! ===== a letter more, up to 84 ===== -/
theorem q_mid_post84 {M M' : Nat → Nat → Int32} {e np L d b q : Nat} {x2 x3 x4 x5 : Int32} {r : Nat → Int32} (hi : i_ps r np L d) (hL : L < 84) (hb : b < 2) (hq : q < np) (h : q_mid M e r L)
    (f : ∀ x, x = e + 1 ∨ x = e + 2 ∨ x = e + 3 ∨ x = e + 4 ∨ x = e + 11 ∨ x = e + 13 → M' x = M x)
    (g5 : ∀ k, M' (e + 5) k = if k = L then Int32.ofNat b else M (e + 5) k) (g9 : ∀ k, M' (e + 9) k = if k = L then Int32.ofNat q else M (e + 9) k) (g10 : ∀ k, M' (e + 10) k = if k = L then 0 else M (e + 10) k) (g12 : ∀ k, M' (e + 12) k = if k = L then r 2 else M (e + 12) k)
    (g16 : ∀ k, M' (e + 16) k = if k = q * 2 + b then M (e + 16) k + 1 else M (e + 16) k) (k13 : M' e 13 = Int32.ofNat (L + 1)) (k16 : M' e 16 = M e 16) (k17 : M' e 17 = M e 17) : q_mid M' e (o_post r L (Int32.ofNat b) (Int32.ofNat q) x2 x3 x4 x5) (L + 1) := by
  obtain ⟨⟨a1, a2, a3, a4, a5⟩, c, w⟩ := h
  have hnp := hi.2.1
  obtain ⟨p4, p0, p1, p2, p3, p4', p5, p6, p7⟩ := o_post_f (r := r) (l := L) (x0 := Int32.ofNat b) (x1 := Int32.ofNat q) (x2 := x2) (x3 := x3) (x4 := x4) (x5 := x5)
  have o : ∀ j, (j < 1200 + 11 * L ∨ 1200 + 11 * L + 7 < j) → j ≠ 4 → o_post r L (Int32.ofNat b) (Int32.ofNat q) x2 x3 x4 x5 j = r j := fun j h h4 => o_post_at h h4
  generalize o_post r L (Int32.ofNat b) (Int32.ofNat q) x2 x3 x4 x5 = r' at *
  refine ⟨⟨?_, ?_, ?_, ?_, ?_⟩, fun q' hq9 => ⟨?_, fun s' hs9 => ?_, fun t ht => ?_, fun s' hs9 => ?_⟩, fun l hl => ?_⟩
  · rw [f _ (by omega), o _ (by omega) (by omega)]; exact a1
  · rw [f _ (by omega), o _ (by omega) (by omega)]; exact a2
  · rw [k13, p4]
  · rw [k16, o _ (by omega) (by omega)]; exact a4
  · rw [k17, o _ (by omega) (by omega)]; exact a5
  · rw [f _ (by omega), o _ (by omega) (by omega)]; exact (c q' hq9).1
  · rw [f _ (by omega), o _ (by omega) (by omega)]; exact (c q' hq9).2.1 s' hs9
  · rw [f _ (by omega), o _ (by omega) (by omega)]; exact (c q' hq9).2.2.1 t ht
  · have hcc : cnt (o_wt r' q' s') L = cnt (o_wt r q' s') L := cnt_congr L (fun i hi9 => o_wt_same (o _ (by omega) (by omega)) (o _ (by omega) (by omega)) (by rw [o _ (by omega) (by omega)]))
    rw [g16, (c q' hq9).2.2.2 s' hs9]
    by_cases hk : q' * 2 + s' = q * 2 + b
    · have hqq : q' = q := by omega
      have hss : s' = b := by omega
      have hw : o_wt r' q' s' L = true := by
        simp only [o_wt, decide_eq_true_eq]
        exact ⟨p6, by rw [p1, hqq], by rw [p0, hss]⟩
      rw [if_pos hk, n_inc, cnt_t hw, hcc]
    · have hw : ¬ o_wt r' q' s' L = true := by
        simp only [o_wt, decide_eq_true_eq]
        rintro ⟨-, w1, w2⟩
        rw [p1, n_eq (by omega) (by omega)] at w1
        rw [p0, n_eq (by omega) (by omega)] at w2
        omega
      rw [if_neg hk, cnt_f hw, hcc]
  · rw [g5, g9, g10, g12, f (e + 11) (by omega), f (e + 13) (by omega)]
    by_cases hlL : l = L
    · subst hlL
      rw [if_pos rfl, if_pos rfl, if_pos rfl, if_pos rfl, p0, p1, p6, p7]
      exact ⟨rfl, rfl, rfl, rfl, fun hh => absurd hh (by decide), fun hh => absurd hh (by decide)⟩
    · rw [if_neg hlL, if_neg hlL, if_neg hlL, if_neg hlL, o (1200 + 11 * l) (by omega) (by omega), o (1200 + 11 * l + 1) (by omega) (by omega), o (1200 + 11 * l + 6) (by omega) (by omega), o (1200 + 11 * l + 7) (by omega) (by omega), o (1200 + 11 * l + 9) (by omega) (by omega), o (1200 + 11 * l + 10) (by omega) (by omega)]
      exact w l (by omega)
theorem p_add84 {g : ev_G} {S : ev_S} {e np L d b q : Nat} {kk mv ex x2 x3 x4 x5 : Int32} {r : Nat → Int32} {ρ : List Nat} (hi : i_ps r np L d) (hL : L < 84) (hb : b < 2) (hq : q < np) (hp : q_pst S.1 e r L ρ) {Q : ev_O → ev_S → Prop}
    (hQ : ∀ z : ev_S, z.2 = S.2 → (∀ y, y ≠ e → y ≠ e + 5 → y ≠ e + 6 → y ≠ e + 7 → y ≠ e + 8 → y ≠ e + 9 → y ≠ e + 10 → y ≠ e + 12 → y ≠ e + 16 → z.1 y = S.1 y) → q_pst z.1 e (o_post r L (Int32.ofNat b) (Int32.ofNat q) x2 x3 x4 x5) (L + 1) ρ →
      (∀ j, z.1 (e + 6) j = if j = L then kk else S.1 (e + 6) j) → (∀ j, z.1 (e + 7) j = if j = L then mv else S.1 (e + 7) j) → (∀ j, z.1 (e + 8) j = if j = L then ex else S.1 (e + 8) j) → Q (.inl (some (ev_i (Int32.ofNat L)))) z) :
    ev_Cv g m_X6_add 3 0 [ev_o 6 e, ev_i (Int32.ofNat b), ev_i kk, ev_i mv, ev_i ex, ev_i (Int32.ofNat q), ev_i (r 2)] S Q := by
  have hnp := hi.2.1
  have e13 : S.1 e 13 = Int32.ofNat L := by rw [hp.1.1.2.2.1]; exact hi.2.2.1
  refine sg_X6_add_0 e _ _ _ _ _ _ ?_
  rw [e13]
  intro S1 h1 S2 h2 S3 h3 S4 h4 S5 h5 S6 h6 S7 h7 S8 h8 S9 h9
  rw [a_put (by omega) (by omega)] at h1 h2 h3 h4 h5 h6 h7
  rw [n_ln2 (by omega) hb, a_in (by omega) (by omega), a_put (by omega) (by omega)] at h8
  have y7 : ∀ y, y ≠ e + 5 → y ≠ e + 6 → y ≠ e + 7 → y ≠ e + 8 → y ≠ e + 9 → y ≠ e + 10 → y ≠ e + 12 → S7.1 y = S.1 y := fun y b5 b6 b7 b8 b9 b10 b12 => by
    rw [h7, m_r b12, h6, m_r b10, h5, m_r b9, h4, m_r b8, h3, m_r b7, h2, m_r b6, h1, m_r b5]
  rw [y7 (e + 16) (by omega) (by omega) (by omega) (by omega) (by omega) (by omega) (by omega)] at h8
  have e8 : S8.1 e = S.1 e := by rw [h8, m_r (by omega), y7 e (by omega) (by omega) (by omega) (by omega) (by omega) (by omega) (by omega)]
  rw [e8, e13, n_inc] at h9
  have fr : ∀ y, y ≠ e → y ≠ e + 5 → y ≠ e + 6 → y ≠ e + 7 → y ≠ e + 8 → y ≠ e + 9 → y ≠ e + 10 → y ≠ e + 12 → y ≠ e + 16 → S9.1 y = S.1 y := fun y b0 b5 b6 b7 b8 b9 b10 b12 b16 => by
    rw [h9, m_r b0, h8, m_r b16, y7 y b5 b6 b7 b8 b9 b10 b12]
  have z5 : ∀ j, S9.1 (e + 5) j = if j = L then Int32.ofNat b else S.1 (e + 5) j := fun j => by
    rw [h9, m_r (by omega), h8, m_r (by omega), h7, m_r (by omega), h6, m_r (by omega), h5, m_r (by omega), h4, m_r (by omega), h3, m_r (by omega), h2, m_r (by omega), h1]
    by_cases hj : j = L
    · rw [if_pos hj, hj, m_s]
    · rw [if_neg hj, m_k hj]
  have z6 : ∀ j, S9.1 (e + 6) j = if j = L then kk else S.1 (e + 6) j := fun j => by
    rw [h9, m_r (by omega), h8, m_r (by omega), h7, m_r (by omega), h6, m_r (by omega), h5, m_r (by omega), h4, m_r (by omega), h3, m_r (by omega), h2]
    by_cases hj : j = L
    · rw [if_pos hj, hj, m_s]
    · rw [if_neg hj, m_k hj, h1, m_r (by omega)]
  have z7 : ∀ j, S9.1 (e + 7) j = if j = L then mv else S.1 (e + 7) j := fun j => by
    rw [h9, m_r (by omega), h8, m_r (by omega), h7, m_r (by omega), h6, m_r (by omega), h5, m_r (by omega), h4, m_r (by omega), h3]
    by_cases hj : j = L
    · rw [if_pos hj, hj, m_s]
    · rw [if_neg hj, m_k hj, h2, m_r (by omega), h1, m_r (by omega)]
  have z8 : ∀ j, S9.1 (e + 8) j = if j = L then ex else S.1 (e + 8) j := fun j => by
    rw [h9, m_r (by omega), h8, m_r (by omega), h7, m_r (by omega), h6, m_r (by omega), h5, m_r (by omega), h4]
    by_cases hj : j = L
    · rw [if_pos hj, hj, m_s]
    · rw [if_neg hj, m_k hj, h3, m_r (by omega), h2, m_r (by omega), h1, m_r (by omega)]
  have z9 : ∀ j, S9.1 (e + 9) j = if j = L then Int32.ofNat q else S.1 (e + 9) j := fun j => by
    rw [h9, m_r (by omega), h8, m_r (by omega), h7, m_r (by omega), h6, m_r (by omega), h5]
    by_cases hj : j = L
    · rw [if_pos hj, hj, m_s]
    · rw [if_neg hj, m_k hj, h4, m_r (by omega), h3, m_r (by omega), h2, m_r (by omega), h1, m_r (by omega)]
  have z10 : ∀ j, S9.1 (e + 10) j = if j = L then 0 else S.1 (e + 10) j := fun j => by
    rw [h9, m_r (by omega), h8, m_r (by omega), h7, m_r (by omega), h6]
    by_cases hj : j = L
    · rw [if_pos hj, hj, m_s]
    · rw [if_neg hj, m_k hj, h5, m_r (by omega), h4, m_r (by omega), h3, m_r (by omega), h2, m_r (by omega), h1, m_r (by omega)]
  have z12 : ∀ j, S9.1 (e + 12) j = if j = L then r 2 else S.1 (e + 12) j := fun j => by
    rw [h9, m_r (by omega), h8, m_r (by omega), h7]
    by_cases hj : j = L
    · rw [if_pos hj, hj, m_s]
    · rw [if_neg hj, m_k hj, h6, m_r (by omega), h5, m_r (by omega), h4, m_r (by omega), h3, m_r (by omega), h2, m_r (by omega), h1, m_r (by omega)]
  have z16 : ∀ j, S9.1 (e + 16) j = if j = q * 2 + b then S.1 (e + 16) j + 1 else S.1 (e + 16) j := fun j => by
    rw [h9, m_r (by omega), h8]
    by_cases hj : j = q * 2 + b
    · rw [if_pos hj, hj, m_s]
    · rw [if_neg hj, m_k hj, y7 _ (by omega) (by omega) (by omega) (by omega) (by omega) (by omega) (by omega)]
  have ze : ∀ j, j ≠ 13 → S9.1 e j = S.1 e j := fun j hj => by rw [h9, m_k hj, e8]
  refine hQ S9 (by rw [h9, h8, h7, h6, h5, h4, h3, h2, h1]; rfl) fr ⟨?_, ?_, ?_⟩ z6 z7 z8
  · exact q_mid_post84 hi hL hb hq hp.1 (fun x hx => fr x (by omega) (by omega) (by omega) (by omega) (by omega) (by omega) (by omega) (by omega) (by omega)) z5 z9 z10 z12 z16 (by rw [h9, m_s]) (ze _ (by omega)) (ze _ (by omega))
  · rw [fr _ (by omega) (by omega) (by omega) (by omega) (by omega) (by omega) (by omega) (by omega) (by omega)]; exact hp.2.1
  · rw [ze _ (by omega)]; exact hp.2.2
