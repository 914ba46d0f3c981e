/-! ===== the class: the post; a letter arrives ===== -/
def p_fr (S z : ev_S) (e : Nat) : Prop := z.2 = S.2 ∧ ∀ q, q ≠ e → q ≠ e + 4 → q ≠ e + 10 → q ≠ e + 11 → q ≠ e + 13 → q ≠ e + 14 → q ≠ e + 15 → q ≠ e + 16 → z.1 q = S.1 q
theorem p_fr_trans {S T z : ev_S} {e : Nat} (h1 : p_fr S T e) (h2 : p_fr T z e) : p_fr S z e :=
  ⟨h2.1.trans h1.1, fun q a b c d e f g h => (h2.2 q a b c d e f g h).trans (h1.2 q a b c d e f g h)⟩
theorem n_ln2 {q s : Nat} (hq : q < 4) (hs : s < 2) : Int32.ofNat q * 2 + Int32.ofNat s = Int32.ofNat (q * 2 + s) := by
  have h1 : q = 0 ∨ q = 1 ∨ q = 2 ∨ q = 3 := by omega
  have h2 : s = 0 ∨ s = 1 := by omega
  rcases h1 with h1 | h1 | h1 | h1 <;> rcases h2 with h2 | h2 <;> subst h1 <;> subst h2 <;> rfl
theorem n_ln12 {q s : Nat} (hq : q < 4) (hs : s < 12) : Int32.ofNat q * 12 + Int32.ofNat s = Int32.ofNat (q * 12 + s) := by
  have h1 : q = 0 ∨ q = 1 ∨ q = 2 ∨ q = 3 := by omega
  have h2 : s = 0 ∨ s = 1 ∨ s = 2 ∨ s = 3 ∨ s = 4 ∨ s = 5 ∨ s = 6 ∨ s = 7 ∨ s = 8 ∨ s = 9 ∨ s = 10 ∨ s = 11 := by omega
  rcases h1 with h1 | h1 | h1 | h1 <;> subst h1 <;> rcases h2 with h2 | h2 | h2 | h2 | h2 | h2 | h2 | h2 | h2 | h2 | h2 | h2 <;> subst h2 <;> rfl
theorem n_1b {b : Nat} (hb : b < 2) : (1 : Int32) - Int32.ofNat b = Int32.ofNat (1 - b) := by
  have h2 : b = 0 ∨ b = 1 := by omega
  rcases h2 with h2 | h2 <;> subst h2 <;> rfl
theorem o_wt_same {r r' : Nat → Int32} {q s l : Nat} (h0 : r' (1200 + 11 * l) = r (1200 + 11 * l)) (h1 : r' (1200 + 11 * l + 1) = r (1200 + 11 * l + 1)) (h6 : r' (1200 + 11 * l + 6) = 0 ↔ r (1200 + 11 * l + 6) = 0) : o_wt r' q s l = o_wt r q s l := by
  unfold o_wt
  rw [h0, h1]
  exact decide_eq_decide.mpr (and_congr_left' h6)
theorem q_mid_arr {M M' : Nat → Nat → Int32} {e L l : Nat} {r : Nat → Int32} (hL : L ≤ 84) (hb : o_b r l < 2) (hq : o_q r l < 4) (eb : r (1200 + 11 * l) = Int32.ofNat (o_b r l)) (eq : r (1200 + 11 * l + 1) = Int32.ofNat (o_q r l)) (hl : l < L) (h1 : r (1200 + 11 * l + 6) = 1) (h : q_mid M e r L)
    (f : ∀ q, q = e + 1 ∨ q = e + 2 ∨ q = e + 3 ∨ q = e + 5 ∨ q = e + 9 ∨ q = e + 11 ∨ q = e + 12 ∨ q = e + 16 → M' q = M q)
    (g4 : ∀ k, M' (e + 4) k = if k = o_q r l * 2 + (1 - o_b r l) then M (e + 4) k + 1 else M (e + 4) k)
    (g10 : ∀ k, M' (e + 10) k = if k = l then 2 else M (e + 10) k) (g13 : ∀ k, M' (e + 13) k = if k = l then r 2 else M (e + 13) k)
    (k13 : M' e 13 = M e 13) (k16 : M' e 16 = M e 16 + 1) (k17 : M' e 17 = M e 17 + (r 2 - r (1200 + 11 * l + 7))) : q_mid M' e (o_arr r l (o_b r l) (o_q r l)) L := by
  obtain ⟨⟨a1, a2, a3, a4, a5⟩, c, w⟩ := h
  have fr : ∀ j, j ≠ 1200 + 11 * l + 6 → j ≠ 1200 + 11 * l + 10 → j ≠ 1140 + 15 * o_q r l + (1 + (1 - o_b r l)) → j ≠ 7 → j ≠ 8 → o_arr r l (o_b r l) (o_q r l) j = r j := fun j a b c d e => o_arr_at a b c d e
  have e6 : o_arr r l (o_b r l) (o_q r l) (1200 + 11 * l + 6) = 2 := by rw [o_arr, u_k (by omega), u_k (by omega), u_k (by omega), u_k (by omega), u_s]
  have e10 : o_arr r l (o_b r l) (o_q r l) (1200 + 11 * l + 10) = r 2 := by rw [o_arr, u_k (by omega), u_k (by omega), u_k (by omega), u_s]
  have est : o_arr r l (o_b r l) (o_q r l) (1140 + 15 * o_q r l + (1 + (1 - o_b r l))) = r (1140 + 15 * o_q r l + (1 + (1 - o_b r l))) + 1 := by rw [o_arr, u_k (by omega), u_k (by omega), u_s]
  have e7 : o_arr r l (o_b r l) (o_q r l) 7 = r 7 + (r 2 - r (1200 + 11 * l + 7)) := by rw [o_arr, u_k (by omega), u_s]
  have e8 : o_arr r l (o_b r l) (o_q r l) 8 = r 8 + 1 := by rw [o_arr, u_s]
  refine ⟨⟨?_, ?_, ?_, ?_, ?_⟩, fun q hq9 => ⟨?_, fun s hs9 => ?_, fun t ht => ?_, fun s hs9 => ?_⟩, fun l' hl' => ?_⟩
  · rw [f _ (by omega), fr _ (by omega) (by omega) (by omega) (by omega) (by omega)]; exact a1
  · rw [f _ (by omega), fr _ (by omega) (by omega) (by omega) (by omega) (by omega)]; exact a2
  · rw [k13, fr _ (by omega) (by omega) (by omega) (by omega) (by omega)]; exact a3
  · rw [k16, e8, a4]
  · rw [k17, e7, a5]
  · rw [f _ (by omega), fr _ (by omega) (by omega) (by omega) (by omega) (by omega)]; exact (c q hq9).1
  · rw [g4]
    by_cases hk : q * 2 + s = o_q r l * 2 + (1 - o_b r l)
    · have hqq : q = o_q r l := by omega
      have hss : s = 1 - o_b r l := by omega
      rw [if_pos hk, (c q hq9).2.1 s hs9, hqq, hss, est]
    · rw [if_neg hk, (c q hq9).2.1 s hs9, fr _ (by omega) (by omega) (by omega) (by omega) (by omega)]
  · rw [f _ (by omega), fr _ (by omega) (by omega) (by omega) (by omega) (by omega)]; exact (c q hq9).2.2.1 t ht
  · rw [f _ (by omega), (c q hq9).2.2.2 s hs9]
    refine congrArg Int32.ofNat ?_
    refine cnt_congr L (fun j hj => ?_)
    refine (o_wt_same (fr _ (by omega) (by omega) (by omega) (by omega) (by omega)) (fr _ (by omega) (by omega) (by omega) (by omega) (by omega)) ?_).symm
    by_cases hjl : j = l
    · rw [hjl, e6, h1]; exact ⟨fun q => absurd q (by decide), fun q => absurd q (by decide)⟩
    · rw [fr _ (by omega) (by omega) (by omega) (by omega) (by omega)]
  · obtain ⟨w1, w2, w3, w4, w5, w6⟩ := w l' hl'
    rw [f (e + 5) (by omega), f (e + 9) (by omega), f (e + 11) (by omega), f (e + 12) (by omega), g10, g13, fr (1200 + 11 * l') (by omega) (by omega) (by omega) (by omega) (by omega), fr (1200 + 11 * l' + 1) (by omega) (by omega) (by omega) (by omega) (by omega), fr (1200 + 11 * l' + 7) (by omega) (by omega) (by omega) (by omega) (by omega), fr (1200 + 11 * l' + 9) (by omega) (by omega) (by omega) (by omega) (by omega)]
    by_cases hll : l' = l
    · subst hll
      rw [if_pos rfl, if_pos rfl, e6, e10]
      exact ⟨w1, w2, rfl, w4, fun q => absurd q (by decide), fun _ => rfl⟩
    · rw [if_neg hll, if_neg hll, fr _ (by omega) (by omega) (by omega) (by omega) (by omega), fr _ (by omega) (by omega) (by omega) (by omega) (by omega)]
      exact ⟨w1, w2, w3, w4, w5, w6⟩
theorem p_arrive {g : ev_G} {S : ev_S} {e L l k : Nat} {r : Nat → Int32} (hL : L ≤ 84) (hb : o_b r l < 2) (hq : o_q r l < 4) (eb : r (1200 + 11 * l) = Int32.ofNat (o_b r l)) (eq : r (1200 + 11 * l + 1) = Int32.ofNat (o_q r l)) (hl : l < L) (h1 : r (1200 + 11 * l + 6) = 1) (h : q_mid S.1 e r L) (hk : k < 84) (h15 : S.1 e 15 = Int32.ofNat k)
    {Q : ev_O → ev_S → Prop} (hQ : ∀ z, p_fr S z e → q_mid z.1 e (o_arr r l (o_b r l) (o_q r l)) L → z.1 (e + 14) = S.1 (e + 14) → z.1 e 14 = S.1 e 14 → (∀ j, j ≠ k → z.1 (e + 15) j = S.1 (e + 15) j) → z.1 (e + 15) k = Int32.ofNat l → z.1 e 15 = Int32.ofNat (k + 1) → Q (.inl none) z) :
    ev_Cv g m_X6_arrive 3 0 [ev_o 6 e, ev_i (Int32.ofNat l), ev_i (r 2)] S Q := by
  obtain ⟨w1, w2, w3, w4, w5, w6⟩ := h.2.2 l hl
  rw [eb] at w1
  rw [eq] at w2
  refine sg_X6_arrive_0 e _ _ ?_
  intro S1 e1 S2 e2 S3 e3 S4 e4 S5 e5 S6 e6 S7 e7
  rw [a_put (by omega) (by omega)] at e1 e2
  have x1 : ∀ q, q ≠ e + 10 → S1.1 q = S.1 q := fun q hq => by rw [e1, m_r hq]
  have x2 : ∀ q, q ≠ e + 10 → q ≠ e + 13 → S2.1 q = S.1 q := fun q hq hq2 => by rw [e2, m_r hq2, x1 q hq]
  have x3 : ∀ q, q ≠ e + 10 → q ≠ e + 13 → q ≠ e → S3.1 q = S.1 q := fun q hq hq2 hq3 => by rw [e3, m_r hq3, x2 q hq hq2]
  have x4 : ∀ q, q ≠ e + 10 → q ≠ e + 13 → q ≠ e → S4.1 q = S.1 q := fun q hq hq2 hq3 => by rw [e4, m_r hq3, x3 q hq hq2 hq3]
  rw [x4 (e + 9) (by omega) (by omega) (by omega), x4 (e + 5) (by omega) (by omega) (by omega), x4 (e + 4) (by omega) (by omega) (by omega), a_in (by omega) (by omega), a_in (by omega) (by omega), w1, w2, n_1b hb, n_ln2 (by omega) (by omega), a_in (by omega) (by omega), a_put (by omega) (by omega)] at e5
  rw [x3 (e + 12) (by omega) (by omega) (by omega), a_in (by omega) (by omega), w4, x2 e (by omega) (by omega)] at e4
  rw [x2 e (by omega) (by omega)] at e3
  have x5 : ∀ q, q ≠ e + 4 → S5.1 q = S4.1 q := fun q hq => by rw [e5, m_r hq]
  have k4 : ∀ j, j ≠ 16 → j ≠ 17 → S4.1 e j = S.1 e j := fun j h6 h7 => by rw [e4, m_k h7, e3, m_k h6, x2 e (by omega) (by omega)]
  rw [x5 e (by omega), k4 15 (by omega) (by omega), h15, a_put (by omega) (by omega)] at e6
  have x6 : ∀ q, q ≠ e + 15 → S6.1 q = S5.1 q := fun q hq => by rw [e6, m_r hq]
  rw [x6 e (by omega), x5 e (by omega), k4 15 (by omega) (by omega), h15, n_inc] at e7
  have x7 : ∀ q, q ≠ e → S7.1 q = S6.1 q := fun q hq => by rw [e7, m_r hq]
  have xx : ∀ q, q ≠ e → q ≠ e + 4 → q ≠ e + 10 → q ≠ e + 13 → q ≠ e + 15 → S7.1 q = S.1 q := fun q h0 h4 h10 h13 h15 => by rw [x7 q h0, x6 q h15, x5 q h4, x4 q h10 h13 h0]
  have y10 : S7.1 (e + 10) = S1.1 (e + 10) := by rw [x7 _ (by omega), x6 _ (by omega), x5 _ (by omega), e4, m_r (by omega), e3, m_r (by omega), e2, m_r (by omega)]
  have y13 : S7.1 (e + 13) = S2.1 (e + 13) := by rw [x7 _ (by omega), x6 _ (by omega), x5 _ (by omega), e4, m_r (by omega), e3, m_r (by omega)]
  have y4 : S7.1 (e + 4) = S5.1 (e + 4) := by rw [x7 _ (by omega), x6 _ (by omega)]
  have y0 : ∀ j, j ≠ 15 → S7.1 e j = S4.1 e j := fun j hj => by rw [e7, m_k hj, x6 e (by omega), x5 e (by omega)]
  refine hQ S7 ⟨?_, fun q q0 q4 q10 q11 q13 q14 q15 q16 => xx q q0 q4 q10 q13 q15⟩ ?_ ?_ ?_ ?_ ?_ ?_
  · rw [e7, e6, e5, e4, e3, e2, e1]; rfl
  · refine q_mid_arr hL hb hq eb eq hl h1 h (fun q hq => xx q (by omega) (by omega) (by omega) (by omega) (by omega)) (fun j => ?_) (fun j => ?_) (fun j => ?_) ?_ ?_ ?_
    · rw [y4, e5]
      by_cases hj : j = o_q r l * 2 + (1 - o_b r l)
      · rw [if_pos hj, hj, m_s]
      · rw [if_neg hj, m_k hj, x4 _ (by omega) (by omega) (by omega)]
    · rw [y10, e1]
      by_cases hj : j = l
      · rw [if_pos hj, hj, m_s]
      · rw [if_neg hj, m_k hj]
    · rw [y13, e2]
      by_cases hj : j = l
      · rw [if_pos hj, hj, m_s]
      · rw [if_neg hj, m_k hj, x1 _ (by omega)]
    · rw [y0 _ (by omega), k4 _ (by omega) (by omega)]
    · rw [y0 _ (by omega), e4, m_k (by omega), e3, m_s]
    · rw [y0 _ (by omega), e4, m_s]
  · exact xx _ (by omega) (by omega) (by omega) (by omega) (by omega)
  · rw [y0 _ (by omega), k4 _ (by omega) (by omega)]
  · intro j hj
    rw [x7 _ (by omega), e6, m_k hj, x5 _ (by omega), x4 _ (by omega) (by omega) (by omega)]
  · rw [x7 _ (by omega), e6, m_s]
  · rw [e7, m_s]
