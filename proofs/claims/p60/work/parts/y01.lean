/-! ===== the law's own game: a move is applied ===== -/
theorem w_gm_app {M M' : Nat → Nat → Int32} {a p m f t L : Nat} {r : Nat → Int32} (hp : p < 2) (hm : r (12 + 7 * p) = Int32.ofNat m) (hm60 : m < 60) (hmad : ∀ p, p < 2 → o_mad r p ≤ 60) (hf : f < 64) (ht : t < 64) (hft : f ≠ t) (h : w_gm M a r L)
    (hfr : ∀ q, a ≤ q → q < a + 36 → (q < a + 2 + 7 * p ∨ a + 2 + 7 * p + 6 ≤ q) → q ≠ a + 2 + 7 * p + 6 → M' q = M q)
    (s1 : ∀ s, s < 64 → M' (a + 2 + 7 * p + 1) s = if s = f then -1 else if s = t then M (a + 2 + 7 * p + 1) f else M (a + 2 + 7 * p + 1) s)
    (s2 : ∀ k, M' (a + 2 + 7 * p + 2) k = if k = m + 1 then Int32.ofNat f else M (a + 2 + 7 * p + 2) k) (s3 : ∀ k, M' (a + 2 + 7 * p + 3) k = if k = m + 1 then Int32.ofNat t else M (a + 2 + 7 * p + 3) k)
    (s4 : M' (a + 2 + 7 * p + 4) = M (a + 2 + 7 * p + 4)) (s5 : M' (a + 2 + 7 * p + 5) = M (a + 2 + 7 * p + 5)) (k6 : M' (a + 2 + 7 * p) 6 = Int32.ofNat (m + 1))
    (k7 : M' (a + 2 + 7 * p) 7 = if o_maker (m + 1) = p then M a 2 else M (a + 2 + 7 * p) 7)
    (k8 : M' (a + 2 + 7 * p) 8 = if o_maker (m + 1) = p then M (a + 2 + 7 * p) 8 else if M (a + 2 + 7 * p) 7 = -1 then M (a + 2 + 7 * p) 8 else ev_max (M (a + 2 + 7 * p) 8) (M a 2 - M (a + 2 + 7 * p) 7))
    (k9 : M' (a + 2 + 7 * p) 9 = if o_maker (m + 1) = p then M (a + 2 + 7 * p) 9 else if M (a + 2 + 7 * p) 7 = -1 then M (a + 2 + 7 * p) 9 else M (a + 2 + 7 * p) 9 + (M a 2 - M (a + 2 + 7 * p) 7))
    (k10 : M' (a + 2 + 7 * p) 10 = if o_maker (m + 1) = p then M (a + 2 + 7 * p) 10 else if M (a + 2 + 7 * p) 7 = -1 then M (a + 2 + 7 * p) 10 else M (a + 2 + 7 * p) 10 + 1)
    (k11 : M' (a + 2 + 7 * p) 11 = M (a + 2 + 7 * p) 11) : w_gm M' a (o_apply r p m f t) L := by
  obtain ⟨h1, h2, h3, h4, h5, ⟨⟨hd0, h6⟩, ⟨h7, h7'⟩, h8⟩⟩ := h
  have hmd : o_mad r p = m := by unfold o_mad; rw [hm, n_c (by omega)]
  have hb := h2 p hp
  obtain ⟨b1, b2, b3, b4, b5, b6, b7, b8, b9⟩ := hb
  obtain ⟨w2, w3, w4, w5⟩ := o_apply_wt (r := r) (m := m) hm60 hp hf ht
  obtain ⟨v1, v2, -, -⟩ := o_apply_mv (r := r) (m := m) hm60 hp hf ht
  have own : ∀ j, ¬ o_own p j → o_apply r p m f t j = r j := fun j hj => o_apply_own hm60 hf ht hj
  have hM2 : M a 2 = r 2 := h1 2 (by omega)
  refine ⟨fun k hk => ?_, fun p' hp' => ?_, w_ps_row (fun j j1 j2 => own j (by unfold o_own; omega)) (w_ps_fr (fun q q1 q2 => hfr q (by omega) (by omega) (by omega) (by omega)) h3), fun l hl => w_lt_row (fun w hw => own _ (by unfold o_own; omega)) (w_lt_fr (fun q q1 q2 => hfr q (by omega) (by omega) (by omega) (by omega)) (h4 l hl)), fun k hk => w_pr_row (fun w hw => own _ (by unfold o_own; omega)) (w_pr_fr (fun q q1 q2 => hfr q (by omega) (by omega) (by omega) (by omega)) (h5 k hk)), ⟨⟨by rw [own 2 (by unfold o_own; omega)]; exact hd0, fun p' hp' => ?_⟩, ⟨by rw [own 772 (by unfold o_own; omega)]; exact h7, by rw [own 773 (by unfold o_own; omega)]; exact h7'⟩, fun l hl => ?_⟩⟩
  · rw [hfr a (by omega) (by omega) (by omega) (by omega), own k (by unfold o_own; omega)]
    exact h1 k hk
  · by_cases hpp : p' = p
    · subst hpp
      refine ⟨fun s hs => ?_, fun k hk => ?_, fun k hk => ?_, by rw [k6, o_apply_made], ?_, ?_, ?_, ?_, ?_⟩
      · rw [s1 s hs, o_apply_sq hm60 hp hf ht hft hs, b1 f hf, b1 s hs]
      · have hk2 : k < m + 1 := by
          unfold o_mad at hk
          rw [o_apply_made, n_c (by omega)] at hk
          exact hk
        rw [s2, s3]
        by_cases hkm : k = m
        · subst hkm
          rw [if_pos rfl, if_pos rfl, v1, v2]
          exact ⟨rfl, rfl⟩
        · rw [if_neg (by omega), if_neg (by omega), o_apply_at (by omega) (by omega) (by omega) (by omega), o_apply_at (j := 154 + 180 * p' + 3 * k + 1) (by omega) (by omega) (by omega) (by omega)]
          exact b2 k (by omega)
      · rw [s4, s5, o_apply_at (by omega) (by omega) (by omega) (by omega), o_apply_at (j := 514 + 124 * p' + 2 * k + 1) (by omega) (by omega) (by omega) (by omega)]
        exact b3 k hk
      · rw [k7, w2, hM2, b5]
      · rw [k8, w3, hM2, b5, b6]
      · rw [k9, w4, hM2, b5, b7]
      · rw [k10, w5, b5, b8]
      · rw [k11, o_apply_at (by omega) (by omega) (by omega) (by omega)]
        exact b9
    · refine w_bd_row (hmad p' hp') hp' (fun j hj => own j (by unfold o_own at *; omega)) (w_bd_fr (fun q q1 q2 => hfr q (by omega) (by omega) (by omega) (by omega)) (h2 p' hp'))
  · by_cases hpp : p' = p
    · subst hpp
      rw [w2]
      split
      · right; exact hd0
      · exact h6 p' hp
    · rw [own _ (by unfold o_own; omega)]
      exact h6 p' hp'
  · rw [own _ (by unfold o_own; omega), own (1200 + 11 * l + 3) (by unfold o_own; omega)]
    exact h8 l hl
theorem n_neg1 {x : Int32} (h : x = -1 ∨ 0 ≤ x.toInt) : (x < 0) = (x = -1) := by
  rw [z_lt]
  have e0 : (0 : Int32).toInt = 0 := rfl
  have e1 : (-1 : Int32).toInt = -1 := rfl
  apply propext
  constructor
  · intro h1
    rcases h with h | h
    · exact h
    · omega
  · intro h1
    rw [h1]
    omega
theorem w_apply {g : ev_G} {S : ev_S} {a p m f t L : Nat} {r : Nat → Int32} (hp : p < 2) (hm : r (12 + 7 * p) = Int32.ofNat m) (hm60 : m < 60) (hmad : ∀ p, p < 2 → o_mad r p ≤ 60) (hf : f < 64) (ht : t < 64) (hft : f ≠ t) (h : w_gm S.1 a r L) {Q : ev_O → ev_S → Prop}
    (hQ : ∀ z, q_fb S z (a + 2 + 7 * p) → w_gm z.1 a (o_apply r p m f t) L → Q (.inl none) z) : ev_Cv g m_X11_applies 1 0 [ev_o 11 a, ev_i (Int32.ofNat p), ev_i (Int32.ofNat f), ev_i (Int32.ofNat t)] S Q := by
  have hb := h.2.1 p hp
  have hl := h.2.2.2.2.2.1.2 p hp
  have em : S.1 (a + 2 + 7 * p) 6 = Int32.ofNat m := hb.2.2.2.1.trans hm
  have e7 : S.1 (a + 2 + 7 * p) 7 = r (12 + 7 * p + 2) := hb.2.2.2.2.1
  have hmk := o_maker_lt (m + 1)
  refine sg_X11_applies_0 a _ _ _ ⟨(n_vp (by omega) (by omega)).mpr trivial, ?_⟩
  rw [w_bdA hp, em, n_inc]
  have hg := fun M' => @w_gm_app S.1 M' a p m f t L r hp hm hm60 hmad hf ht hft h
  have hab : a < a + 2 + 7 * p := by omega
  generalize hB : a + 2 + 7 * p = b at *
  intro S1 x1
  refine ⟨(n_vp (by omega) (by omega)).mpr trivial, ?_⟩
  rw [n_c (by omega)]
  intro S2 x2
  have m2 : S2.1 b 6 = Int32.ofNat (m + 1) := by rw [x2, m_r (by omega), x1, m_s]
  rw [m2, n_c (by omega)]
  refine ⟨(n_vp (by omega) (by omega)).mpr trivial, ?_⟩
  intro S3 x3
  have m3 : S3.1 b 6 = Int32.ofNat (m + 1) := by rw [x3, m_r (by omega), m2]
  rw [m3, n_c (by omega)]
  have tail : ∀ (S4 : ev_S) (v : Int32), S4 = ev_up S3 (b + 6) (m + 1) v → (v = 0 ∨ v = 1) → ev_E g m_X11_applies 1 0 69 [some (ev_o 11 a), some (ev_i (Int32.ofNat p)), some (ev_i (Int32.ofNat f)), some (ev_i (Int32.ofNat t)), some (ev_o 10 b)] [] S4 Q := by
    intro S4 v x4 hv
    have y4 : ∀ q, q ≠ b → q ≠ b + 2 → q ≠ b + 3 → q ≠ b + 6 → S4.1 q = S.1 q := fun q q0 q2 q3 q6 => by rw [x4, m_r q6, x3, m_r q3, x2, m_r q2, x1, m_r q0]
    have y4b : ∀ k, k ≠ 6 → S4.1 b k = S.1 b k := fun k hk => by rw [x4, m_r (by omega), x3, m_r (by omega), x2, m_r (by omega), x1, m_k hk]
    have y46 : S4.1 b 6 = Int32.ofNat (m + 1) := by rw [x4, m_r (by omega), m3]
    have y42 : ∀ k, S4.1 (b + 2) k = if k = m + 1 then Int32.ofNat f else S.1 (b + 2) k := fun k => by
      rw [x4, m_r (by omega), x3, m_r (by omega), x2]
      by_cases hk : k = m + 1
      · rw [if_pos hk, hk, m_s]
      · rw [if_neg hk, m_k hk, x1, m_r (by omega)]
    have y43 : ∀ k, S4.1 (b + 3) k = if k = m + 1 then Int32.ofNat t else S.1 (b + 3) k := fun k => by
      rw [x4, m_r (by omega), x3]
      by_cases hk : k = m + 1
      · rw [if_pos hk, hk, m_s]
      · rw [if_neg hk, m_k hk, x2, m_r (by omega), x1, m_r (by omega)]
    have y4z : S4.2 = S.2 := by rw [x4, x3, x2, x1]; rfl
    refine sg_X11_applies_69 a _ _ _ b ⟨(n_vp (by omega) (by omega)).mpr trivial, (n_vp (by omega) (by omega)).mpr trivial, ?_⟩
    rw [n_c (by omega), n_c (by omega)]
    intro T1 t1 T2 t2
    have z2 : ∀ q, q ≠ b → q ≠ b + 1 → q ≠ b + 2 → q ≠ b + 3 → q ≠ b + 6 → T2.1 q = S.1 q := fun q q0 q1 q2 q3 q6 => by rw [t2, m_r q1, t1, m_r q1, y4 q q0 q2 q3 q6]
    have z2b : ∀ k, k ≠ 6 → T2.1 b k = S.1 b k := fun k hk => by rw [t2, m_r (by omega), t1, m_r (by omega), y4b k hk]
    have z26 : T2.1 b 6 = Int32.ofNat (m + 1) := by rw [t2, m_r (by omega), t1, m_r (by omega), y46]
    have z21 : ∀ s, s < 64 → T2.1 (b + 1) s = if s = f then -1 else if s = t then S.1 (b + 1) f else S.1 (b + 1) s := fun s hs => by
      rw [t2]
      by_cases hsf : s = f
      · rw [if_pos hsf, hsf, m_s]
      · rw [if_neg hsf, m_k hsf, t1]
        by_cases hst : s = t
        · rw [if_pos hst, hst, m_s, y4 (b + 1) (by omega) (by omega) (by omega) (by omega)]
        · rw [if_neg hst, m_k hst, y4 (b + 1) (by omega) (by omega) (by omega) (by omega)]
    have z22 : ∀ k, T2.1 (b + 2) k = if k = m + 1 then Int32.ofNat f else S.1 (b + 2) k := fun k => by rw [t2, m_r (by omega), t1, m_r (by omega), y42]
    have z23 : ∀ k, T2.1 (b + 3) k = if k = m + 1 then Int32.ofNat t else S.1 (b + 3) k := fun k => by rw [t2, m_r (by omega), t1, m_r (by omega), y43]
    have z26b : T2.1 (b + 6) = upd (S.1 (b + 6)) (m + 1) v := by rw [t2, m_r (by omega), t1, m_r (by omega), x4, m_u, r_s, x3, m_r (by omega), x2, m_r (by omega), x1, m_r (by omega)]
    have z24 : T2.2 = S.2 := by rw [t2, t1]; exact y4z
    have fin : ∀ z : ev_S, z.2 = T2.2 → (∀ q, q ≠ b → z.1 q = T2.1 q) → (∀ k, (k < 7 ∨ 11 ≤ k) → z.1 b k = T2.1 b k) → (z.1 b 7 = if o_maker (m + 1) = p then S.1 a 2 else S.1 b 7) → (z.1 b 8 = if o_maker (m + 1) = p then S.1 b 8 else if S.1 b 7 = -1 then S.1 b 8 else ev_max (S.1 b 8) (S.1 a 2 - S.1 b 7)) →
        (z.1 b 9 = if o_maker (m + 1) = p then S.1 b 9 else if S.1 b 7 = -1 then S.1 b 9 else S.1 b 9 + (S.1 a 2 - S.1 b 7)) → (z.1 b 10 = if o_maker (m + 1) = p then S.1 b 10 else if S.1 b 7 = -1 then S.1 b 10 else S.1 b 10 + 1) → Q (.inl none) z := by
      intro z q0 q1 q2 q7 q8 q9 q10
      refine hQ z ⟨⟨q0.trans z24, fun q hq => by rw [q1 q (by omega), z2 q (by omega) (by omega) (by omega) (by omega) (by omega)]⟩, fun hb6 => by rw [q1 _ (by omega), z26b]; exact w_bl_up hv hb6⟩ (hg z.1 (fun q h1 h2 h3 h4 => by rw [q1 q (by omega), z2 q (by omega) (by omega) (by omega) (by omega) (by omega)]) (fun s hs => by rw [q1 _ (by omega)]; exact z21 s hs) (fun k => by rw [q1 _ (by omega)]; exact z22 k) (fun k => by rw [q1 _ (by omega)]; exact z23 k) (by rw [q1 _ (by omega), z2 _ (by omega) (by omega) (by omega) (by omega) (by omega)]) (by rw [q1 _ (by omega), z2 _ (by omega) (by omega) (by omega) (by omega) (by omega)]) (by rw [q2 6 (by omega)]; exact z26) q7 q8 q9 q10 (by rw [q2 11 (by omega), z2b 11 (by omega)]))
    rw [y46, n_rem2 (by omega), n_eq (by omega) (by omega), y4b 7 (by omega), y4b 8 (by omega), y4b 9 (by omega), y4b 10 (by omega), e7, n_neg1 hl, ← e7]
    have hpar : ((m + 1) % 2 = p) = ¬ (o_maker (m + 1) = p) := by
      unfold o_maker
      apply propext
      by_cases h9 : (m + 1) % 2 = 1
      · rw [if_pos h9]; omega
      · rw [if_neg h9]; omega
    rw [hpar]
    have ta2 : T2.1 a 2 = S.1 a 2 := by rw [z2 a (by omega) (by omega) (by omega) (by omega) (by omega)]
    refine ⟨fun h1 => ⟨fun h2 => ?_, fun h2 => ?_⟩, fun h1 => ?_⟩
    · exact fin T2 rfl (fun q _ => rfl) (fun k _ => rfl) (by rw [if_neg h1, z2b 7 (by omega)]) (by rw [if_neg h1, if_pos h2, z2b 8 (by omega)]) (by rw [if_neg h1, if_pos h2, z2b 9 (by omega)]) (by rw [if_neg h1, if_pos h2, z2b 10 (by omega)])
    · intro T3 t3 T4 t4 T5 t5
      have ta3 : T3.1 a 2 = S.1 a 2 := by rw [t3, m_r (by omega), ta2]
      rw [ta2] at t3
      rw [ta3] at t4
      refine fin T5 (by rw [t5, t4, t3]; rfl) (fun q hq => by rw [t5, m_r hq, t4, m_r hq, t3, m_r hq]) (fun k hk => by rw [t5, m_k (by omega), t4, m_k (by omega), t3, m_k (by omega)]) ?_ ?_ ?_ ?_
      · rw [if_neg h1, t5, m_k (by omega), t4, m_k (by omega), t3, m_k (by omega), z2b 7 (by omega)]
      · rw [if_neg h1, if_neg h2, t5, m_k (by omega), t4, m_k (by omega), t3, m_s]
      · rw [if_neg h1, if_neg h2, t5, m_k (by omega), t4, m_s]
      · rw [if_neg h1, if_neg h2, t5, m_s]
    · have h1 : o_maker (m + 1) = p := Classical.byContradiction h1
      intro T3 t3
      rw [ta2] at t3
      refine fin T3 (by rw [t3]; rfl) (fun q hq => by rw [t3, m_r hq]) (fun k hk => by rw [t3, m_k (by omega)]) ?_ ?_ ?_ ?_
      · rw [if_pos h1, t3, m_s]
      · rw [if_pos h1, t3, m_k (by omega), z2b 8 (by omega)]
      · rw [if_pos h1, t3, m_k (by omega), z2b 9 (by omega)]
      · rw [if_pos h1, t3, m_k (by omega), z2b 10 (by omega)]
  refine ⟨(n_vp (by omega) (by omega)).mpr trivial, fun _ => ⟨(n_vp (by omega) (by omega)).mpr trivial, fun S4 x4 => tail S4 0 (by rw [x4, n_c (by omega)]) (Or.inl rfl)⟩, fun _ => ⟨(n_vp (by omega) (by omega)).mpr trivial, fun S5 x5 => tail S5 1 (by rw [x5, n_c (by omega)]) (Or.inr rfl)⟩⟩
