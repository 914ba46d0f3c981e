/-! ===== the law's own game: copies ===== -/
theorem m_if (S : ev_S) (a i : Nat) (v : Int32) (k : Nat) : (ev_up S a i v).1 a k = if k = i then v else S.1 a k := by
  by_cases h : k = i
  · rw [if_pos h, h, m_s]
  · rw [if_neg h, m_k h]
/-- rows are copied, an index behind the other -/
theorem w_cl {P : Nat → ev_S → Prop} {d s lo hi n : Nat} (T0 : ev_S) (hap : d + hi < s + lo ∨ s + hi < d + lo)
    (hn : ∀ T : ev_S, T.2 = T0.2 → (∀ x, (x < d + lo ∨ d + hi < x) → T.1 x = T0.1 x) → (∀ x, lo ≤ x → x ≤ hi → ∀ k, T.1 (d + x) k = if k < n then T0.1 (s + x) k else T0.1 (d + x) k) → P n T)
    (step : ∀ i (T : ev_S), i < n → T.2 = T0.2 → (∀ x, (x < d + lo ∨ d + hi < x) → T.1 x = T0.1 x) → (∀ T' : ev_S, T'.2 = T.2 → (∀ x, (x < d + lo ∨ d + hi < x) → T'.1 x = T.1 x) → (∀ x, lo ≤ x → x ≤ hi → ∀ k, T'.1 (d + x) k = if k = i then T.1 (s + x) i else T.1 (d + x) k) → P (i + 1) T') → P i T) : P 0 T0 := by
  have key := dn (n := n) (P := fun i => ∀ T : ev_S, T.2 = T0.2 → (∀ x, (x < d + lo ∨ d + hi < x) → T.1 x = T0.1 x) → (∀ x, lo ≤ x → x ≤ hi → ∀ k, T.1 (d + x) k = if k < i then T0.1 (s + x) k else T0.1 (d + x) k) → P i T) hn (fun i hi ih T t1 t2 t3 => ?_) 0 (Nat.zero_le _)
  · exact key T0 rfl (fun _ _ => rfl) (fun x _ _ k => by rw [if_neg (Nat.not_lt_zero k)])
  · refine step i T hi t1 t2 (fun T' a1 a2 a3 => ih T' (a1.trans t1) (fun x hx => (a2 x hx).trans (t2 x hx)) (fun x x1 x2 k => ?_))
    rw [a3 x x1 x2 k]
    by_cases hk : k = i
    · rw [if_pos hk, if_pos (by omega), t2 (s + x) (by omega), hk]
    · rw [if_neg hk, t3 x x1 x2 k]
      by_cases hk2 : k < i
      · rw [if_pos hk2, if_pos (by omega)]
      · rw [if_neg hk2, if_neg (by omega)]
theorem vp_nb {x : Int32} (h : x = 0 ∨ x = 1) : vp_nar .boolean x = x := by
  rcases h with rfl | rfl <;> rfl
theorem w_takes {g : ev_G} {S : ev_S} {a b0 : Nat} (hap : a + 7 ≤ b0 ∨ b0 + 7 ≤ a) (hb : w_bl (S.1 (b0 + 6))) {Q : ev_O → ev_S → Prop}
    (hQ : ∀ z : ev_S, z.2 = S.2 → (∀ x, (x < a ∨ a + 7 ≤ x) → z.1 x = S.1 x) → (∀ s, s < 64 → z.1 (a + 1) s = S.1 (b0 + 1) s) → (∀ x, 2 ≤ x → x ≤ 6 → ∀ k, z.1 (a + x) k = if k < 61 then S.1 (b0 + x) k else S.1 (a + x) k) → (∀ k, 6 ≤ k → k ≤ 11 → z.1 a k = S.1 b0 k) → Q (.inl none) z) : ev_Cv g m_X10_takes 1 0 [ev_o 10 a, ev_o 10 b0] S Q := by
  have e0 : (0 : Int32) = Int32.ofNat 0 := rfl
  have e64 : (64 : Int32) = Int32.ofNat 64 := rfl
  have e61 : (61 : Int32) = Int32.ofNat 61 := rfl
  refine sg_X10_takes_0 a b0 ?_
  rw [e0]
  refine w_cl (P := fun i T => ev_E g m_X10_takes 1 0 2 [some (ev_o 10 a), some (ev_o 10 b0), some (ev_i (Int32.ofNat i))] [] T Q) (d := a) (s := b0) (lo := 1) (hi := 1) (n := 64) S (by omega) (fun T t1 t2 t3 => ?_) (fun i T hi t1 t2 k => ?_)
  · refine sg_X10_takes_2 a b0 _ (j_pos (by rw [e64, n_le (by omega) (by omega)]; exact Nat.le_refl _) ?_)
    rw [e0]
    have tb : ∀ x, b0 ≤ x → x < b0 + 7 → T.1 x = S.1 x := fun x h1 h2 => t2 x (by omega)
    refine w_cl (P := fun i U => ev_E g m_X10_takes 1 0 28 [some (ev_o 10 a), some (ev_o 10 b0), some (ev_i (Int32.ofNat i))] [] U Q) (d := a) (s := b0) (lo := 2) (hi := 6) (n := 61) T (by omega) (fun U u1 u2 u3 => ?_) (fun i U hi u1 u2 k => ?_)
    · refine sg_X10_takes_28 a b0 _ (j_pos (by rw [e61, n_le (by omega) (by omega)]; exact Nat.le_refl _) ?_)
      intro S1 x1 S2 x2 S3 x3 S4 x4 S5 x5 S6 x6
      have hab : b0 ≠ a := by omega
      have ub : U.1 b0 = S.1 b0 := by rw [u2 b0 (by omega), tb b0 (by omega) (by omega)]
      have fr : ∀ x, x ≠ a → S6.1 x = U.1 x := fun x hx => by rw [x6, m_r hx, x5, m_r hx, x4, m_r hx, x3, m_r hx, x2, m_r hx, x1, m_r hx]
      refine hQ S6 (by rw [x6, x5, x4, x3, x2, x1]; exact u1.trans t1) (fun x hx => by rw [fr x (by omega), u2 x (by omega), t2 x (by omega)]) (fun s hs => ?_) (fun x h2 h6 k => ?_) (fun k h6 h11 => ?_)
      · rw [fr _ (by omega), u2 _ (by omega), t3 1 (by omega) (by omega) s, if_pos hs]
      · rw [fr _ (by omega), u3 x h2 h6 k, tb _ (by omega) (by omega), t2 (a + x) (by omega)]
      · have v1 : S1.1 b0 = S.1 b0 := by rw [x1, m_r hab, ub]
        have v2 : S2.1 b0 = S.1 b0 := by rw [x2, m_r hab, v1]
        have v3 : S3.1 b0 = S.1 b0 := by rw [x3, m_r hab, v2]
        have v4 : S4.1 b0 = S.1 b0 := by rw [x4, m_r hab, v3]
        have v5 : S5.1 b0 = S.1 b0 := by rw [x5, m_r hab, v4]
        have hk : k = 6 ∨ k = 7 ∨ k = 8 ∨ k = 9 ∨ k = 10 ∨ k = 11 := by omega
        rcases hk with rfl | rfl | rfl | rfl | rfl | rfl
        · rw [x6, m_k (by omega), x5, m_k (by omega), x4, m_k (by omega), x3, m_k (by omega), x2, m_k (by omega), x1, m_s, ub]
        · rw [x6, m_k (by omega), x5, m_k (by omega), x4, m_k (by omega), x3, m_k (by omega), x2, m_s, v1]
        · rw [x6, m_k (by omega), x5, m_k (by omega), x4, m_k (by omega), x3, m_s, v2]
        · rw [x6, m_k (by omega), x5, m_k (by omega), x4, m_s, v3]
        · rw [x6, m_k (by omega), x5, m_s, v4]
        · rw [x6, m_s, v5]
    · refine sg_X10_takes_28 a b0 _ (j_neg (by rw [e61, n_le (by omega) (by omega)]; omega) ⟨(n_vp (by omega) (by omega)).mpr trivial, ?_⟩)
      rw [n_c (by omega), n_inc]
      intro S7 x7 S8 x8 S9 x9 S10 x10
      have y6 : S10.1 (b0 + 6) = S.1 (b0 + 6) := by rw [x10, m_r (by omega), x9, m_r (by omega), x8, m_r (by omega), x7, m_r (by omega), u2 _ (by omega), tb _ (by omega) (by omega)]
      refine ⟨vp_nb (by rw [y6]; exact hb i), ?_⟩
      intro S11 x11
      refine k S11 (by rw [x11, x10, x9, x8, x7]; rfl) (fun x hx => by rw [x11, m_r (by omega), x10, m_r (by omega), x9, m_r (by omega), x8, m_r (by omega), x7, m_r (by omega)]) (fun x h2 h6 k => ?_)
      have hx : x = 2 ∨ x = 3 ∨ x = 4 ∨ x = 5 ∨ x = 6 := by omega
      rcases hx with rfl | rfl | rfl | rfl | rfl
      · rw [x11, m_r (by omega), x10, m_r (by omega), x9, m_r (by omega), x8, m_r (by omega), x7, m_if]
      · rw [x11, m_r (by omega), x10, m_r (by omega), x9, m_r (by omega), x8, m_if, x7, m_r (by omega), m_r (by omega)]
      · rw [x11, m_r (by omega), x10, m_r (by omega), x9, m_if, x8, m_r (by omega), m_r (by omega), x7, m_r (by omega), m_r (by omega)]
      · rw [x11, m_r (by omega), x10, m_if, x9, m_r (by omega), m_r (by omega), x8, m_r (by omega), m_r (by omega), x7, m_r (by omega), m_r (by omega)]
      · rw [x11, m_if, x10, m_r (by omega), m_r (by omega), x9, m_r (by omega), m_r (by omega), x8, m_r (by omega), m_r (by omega), x7, m_r (by omega), m_r (by omega)]
  · refine sg_X10_takes_2 a b0 _ (j_neg (by rw [e64, n_le (by omega) (by omega)]; omega) ⟨(n_vp (by omega) (by omega)).mpr trivial, ?_⟩)
    rw [n_c (by omega), n_inc]
    intro S1 x1
    refine k S1 (by rw [x1]; rfl) (fun x hx => by rw [x1, m_r (by omega)]) (fun x h1 h2 k => ?_)
    have hx : x = 1 := by omega
    subst hx
    rw [x1, m_if]
theorem w_gm_cp {M M' : Nat → Nat → Int32} {a q L : Nat} {r : Nat → Int32} (hmad : ∀ p, p < 2 → o_mad r p ≤ 60) (h0 : ∀ k, k < 9 → M' q k = M a k)
    (hbd : ∀ p, p < 2 → (∀ s, s < 64 → M' (q + 2 + 7 * p + 1) s = M (a + 2 + 7 * p + 1) s) ∧ (∀ x, 2 ≤ x → x ≤ 5 → ∀ k, k < 61 → M' (q + 2 + 7 * p + x) k = M (a + 2 + 7 * p + x) k) ∧ ∀ k, 6 ≤ k → k ≤ 11 → M' (q + 2 + 7 * p) k = M (a + 2 + 7 * p) k)
    (h16 : ∀ k, k < 4 → M' (q + 16) k = M (a + 16) k) (h17 : ∀ k, k < 8 → M' (q + 17) k = M (a + 17) k) (h18 : ∀ k, k < 48 → M' (q + 18) k = M (a + 18) k) (hl : ∀ x, 19 ≤ x → x ≤ 29 → ∀ l, l < L → M' (q + x) l = M (a + x) l) (hp : ∀ x, 30 ≤ x → x ≤ 35 → ∀ k, k < 64 → M' (q + x) k = M (a + x) k) (h : w_gm M a r L) : w_gm M' q r L := by
  obtain ⟨h1, h2, h3, h4, h5, h6⟩ := h
  refine ⟨fun k hk => (h0 k hk).trans (h1 k hk), fun p hp => ?_, fun s hs => ?_, fun l hl' => ?_, fun k hk => ?_, h6⟩
  · obtain ⟨b1, b2, b3, b4, b5, b6, b7, b8, b9⟩ := h2 p hp
    obtain ⟨c1, c2, c3⟩ := hbd p hp
    have := hmad p hp
    refine ⟨fun s hs => (c1 s hs).trans (b1 s hs), fun k hk => ?_, fun k hk => ?_, (c3 6 (by omega) (by omega)).trans b4, (c3 7 (by omega) (by omega)).trans b5, (c3 8 (by omega) (by omega)).trans b6, (c3 9 (by omega) (by omega)).trans b7, (c3 10 (by omega) (by omega)).trans b8, (c3 11 (by omega) (by omega)).trans b9⟩
    · rw [c2 2 (by omega) (by omega) _ (by omega), c2 3 (by omega) (by omega) _ (by omega)]
      exact b2 k hk
    · rw [c2 4 (by omega) (by omega) _ (by omega), c2 5 (by omega) (by omega) _ (by omega)]
      exact b3 k hk
  · obtain ⟨g1, g2, g3⟩ := h3 s hs
    exact ⟨(h16 s hs).trans g1, fun t ht => (h17 _ (by omega)).trans (g2 t ht), fun t ht => (h18 _ (by omega)).trans (g3 t ht)⟩
  · have hw := h4 l hl'
    unfold w_lt at hw ⊢
    rw [hl 19 (by omega) (by omega) l hl', hl 20 (by omega) (by omega) l hl', hl 21 (by omega) (by omega) l hl', hl 22 (by omega) (by omega) l hl', hl 23 (by omega) (by omega) l hl', hl 24 (by omega) (by omega) l hl', hl 25 (by omega) (by omega) l hl', hl 26 (by omega) (by omega) l hl', hl 27 (by omega) (by omega) l hl', hl 28 (by omega) (by omega) l hl', hl 29 (by omega) (by omega) l hl']
    exact hw
  · have hw := h5 k hk
    unfold w_pr at hw ⊢
    rw [hp 30 (by omega) (by omega) k (by omega), hp 31 (by omega) (by omega) k (by omega), hp 32 (by omega) (by omega) k (by omega), hp 33 (by omega) (by omega) k (by omega), hp 34 (by omega) (by omega) k (by omega), hp 35 (by omega) (by omega) k (by omega)]
    exact hw
theorem w_copy {g : ev_G} {S : ev_S} {a L B : Nat} {r : Nat → Int32} (hL : L ≤ 81) (h4 : r 4 = Int32.ofNat L) (hmad : ∀ p, p < 2 → o_mad r p ≤ 60) (ha : (0, a) ∈ S.2.1) (h : w_gm S.1 a r L) (hb : w_bo S.1 a) {Q : ev_O → ev_S → Prop}
    (hQ : ∀ (q : Nat) (z : ev_S), ev_lw g ((0, q) :: S.2.1) → z.2.1 = (0, q) :: S.2.1 → (∀ x, (x < q ∨ q + 36 ≤ x) → z.1 x = S.1 x) → (∀ x, (x < q ∨ q + 36 ≤ x) → z.2.2 x = S.2.2 x) → w_gm z.1 q r L → w_bo z.1 q → z.1 q 32 = -1 → z.1 q 33 = 0 → (∀ k, k < 11 → z.1 q k = S.1 a k) → Q (.inl (some (ev_o 11 q))) z) : ev_Cv g m_X11_copy 2 (B + 360) [ev_o 11 a] S Q := by
  have e0 : (0 : Int32) = Int32.ofNat 0 := rfl
  have e4 : (4 : Int32) = Int32.ofNat 4 := rfl
  have e8 : (8 : Int32) = Int32.ofNat 8 := rfl
  have e48 : (48 : Int32) = Int32.ofNat 48 := rfl
  have e64 : (64 : Int32) = Int32.ofNat 64 := rfl
  refine sg_X11_copy_0 a ?_
  intro q hw S1 x1 S2 x2 S3 x3 S4 x4 S5 x5 S6 x6 S7 x7 S8 x8 S9 x9 S10 x10 S11 x11 S12 x12
  have hap : a + 36 ≤ q ∨ q + 36 ≤ a := (List.pairwise_cons.mp hw.2).1 (0, a) ha
  have l36 : (ev_tk 0).length = 36 := rfl
  have o1 : ∀ x, (x < q ∨ q + 36 ≤ x) → S1.1 x = S.1 x := fun x hx => by rw [x1]; exact if_neg (by rw [l36]; omega)
  have i1 : ∀ x, x < 36 → S1.1 (q + x) = ct_row ct_t11 x := fun x hx => by
    rw [x1]
    refine (if_pos (by rw [l36]; omega)).trans ?_
    rw [Nat.add_sub_cancel_left]
  have o12 : ∀ x, x ≠ q → S12.1 x = S1.1 x := fun x hx => by rw [x12, m_r hx, x11, m_r hx, x10, m_r hx, x9, m_r hx, x8, m_r hx, x7, m_r hx, x6, m_r hx, x5, m_r hx, x4, m_r hx, x3, m_r hx, x2, m_r hx]
  have p12 : S12.2 = S1.2 := by rw [x12, x11, x10, x9, x8, x7, x6, x5, x4, x3, x2]; rfl
  have hqa : a ≠ q := by omega
  have a1 : S1.1 a = S.1 a := o1 a (by omega)
  have a2 : S2.1 a = S.1 a := by rw [x2, m_r hqa, a1]
  have a3 : S3.1 a = S.1 a := by rw [x3, m_r hqa, a2]
  have a4 : S4.1 a = S.1 a := by rw [x4, m_r hqa, a3]
  have a5 : S5.1 a = S.1 a := by rw [x5, m_r hqa, a4]
  have a6 : S6.1 a = S.1 a := by rw [x6, m_r hqa, a5]
  have a7 : S7.1 a = S.1 a := by rw [x7, m_r hqa, a6]
  have a8 : S8.1 a = S.1 a := by rw [x8, m_r hqa, a7]
  have a9 : S9.1 a = S.1 a := by rw [x9, m_r hqa, a8]
  have a10 : S10.1 a = S.1 a := by rw [x10, m_r hqa, a9]
  have a11 : S11.1 a = S.1 a := by rw [x11, m_r hqa, a10]
  have q12 : ∀ k, k < 11 → S12.1 q k = S.1 a k := fun k hk => by
    have hk' : k = 0 ∨ k = 1 ∨ k = 2 ∨ k = 3 ∨ k = 4 ∨ k = 5 ∨ k = 6 ∨ k = 7 ∨ k = 8 ∨ k = 9 ∨ k = 10 := by omega
    rcases hk' with rfl | rfl | rfl | rfl | rfl | rfl | rfl | rfl | rfl | rfl | rfl
    · rw [x12, m_k (by omega), x11, m_k (by omega), x10, m_k (by omega), x9, m_k (by omega), x8, m_k (by omega), x7, m_k (by omega), x6, m_k (by omega), x5, m_k (by omega), x4, m_k (by omega), x3, m_k (by omega), x2, m_s, a1]
    · rw [x12, m_k (by omega), x11, m_k (by omega), x10, m_k (by omega), x9, m_k (by omega), x8, m_k (by omega), x7, m_k (by omega), x6, m_k (by omega), x5, m_k (by omega), x4, m_k (by omega), x3, m_s, a2]
    · rw [x12, m_k (by omega), x11, m_k (by omega), x10, m_k (by omega), x9, m_k (by omega), x8, m_k (by omega), x7, m_k (by omega), x6, m_k (by omega), x5, m_k (by omega), x4, m_s, a3]
    · rw [x12, m_k (by omega), x11, m_k (by omega), x10, m_k (by omega), x9, m_k (by omega), x8, m_k (by omega), x7, m_k (by omega), x6, m_k (by omega), x5, m_s, a4]
    · rw [x12, m_k (by omega), x11, m_k (by omega), x10, m_k (by omega), x9, m_k (by omega), x8, m_k (by omega), x7, m_k (by omega), x6, m_s, a5]
    · rw [x12, m_k (by omega), x11, m_k (by omega), x10, m_k (by omega), x9, m_k (by omega), x8, m_k (by omega), x7, m_s, a6]
    · rw [x12, m_k (by omega), x11, m_k (by omega), x10, m_k (by omega), x9, m_k (by omega), x8, m_s, a7]
    · rw [x12, m_k (by omega), x11, m_k (by omega), x10, m_k (by omega), x9, m_s, a8]
    · rw [x12, m_k (by omega), x11, m_k (by omega), x10, m_s, a9]
    · rw [x12, m_k (by omega), x11, m_s, a10]
    · rw [x12, m_s, a11]
  have q32 : S12.1 q 32 = -1 := by
    rw [x12, m_k (by omega), x11, m_k (by omega), x10, m_k (by omega), x9, m_k (by omega), x8, m_k (by omega), x7, m_k (by omega), x6, m_k (by omega), x5, m_k (by omega), x4, m_k (by omega), x3, m_k (by omega), x2, m_k (by omega)]
    have := i1 0 (by omega)
    rw [Nat.add_zero] at this
    rw [this]
    rfl
  have q33 : S12.1 q 33 = 0 := by
    rw [x12, m_k (by omega), x11, m_k (by omega), x10, m_k (by omega), x9, m_k (by omega), x8, m_k (by omega), x7, m_k (by omega), x6, m_k (by omega), x5, m_k (by omega), x4, m_k (by omega), x3, m_k (by omega), x2, m_k (by omega)]
    have := i1 0 (by omega)
    rw [Nat.add_zero] at this
    rw [this]
    rfl
  have s12 : ∀ x, (x < q ∨ q + 36 ≤ x) → S12.1 x = S.1 x := fun x hx => by rw [o12 x (by omega), o1 x hx]
  obtain ⟨bo1, bo2, bo3, bo4, bo5⟩ := hb
  refine w_takes (by omega) (by rw [s12 _ (by omega)]; exact bo1) (fun S13 t1 t2 t3 t4 t5 => ⟨rfl, ?_⟩)
  refine w_takes (by omega) (by rw [t2 _ (by omega), s12 _ (by omega)]; exact bo2) (fun S14 u1 u2 u3 u4 u5 => ⟨rfl, ?_⟩)
  have s14 : ∀ x, (x < q ∨ q + 36 ≤ x) → S14.1 x = S.1 x := fun x hx => by rw [u2 x (by omega), t2 x (by omega), s12 x hx]
  have hbd : ∀ p, p < 2 → (∀ s, s < 64 → S14.1 (q + 2 + 7 * p + 1) s = S.1 (a + 2 + 7 * p + 1) s) ∧ (∀ x, 2 ≤ x → x ≤ 5 → ∀ k, k < 61 → S14.1 (q + 2 + 7 * p + x) k = S.1 (a + 2 + 7 * p + x) k) ∧ ∀ k, 6 ≤ k → k ≤ 11 → S14.1 (q + 2 + 7 * p) k = S.1 (a + 2 + 7 * p) k := fun p hp => by
    have : p = 0 ∨ p = 1 := by omega
    rcases this with rfl | rfl
    · refine ⟨fun s hs => ?_, fun x h2 h5 k hk => ?_, fun k h6 h11 => ?_⟩
      · rw [u2 _ (by omega)]
        refine (t3 s hs).trans ?_
        rw [s12 _ (by omega)]
      · rw [u2 _ (by omega)]
        refine (t4 x h2 (by omega) k).trans ?_
        rw [if_pos hk, s12 _ (by omega)]
      · rw [u2 _ (by omega)]
        refine (t5 k h6 h11).trans ?_
        rw [s12 _ (by omega)]
    · refine ⟨fun s hs => ?_, fun x h2 h5 k hk => ?_, fun k h6 h11 => ?_⟩
      · refine (u3 s hs).trans ?_
        rw [t2 _ (by omega), s12 _ (by omega)]
      · refine (u4 x h2 (by omega) k).trans ?_
        rw [if_pos hk, t2 _ (by omega), s12 _ (by omega)]
      · refine (u5 k h6 h11).trans ?_
        rw [t2 _ (by omega), s12 _ (by omega)]
  have z0 : ∀ x, 16 ≤ x → x < 36 → ∀ k, S14.1 (q + x) k = 0 := fun x h1 h2 k => by
    rw [u2 _ (by omega), t2 _ (by omega), o12 _ (by omega), i1 x h2]
    have hx : x = 16 ∨ x = 17 ∨ x = 18 ∨ x = 19 ∨ x = 20 ∨ x = 21 ∨ x = 22 ∨ x = 23 ∨ x = 24 ∨ x = 25 ∨ x = 26 ∨ x = 27 ∨ x = 28 ∨ x = 29 ∨ x = 30 ∨ x = 31 ∨ x = 32 ∨ x = 33 ∨ x = 34 ∨ x = 35 := by omega
    rcases hx with rfl | rfl | rfl | rfl | rfl | rfl | rfl | rfl | rfl | rfl | rfl | rfl | rfl | rfl | rfl | rfl | rfl | rfl | rfl | rfl <;> rfl
  have zb : w_bl (S14.1 (q + 8)) ∧ w_bl (S14.1 (q + 15)) := by
    constructor
    · intro k
      rw [u2 _ (by omega)]
      have e := t4 6 (by omega) (by omega) k
      rw [show q + 2 + 6 = q + 8 by omega, show a + 2 + 6 = a + 8 by omega] at e
      rw [e]
      split
      · rw [s12 _ (by omega)]; exact bo1 k
      · rw [o12 _ (by omega), i1 8 (by omega)]; exact Or.inl rfl
    · intro k
      have e := u4 6 (by omega) (by omega) k
      rw [show q + 9 + 6 = q + 15 by omega, show a + 9 + 6 = a + 15 by omega] at e
      rw [e]
      split
      · rw [t2 _ (by omega), s12 _ (by omega)]; exact bo2 k
      · rw [t2 _ (by omega), o12 _ (by omega), i1 15 (by omega)]; exact Or.inl rfl
  rw [e0]
  -- base days
  refine w_cl (P := fun i T => ev_E g m_X11_copy 2 B 128 [some (ev_o 11 a), some (ev_o 11 q), some (ev_i (Int32.ofNat i))] [] T Q) (d := q) (s := a) (lo := 16) (hi := 16) (n := 4) S14 (by omega) (fun T16 b1 b2 b3 => ?_) (fun i T hi c1 c2 k => ?_)
  rotate_left
  · refine sg_X11_copy_128 a q _ (j_neg (by rw [e4, n_le (by omega) (by omega)]; omega) ⟨(n_vp (by omega) (by omega)).mpr trivial, ?_⟩)
    rw [n_c (by omega), n_inc]
    intro U y1
    refine k U (by rw [y1]; rfl) (fun x hx => by rw [y1, m_r (by omega)]) (fun x h1 h2 k => ?_)
    have hx : x = 16 := by omega
    subst hx
    rw [y1, m_if]
  refine sg_X11_copy_128 a q _ (j_pos (by rw [e4, n_le (by omega) (by omega)]; exact Nat.le_refl _) ?_)
  rw [e0]
  -- stables
  refine w_cl (P := fun i T => ev_E g m_X11_copy 2 B 153 [some (ev_o 11 a), some (ev_o 11 q), some (ev_i (Int32.ofNat i))] [] T Q) (d := q) (s := a) (lo := 17) (hi := 17) (n := 8) T16 (by omega) (fun T17 d1 d2 d3 => ?_) (fun i T hi c1 c2 k => ?_)
  rotate_left
  · refine sg_X11_copy_153 a q _ (j_neg (by rw [e8, n_le (by omega) (by omega)]; omega) ⟨(n_vp (by omega) (by omega)).mpr trivial, ?_⟩)
    rw [n_c (by omega), n_inc]
    intro U y1
    refine k U (by rw [y1]; rfl) (fun x hx => by rw [y1, m_r (by omega)]) (fun x h1 h2 k => ?_)
    have hx : x = 17 := by omega
    subst hx
    rw [y1, m_if]
  refine sg_X11_copy_153 a q _ (j_pos (by rw [e8, n_le (by omega) (by omega)]; exact Nat.le_refl _) ?_)
  rw [e0]
  -- snow
  refine w_cl (P := fun i T => ev_E g m_X11_copy 2 B 179 [some (ev_o 11 a), some (ev_o 11 q), some (ev_i (Int32.ofNat i))] [] T Q) (d := q) (s := a) (lo := 18) (hi := 18) (n := 48) T17 (by omega) (fun T18 f1 f2 f3 => ?_) (fun i T hi c1 c2 k => ?_)
  rotate_left
  · refine sg_X11_copy_179 a q _ (j_neg (by rw [e48, n_le (by omega) (by omega)]; omega) ⟨(n_vp (by omega) (by omega)).mpr trivial, ?_⟩)
    rw [n_c (by omega), n_inc]
    intro U y1
    refine k U (by rw [y1]; rfl) (fun x hx => by rw [y1, m_r (by omega)]) (fun x h1 h2 k => ?_)
    have hx : x = 18 := by omega
    subst hx
    rw [y1, m_if]
  refine sg_X11_copy_179 a q _ (j_pos (by rw [e48, n_le (by omega) (by omega)]; exact Nat.le_refl _) ?_)
  rw [e0]
  have s18 : ∀ x, (x < q ∨ q + 19 ≤ x) → T18.1 x = S14.1 x := fun x hx => by rw [f2 x (by omega), d2 x (by omega), b2 x (by omega)]
  have a18 : T18.1 a 4 = Int32.ofNat L := by rw [s18 a (by omega), s14 a (by omega), h.1 4 (by omega), h4]
  -- letters
  refine w_cl (P := fun i T => ev_E g m_X11_copy 2 B 205 [some (ev_o 11 a), some (ev_o 11 q), some (ev_i (Int32.ofNat i))] [] T Q) (d := q) (s := a) (lo := 19) (hi := 29) (n := L) T18 (by omega) (fun T29 g1 g2 g3 => ?_) (fun i T hi c1 c2 k => ?_)
  rotate_left
  · refine sg_X11_copy_205 a q _ (j_neg (by rw [c2 a (by omega), a18, n_le (by omega) (by omega)]; omega) ⟨(n_vp (by omega) (by omega)).mpr trivial, ?_⟩)
    rw [n_c (by omega), n_inc]
    intro U1 y1 U2 y2 U3 y3 U4 y4 U5 y5 U6 y6 U7 y7 U8 y8 U9 y9 U10 y10
    refine ⟨vp_nb ?_, ?_⟩
    · rw [y10, m_r (by omega), y9, m_r (by omega), y8, m_r (by omega), y7, m_r (by omega), y6, m_r (by omega), y5, m_r (by omega), y4, m_r (by omega), y3, m_r (by omega), y2, m_r (by omega), y1, m_r (by omega), c2 _ (by omega), s18 _ (by omega), s14 _ (by omega)]
      exact bo3 i
    intro U11 y11
    refine k U11 (by rw [y11, y10, y9, y8, y7, y6, y5, y4, y3, y2, y1]; rfl) (fun x hx => by rw [y11, m_r (by omega), y10, m_r (by omega), y9, m_r (by omega), y8, m_r (by omega), y7, m_r (by omega), y6, m_r (by omega), y5, m_r (by omega), y4, m_r (by omega), y3, m_r (by omega), y2, m_r (by omega), y1, m_r (by omega)]) (fun x h1 h2 k => ?_)
    have hx : x = 19 ∨ x = 20 ∨ x = 21 ∨ x = 22 ∨ x = 23 ∨ x = 24 ∨ x = 25 ∨ x = 26 ∨ x = 27 ∨ x = 28 ∨ x = 29 := by omega
    rcases hx with rfl | rfl | rfl | rfl | rfl | rfl | rfl | rfl | rfl | rfl | rfl
    · rw [y11, m_r (by omega), y10, m_r (by omega), y9, m_r (by omega), y8, m_r (by omega), y7, m_r (by omega), y6, m_r (by omega), y5, m_r (by omega), y4, m_r (by omega), y3, m_r (by omega), y2, m_r (by omega), y1, m_if]
    · rw [y11, m_r (by omega), y10, m_r (by omega), y9, m_r (by omega), y8, m_r (by omega), y7, m_r (by omega), y6, m_r (by omega), y5, m_r (by omega), y4, m_r (by omega), y3, m_r (by omega), y2, m_if, y1, m_r (by omega), m_r (by omega)]
    · rw [y11, m_r (by omega), y10, m_r (by omega), y9, m_r (by omega), y8, m_r (by omega), y7, m_r (by omega), y6, m_r (by omega), y5, m_r (by omega), y4, m_r (by omega), y3, m_if, y2, m_r (by omega), m_r (by omega), y1, m_r (by omega), m_r (by omega)]
    · rw [y11, m_r (by omega), y10, m_r (by omega), y9, m_r (by omega), y8, m_r (by omega), y7, m_r (by omega), y6, m_r (by omega), y5, m_r (by omega), y4, m_if, y3, m_r (by omega), m_r (by omega), y2, m_r (by omega), m_r (by omega), y1, m_r (by omega), m_r (by omega)]
    · rw [y11, m_r (by omega), y10, m_r (by omega), y9, m_r (by omega), y8, m_r (by omega), y7, m_r (by omega), y6, m_r (by omega), y5, m_if, y4, m_r (by omega), m_r (by omega), y3, m_r (by omega), m_r (by omega), y2, m_r (by omega), m_r (by omega), y1, m_r (by omega), m_r (by omega)]
    · rw [y11, m_r (by omega), y10, m_r (by omega), y9, m_r (by omega), y8, m_r (by omega), y7, m_r (by omega), y6, m_if, y5, m_r (by omega), m_r (by omega), y4, m_r (by omega), m_r (by omega), y3, m_r (by omega), m_r (by omega), y2, m_r (by omega), m_r (by omega), y1, m_r (by omega), m_r (by omega)]
    · rw [y11, m_r (by omega), y10, m_r (by omega), y9, m_r (by omega), y8, m_r (by omega), y7, m_if, y6, m_r (by omega), m_r (by omega), y5, m_r (by omega), m_r (by omega), y4, m_r (by omega), m_r (by omega), y3, m_r (by omega), m_r (by omega), y2, m_r (by omega), m_r (by omega), y1, m_r (by omega), m_r (by omega)]
    · rw [y11, m_r (by omega), y10, m_r (by omega), y9, m_r (by omega), y8, m_if, y7, m_r (by omega), m_r (by omega), y6, m_r (by omega), m_r (by omega), y5, m_r (by omega), m_r (by omega), y4, m_r (by omega), m_r (by omega), y3, m_r (by omega), m_r (by omega), y2, m_r (by omega), m_r (by omega), y1, m_r (by omega), m_r (by omega)]
    · rw [y11, m_r (by omega), y10, m_r (by omega), y9, m_if, y8, m_r (by omega), m_r (by omega), y7, m_r (by omega), m_r (by omega), y6, m_r (by omega), m_r (by omega), y5, m_r (by omega), m_r (by omega), y4, m_r (by omega), m_r (by omega), y3, m_r (by omega), m_r (by omega), y2, m_r (by omega), m_r (by omega), y1, m_r (by omega), m_r (by omega)]
    · rw [y11, m_r (by omega), y10, m_if, y9, m_r (by omega), m_r (by omega), y8, m_r (by omega), m_r (by omega), y7, m_r (by omega), m_r (by omega), y6, m_r (by omega), m_r (by omega), y5, m_r (by omega), m_r (by omega), y4, m_r (by omega), m_r (by omega), y3, m_r (by omega), m_r (by omega), y2, m_r (by omega), m_r (by omega), y1, m_r (by omega), m_r (by omega)]
    · rw [y11, m_if, y10, m_r (by omega), m_r (by omega), y9, m_r (by omega), m_r (by omega), y8, m_r (by omega), m_r (by omega), y7, m_r (by omega), m_r (by omega), y6, m_r (by omega), m_r (by omega), y5, m_r (by omega), m_r (by omega), y4, m_r (by omega), m_r (by omega), y3, m_r (by omega), m_r (by omega), y2, m_r (by omega), m_r (by omega), y1, m_r (by omega), m_r (by omega)]
  refine sg_X11_copy_205 a q _ (j_pos (by rw [g2 a (by omega), a18, n_le (by omega) (by omega)]; exact Nat.le_refl _) ?_)
  rw [e0]
  have s29 : ∀ x, (x < q ∨ q + 30 ≤ x) → T29.1 x = S14.1 x := fun x hx => by rw [g2 x (by omega), s18 x (by omega)]
  -- promises
  refine w_cl (P := fun i T => ev_E g m_X11_copy 2 B 353 [some (ev_o 11 a), some (ev_o 11 q), some (ev_i (Int32.ofNat i))] [] T Q) (d := q) (s := a) (lo := 30) (hi := 35) (n := 64) T29 (by omega) (fun T35 j1 j2 j3 => ?_) (fun i T hi c1 c2 k => ?_)
  rotate_left
  · refine sg_X11_copy_353 a q _ (j_neg (by rw [e64, n_le (by omega) (by omega)]; omega) ⟨(n_vp (by omega) (by omega)).mpr trivial, ?_⟩)
    rw [n_c (by omega), n_inc]
    refine ⟨vp_nb (by rw [c2 _ (by omega), s29 _ (by omega), s14 _ (by omega)]; exact bo4 i), ?_⟩
    intro U1 y1
    refine ⟨vp_nb (by rw [y1, m_r (by omega), c2 _ (by omega), s29 _ (by omega), s14 _ (by omega)]; exact bo5 i), ?_⟩
    intro U2 y2 U3 y3 U4 y4 U5 y5 U6 y6
    refine k U6 (by rw [y6, y5, y4, y3, y2, y1]; rfl) (fun x hx => by rw [y6, m_r (by omega), y5, m_r (by omega), y4, m_r (by omega), y3, m_r (by omega), y2, m_r (by omega), y1, m_r (by omega)]) (fun x h1 h2 k => ?_)
    have hx : x = 30 ∨ x = 31 ∨ x = 32 ∨ x = 33 ∨ x = 34 ∨ x = 35 := by omega
    rcases hx with rfl | rfl | rfl | rfl | rfl | rfl
    · rw [y6, m_r (by omega), y5, m_r (by omega), y4, m_r (by omega), y3, m_r (by omega), y2, m_r (by omega), y1, m_if]
    · rw [y6, m_r (by omega), y5, m_r (by omega), y4, m_r (by omega), y3, m_r (by omega), y2, m_if, y1, m_r (by omega), m_r (by omega)]
    · rw [y6, m_r (by omega), y5, m_r (by omega), y4, m_r (by omega), y3, m_if, y2, m_r (by omega), m_r (by omega), y1, m_r (by omega), m_r (by omega)]
    · rw [y6, m_r (by omega), y5, m_r (by omega), y4, m_if, y3, m_r (by omega), m_r (by omega), y2, m_r (by omega), m_r (by omega), y1, m_r (by omega), m_r (by omega)]
    · rw [y6, m_r (by omega), y5, m_if, y4, m_r (by omega), m_r (by omega), y3, m_r (by omega), m_r (by omega), y2, m_r (by omega), m_r (by omega), y1, m_r (by omega), m_r (by omega)]
    · rw [y6, m_if, y5, m_r (by omega), m_r (by omega), y4, m_r (by omega), m_r (by omega), y3, m_r (by omega), m_r (by omega), y2, m_r (by omega), m_r (by omega), y1, m_r (by omega), m_r (by omega)]
  refine sg_X11_copy_353 a q _ (j_pos (by rw [e64, n_le (by omega) (by omega)]; exact Nat.le_refl _) ?_)
  have sA : ∀ x, a ≤ x → x < a + 36 → S14.1 x = S.1 x := fun x h1 h2 => s14 x (by omega)
  have p35 : T35.2 = S1.2 := by rw [j1, g1, f1, d1, b1, u1, t1, p12]
  have k16 : ∀ k, k < 4 → T35.1 (q + 16) k = S.1 (a + 16) k := fun k hk => by rw [j2 _ (by omega), g2 _ (by omega), f2 _ (by omega), d2 _ (by omega), b3 16 (by omega) (by omega) k, if_pos hk, sA _ (by omega) (by omega)]
  have k17 : ∀ k, k < 8 → T35.1 (q + 17) k = S.1 (a + 17) k := fun k hk => by rw [j2 _ (by omega), g2 _ (by omega), f2 _ (by omega), d3 17 (by omega) (by omega) k, if_pos hk, b2 _ (by omega), sA _ (by omega) (by omega)]
  have k18 : ∀ k, k < 48 → T35.1 (q + 18) k = S.1 (a + 18) k := fun k hk => by rw [j2 _ (by omega), g2 _ (by omega), f3 18 (by omega) (by omega) k, if_pos hk, d2 _ (by omega), b2 _ (by omega), sA _ (by omega) (by omega)]
  have kl : ∀ x, 19 ≤ x → x ≤ 29 → ∀ k, T35.1 (q + x) k = if k < L then S.1 (a + x) k else 0 := fun x h1 h2 k => by rw [j2 _ (by omega), g3 x h1 h2 k, s18 _ (by omega), s18 _ (by omega), sA _ (by omega) (by omega), z0 x (by omega) (by omega) k]
  have kp : ∀ x, 30 ≤ x → x ≤ 35 → ∀ k, T35.1 (q + x) k = if k < 64 then S.1 (a + x) k else 0 := fun x h1 h2 k => by rw [j3 x h1 h2 k, s29 _ (by omega), s29 _ (by omega), sA _ (by omega) (by omega), z0 x (by omega) (by omega) k]
  have kq : ∀ x, x < q + 16 → T35.1 x = S14.1 x := fun x hx => by rw [j2 _ (by omega), g2 _ (by omega), f2 _ (by omega), d2 _ (by omega), b2 _ (by omega)]
  have kq0 : ∀ k, (k < 11 ∨ k = 32 ∨ k = 33) → T35.1 q k = S12.1 q k := fun k hk => by rw [kq q (by omega), u2 q (by omega), t2 q (by omega)]
  have blk : ∀ x n : Nat, (∀ k, T35.1 (q + x) k = if k < n then S.1 (a + x) k else 0) → w_bl (S.1 (a + x)) → w_bl (T35.1 (q + x)) := fun x n e hx k => by
    rw [e k]
    split
    · exact hx k
    · exact Or.inl rfl
  refine hQ q T35 hw (by rw [p35, x1]; rfl) (fun x hx => ?_) (fun x hx => ?_) ?_ ⟨by rw [kq _ (by omega)]; exact zb.1, by rw [kq _ (by omega)]; exact zb.2, blk 29 L (kl 29 (by omega) (by omega)) bo3, blk 30 64 (kp 30 (by omega) (by omega)) bo4, blk 31 64 (kp 31 (by omega) (by omega)) bo5⟩ (by rw [kq0 32 (by omega)]; exact q32) (by rw [kq0 33 (by omega)]; exact q33) (fun k hk => by rw [kq0 k (by omega), q12 k hk])
  · rw [j2 _ (by omega), g2 _ (by omega), f2 _ (by omega), d2 _ (by omega), b2 _ (by omega), s14 x hx]
  · rw [p35, x1]
    exact if_neg (by rw [l36]; omega)
  · refine w_gm_cp hmad (fun k hk => by rw [kq0 k (by omega), q12 k (by omega)]) (fun p hp => ?_) k16 k17 k18 (fun x h1 h2 l hl => by rw [kl x h1 h2 l, if_pos hl]) (fun x h1 h2 k hk => by rw [kp x h1 h2 k, if_pos hk]) h
    obtain ⟨c1, c2, c3⟩ := hbd p hp
    exact ⟨fun s hs => by rw [kq _ (by omega)]; exact c1 s hs, fun x h2 h5 k hk => by rw [kq _ (by omega)]; exact c2 x h2 h5 k hk, fun k h6 h11 => by rw [kq _ (by omega)]; exact c3 k h6 h11⟩
