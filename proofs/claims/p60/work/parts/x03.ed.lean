/-! ===== a setup: the class's draft while it is read ===== -/
def o_plc (S : ev_S) (b p q : Nat) : ev_S := ev_up (ev_up (ev_up S (b + 1) q (Int32.ofNat p)) (b + 2) p (S.1 (b + 2) p + 1)) b 8 (S.1 b 8 + 1)
theorem b_place {g : ev_G} {S : ev_S} {b p q : Nat} (hp : p < 2) (hq : q < 64) : ev_Fn g m_X0_place 2 [ev_o 0 b, ev_i (Int32.ofNat p), ev_i (Int32.ofNat q)] S none (o_plc S b p q) := by
  intro Q hQ
  refine sg_X0_place_0 b _ _ ?_
  intro S1 e1 S2 e2 S3 e3
  rw [a_put (by omega) (by omega)] at e1
  rw [a_put (by omega) (by omega), a_in (by omega) (by omega)] at e2
  have x2 : S1.1 (b + 2) p = S.1 (b + 2) p := by rw [e1, m_r (by omega)]
  have x8 : S2.1 b 8 = S.1 b 8 := by rw [e2, m_r (by omega), e1, m_r (by omega)]
  rw [e3, x8, e2, x2, e1]
  exact hQ
theorem n_swap (x y : Int32) : x + y + 1 = x + 1 + y := by rw [Int32.add_assoc, Int32.add_comm y 1, ← Int32.add_assoc]
theorem q_board_lay {M M' : Nat → Nat → Int32} {b t N p q : Nat} {r : Nat → Int32} (hp : p < 2) (ht : t < 2) (h8 : N ≤ 8) (hq : q < N * N) (he : r (26 + 64 * t + q) = -1) (h : q_board M b r t N 0)
    (g1 : M' (b + 1) = upd (M (b + 1)) q (Int32.ofNat p)) (g2 : M' (b + 2) = upd (M (b + 2)) p (M (b + 2) p + 1)) (g0 : M' b = upd (M b) 8 (M b 8 + 1)) : q_board M' b (o_lay r p q) t N 0 := by
  have hn9 := sq_le h8
  obtain ⟨a1, a2, a3, a4, a5, a6, a7, a8, a9⟩ := h
  have b0 := o_bish_lay (N := N) (0 : Int32) hp ht h8 hq he (by decide)
  have b1 := o_bish_lay (N := N) (1 : Int32) hp ht h8 hq he (by decide)
  refine ⟨fun s hs => ?_, ?_, ?_, ?_, ?_, ?_, ?_, ?_, fun k hk => absurd hk (by omega)⟩
  · rw [g1]
    by_cases hsq : s = q
    · rw [hsq, u_s, o_lay_sq hp (by omega) ht]
    · rw [u_k hsq, o_lay_at (by omega) (by omega) (by omega)]
      exact a1 s hs
  · rw [g2, b0]
    have : p = 0 ∨ p = 1 := by omega
    rcases this with rfl | rfl
    · rw [u_s, a2, n_inc, if_pos (by rfl)]
    · rw [u_k (by omega), a2, if_neg (by decide)]
      rfl
  · rw [g2, b1]
    have : p = 0 ∨ p = 1 := by omega
    rcases this with rfl | rfl
    · rw [u_k (by omega), a3, if_neg (by decide)]
      rfl
    · rw [u_s, a3, n_inc, if_pos (by rfl)]
  · rw [g0, u_k (by omega), o_lay_at (by omega) (by omega) (by omega)]; exact a4
  · rw [g0, u_k (by omega), o_lay_at (by omega) (by omega) (by omega)]; exact a5
  · rw [g0, u_k (by omega), o_lay_at (by omega) (by omega) (by omega)]; exact a6
  · rw [g0, u_k (by omega), o_lay_at (by omega) (by omega) (by omega)]; exact a7
  · rw [g0, u_s, a8]
    have : p = 0 ∨ p = 1 := by omega
    rcases this with rfl | rfl
    · unfold o_lay
      rw [show 9 + 0 = 9 from rfl, u_s, u_k (show 10 ≠ 9 by omega), u_k (by omega), u_k (by omega)]
      exact n_swap _ _
    · unfold o_lay
      rw [show 9 + 1 = 10 from rfl, u_s, u_k (show 9 ≠ 10 by omega), u_k (by omega), u_k (by omega)]
      exact Int32.add_assoc _ _ _
theorem q_dk_lay {M M' : Nat → Nat → Int32} {e t N p q : Nat} {r : Nat → Int32} (hp : p < 2) (ht : t < 2) (h8 : N ≤ 8) (hq : q < N * N) (hm : r (12 + 7 * t) = 0) (h : q_dk M e r t N) (f : ∀ y, y = e ∨ y = e + 6 ∨ y = e + 7 ∨ y = e + 8 → M' y = M y) (hb : q_board M' (e + 1) (o_lay r p q) t N 0) : q_dk M' e (o_lay r p q) t N := by
  have hn9 := sq_le h8
  have z : ∀ x : Nat → Int32, x (12 + 7 * t) = 0 → o_mad x t = 0 := fun x hx => by unfold o_mad; rw [hx]; rfl
  unfold q_dk at *
  have h0 : o_lay r p q (12 + 7 * t) = 0 := by rw [o_lay_at (by omega) (by omega) (by omega)]; exact hm
  rw [z r hm] at h
  rw [z _ h0]
  obtain ⟨a0, a1, a2, a3, a4, a5, a6, a7, a8, a9⟩ := h
  have fe := f e (Or.inl rfl)
  have el : ∀ j, (11 ≤ j ∧ j < 26) ∨ 154 ≤ j → o_lay r p q j = r j := fun j hj => o_lay_at (by omega) (by omega) (by omega)
  refine ⟨by rw [fe]; exact a0, hb, fun k hk => by rw [f (e + 6) (by omega), el _ (by omega), el _ (by omega)]; exact a2 k hk, fun k hk => ?_, ?_, by rw [fe, el _ (by omega)]; exact a5, by rw [fe, el _ (by omega)]; exact a6, by rw [fe, el _ (by omega)]; exact a7, by rw [fe, el _ (by omega)]; exact a8, by rw [fe, el _ (by omega)]; exact a9⟩
  · have hfl := o_fl_or t k
    rw [f (e + 7) (by omega), f (e + 8) (by omega), el _ (by omega), el _ (by omega), el _ (by omega), el _ (by omega), el _ (by omega)]
    exact a3 k hk
  · rw [fe, a4]
    refine congrArg Int32.ofNat ?_
    exact cnt_congr 60 (fun i hi => by rw [el _ (by omega)])
theorem g_place {g : ev_G} {S : ev_S} {e N lim np p q : Nat} {r : Nat → Int32} (hp : p < 2) (hq : q < N * N) (hi : i_su r N lim np) (he : r (26 + q) = -1) (hg : q_gm S.1 e r N 0 []) {Q : ev_O → ev_S → Prop}
    (hQ : ∀ z, q_fr S z e 36 → q_gm z.1 e (o_lay r p q) N 0 [] → Q (.inl none) z) :
    ev_Cv g m_X0_place 2 0 [ev_o 0 (e + 1 + 1), ev_i (Int32.ofNat p), ev_i (Int32.ofNat q)] S (fun o S5 => o = .inl none ∧ (ev_Cv g m_X0_place 2 0 [ev_o 0 (e + 10 + 1), ev_i (Int32.ofNat p), ev_i (Int32.ofNat q)] S5 (fun o S6 => o = .inl none ∧ (Q (.inl none) S6)))) := by
  have h8 := hi.1.2.1
  have hn9 := sq_le h8
  have hz := hi.2.2.1
  have e1 : r (90 + q) = -1 := by rw [(hi.2.2.2.2.2.2 q (by omega)).1]; exact he
  refine b_place hp (by omega) _ ⟨rfl, b_place hp (by omega) _ ⟨rfl, ?_⟩⟩
  have o1 : ∀ (X : ev_S) (b y : Nat), y ≠ b → y ≠ b + 1 → y ≠ b + 2 → (o_plc X b p q).1 y = X.1 y := fun X b y h0 h1 h2 => by unfold o_plc; rw [m_r h0, m_r h2, m_r h1]
  have w1 : ∀ (X : ev_S) (b : Nat), (o_plc X b p q).1 (b + 1) = upd (X.1 (b + 1)) q (Int32.ofNat p) := fun X b => by unfold o_plc; rw [m_r (by omega), m_r (by omega), m_u, r_s]
  have w2 : ∀ (X : ev_S) (b : Nat), (o_plc X b p q).1 (b + 2) = upd (X.1 (b + 2)) p (X.1 (b + 2) p + 1) := fun X b => by unfold o_plc; rw [m_r (by omega), m_u, r_s, m_r (by omega)]
  have w0 : ∀ (X : ev_S) (b : Nat), (o_plc X b p q).1 b = upd (X.1 b) 8 (X.1 b 8 + 1) := fun X b => by unfold o_plc; rw [m_u, r_s, m_r (by omega), m_r (by omega)]
  have fr : ∀ y, y ≠ e + 2 → y ≠ e + 3 → y ≠ e + 4 → y ≠ e + 11 → y ≠ e + 12 → y ≠ e + 13 → (o_plc (o_plc S (e + 1 + 1) p q) (e + 10 + 1) p q).1 y = S.1 y := fun y h2 h3 h4 h11 h12 h13 => by rw [o1 _ _ _ (by omega) (by omega) (by omega), o1 _ _ _ (by omega) (by omega) (by omega)]
  refine hQ _ ⟨rfl, fun y hy => fr y (by omega) (by omega) (by omega) (by omega) (by omega) (by omega)⟩ ⟨fun t ht => ?_, ?_, fun l hl => absurd hl (by omega), ?_, ?_⟩
  · have hk := hg.1 t ht
    have hm : r (12 + 7 * t) = 0 := hz _ (by omega)
    have hmd : o_mad r t = 0 := by unfold o_mad; rw [hm]; rfl
    have hb : q_board S.1 (e + 1 + 9 * t + 1) r t N 0 := by
      have := hk.2.1
      rw [hmd] at this
      exact this
    have : t = 0 ∨ t = 1 := by omega
    rcases this with rfl | rfl
    · refine q_dk_lay (M := S.1) hp ht h8 hq hm hk (fun y hy => fr y (by omega) (by omega) (by omega) (by omega) (by omega) (by omega)) ?_
      refine q_board_lay (M := S.1) hp ht h8 hq (by rw [show 26 + 64 * 0 + q = 26 + q by omega]; exact he) hb ?_ ?_ ?_
      · rw [o1 _ _ _ (by omega) (by omega) (by omega)]; exact w1 S (e + 1 + 1)
      · rw [o1 _ _ _ (by omega) (by omega) (by omega)]; exact w2 S (e + 1 + 1)
      · rw [o1 _ _ _ (by omega) (by omega) (by omega)]; exact w0 S (e + 1 + 1)
    · refine q_dk_lay (M := S.1) hp ht h8 hq hm hk (fun y hy => fr y (by omega) (by omega) (by omega) (by omega) (by omega) (by omega)) ?_
      have x : ∀ y, (y = e + 11 ∨ y = e + 12 ∨ y = e + 13) → (o_plc S (e + 1 + 1) p q).1 y = S.1 y := fun y hy => o1 _ _ _ (by omega) (by omega) (by omega)
      refine q_board_lay (M := S.1) hp ht h8 hq (by rw [show 26 + 64 * 1 + q = 90 + q by omega]; exact e1) hb ?_ ?_ ?_
      · have := w1 (o_plc S (e + 1 + 1) p q) (e + 10 + 1)
        rw [x _ (by omega)] at this
        exact this
      · have := w2 (o_plc S (e + 1 + 1) p q) (e + 10 + 1)
        rw [x _ (by omega)] at this
        exact this
      · have := w0 (o_plc S (e + 1 + 1) p q) (e + 10 + 1)
        rw [x _ (by omega)] at this
        exact this
  · have el : ∀ j, j < 9 ∨ (11 ≤ j ∧ j < 26) ∨ 154 ≤ j → o_lay r p q j = r j := fun j hj => o_lay_at (by omega) (by omega) (by omega)
    refine q_pst_frame (M := S.1) (fun y h1 h2 => fr y (by omega) (by omega) (by omega) (by omega) (by omega) (by omega)) ?_
    obtain ⟨⟨⟨a1, a2, a3, a4, a5⟩, c, w⟩, h2, h3⟩ := hg.2.1
    refine ⟨⟨⟨by rw [el _ (by omega)]; exact a1, by rw [el _ (by omega)]; exact a2, by rw [el _ (by omega)]; exact a3, by rw [el _ (by omega)]; exact a4, by rw [el _ (by omega)]; exact a5⟩, fun x hx => ?_, fun l hl => absurd hl (by omega)⟩, h2, h3⟩
    obtain ⟨c1, c2, c3, c4⟩ := c x hx
    exact ⟨by rw [el _ (by omega)]; exact c1, fun s hs => by rw [el _ (by omega)]; exact c2 s hs, fun s hs => by rw [el _ (by omega)]; exact c3 s hs, fun s hs => c4 s hs⟩
  · rw [fr e (by omega) (by omega) (by omega) (by omega) (by omega) (by omega), o_lay_at (by omega) (by omega) (by omega)]
    exact hg.2.2.2.1
  · rw [fr e (by omega) (by omega) (by omega) (by omega) (by omega) (by omega), o_lay_at (by omega) (by omega) (by omega)]
    exact hg.2.2.2.2
theorem g_open {g : ev_G} {S : ev_S} {e N lim np : Nat} {v0 v1 v2 : Int32} {r : Nat → Int32} (hnp : np < 4) (hi : i_su r N lim np) (hg : q_gm S.1 e r N 0 []) {Q : ev_O → ev_S → Prop}
    (hQ : ∀ z, q_fr S z e 36 → q_gm z.1 e (o_open r np v0 v1 v2) N 0 [] → Q (.inl none) z) : ev_Cv g m_X5_open 2 0 [ev_o 5 (e + 20), ev_i v0, ev_i v1, ev_i v2] S Q := by
  have h8 := hi.1.2.1
  have hIG := (i_su_IG hi).1
  have e3 : S.1 (e + 20) 3 = Int32.ofNat np := (q_gm_sz hIG hg).2.1
  obtain ⟨f0, f1, f2, f11, f3⟩ := o_open_f (r := r) (np := np) (v0 := v0) (v1 := v1) (v2 := v2)
  have el : ∀ j, (j < 1140 + 15 * np ∨ 1140 + 15 * np + 2 < j) → j ≠ 11 → j ≠ 3 → o_open r np v0 v1 v2 j = r j := fun j h h1 h3 => o_open_at h h1 h3
  refine sg_X5_open_0 (e + 20) _ _ _ ?_
  intro S1 d1 S2 d2 S3 d3 S4 d4 S5 d5
  rw [e3, a_put (by omega) (by omega)] at d1
  have x13 : S1.1 (e + 20) 3 = Int32.ofNat np := by rw [d1, m_r (by omega)]; exact e3
  have em : Int32.ofNat np * 2 = Int32.ofNat (np * 2) := rm_2 np
  have em1 : Int32.ofNat (np * 2) + 1 = Int32.ofNat (np * 2 + 1) := n_inc _
  rw [x13, em, a_put (by omega) (by omega)] at d2
  have x23 : S2.1 (e + 20) 3 = Int32.ofNat np := by rw [d2, m_r (by omega)]; exact x13
  rw [x23, em, em1, a_put (by omega) (by omega)] at d3
  have x33 : S3.1 (e + 20) 3 = Int32.ofNat np := by rw [d3, m_r (by omega)]; exact x23
  have x34 : S3.1 (e + 20) 4 = S.1 (e + 20) 4 := by rw [d3, m_r (by omega), d2, m_r (by omega), d1, m_r (by omega)]
  rw [x34] at d4
  rw [x33, n_inc] at d5
  have fr : ∀ y, y ≠ e + 20 → y ≠ e + 21 → y ≠ e + 23 → S5.1 y = S.1 y := fun y h0 h1 h3 => by rw [d5, m_r h0, d4, m_r h0, d3, m_r (by omega), d2, m_r (by omega), d1, m_r (by omega)]
  have r21 : S5.1 (e + 21) = upd (S.1 (e + 21)) np v0 := by rw [d5, m_r (by omega), d4, m_r (by omega), d3, m_r (by omega), d2, m_r (by omega), d1, m_u, show e + 20 + 1 = e + 21 from rfl, r_s]
  have r23 : S5.1 (e + 23) = upd (upd (S.1 (e + 23)) (np * 2) v1) (np * 2 + 1) v2 := by
    rw [d5, m_r (by omega), d4, m_r (by omega), d3, m_u, show e + 20 + 3 = e + 23 from rfl, r_s, d2, m_u, show e + 20 + 3 = e + 23 from rfl, r_s, d1, m_r (by omega)]
  have dk : ∀ p, p < 2 → o_mad r p ≤ 60 := fun p hp => by have := n_mad (i_dk_of hIG.1 hp); omega
  refine hQ S5 ⟨by rw [d5, d4, d3, d2, d1]; rfl, fun y hy => fr y (by omega) (by omega) (by omega)⟩ ⟨fun p hp => ?_, ⟨⟨⟨?_, ?_, ?_, ?_, ?_⟩, fun q hq => ?_, fun l hl => absurd hl (by omega)⟩, trivial, ?_⟩, fun l hl => absurd hl (by omega), ?_, ?_⟩
  · exact q_dk_frame (M := S.1) (fun y h1 h2 => fr y (by omega) (by omega) (by omega)) (q_dk_same h8 (dk p hp) hp (fun j hj => el j (by omega) (by omega) (by omega)) (hg.1 p hp))
  · rw [f3]
    show S5.1 (e + 20) 3 = _
    rw [d5, m_s]
  · rw [f11, ← hg.2.1.1.1.2.1]
    show S5.1 (e + 20) 4 = S.1 (e + 20) 4 + _
    rw [d5, m_k (by omega), d4, m_s]
  · rw [fr _ (by omega) (by omega) (by omega), el _ (by omega) (by omega) (by omega)]; exact hg.2.1.1.1.2.2.1
  · rw [fr _ (by omega) (by omega) (by omega), el _ (by omega) (by omega) (by omega)]; exact hg.2.1.1.1.2.2.2.1
  · rw [fr _ (by omega) (by omega) (by omega), el _ (by omega) (by omega) (by omega)]; exact hg.2.1.1.1.2.2.2.2
  · obtain ⟨c1, c2, c3, c4⟩ := hg.2.1.1.2.1 q hq
    refine ⟨?_, fun s hs => ?_, fun t ht => ?_, fun s hs => ?_⟩
    · show S5.1 (e + 21) q = _
      rw [r21]
      by_cases hqn : q = np
      · rw [hqn, u_s, f0]
      · rw [u_k hqn, el _ (by omega) (by omega) (by omega)]; exact c1
    · show S5.1 (e + 23) (q * 2 + s) = _
      rw [r23]
      by_cases hqn : q = np
      · subst hqn
        have : s = 0 ∨ s = 1 := by omega
        rcases this with rfl | rfl
        · rw [u_k (by omega), show q * 2 + 0 = q * 2 from rfl, u_s]
          exact f1.symm
        · rw [u_s]
          exact f2.symm
      · rw [u_k (by omega), u_k (by omega), el _ (by omega) (by omega) (by omega)]; exact c2 s hs
    · rw [fr _ (by omega) (by omega) (by omega), el _ (by omega) (by omega) (by omega)]; exact c3 t ht
    · rw [fr _ (by omega) (by omega) (by omega)]; exact c4 s hs
  · rw [fr _ (by omega) (by omega) (by omega)]; exact hg.2.1.2.2
  · rw [fr _ (by omega) (by omega) (by omega), el _ (by omega) (by omega) (by omega)]; exact hg.2.2.2.1
  · rw [fr _ (by omega) (by omega) (by omega), el _ (by omega) (by omega) (by omega)]; exact hg.2.2.2.2
