/-! ===== a setup: the class, whole ===== -/
theorem n_np {r : Nat → Int32} {N lim np : Nat} (h : i_su r N lim np) : o_np r = np := by
  unfold o_np
  rw [h.2.1.2.2, n_c (by have := h.1.2.2.2; omega)]
theorem x_rpass {g : ev_G} {S0 S : ev_S} {b n s N lim np : Nat} {T r : Nat → Int32} (hn : n ≤ 800) (hs : s ≤ n) (hnp : np < 4) (h : q_tk S.1 (b + 1) n T s) (hi : i_su r N lim np) (hg : q_gm S.1 (b + 52) r N 0 []) (ht : q_ts S0 S b) {Q : ev_O → ev_S → Prop}
    (q1 : ∀ c p, p_pass T n r s = .inl (c, p) → ∀ z, q_err S0 z b c p → Q (.inl none) z)
    (q2 : ∀ r' s', p_pass T n r s = .inr (r', s') → s ≤ s' → s' ≤ n → i_su r' N lim (np + 1) → ∀ z, q_ts S0 z b → q_tk z.1 (b + 1) n T s' → q_gm z.1 (b + 52) r' N 0 [] → Q (.inl none) z) :
    ev_Cv g m_X9_readPass 5 0 [ev_o 9 b] S Q := by
  unfold p_pass at q1 q2
  rw [n_np hi] at q1 q2
  refine sg_X9_readPass_0 b ?_
  refine t_num hn hs h (fun c p hp z z1 z2 => ⟨_, rfl, ?_⟩) (fun v1 s1 hp l1 l2 l3 l4 z z1 z2 z6 => ⟨_, rfl, ?_⟩)
  · have he := q_err_1 (n := n) (s := s) ht z1 z2 hg
    have h7 := q_err_7 he
    rw [hp] at q1
    exact t_num_e h7 ⟨_, rfl, t_num_e h7 ⟨_, rfl, t_expS_e h7 ⟨rfl, j_neg h7 (q1 c p rfl z he)⟩⟩⟩
  rw [hp] at q1 q2
  simp only [p_bd] at q1 q2
  have t1 := q_ts_1 ht z1
  have g1 : q_gm z.1 (b + 52) r N 0 [] := q_gm_frame (M := S.1) (fun q h1 h2 => z1.2 q (by omega)) hg
  refine t_num hn l4 z2 (fun c p hp2 y y1 y2 => ⟨_, rfl, ?_⟩) (fun v2 s2 hp2 k1 k2 k3 k4 y y1 y2 y6 => ⟨_, rfl, ?_⟩)
  · have he := q_err_1 (n := n) (s := s) t1 y1 y2 g1
    have h7 := q_err_7 he
    rw [hp2] at q1
    exact t_num_e h7 ⟨_, rfl, t_expS_e h7 ⟨rfl, j_neg h7 (q1 c p rfl y he)⟩⟩
  rw [hp2] at q1 q2
  dsimp only at q1 q2
  have t2 := q_ts_1 t1 y1
  have g2 : q_gm y.1 (b + 52) r N 0 [] := q_gm_frame (M := z.1) (fun q h1 h2 => y1.2 q (by omega)) g1
  refine t_num hn k4 y2 (fun c p hp3 x x1 x2 => ⟨_, rfl, ?_⟩) (fun v3 s3 hp3 m1 m2 m3 m4 x x1 x2 x6 => ⟨_, rfl, ?_⟩)
  · have he := q_err_1 (n := n) (s := s) t2 x1 x2 g2
    have h7 := q_err_7 he
    rw [hp3] at q1
    exact t_expS_e h7 ⟨rfl, j_neg h7 (q1 c p rfl x he)⟩
  rw [hp3] at q1 q2
  dsimp only at q1 q2
  have t3 := q_ts_1 t2 x1
  have g3 : q_gm x.1 (b + 52) r N 0 [] := q_gm_frame (M := y.1) (fun q h1 h2 => x1.2 q (by omega)) g2
  refine t_expS hn m4 x2 (fun c10 w w1 w2 => ⟨rfl, ?_⟩) (fun c10 w3 w4 w w1 w2 => ⟨rfl, ?_⟩)
  · have he := q_err_1 (n := n) (s := s) t3 w1 w2 g3
    rw [p_sgn, if_neg c10] at q1
    exact j_neg (q_err_7 he) (q1 _ _ rfl w he)
  · rw [p_sgn, if_pos c10] at q2
    have t4 := q_ts_1 t3 w1
    have g4 : q_gm w.1 (b + 52) r N 0 [] := q_gm_frame (M := x.1) (fun q h1 h2 => w1.2 q (by omega)) g3
    refine j_pos w2.2.2.1 ?_
    refine g_open (e := b + 52) hnp hi g4 (fun v v1 v2 => ⟨rfl, ?_⟩)
    exact q2 _ _ rfl (by omega) w4 (i_su_open hnp l1 l2 hi) v (q_ts_fr t4 v1) (q_tk_frame w2 (v1.2 _ (by omega)) (v1.2 _ (by omega))) v2
theorem x_rpass_e {g : ev_G} {S : ev_S} {b : Nat} (h7 : ¬ S.1 (b + 1) 7 = 0) {Q : ev_O → ev_S → Prop} (hQ : Q (.inl none) S) : ev_Cv g m_X9_readPass 5 0 [ev_o 9 b] S Q :=
  sg_X9_readPass_0 b (t_num_e h7 ⟨_, rfl, t_num_e h7 ⟨_, rfl, t_num_e h7 ⟨_, rfl, t_expS_e h7 ⟨rfl, j_neg h7 hQ⟩⟩⟩⟩)
theorem x_rsnow {g : ev_G} {S0 S : ev_S} {b n s N lim np : Nat} {T r : Nat → Int32} (hn : n ≤ 800) (hs : s ≤ n) (hnp : 1 ≤ np) (h : q_tk S.1 (b + 1) n T s) (hi : i_su r N lim np) (hg : q_gm S.1 (b + 52) r N 0 []) (ht : q_ts S0 S b) {Q : ev_O → ev_S → Prop}
    (q1 : ∀ c p, p_snow T n r s = .inl (c, p) → ∀ z, q_err S0 z b c p → Q (.inl none) z)
    (q2 : ∀ r' s', p_snow T n r s = .inr (r', s') → s ≤ s' → s' ≤ n → i_su r' N lim np → ∀ z, q_ts S0 z b → q_tk z.1 (b + 1) n T s' → q_gm z.1 (b + 52) r' N 0 [] → Q (.inl none) z) :
    ev_Cv g m_X9_readSnow 5 0 [ev_o 9 b] S Q := by
  have hnp4 := hi.1.2.2.2
  have e12 : (11 : Int32) = Int32.ofNat 12 - 1 := by decide
  unfold p_snow at q1 q2
  rw [n_np hi] at q1 q2
  have hIG := (i_su_IG hi).1
  have e3 : S.1 (b + 72) 3 = Int32.ofNat np := (q_gm_sz hIG hg).2.1
  refine sg_X9_readSnow_0 b ?_
  rw [e3]
  refine t_num hn hs h (fun c p hp z z1 z2 => ⟨_, rfl, ?_⟩) (fun v1 s1 hp l1 l2 l3 l4 z z1 z2 z6 => ⟨_, rfl, ?_⟩)
  · have he := q_err_1 (n := n) (s := s) ht z1 z2 hg
    have h7 := q_err_7 he
    rw [hp] at q1
    exact t_num_e h7 ⟨_, rfl, t_num_e h7 ⟨_, rfl, t_expS_e h7 ⟨rfl, j_neg h7 (q1 c p rfl z he)⟩⟩⟩
  rw [hp] at q1 q2
  simp only [p_bd] at q1 q2
  have t1 := q_ts_1 ht z1
  have g1 : q_gm z.1 (b + 52) r N 0 [] := q_gm_frame (M := S.1) (fun q h1 h2 => z1.2 q (by omega)) hg
  refine t_num hn l4 z2 (fun c p hp2 y y1 y2 => ⟨_, rfl, ?_⟩) (fun v2 s2 hp2 k1 k2 k3 k4 y y1 y2 y6 => ⟨_, rfl, ?_⟩)
  · have he := q_err_1 (n := n) (s := s) t1 y1 y2 g1
    have h7 := q_err_7 he
    rw [hp2] at q1
    exact t_num_e h7 ⟨_, rfl, t_expS_e h7 ⟨rfl, j_neg h7 (q1 c p rfl y he)⟩⟩
  rw [hp2] at q1 q2
  dsimp only at q1 q2
  have t2 := q_ts_1 t1 y1
  have g2 : q_gm y.1 (b + 52) r N 0 [] := q_gm_frame (M := z.1) (fun q h1 h2 => y1.2 q (by omega)) g1
  refine t_num hn k4 y2 (fun c p hp3 x x1 x2 => ⟨_, rfl, ?_⟩) (fun v3 s3 hp3 m1 m2 m3 m4 x x1 x2 x6 => ⟨_, rfl, ?_⟩)
  · have he := q_err_1 (n := n) (s := s) t2 x1 x2 g2
    have h7 := q_err_7 he
    rw [hp3] at q1
    exact t_expS_e h7 ⟨rfl, j_neg h7 (q1 c p rfl x he)⟩
  rw [hp3] at q1 q2
  dsimp only at q1 q2
  have t3 := q_ts_1 t2 x1
  have g3 : q_gm x.1 (b + 52) r N 0 [] := q_gm_frame (M := y.1) (fun q h1 h2 => x1.2 q (by omega)) g2
  obtain ⟨q, hq, hq2⟩ := n_lom (k := np) hnp (by omega) l1 l2
  obtain ⟨t, ht, ht2⟩ := n_lom (k := 12) (by omega) (by omega) k1 (by rw [← e12]; exact k2)
  rw [show v1.toNatClampNeg = q by rw [hq, n_c (by omega)], show v2.toNatClampNeg = t by rw [ht, n_c (by omega)]] at q2
  refine t_expS hn m4 x2 (fun c10 w w1 w2 => ⟨rfl, ?_⟩) (fun c10 w3 w4 w w1 w2 => ⟨rfl, ?_⟩)
  · have he := q_err_1 (n := n) (s := s) t3 w1 w2 g3
    rw [p_sgn, if_neg c10] at q1
    exact j_neg (q_err_7 he) (q1 _ _ rfl w he)
  · rw [p_sgn, if_pos c10] at q2
    have t4 := q_ts_1 t3 w1
    have g4 : q_gm w.1 (b + 52) r N 0 [] := q_gm_frame (M := x.1) (fun q h1 h2 => w1.2 q (by omega)) g3
    refine j_pos w2.2.2.1 (fun v e => ?_)
    rw [hq, ht, n_ln12 (by omega) ht2, a_put (by omega) (by omega)] at e
    have gv := q_gm_snow (S := w) (e := b + 52) hIG hq2 ht2 g4 e
    have fv : q_fr w v (b + 52) 36 := ⟨by rw [e]; rfl, fun y hy => by rw [e, m_r (by omega)]⟩
    exact q2 _ _ rfl (by omega) w4 (i_su_snow hq2 ht2 ⟨m1, m2⟩ hi) v (q_ts_fr t4 fv) (q_tk_frame w2 (fv.2 _ (by omega)) (fv.2 _ (by omega))) gv
theorem x_w_lt {T : Nat → Int32} {n s k : Nat} (hs : s ≤ n) (h : x_w T n s k = true) : s < x_E T n s := by
  obtain ⟨h1, -⟩ := x_w_1 h
  have hb := x_B_le (T := T) hs
  unfold x_K x_Kb at h1
  unfold x_E x_Eb
  by_cases c1 : n ≤ x_B T n s
  · rw [if_pos c1] at h1; exact absurd h1 (by decide)
  · rw [if_neg c1] at h1 ⊢
    by_cases c2 : t_X8_isLetter (T (x_B T n s)) = true
    · rw [if_pos c2]
      have := x_rn_t (P := x_lt T n) (n := n) (s := x_B T n s) (by omega) (by unfold x_lt; rw [x_and]; exact ⟨by omega, c2⟩)
      rw [this]
      have := (x_rn_ge (P := x_lt T n) (n - (x_B T n s + 1)) (x_B T n s + 1)).1
      omega
    · rw [if_neg c2] at h1
      by_cases c3 : t_X8_isDigit (T (x_B T n s)) = true
      · rw [if_pos c3] at h1; exact absurd h1 (by decide)
      · rw [if_neg c3] at h1
        split at h1 <;> exact absurd h1 (by decide)
theorem x_w_n {T : Nat → Int32} {n s k : Nat} (hs : n ≤ s) (hs2 : s ≤ n) : ¬ x_w T n s k = true := fun h => by
  have h1 := x_w_lt hs2 h
  have h2 := (x_E_le (T := T) hs2).2
  omega
