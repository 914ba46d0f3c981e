/-! ===== a setup: the class reads it ===== -/
def s_ok (S0 : ev_S) (b : Nat) (res : (Int32 × Nat) ⊕ (Nat → Int32)) (Q : ev_O → ev_S → Prop) : Prop :=
  (∀ c p, res = .inl (c, p) → ∀ z, q_err S0 z b c p → Q (.inl none) z) ∧
  ∀ r, res = .inr r → ∀ N lim np, i_su r N lim np → 1 ≤ np → ∀ z, q_ts S0 z b → z.1 (b + 1) 7 = 0 → z.1 (b + 1) 8 = -1 → q_gm z.1 (b + 52) r N 0 [] → Q (.inl none) z
theorem rs171_e {g : ev_G} {S : ev_S} {b : Nat} (h7 : ¬ S.1 (b + 1) 7 = 0) (u : Int32) {Q : ev_O → ev_S → Prop} (hQ : Q (.inl none) S) : ev_E g m_X9_readSetup 7 0 171 [some (ev_o 9 b), none, none, some (ev_i u)] [] S Q :=
  sg_X9_readSetup_171 b u ⟨fun _ => t_expE_e h7 ⟨rfl, hQ⟩, fun _ => t_skipW_e h7 ⟨false, rfl, fun h => absurd h (by decide), fun _ => t_expE_e h7 ⟨rfl, hQ⟩⟩⟩
theorem rs106_e {g : ev_G} {S : ev_S} {b : Nat} (h7 : ¬ S.1 (b + 1) 7 = 0) (u : Int32) {Q : ev_O → ev_S → Prop} (hQ : Q (.inl none) S) : ev_E g m_X9_readSetup 7 0 106 [some (ev_o 9 b), none, none, some (ev_i u)] [] S Q :=
  sg_X9_readSetup_106 b u ⟨fun _ => rs171_e h7 0 hQ, fun _ => t_isW_e h7 _ ⟨false, rfl, fun h => absurd h (by decide), fun _ => rs171_e h7 0 hQ⟩⟩
theorem rs59_e {g : ev_G} {S : ev_S} {b : Nat} (h7 : ¬ S.1 (b + 1) 7 = 0) (v u : Int32) {Q : ev_O → ev_S → Prop} (hQ : Q (.inl none) S) : ev_E g m_X9_readSetup 7 0 59 [some (ev_o 9 b), some (ev_i v), none, some (ev_i u)] [] S Q :=
  sg_X9_readSetup_59 b v u ⟨fun _ => t_expW_e h7 ⟨rfl, x_rpass_e h7 ⟨rfl, rs106_e h7 0 hQ⟩⟩, fun _ => t_skipW_e h7 ⟨false, rfl, fun h => absurd h (by decide), fun _ => t_expW_e h7 ⟨rfl, x_rpass_e h7 ⟨rfl, rs106_e h7 0 hQ⟩⟩⟩⟩
def p_b2 (T : Nat → Int32) (n : Nat) (w : (Nat → Int32) × Nat) : (Int32 × Nat) ⊕ (Nat → Int32) := p_end T n w.1 w.2
def p_b1 (T : Nat → Int32) (n : Nat) (z : (Nat → Int32) × Nat) : (Int32 × Nat) ⊕ (Nat → Int32) := p_bd (p_snows T n 801 z.1 z.2) (p_b2 T n)
def p_b0 (T : Nat → Int32) (n : Nat) (x : (Nat → Int32) × Nat) : (Int32 × Nat) ⊕ (Nat → Int32) := p_bd (p_wrd T n x.2 3) (fun s5 => p_bd (p_pass T n x.1 s5) (fun y => p_bd (p_passs T n 801 y.1 y.2) (p_b1 T n)))
theorem p_body_eq {T : Nat → Int32} {n N s : Nat} {r : Nat → Int32} : p_body T n N r s = p_bd (p_bishs T n N 801 r s) (p_b0 T n) := rfl
section Body
variable {g : ev_G} {S0 : ev_S} {b n N lim : Nat} {T : Nat → Int32} {Q : ev_O → ev_S → Prop}
theorem rs_end {S : ev_S} {s np : Nat} {r : Nat → Int32} (h : q_tk S.1 (b + 1) n T s) (hi : i_su r N lim np) (hnp : 1 ≤ np) (hg : q_gm S.1 (b + 52) r N 0 []) (ht : q_ts S0 S b) (hq : s_ok S0 b (p_end T n r s) Q) : ev_Cv g m_X8_expectEnd 2 0 [ev_o 8 (b + 1)] S (fun o S1 => o = .inl none ∧ (Q (.inl none) S1)) := by
  refine t_expE h (fun c z z1 z2 => ⟨rfl, ?_⟩) (fun c => ⟨rfl, ?_⟩)
  · rw [p_end, if_neg c] at hq
    exact hq.1 _ _ rfl z (q_err_1 (n := n) (s := s) ht z1 z2 hg)
  · rw [p_end, if_pos c] at hq
    exact hq.2 _ rfl N lim np hi hnp S ht h.2.2.1 h.2.2.2.1 hg
theorem rs171 (hn : n ≤ 800) : ∀ (k i : Nat) (r : Nat → Int32) (s np : Nat) (S : ev_S), i + k = 801 → i ≤ s → s ≤ n → q_tk S.1 (b + 1) n T s → i_su r N lim np → 1 ≤ np → q_gm S.1 (b + 52) r N 0 [] → q_ts S0 S b → s_ok S0 b (p_bd (p_snows T n k r s) (p_b2 T n)) Q →
    ev_E g m_X9_readSetup 7 0 171 [some (ev_o 9 b), none, none, some (ev_i (Int32.ofNat i))] [] S Q := by
  have e8 : (800 : Int32) = Int32.ofNat 800 := rfl
  intro k
  induction k with
  | zero => intro i r s np S hi h1 h2; omega
  | succ k ih =>
    intro i r s np S hik his hs h hi hnp hg ht hq
    refine sg_X9_readSetup_171 b _ ⟨fun c => ?_, fun c => ?_⟩
    · rw [e8, n_le (by omega) (by omega)] at c
      rw [p_snows, if_neg (x_w_n (by omega) hs)] at hq
      exact rs_end h hi hnp hg ht hq
    · rw [e8, n_le (by omega) (by omega)] at c
      refine t_skipW hn hs (by omega) h (fun hw => ⟨false, rfl, fun h => absurd h (by decide), fun _ => ?_⟩) (fun hw w1 w2 z z1 z2 => ⟨true, rfl, fun _ => ?_, fun h => absurd rfl h⟩)
      · rw [p_snows, if_neg hw] at hq
        exact rs_end h hi hnp hg ht hq
      · have hlt := x_w_lt hs hw
        rw [p_snows, if_pos hw] at hq
        have t1 := q_ts_1 ht z1
        have g1 : q_gm z.1 (b + 52) r N 0 [] := q_gm_frame (M := S.1) (fun q h1 h2 => z1.2 q (by omega)) hg
        refine x_rsnow (S0 := S0) hn w2 hnp z2 hi g1 t1 (fun c p hp y y1 => ⟨rfl, ?_⟩) (fun r' s' hp k1 k2 k3 y y1 y2 y3 => ⟨rfl, ?_⟩)
        · rw [hp] at hq
          simp only [p_bd] at hq
          exact rs171_e (q_err_7 y1) _ (hq.1 c p rfl y y1)
        · rw [hp] at hq
          simp only [p_bd] at hq
          rw [n_inc]
          exact ih (i + 1) r' s' np y (by omega) (by omega) k2 y2 k3 hnp y3 y1 hq
theorem rs106 (hn : n ≤ 800) : ∀ (k i : Nat) (r : Nat → Int32) (s np : Nat) (S : ev_S), i + k = 801 → i ≤ s → s ≤ n → q_tk S.1 (b + 1) n T s → i_su r N lim np → 1 ≤ np → q_gm S.1 (b + 52) r N 0 [] → q_ts S0 S b → s_ok S0 b (p_bd (p_passs T n k r s) (p_b1 T n)) Q →
    ev_E g m_X9_readSetup 7 0 106 [some (ev_o 9 b), none, none, some (ev_i (Int32.ofNat i))] [] S Q := by
  have e8 : (800 : Int32) = Int32.ofNat 800 := rfl
  have e4 : (4 : Int32) = Int32.ofNat 4 := rfl
  have e0 : (0 : Int32) = Int32.ofNat 0 := rfl
  intro k
  induction k with
  | zero => intro i r s np S hi h1 h2; omega
  | succ k ih =>
    intro i r s np S hik his hs h hi hnp hg ht hq
    have hnp4 := hi.1.2.2.2
    have stop : ¬ x_w T n s 3 = true → ev_E g m_X9_readSetup 7 0 171 [some (ev_o 9 b), none, none, some (ev_i 0)] [] S Q := by
      intro hw
      rw [p_passs, if_neg hw] at hq
      simp only [p_bd] at hq
      rw [e0]
      exact rs171 hn 801 0 r s np S rfl (Nat.zero_le _) hs h hi hnp hg ht hq
    refine sg_X9_readSetup_106 b _ ⟨fun c => ?_, fun c => ?_⟩
    · rw [e8, n_le (by omega) (by omega)] at c
      exact stop (x_w_n (by omega) hs)
    · rw [e8, n_le (by omega) (by omega)] at c
      refine t_isW hn hs (by omega) h _ ⟨x_w T n s 3, rfl, fun hw => ?_, stop⟩
      have hlt := x_w_lt hs hw
      have e3 : S.1 (b + 72) 3 = Int32.ofNat np := (q_gm_sz (i_su_IG hi).1 hg).2.1
      rw [p_passs, if_pos hw, n_np hi] at hq
      rw [e3, e4, n_lt (by omega) (by omega)]
      refine ⟨fun c4 => ?_, fun c4 => ?_⟩
      · rw [if_pos c4] at hq
        refine t_skipW hn hs (by omega) h (fun hw' => absurd hw hw') (fun _ w1 w2 z z1 z2 => ⟨true, rfl, ?_⟩)
        have t1 := q_ts_1 ht z1
        have g1 : q_gm z.1 (b + 52) r N 0 [] := q_gm_frame (M := S.1) (fun q h1 h2 => z1.2 q (by omega)) hg
        refine x_rpass (S0 := S0) hn w2 c4 z2 hi g1 t1 (fun c p hp y y1 => ⟨rfl, ?_⟩) (fun r' s' hp k1 k2 k3 y y1 y2 y3 => ⟨rfl, ?_⟩)
        · rw [hp] at hq
          simp only [p_bd] at hq
          exact rs106_e (q_err_7 y1) _ (hq.1 c p rfl y y1)
        · rw [hp] at hq
          simp only [p_bd] at hq
          rw [n_inc]
          exact ih (i + 1) r' s' (np + 1) y (by omega) (by omega) k2 y2 k3 (by omega) y3 y1 hq
      · rw [if_neg c4] at hq
        simp only [p_bd] at hq
        refine t_fail (by decide) h (fun z z1 z2 => ⟨rfl, ?_⟩)
        have he := q_err_1 (n := n) (s := s) ht z1 z2 hg
        have h7 := q_err_7 he
        exact t_skipW_e h7 ⟨false, rfl, x_rpass_e h7 ⟨rfl, rs106_e h7 _ (hq.1 _ _ rfl z he)⟩⟩
theorem rs59b {S : ev_S} {r : Nat → Int32} {s : Nat} (hn : n ≤ 800) (hs : s ≤ n) (h : q_tk S.1 (b + 1) n T s) (hi : i_su r N lim 0) (hg : q_gm S.1 (b + 52) r N 0 []) (ht : q_ts S0 S b) (hq : s_ok S0 b (p_b0 T n (r, s)) Q) :
    ev_Cv g m_X8_expectWord 6 0 [ev_o 8 (b + 1), ev_x 1 3] S (fun o S1 => o = .inl none ∧ (ev_Cv g m_X9_readPass 5 0 [ev_o 9 b] S1 (fun o S2 => o = .inl none ∧ (ev_E g m_X9_readSetup 7 0 106 [some (ev_o 9 b), none, none, some (ev_i 0)] [] S2 Q)))) := by
  have e0 : (0 : Int32) = Int32.ofNat 0 := rfl
  unfold p_b0 at hq
  dsimp only at hq
  refine t_expW hn hs (by omega) h (fun hw z z1 z2 => ⟨rfl, ?_⟩) (fun hw w1 w2 z z1 z2 => ⟨rfl, ?_⟩)
  · have he := q_err_1 (n := n) (s := s) ht z1 z2 hg
    have h7 := q_err_7 he
    rw [p_wrd, if_neg hw] at hq
    simp only [p_bd] at hq
    exact x_rpass_e h7 ⟨rfl, rs106_e h7 _ (hq.1 _ _ rfl z he)⟩
  · rw [p_wrd, if_pos hw] at hq
    simp only [p_bd] at hq
    have t1 := q_ts_1 ht z1
    have g1 : q_gm z.1 (b + 52) r N 0 [] := q_gm_frame (M := S.1) (fun q h1 h2 => z1.2 q (by omega)) hg
    refine x_rpass (S0 := S0) hn w2 (by omega) z2 hi g1 t1 (fun c p hp y y1 => ⟨rfl, ?_⟩) (fun r' s' hp k1 k2 k3 y y1 y2 y3 => ⟨rfl, ?_⟩)
    · rw [hp] at hq
      exact rs106_e (q_err_7 y1) _ (hq.1 c p rfl y y1)
    · rw [hp] at hq
      dsimp only at hq
      rw [e0]
      exact rs106 hn 801 0 r' s' 1 y rfl (Nat.zero_le _) k2 y2 k3 (by omega) y3 y1 hq
theorem rs59 (hn : n ≤ 800) : ∀ (k i : Nat) (r : Nat → Int32) (s : Nat) (S : ev_S), i + k = 801 → i ≤ s → s ≤ n → q_tk S.1 (b + 1) n T s → i_su r N lim 0 → q_gm S.1 (b + 52) r N 0 [] → q_ts S0 S b → s_ok S0 b (p_bd (p_bishs T n N k r s) (p_b0 T n)) Q →
    ev_E g m_X9_readSetup 7 0 59 [some (ev_o 9 b), some (ev_i (Int32.ofNat N)), none, some (ev_i (Int32.ofNat i))] [] S Q := by
  have e8 : (800 : Int32) = Int32.ofNat 800 := rfl
  intro k
  induction k with
  | zero => intro i r s S hi h1 h2; omega
  | succ k ih =>
    intro i r s S hik his hs h hi hg ht hq
    refine sg_X9_readSetup_59 b _ _ ⟨fun c => ?_, fun c => ?_⟩
    · rw [e8, n_le (by omega) (by omega)] at c
      rw [p_bishs, if_neg (x_w_n (by omega) hs)] at hq
      exact rs59b hn hs h hi hg ht hq
    · rw [e8, n_le (by omega) (by omega)] at c
      refine t_skipW hn hs (by omega) h (fun hw => ⟨false, rfl, fun h => absurd h (by decide), fun _ => ?_⟩) (fun hw w1 w2 z z1 z2 => ⟨true, rfl, fun _ => ?_, fun h => absurd rfl h⟩)
      · rw [p_bishs, if_neg hw] at hq
        exact rs59b hn hs h hi hg ht hq
      · have hlt := x_w_lt hs hw
        rw [p_bishs, if_pos hw] at hq
        have t1 := q_ts_1 ht z1
        have g1 : q_gm z.1 (b + 52) r N 0 [] := q_gm_frame (M := S.1) (fun q h1 h2 => z1.2 q (by omega)) hg
        refine x_rbish (S0 := S0) hn w2 z2 hi g1 t1 (fun c p hp y y1 => ⟨rfl, ?_⟩) (fun r' s' hp k1 k2 k3 y y1 y2 y3 => ⟨rfl, ?_⟩)
        · rw [hp] at hq
          simp only [p_bd] at hq
          exact rs59_e (q_err_7 y1) _ _ (hq.1 c p rfl y y1)
        · rw [hp] at hq
          simp only [p_bd] at hq
          rw [n_inc]
          exact ih (i + 1) r' s' y (by omega) (by omega) k2 y2 k3 y3 y1 hq
end Body
theorem x_rset {g : ev_G} {S : ev_S} {b n : Nat} {T A : Nat → Int32} (hn : n ≤ 800) (h1 : S.1 (b + 1) 1 = Int32.ofNat n) (hT : ∀ j, j < n → S.1 (b + 2) j = T j) (hs : q_sh S.1 (b + 52)) {Q : ev_O → ev_S → Prop} (hq : s_ok S b (p_set A T n) Q) : ev_Cv g m_X9_readSetup 7 0 [ev_o 9 b] S Q := by
  have e0 : (0 : Int32) = Int32.ofNat 0 := rfl
  have e4 : (4 : Int32) = Int32.ofNat 4 := rfl
  have e1 : (1 : Int32) = Int32.ofNat 1 := rfl
  have err0 : ∀ (N' lim' : Nat) (z : ev_S) (c : Int32) (p : Nat), N' ≤ 8 → q_err S z b c p → p_set A T n = .inl (c, p) → ev_Cv g m_X2_clear 4 0 [ev_o 2 (b + 52), ev_i (Int32.ofNat N'), ev_i (Int32.ofNat lim')] z (fun o S6 => o = .inl none ∧ (ev_E g m_X9_readSetup 7 0 59 [some (ev_o 9 b), some (ev_i (Int32.ofNat N')), none, some (ev_i 0)] [] S6 Q)) := by
    intro N' lim' z c p h8 he hp
    refine g_clear (A := A) (e := b + 52) h8 he.2.2 (fun y y1 y2 => ⟨rfl, ?_⟩)
    have he' : q_err S y b c p := ⟨q_ts_fr he.1 y1, by unfold q_te; rw [y1.2 _ (by omega)]; exact he.2.1, q_sh_gm y2⟩
    exact rs59_e (q_err_7 he') _ _ (hq.1 c p hp y he')
  have mk : ∀ (z y : ev_S) (c : Int32) (p : Nat), q_1 S z (b + 1) → q_1 z y (b + 1) → q_te y.1 (b + 1) c p → q_err S y b c p := fun z y c p z1 y1 he => by
    have t := q_1_trans z1 y1
    exact ⟨q_ts_1 (q_ts_refl S b) t, he, by rw [t.2 _ (by omega)]; exact hs.1, by rw [t.2 _ (by omega)]; exact hs.2⟩
  refine sg_X9_readSetup_0 b (t_beg hn h1 hT (fun z z1 z2 => ⟨rfl, ?_⟩))
  refine t_expW hn (Nat.zero_le _) (by omega) z2 (fun hw y y1 y2 => ⟨rfl, ?_⟩) (fun hw w1 w2 y y1 y2 => ⟨rfl, ?_⟩)
  · have he := mk z y _ _ z1 y1 y2
    have h7 := q_err_7 he
    have hp : p_set A T n = .inl (1, x_B T n 0) := by unfold p_set p_head p_wrd; rw [if_neg hw]; rfl
    refine t_num_e h7 ⟨_, rfl, t_num_e h7 ⟨_, rfl, t_expS_e h7 ⟨rfl, ?_⟩⟩⟩
    rw [e4, e1]
    exact err0 4 1 y _ _ (by omega) he hp
  have yy := q_1_trans z1 y1
  refine t_num hn w2 y2 (fun c p hp x x1 x2 => ⟨_, rfl, ?_⟩) (fun v2 s2 hp2 k1 k2 k3 k4 x x1 x2 x6 => ⟨_, rfl, ?_⟩)
  · have he := mk y x _ _ yy x1 x2
    have h7 := q_err_7 he
    have hps : p_set A T n = .inl (c, p) := by unfold p_set p_head p_wrd; rw [if_pos hw]; simp only [p_bd]; rw [hp]
    refine t_num_e h7 ⟨_, rfl, t_expS_e h7 ⟨rfl, ?_⟩⟩
    rw [e4, e1]
    exact err0 4 1 x _ _ (by omega) he hps
  have xx := q_1_trans yy x1
  obtain ⟨N, hN, hN8⟩ : ∃ N, v2 = Int32.ofNat N ∧ 4 ≤ N ∧ N ≤ 8 := by
    have i4 : (4 : Int32).toInt = 4 := rfl
    have i8 : (8 : Int32).toInt = 8 := rfl
    rw [z_le, i4] at k1
    rw [z_le, i8] at k2
    obtain ⟨N, h1, h2, h3⟩ := n_ofi (x := v2) (k := 8) (by omega) k2
    rw [h1, n_i h3] at k1
    exact ⟨N, h1, by omega, by omega⟩
  refine t_num hn k4 x2 (fun c p hp w w1 w2 => ⟨_, rfl, ?_⟩) (fun v3 s3 hp3 m1 m2 m3 m4 w w1 w2 w6 => ⟨_, rfl, ?_⟩)
  · have he := mk x w _ _ xx w1 w2
    have h7 := q_err_7 he
    have hps : p_set A T n = .inl (c, p) := by unfold p_set p_head p_wrd; rw [if_pos hw]; simp only [p_bd]; rw [hp2]; dsimp only; rw [hp]
    refine t_expS_e h7 ⟨rfl, ?_⟩
    rw [hN, e1]
    exact err0 N 1 w _ _ hN8.2 he hps
  have ww := q_1_trans xx w1
  obtain ⟨lim, hlim, hl60⟩ : ∃ lim, v3 = Int32.ofNat lim ∧ lim ≤ 60 := by
    have i1 : (1 : Int32).toInt = 1 := rfl
    have i60 : (60 : Int32).toInt = 60 := rfl
    rw [z_le, i1] at m1
    rw [z_le, i60] at m2
    obtain ⟨N, h1, h2, h3⟩ := n_ofi (x := v3) (k := 60) (by omega) m2
    exact ⟨N, h1, by omega⟩
  refine t_expS hn m4 w2 (fun hw2 u u1 u2 => ⟨rfl, ?_⟩) (fun hw2 l1 l2 u u1 u2 => ⟨rfl, ?_⟩)
  · have he := mk w u _ _ ww u1 u2
    have hps : p_set A T n = .inl (1, x_B T n s3) := by unfold p_set p_head p_wrd; rw [if_pos hw]; simp only [p_bd]; rw [hp2]; dsimp only; rw [hp3]; dsimp only; rw [p_sgn, if_neg hw2]
    rw [hN, hlim]
    exact err0 N lim u _ _ hN8.2 he hps
  · have uu := q_1_trans ww u1
    have hps : p_set A T n = p_body T n N (o_gm0 A N lim) (x_E T n s3) := by
      unfold p_set p_head p_wrd
      rw [if_pos hw]
      simp only [p_bd]
      rw [hp2]
      dsimp only
      rw [hp3]
      dsimp only
      rw [p_sgn, if_pos hw2]
      dsimp only
      rw [hN, hlim, n_c (by omega), n_c (by omega)]
    rw [hps, p_body_eq] at hq
    rw [hN, hlim]
    refine g_clear (A := A) (e := b + 52) hN8.2 ⟨by rw [uu.2 _ (by omega)]; exact hs.1, by rw [uu.2 _ (by omega)]; exact hs.2⟩ (fun v v1 v2 => ⟨rfl, ?_⟩)
    rw [e0]
    exact rs59 hn 801 0 _ _ v rfl (Nat.zero_le _) l2 (q_tk_frame u2 (v1.2 _ (by omega)) (v1.2 _ (by omega))) (i_su_gm0 hN8.1 hN8.2 hl60) v2 (q_ts_fr (q_ts_1 (q_ts_refl S b) uu) v1) hq
