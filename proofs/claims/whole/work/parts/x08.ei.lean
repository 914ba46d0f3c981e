/-! ===== a setup: the reference, whole ===== -/
def p_rp (T : Nat → Int32) (n : Nat) (r : Nat → Int32) (s : Nat) : (Int32 × Nat) ⊕ ((Nat → Int32) × Nat) := if x_w T n s 3 = true then (if o_np r < 4 then p_pass T n r (x_E T n s) else .inl (4, x_B T n s)) else .inl (1, x_B T n s)
theorem c_rpass {g : ev_G} {S0 S : ev_S} {a n s N lim np : Nat} {T r : Nat → Int32} (hn : n ≤ 800) (hm : ∀ j, j < n → ¬ T j = -1) (hs : s ≤ n) (h : m_tk S.1 a n T s) (hr : S.1 (a + 1) = r) (hi : i_su r N lim np) (ht : m_s1 S0 S a) {Q : ev_O → ev_S → Prop}
    (q1 : ∀ c p, p_rp T n r s = .inl (c, p) → ∀ z, m_err S0 z a c p → Q (.inl none) z)
    (q2 : ∀ r' s', p_rp T n r s = .inr (r', s') → s < s' → s' ≤ n → i_su r' N lim (np + 1) → ∀ z, m_s1 S0 z a → m_tk z.1 a n T s' → z.1 (a + 1) = r' → Q (.inl none) z) :
    ev_Cv g m_X10_readsPass 6 0 [ev_o 10 a] S Q := by
  have hnp4 := hi.1.2.2.2
  have e4 : (4 : Int32) = Int32.ofNat 4 := rfl
  have r3 := hi.2.1.2.2
  unfold p_rp at q1 q2
  refine sg_X10_readsPass_0 a (c_isW hn hs (by omega) h _ ⟨x_w T n s 30, rfl, fun hw => ?_, fun hw => ?_⟩)
  · rw [w_3] at hw
    have hlt := x_w_lt hs hw
    have he := x_E_le (T := T) hs
    rw [if_pos hw, n_np hi] at q1 q2
    refine c_must_t h.2.2.1 ⟨true, rfl, ?_⟩
    refine sg_X10_readsPass_12 a ?_
    rw [hr, r3, e4, n_le (by omega) (by omega)]
    refine ⟨fun c4 => ?_, fun c4 => ?_⟩
    · rw [if_neg (by omega)] at q1
      refine c_must_f (by decide) h (fun z z1 z2 _ => ⟨false, rfl, ?_⟩)
      have e : m_err S0 z a _ _ := ⟨m_s1_1 ht z1, z2⟩
      exact rp33_e (m_err_7 e) (q1 _ _ rfl z e)
    · rw [if_pos (by omega)] at q1 q2
      unfold p_pass at q1 q2
      rw [n_np hi] at q1 q2
      refine c_must_t h.2.2.1 ⟨true, rfl, ?_⟩
      refine sg_X10_readsPass_33 a (c_pass hn hm hs h (fun z z1 z2 => ⟨rfl, ?_⟩))
      have t0 := m_s1_1 ht z1
      have zr : z.1 (a + 1) = r := by rw [z1.2.1 _ (by omega)]; exact hr
      refine c_num hn hm he.2 z2 (fun c p hp v y y1 y2 => ⟨_, rfl, ?_⟩) (fun v1 s1 hp l1 l2 l3 l4 y y1 y2 => ⟨_, rfl, ?_⟩)
      · rw [hp] at q1
        have e : m_err S0 y a c p := ⟨m_s1_1 t0 y1, y2⟩
        have h7 := m_err_7 e
        exact c_num_e h7 ⟨_, rfl, c_num_e h7 ⟨_, rfl, c_sign_e h7 ⟨rfl, j_neg h7 (q1 c p rfl y e)⟩⟩⟩
      rw [hp] at q1 q2
      simp only [p_bd] at q1 q2
      have t1 := m_s1_1 t0 y1
      have yr : y.1 (a + 1) = r := by rw [y1.2.1 _ (by omega)]; exact zr
      refine c_num hn hm l4 y2 (fun c p hp2 v x x1 x2 => ⟨_, rfl, ?_⟩) (fun v2 s2 hp2 k1 k2 k3 k4 x x1 x2 => ⟨_, rfl, ?_⟩)
      · rw [hp2] at q1
        have e : m_err S0 x a c p := ⟨m_s1_1 t1 x1, x2⟩
        have h7 := m_err_7 e
        exact c_num_e h7 ⟨_, rfl, c_sign_e h7 ⟨rfl, j_neg h7 (q1 c p rfl x e)⟩⟩
      rw [hp2] at q1 q2
      dsimp only at q1 q2
      have t2 := m_s1_1 t1 x1
      have xr : x.1 (a + 1) = r := by rw [x1.2.1 _ (by omega)]; exact yr
      refine c_num hn hm k4 x2 (fun c p hp3 v w w1 w2 => ⟨_, rfl, ?_⟩) (fun v3 s3 hp3 m1 m2 m3 m4 w w1 w2 => ⟨_, rfl, ?_⟩)
      · rw [hp3] at q1
        have e : m_err S0 w a c p := ⟨m_s1_1 t2 w1, w2⟩
        have h7 := m_err_7 e
        exact c_sign_e h7 ⟨rfl, j_neg h7 (q1 c p rfl w e)⟩
      rw [hp3] at q1 q2
      dsimp only at q1 q2
      have t3 := m_s1_1 t2 w1
      have wr : w.1 (a + 1) = r := by rw [w1.2.1 _ (by omega)]; exact xr
      refine c_sign hn hm m4 w2 (fun c10 u u1 u2 => ⟨rfl, ?_⟩) (fun c10 u3 u4 u u1 u2 => ⟨rfl, ?_⟩)
      · rw [p_sgn, if_neg c10] at q1
        have e : m_err S0 u a _ _ := ⟨m_s1_1 t3 u1, u2⟩
        exact j_neg (m_err_7 e) (q1 _ _ rfl u e)
      · rw [p_sgn, if_pos c10] at q2
        have t4 := m_s1_1 t3 u1
        have ur : u.1 (a + 1) = r := by rw [u1.2.1 _ (by omega)]; exact wr
        refine j_pos u2.2.2.1 ?_
        rw [ur, r3]
        simp (disch := omega) only [lm_2, lm_3, lm_6, lm_7, lm_11, lm_12, lm_15, lm_64, lm_124, lm_180, la_1, la_2, la_3, la_12, la_26, la_154, la_514, la_762, la_1140, la_1200, ra_0, ra_1, ra_2, ra_3, ra_4, ra_5, ra_6, ra_7, ra_8, ra_9, ra_10, ra_48, rm_12, rm_2, rm_64, rm_6, n_add, n_mul, n_d1, n_vp, n_c, true_and]
        intro S6 e6
        have x63 : S6.1 (a + 1) 3 = Int32.ofNat np := by rw [e6, m_k (by omega), ur]; exact r3
        rw [x63]
        simp (disch := omega) only [lm_2, lm_3, lm_6, lm_7, lm_11, lm_12, lm_15, lm_64, lm_124, lm_180, la_1, la_2, la_3, la_12, la_26, la_154, la_514, la_762, la_1140, la_1200, ra_0, ra_1, ra_2, ra_3, ra_4, ra_5, ra_6, ra_7, ra_8, ra_9, ra_10, ra_48, rm_12, rm_2, rm_64, rm_6, n_add, n_mul, n_d1, n_vp, n_c, true_and]
        intro S7 e7
        have x73 : S7.1 (a + 1) 3 = Int32.ofNat np := by rw [e7, m_k (by omega)]; exact x63
        rw [x73]
        simp (disch := omega) only [lm_2, lm_3, lm_6, lm_7, lm_11, lm_12, lm_15, lm_64, lm_124, lm_180, la_1, la_2, la_3, la_12, la_26, la_154, la_514, la_762, la_1140, la_1200, ra_0, ra_1, ra_2, ra_3, ra_4, ra_5, ra_6, ra_7, ra_8, ra_9, ra_10, ra_48, rm_12, rm_2, rm_64, rm_6, n_add, n_mul, n_d1, n_vp, n_c, true_and]
        intro S8 e8 S9 e9 S10 e10
        have x83 : S8.1 (a + 1) 3 = Int32.ofNat np := by rw [e8, m_k (by omega)]; exact x73
        have x811 : S8.1 (a + 1) 11 = r 11 := by rw [e8, m_k (by omega), e7, m_k (by omega), e6, m_k (by omega), ur]
        rw [x811] at e9
        rw [x83, n_inc] at e10
        have er : S10.1 (a + 1) = o_open r np v1 v2 v3 := by
          rw [e10, m_u, r_s, e9, m_u, r_s, e8, m_u, r_s, e7, m_u, r_s, e6, m_u, r_s, ur]
          rfl
        refine q2 _ _ rfl (by omega) u4 (i_su_open (by omega) l1 l2 hi) S10 ?_ ?_ er
        · rw [e10, e9, e8, e7, e6]; exact m_s1_up (m_s1_up (m_s1_up (m_s1_up (m_s1_up t4))))
        · rw [e10, e9, e8, e7, e6]; exact m_tk_up (m_tk_up (m_tk_up (m_tk_up (m_tk_up u2))))
  · rw [w_3] at hw
    rw [if_neg hw] at q1
    refine c_must_f (by decide) h (fun z z1 z2 _ => ⟨false, rfl, ?_⟩)
    have e : m_err S0 z a _ _ := ⟨m_s1_1 ht z1, z2⟩
    exact rp12_e (m_err_7 e) (q1 _ _ rfl z e)
def p_rs (T : Nat → Int32) (n : Nat) (r : Nat → Int32) (s : Nat) : (Int32 × Nat) ⊕ ((Nat → Int32) × Nat) := if x_w T n s 4 = true then p_snow T n r (x_E T n s) else .inl (1, x_B T n s)
theorem c_rsnow {g : ev_G} {S0 S : ev_S} {a n s N lim np : Nat} {T r : Nat → Int32} (hn : n ≤ 800) (hm : ∀ j, j < n → ¬ T j = -1) (hs : s ≤ n) (hnp : 1 ≤ np) (h : m_tk S.1 a n T s) (hr : S.1 (a + 1) = r) (hi : i_su r N lim np) (ht : m_s1 S0 S a) {Q : ev_O → ev_S → Prop}
    (q1 : ∀ c p, p_rs T n r s = .inl (c, p) → ∀ z, m_err S0 z a c p → Q (.inl none) z)
    (q2 : ∀ r' s', p_rs T n r s = .inr (r', s') → s < s' → s' ≤ n → i_su r' N lim np → ∀ z, m_s1 S0 z a → m_tk z.1 a n T s' → z.1 (a + 1) = r' → Q (.inl none) z) :
    ev_Cv g m_X10_readsSnow 6 0 [ev_o 10 a] S Q := by
  have hnp4 := hi.1.2.2.2
  have e12 : (11 : Int32) = Int32.ofNat 12 - 1 := by decide
  have r3 := hi.2.1.2.2
  unfold p_rs at q1 q2
  refine sg_X10_readsSnow_0 a (c_isW hn hs (by omega) h _ ⟨x_w T n s 31, rfl, fun hw => ?_, fun hw => ?_⟩)
  · rw [w_4] at hw
    have hlt := x_w_lt hs hw
    have he := x_E_le (T := T) hs
    rw [if_pos hw] at q1 q2
    unfold p_snow at q1 q2
    rw [n_np hi] at q1 q2
    refine c_must_t h.2.2.1 ⟨true, rfl, ?_⟩
    refine c_pass hn hm hs h (fun z z1 z2 => ⟨rfl, ?_⟩)
    have t0 := m_s1_1 ht z1
    have zr : z.1 (a + 1) = r := by rw [z1.2.1 _ (by omega)]; exact hr
    rw [zr, r3]
    refine c_num hn hm he.2 z2 (fun c p hp v y y1 y2 => ⟨_, rfl, ?_⟩) (fun v1 s1 hp l1 l2 l3 l4 y y1 y2 => ⟨_, rfl, ?_⟩)
    · rw [hp] at q1
      have e : m_err S0 y a c p := ⟨m_s1_1 t0 y1, y2⟩
      have h7 := m_err_7 e
      exact c_num_e h7 ⟨_, rfl, c_num_e h7 ⟨_, rfl, c_sign_e h7 ⟨rfl, j_neg h7 (q1 c p rfl y e)⟩⟩⟩
    rw [hp] at q1 q2
    simp only [p_bd] at q1 q2
    have t1 := m_s1_1 t0 y1
    have yr : y.1 (a + 1) = r := by rw [y1.2.1 _ (by omega)]; exact zr
    refine c_num hn hm l4 y2 (fun c p hp2 v x x1 x2 => ⟨_, rfl, ?_⟩) (fun v2 s2 hp2 k1 k2 k3 k4 x x1 x2 => ⟨_, rfl, ?_⟩)
    · rw [hp2] at q1
      have e : m_err S0 x a c p := ⟨m_s1_1 t1 x1, x2⟩
      have h7 := m_err_7 e
      exact c_num_e h7 ⟨_, rfl, c_sign_e h7 ⟨rfl, j_neg h7 (q1 c p rfl x e)⟩⟩
    rw [hp2] at q1 q2
    dsimp only at q1 q2
    have t2 := m_s1_1 t1 x1
    have xr : x.1 (a + 1) = r := by rw [x1.2.1 _ (by omega)]; exact yr
    refine c_num hn hm k4 x2 (fun c p hp3 v w w1 w2 => ⟨_, rfl, ?_⟩) (fun v3 s3 hp3 m1 m2 m3 m4 w w1 w2 => ⟨_, rfl, ?_⟩)
    · rw [hp3] at q1
      have e : m_err S0 w a c p := ⟨m_s1_1 t2 w1, w2⟩
      have h7 := m_err_7 e
      exact c_sign_e h7 ⟨rfl, j_neg h7 (q1 c p rfl w e)⟩
    rw [hp3] at q1 q2
    dsimp only at q1 q2
    have t3 := m_s1_1 t2 w1
    have wr : w.1 (a + 1) = r := by rw [w1.2.1 _ (by omega)]; exact xr
    obtain ⟨q, hq, hq2⟩ := n_lom (k := np) hnp (by omega) l1 l2
    obtain ⟨t, ht', ht2⟩ := n_lom (k := 12) (by omega) (by omega) k1 (by rw [← e12]; exact k2)
    rw [show v1.toNatClampNeg = q by rw [hq, n_c (by omega)], show v2.toNatClampNeg = t by rw [ht', n_c (by omega)]] at q2
    refine c_sign hn hm m4 w2 (fun c10 u u1 u2 => ⟨rfl, ?_⟩) (fun c10 u3 u4 u u1 u2 => ⟨rfl, ?_⟩)
    · rw [p_sgn, if_neg c10] at q1
      have e : m_err S0 u a _ _ := ⟨m_s1_1 t3 u1, u2⟩
      exact j_neg (m_err_7 e) (q1 _ _ rfl u e)
    · rw [p_sgn, if_pos c10] at q2
      have t4 := m_s1_1 t3 u1
      have ur : u.1 (a + 1) = r := by rw [u1.2.1 _ (by omega)]; exact wr
      refine j_pos u2.2.2.1 ?_
      rw [hq, ht']
      have e3 : (3 : Int32) + Int32.ofNat t = Int32.ofNat (3 + t) := n_add 3 t
      rw [e3]
      simp (disch := omega) only [lm_2, lm_3, lm_6, lm_7, lm_11, lm_12, lm_15, lm_64, lm_124, lm_180, la_1, la_2, la_3, la_12, la_26, la_154, la_514, la_762, la_1140, la_1200, ra_0, ra_1, ra_2, ra_3, ra_4, ra_5, ra_6, ra_7, ra_8, ra_9, ra_10, ra_48, rm_12, rm_2, rm_64, rm_6, n_add, n_mul, n_d1, n_vp, n_c, true_and]
      intro S8 e8
      have er : S8.1 (a + 1) = o_snow r q t v3 := by
        rw [e8, m_u, r_s, ur]
        rfl
      refine q2 _ _ rfl (by omega) u4 (i_su_snow hq2 ht2 ⟨m1, m2⟩ hi) S8 ?_ ?_ er
      · rw [e8]; exact m_s1_up t4
      · rw [e8]; exact m_tk_up u2
  · rw [w_4] at hw
    rw [if_neg hw] at q1
    refine c_must_f (by decide) h (fun z z1 z2 _ => ⟨false, rfl, ?_⟩)
    have e : m_err S0 z a _ _ := ⟨m_s1_1 ht z1, z2⟩
    have h7 := m_err_7 e
    exact c_pass_e h7 ⟨rfl, c_num_e h7 ⟨_, rfl, c_num_e h7 ⟨_, rfl, c_num_e h7 ⟨_, rfl, c_sign_e h7 ⟨rfl, j_neg h7 (q1 _ _ rfl z e)⟩⟩⟩⟩⟩
def r_ok (S0 : ev_S) (a : Nat) (res : (Int32 × Nat) ⊕ (Nat → Int32)) (Q : ev_O → ev_S → Prop) : Prop :=
  (∀ c p, res = .inl (c, p) → ∀ z, m_err S0 z a c p → Q (.inl none) z) ∧
  ∀ r, res = .inr r → ∀ N lim np, i_su r N lim np → 1 ≤ np → ∀ z, m_s1 S0 z a → z.1 a 17 = 0 → z.1 a 18 = -1 → z.1 (a + 1) = r → Q (.inl none) z
section RBody
variable {g : ev_G} {S0 : ev_S} {a n N lim : Nat} {T : Nat → Int32} {Q : ev_O → ev_S → Prop}
theorem cs94 (hn : n ≤ 800) (hm : ∀ j, j < n → ¬ T j = -1) : ∀ (k i : Nat) (r : Nat → Int32) (s np : Nat) (S : ev_S), i + k = 801 → i ≤ s → s ≤ n → m_tk S.1 a n T s → S.1 (a + 1) = r → i_su r N lim np → 1 ≤ np → m_s1 S0 S a → r_ok S0 a (p_bd (p_snows T n k r s) (p_b2 T n)) Q →
    ev_E g m_X10_readsSetup 7 0 94 [some (ev_o 10 a)] [] S Q := by
  intro k
  induction k with
  | zero => intro i r s np S hi h1 h2; omega
  | succ k ih =>
    intro i r s np S hik his hs h hr hi hnp ht hq
    refine sg_X10_readsSetup_94 a (j_pos h.2.2.1 ?_)
    rw [h.2.2.2.2.2.1]
    refine ⟨fun c0 => ?_, fun c0 => ?_⟩
    · have hw : ¬ x_w T n s 4 = true := fun hw => by
        have := (x_w_1 hw).1
        rw [c0] at this
        exact absurd this (by decide)
      rw [p_snows, if_neg hw] at hq
      simp only [p_bd, p_b2, p_end] at hq
      rw [if_pos c0] at hq
      exact hq.2 _ rfl N lim np hi hnp S ht h.2.2.1 h.2.2.2.1 hr
    · refine c_rsnow (S0 := S0) hn hm hs hnp h hr hi ht (fun c p hp z z1 => ⟨rfl, ?_⟩) (fun r' s' hp k1 k2 k3 z z1 z2 z3 => ⟨rfl, ?_⟩)
      · refine rs94_e (m_err_7 z1) (hq.1 c p ?_ z z1)
        unfold p_rs at hp
        by_cases hw : x_w T n s 4 = true
        · rw [if_pos hw] at hp
          rw [p_snows, if_pos hw, hp]
          rfl
        · rw [if_neg hw] at hp
          rw [p_snows, if_neg hw]
          simp only [p_bd, p_b2, p_end]
          rw [if_neg c0]
          have hp' := Sum.inl.inj hp
          rw [hp']
      · unfold p_rs at hp
        by_cases hw : x_w T n s 4 = true
        · rw [if_pos hw] at hp
          rw [p_snows, if_pos hw, hp] at hq
          exact ih (i + 1) r' s' np z (by omega) (by omega) k2 z2 z3 k3 hnp z1 hq
        · rw [if_neg hw] at hp
          exact absurd hp (by simp)
theorem cs78 (hn : n ≤ 800) (hm : ∀ j, j < n → ¬ T j = -1) : ∀ (k i : Nat) (r : Nat → Int32) (s np : Nat) (S : ev_S), i + k = 801 → i ≤ s → s ≤ n → m_tk S.1 a n T s → S.1 (a + 1) = r → i_su r N lim np → 1 ≤ np → m_s1 S0 S a → r_ok S0 a (p_bd (p_passs T n k r s) (p_b1 T n)) Q →
    ev_E g m_X10_readsSetup 7 0 78 [some (ev_o 10 a)] [] S Q := by
  intro k
  induction k with
  | zero => intro i r s np S hi h1 h2; omega
  | succ k ih =>
    intro i r s np S hik his hs h hr hi hnp ht hq
    refine sg_X10_readsSetup_78 a (c_isW hn hs (by omega) h _ ⟨x_w T n s 30, rfl, fun hw => ?_, fun hw => ?_⟩)
    · rw [w_3] at hw
      refine c_rpass (S0 := S0) hn hm hs h hr hi ht (fun c p hp z z1 => ⟨rfl, ?_⟩) (fun r' s' hp k1 k2 k3 z z1 z2 z3 => ⟨rfl, ?_⟩)
      · refine rs78_e (m_err_7 z1) (hq.1 c p ?_ z z1)
        unfold p_rp at hp
        rw [if_pos hw] at hp
        rw [p_passs, if_pos hw]
        by_cases c4 : o_np r < 4
        · rw [if_pos c4] at hp ⊢
          rw [hp]
          rfl
        · rw [if_neg c4] at hp ⊢
          rw [hp]
          rfl
      · unfold p_rp at hp
        rw [if_pos hw] at hp
        rw [p_passs, if_pos hw] at hq
        by_cases c4 : o_np r < 4
        · rw [if_pos c4] at hp hq
          rw [hp] at hq
          exact ih (i + 1) r' s' (np + 1) z (by omega) (by omega) k2 z2 z3 k3 (by omega) z1 hq
        · rw [if_neg c4] at hp
          exact absurd hp (by simp)
    · rw [w_3] at hw
      rw [p_passs, if_neg hw] at hq
      exact cs94 hn hm 801 0 r s np S rfl (Nat.zero_le _) hs h hr hi hnp ht hq
theorem cs57 (hn : n ≤ 800) (hm : ∀ j, j < n → ¬ T j = -1) : ∀ (k i : Nat) (r : Nat → Int32) (s : Nat) (S : ev_S), i + k = 801 → i ≤ s → s ≤ n → m_tk S.1 a n T s → S.1 (a + 1) = r → i_su r N lim 0 → m_s1 S0 S a → r_ok S0 a (p_bd (p_bishs T n N k r s) (p_b0 T n)) Q →
    ev_E g m_X10_readsSetup 7 0 57 [some (ev_o 10 a)] [] S Q := by
  intro k
  induction k with
  | zero => intro i r s S hi h1 h2; omega
  | succ k ih =>
    intro i r s S hik his hs h hr hi ht hq
    refine sg_X10_readsSetup_57 a (c_isW hn hs (by omega) h _ ⟨x_w T n s 29, rfl, fun hw => ?_, fun hw => ?_⟩)
    · rw [w_2] at hw
      have hlt := x_w_lt hs hw
      rw [p_bishs, if_pos hw] at hq
      refine c_rbish (S0 := S0) hn hm hs h hr hi ht (fun c p hp z z1 => ⟨rfl, ?_⟩) (fun r' s' hp k1 k2 k3 z z1 z2 z3 => ⟨rfl, ?_⟩)
      · rw [hp] at hq
        exact rs57_e (m_err_7 z1) (hq.1 c p rfl z z1)
      · rw [hp] at hq
        exact ih (i + 1) r' s' z (by omega) (by omega) k2 z2 z3 k3 z1 hq
    · rw [w_2] at hw
      rw [p_bishs, if_neg hw] at hq
      simp only [p_bd, p_b0] at hq
      have z0 : o_np r = 0 := n_np hi
      refine c_rpass (S0 := S0) hn hm hs h hr hi ht (fun c p hp z z1 => ⟨rfl, ?_⟩) (fun r' s' hp k1 k2 k3 z z1 z2 z3 => ⟨rfl, ?_⟩)
      · refine rs78_e (m_err_7 z1) (hq.1 c p ?_ z z1)
        unfold p_rp at hp
        unfold p_wrd
        by_cases hw3 : x_w T n s 3 = true
        · rw [if_pos hw3, if_pos (by omega)] at hp
          rw [if_pos hw3]
          dsimp only
          rw [hp]
        · rw [if_neg hw3] at hp
          rw [if_neg hw3]
          have hp' := Sum.inl.inj hp
          rw [hp']
      · unfold p_rp at hp
        unfold p_wrd at hq
        by_cases hw3 : x_w T n s 3 = true
        · rw [if_pos hw3, if_pos (by omega)] at hp
          rw [if_pos hw3] at hq
          dsimp only at hq
          rw [hp] at hq
          dsimp only at hq
          exact cs78 hn hm 801 0 r' s' 1 z rfl (Nat.zero_le _) k2 z2 z3 k3 (by omega) z1 hq
        · rw [if_neg hw3] at hp
          exact absurd hp (by simp)
end RBody
theorem c_rset {g : ev_G} {S : ev_S} {a n : Nat} {T A : Nat → Int32} (hn : n ≤ 800) (hm : ∀ j, j < n → ¬ T j = -1) (h : m_tk S.1 a n T 0) (hr : S.1 (a + 1) = o_beg A) {Q : ev_O → ev_S → Prop} (hq : r_ok S a (p_set A T n) Q) : ev_Cv g m_X10_readsSetup 7 0 [ev_o 10 a] S Q := by
  have he0 := x_E_le (T := T) (Nat.zero_le n)
  refine sg_X10_readsSetup_0 a (c_isW hn (Nat.zero_le _) (by omega) h _ ⟨x_w T n 0 28, rfl, fun hw => ?_, fun hw => ?_⟩)
  · rw [w_1] at hw
    refine c_must_t h.2.2.1 ⟨true, rfl, c_pass hn hm (Nat.zero_le _) h (fun z z1 z2 => ⟨rfl, ?_⟩)⟩
    have t0 := m_s1_1 (m_s1_refl S a) z1
    have zr : z.1 (a + 1) = o_beg A := by rw [z1.2.1 _ (by omega)]; exact hr
    refine c_num hn hm he0.2 z2 (fun c p hp v y y1 y2 => ⟨_, rfl, fun S5 e5 => ?_⟩) (fun v1 s1 hp l1 l2 l3 l4 y y1 y2 => ⟨_, rfl, fun S5 e5 => ?_⟩)
    · have e : m_err S S5 a c p := by
        rw [e5]
        exact ⟨m_s1_up (m_s1_1 t0 y1), by unfold m_te; rw [m_r (by omega)]; exact y2⟩
      have h7 := m_err_7 e
      have hps : p_set A T n = .inl (c, p) := by unfold p_set p_head p_wrd; rw [if_pos hw]; simp only [p_bd]; rw [hp]
      refine c_num_e h7 ⟨_, rfl, fun S7 e7 => ?_⟩
      have e' : m_err S S7 a c p := by
        rw [e7]
        exact ⟨m_s1_up e.1, by unfold m_te; rw [m_r (by omega)]; exact e.2⟩
      have h7' := m_err_7 e'
      exact c_sign_e h7' ⟨rfl, j_neg h7' (hq.1 c p hps S7 e')⟩
    obtain ⟨N, hN, hN4, hN8⟩ : ∃ N, v1 = Int32.ofNat N ∧ 4 ≤ N ∧ N ≤ 8 := by
      have i4 : (4 : Int32).toInt = 4 := rfl
      have i8 : (8 : Int32).toInt = 8 := rfl
      rw [z_le, i4] at l1
      rw [z_le, i8] at l2
      obtain ⟨N, h1, h2, h3⟩ := n_ofi (x := v1) (k := 8) (by omega) l2
      rw [h1, n_i h3] at l1
      exact ⟨N, h1, by omega, by omega⟩
    have t1 : m_s1 S S5 a := by rw [e5]; exact m_s1_up (m_s1_1 t0 y1)
    have k5 : m_tk S5.1 a n T s1 := by rw [e5]; exact m_tk_up y2
    have r5 : S5.1 (a + 1) = upd (o_beg A) 0 (Int32.ofNat N) := by rw [e5, m_u, r_s, y1.2.1 _ (by omega), zr, hN]
    refine c_num hn hm l4 k5 (fun c p hp2 v x x1 x2 => ⟨_, rfl, fun S7 e7 => ?_⟩) (fun v2 s2 hp2 k1 k2 k3 k4 x x1 x2 => ⟨_, rfl, fun S7 e7 => ?_⟩)
    · have e' : m_err S S7 a c p := by
        rw [e7]
        exact ⟨m_s1_up (m_s1_1 t1 x1), by unfold m_te; rw [m_r (by omega)]; exact x2⟩
      have h7' := m_err_7 e'
      have hps : p_set A T n = .inl (c, p) := by unfold p_set p_head p_wrd; rw [if_pos hw]; simp only [p_bd]; rw [hp]; dsimp only; rw [hp2]
      exact c_sign_e h7' ⟨rfl, j_neg h7' (hq.1 c p hps S7 e')⟩
    obtain ⟨lim, hlim, hl60⟩ : ∃ lim, v2 = Int32.ofNat lim ∧ lim ≤ 60 := by
      have i1 : (1 : Int32).toInt = 1 := rfl
      have i60 : (60 : Int32).toInt = 60 := rfl
      rw [z_le, i1] at k1
      rw [z_le, i60] at k2
      obtain ⟨N, h1, h2, h3⟩ := n_ofi (x := v2) (k := 60) (by omega) k2
      exact ⟨N, h1, by omega⟩
    have t2 : m_s1 S S7 a := by rw [e7]; exact m_s1_up (m_s1_1 t1 x1)
    have k7 : m_tk S7.1 a n T s2 := by rw [e7]; exact m_tk_up x2
    have r7 : S7.1 (a + 1) = o_gm0 A N lim := by rw [e7, m_u, r_s, x1.2.1 _ (by omega), r5, hlim]; rfl
    refine c_sign hn hm k4 k7 (fun c10 u u1 u2 => ⟨rfl, ?_⟩) (fun c10 u3 u4 u u1 u2 => ⟨rfl, ?_⟩)
    · have e : m_err S u a _ _ := ⟨m_s1_1 t2 u1, u2⟩
      have hps : p_set A T n = .inl (1, x_B T n s2) := by unfold p_set p_head p_wrd; rw [if_pos hw]; simp only [p_bd]; rw [hp]; dsimp only; rw [hp2]; dsimp only; rw [p_sgn, if_neg c10]
      exact j_neg (m_err_7 e) (hq.1 _ _ hps u e)
    · have hps : p_set A T n = p_body T n N (o_gm0 A N lim) (x_E T n s2) := by
        unfold p_set p_head p_wrd
        rw [if_pos hw]
        simp only [p_bd]
        rw [hp]
        dsimp only
        rw [hp2]
        dsimp only
        rw [p_sgn, if_pos c10]
        dsimp only
        rw [hN, hlim, n_c (by omega), n_c (by omega)]
      rw [hps, p_body_eq] at hq
      exact j_pos u2.2.2.1 (cs57 hn hm 801 0 _ _ u rfl (Nat.zero_le _) u4 u2 (by rw [u1.2.1 _ (by omega)]; exact r7) (i_su_gm0 hN4 hN8 hl60) (m_s1_1 t2 u1) hq)
  · rw [w_1] at hw
    have hps : p_set A T n = .inl (1, x_B T n 0) := by unfold p_set p_head p_wrd; rw [if_neg hw]; rfl
    refine c_must_f (by decide) h (fun z z1 z2 _ => ⟨false, rfl, ?_⟩)
    have e : m_err S z a _ _ := ⟨m_s1_1 (m_s1_refl S a) z1, z2⟩
    have h7 := m_err_7 e
    refine c_pass_e h7 ⟨rfl, c_num_e h7 ⟨_, rfl, fun S5 e5 => ?_⟩⟩
    have e' : m_err S S5 a (1) (x_B T n 0) := by
      rw [e5]
      exact ⟨m_s1_up e.1, by unfold m_te; rw [m_r (by omega)]; exact e.2⟩
    refine c_num_e (m_err_7 e') ⟨_, rfl, fun S7 e7 => ?_⟩
    have e'' : m_err S S7 a (1) (x_B T n 0) := by
      rw [e7]
      exact ⟨m_s1_up e'.1, by unfold m_te; rw [m_r (by omega)]; exact e'.2⟩
    have h7' := m_err_7 e''
    exact c_sign_e h7' ⟨rfl, j_neg h7' (hq.1 _ _ hps S7 e'')⟩
