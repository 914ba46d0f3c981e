/-! ===== a script: the reference reads it whole ===== -/
def Dl (l : Nat) : Nat := 41 + 3 * l
def ROne (g : ev_G) (S0 : ev_S) (a n : Nat) (T : Nat → Int32) (l : Nat) : Prop := ∀ (Q : ev_O → ev_S → Prop) (c s : Nat) (z : ev_S), s ≤ n → c ≤ 30 → ¬ p_stop T n s = true → m_tk z.1 a n T s → z.1 a 21 = Int32.ofNat c → m_sr S0 z a →
  (∀ e p, p_one T n l c s = .inl (e, p) → ∀ y, m_er S0 y a e p → Q (.inl none) y) →
  (∀ x c' s', p_one T n l c s = .inr (x, (c', s')) → s < s' → s' ≤ n → c' ≤ 30 → c' = c + at_rz l x → ∀ y, m_tk y.1 a n T s' → y.1 a 21 = Int32.ofNat c' → m_sr S0 y a → (∀ j, j < c → y.1 (a + 8) j = z.1 (a + 8) j) → (∀ j, j < 6 * c → y.1 (a + 9) j = z.1 (a + 9) j) → r_code (y.1 (a + 8)) (y.1 (a + 9)) l c x → Q (.inl none) y) →
  ev_Cv g m_X10_readsCommand (Dl l + 2) 0 [ev_o 10 a, ev_i (Int32.ofNat (2 - l))] z Q
def RLst (g : ev_G) (S0 : ev_S) (a n : Nat) (T : Nat → Int32) (l : Nat) : Prop := ∀ (Q : ev_O → ev_S → Prop) (k c s : Nat) (z : ev_S), n < s + k → s ≤ n → c ≤ 30 → m_tk z.1 a n T s → z.1 a 21 = Int32.ofNat c → m_sr S0 z a →
  (∀ e p, p_lst T n (p_one T n l) k c s = .inl (e, p) → ∀ y, m_er S0 y a e p → Q (.inl none) y) →
  (∀ L c' s', p_lst T n (p_one T n l) k c s = .inr (L, (c', s')) → s ≤ s' → s' ≤ n → c' ≤ 30 → p_stop T n s' = true → c' = c + ls_sz (at_rz l) L → ∀ y, m_tk y.1 a n T s' → y.1 a 21 = Int32.ofNat c' → m_sr S0 y a → (∀ j, j < c → y.1 (a + 8) j = z.1 (a + 8) j) → (∀ j, j < 6 * c → y.1 (a + 9) j = z.1 (a + 9) j) → q_cds (at_rz l) (r_code (y.1 (a + 8)) (y.1 (a + 9)) l) c L → Q (.inl none) y) →
  ev_E g m_X10_readsCommands (Dl l + 3) 0 0 [some (ev_o 10 a), some (ev_i (Int32.ofNat (2 - l)))] [] z Q
theorem rlst_of {g : ev_G} {S0 : ev_S} {a n : Nat} {T : Nat → Int32} (hn : n ≤ 800) {l : Nat} (h1 : ROne g S0 a n T l) : RLst g S0 a n T l := by
  intro Q k
  have hD : 20 ≤ Dl l := by unfold Dl; omega
  induction k with
  | zero => intro c s z hk hs; omega
  | succ k ih =>
    intro c s z hk hs hc hp h21 hr q1 q2
    have hb := x_B_le (T := T) hs
    rw [p_lst] at q1 q2
    refine sg_X10_readsCommands_h0 hD a _ (j_pos hp.2.2.1 ?_)
    rw [c_isS hn hs hp, hp.1, hp.2.2.2.2.1, hp.2.2.2.2.2.1]
    by_cases hst : p_stop T n s = true
    · rw [if_pos hst] at q2
      have hq := q2 [] c s rfl (Nat.le_refl _) hs hc hst rfl z hp h21 hr (fun _ _ => rfl) (fun _ _ => rfl) trivial
      unfold p_stop at hst
      rw [Bool.or_eq_true, decide_eq_true_eq] at hst
      exact ⟨fun _ => hq, fun hK => ⟨fun _ _ => c_vsn hn hb.2, fun _ => hq, fun hh => by rcases hst with hst | hst; exact absurd hst hK; exact absurd hst hh⟩⟩
    · rw [if_neg hst] at q1 q2
      have hst' := hst
      unfold p_stop at hst'
      rw [Bool.or_eq_true, decide_eq_true_eq] at hst'
      refine ⟨fun hK => absurd (Or.inl hK) hst', fun hK => ⟨fun _ _ => c_vsn hn hb.2, fun hh => absurd (Or.inr hh) hst', fun _ => ?_⟩⟩
      refine h1 _ c s z hs hc hst hp h21 hr (fun e p he y hy => ⟨rfl, ?_⟩) (fun x c' s' hx k1 k2 k3 k4 y y1 y2 y3 y4 y5 y6 => ⟨rfl, ?_⟩)
      · rw [he] at q1
        exact sg_X10_readsCommands_h0 hD a _ (j_neg (m_er_7 hy) (q1 e p rfl y hy))
      · rw [hx] at q1 q2
        simp only [p_bd] at q1 q2
        refine ih c' s' y (by omega) k2 k3 y1 y2 y3 (fun e p he => ?_) (fun L c2 s2 hL m1 m2 m3 m4 m5 w w1 w2 w3 w4 w5 w6 => ?_)
        · rw [he] at q1
          exact q1 e p rfl
        · rw [hL] at q2
          refine q2 (x :: L) c2 s2 rfl (by omega) m2 m3 m4 (by rw [ls_sz]; omega) w w1 w2 w3 (fun j hj => by rw [w4 j (by omega), y4 j hj]) (fun j hj => by rw [w5 j (by omega), y5 j hj]) ⟨?_, by rw [← k4]; exact w6⟩
          exact r_code_fr l c x (fun j j1 j2 => w4 j (by omega)) (fun j j1 j2 => w5 j (by omega)) y6
/-- one command, brackets aside -/
theorem rcmd {g : ev_G} {S0 z : ev_S} {D a n c s d : Nat} {T : Nat → Int32} (hD : 20 ≤ D) (hn : n ≤ 800) (hm : ∀ j, j < n → ¬ T j = -1) (hs : s ≤ n) (hc : c ≤ 30) (hd : d ≤ 2) (h : m_tk z.1 a n T s) (h21 : z.1 a 21 = Int32.ofNat c) (hr : m_sr S0 z a) {Q : ev_O → ev_S → Prop}
    (q1 : ∀ e p, p_rc T n d c s = .inl (e, p) → ∀ y, m_er S0 y a e p → Q (.inl none) y)
    (q2 : ∀ c0 s', p_rc T n d c s = .inr (.inl c0, s') → s < s' → s' ≤ n → ∀ y, m_tk y.1 a n T s' → y.1 a 21 = Int32.ofNat (c + 1) → m_sr S0 y a → (∀ j, j < c → y.1 (a + 8) j = z.1 (a + 8) j) → (∀ j, j < 6 * c → y.1 (a + 9) j = z.1 (a + 9) j) → r_cmd (y.1 (a + 8)) (y.1 (a + 9)) c c0 → Q (.inl none) y)
    (q3 : ∀ v s', p_rc T n d c s = .inr (.inr v, s') → s < s' → s' ≤ n → 0 ≤ v → v ≤ 20 → d < 2 → ∀ y, m_tk y.1 a n T s' → y.1 a 21 = Int32.ofNat (c + 1) → m_sr S0 y a → (∀ j, j < c → y.1 (a + 8) j = z.1 (a + 8) j) → (∀ j, j < 6 * c → y.1 (a + 9) j = z.1 (a + 9) j) → y.1 (a + 8) c = 6 → y.1 (a + 9) (6 * c) = v →
      ev_Cv g m_X10_readsCommands (D + 3) 0 [ev_o 10 a, ev_i (Int32.ofNat (d + 1))] y (fun o S5 => o = .inl none ∧ (ev_Cv g m_X10_takesSign 4 0 [ev_o 10 a, ev_i 41] S5 (fun o S6 => o = .inl none ∧ (∀ S7 : ev_S, S7 = ev_up S6 (a + 9) (6 * c + 1) (S6.1 a 21) → ev_Cv g m_X10_takesSign 4 0 [ev_o 10 a, ev_i 59] S7 (fun o S8 => o = .inl none ∧ Q (.inl none) S8)))))) :
    ev_Cv g m_X10_readsCommand (D + 3 + 2) 0 [ev_o 10 a, ev_i (Int32.ofNat d)] z Q := by
  have e30 : (30 : Int32) = Int32.ofNat 30 := rfl
  have e6 : (6 : Int32) = Int32.ofNat 6 := rfl
  have hkl := p_kind_le (T := T) (n := n) (s := s)
  refine sg_X10_readsCommand_0 (by omega) a _ (c_cmdHere hn hs h _ ⟨_, rfl, ?_⟩)
  unfold p_rc at q1 q2 q3
  by_cases hk7 : p_kind T n s = 7
  · rw [if_pos hk7]
    rw [if_pos hk7] at q1
    exact j_pos rfl (c_must_f (by decide) h (fun y y1 y2 _ => ⟨false, rfl, fun hf => absurd hf (by decide), fun _ => q1 _ _ rfl y ⟨m_sr_1 hr y1, y2⟩⟩))
  rw [if_neg hk7] at q1 q2 q3 ⊢
  refine j_neg (n_m1' (by omega)) (c_must_t h.2.2.1 ⟨true, rfl, fun _ => ?_, fun hf => absurd rfl hf⟩)
  rw [h21, e30, n_le (by omega) (by omega)]
  by_cases hc30 : 30 ≤ c
  · rw [if_pos hc30] at q1
    exact j_pos hc30 (c_must_f (by decide) h (fun y y1 y2 _ => ⟨false, rfl, fun hf => absurd hf (by decide), fun _ => q1 _ _ rfl y ⟨m_sr_1 hr y1, y2⟩⟩))
  rw [if_neg hc30] at q1 q2 q3
  refine j_neg hc30 (c_must_t h.2.2.1 ⟨true, rfl, fun _ => ?_, fun hf => absurd rfl hf⟩)
  rw [h21, n_inc, n_c (by omega)]
  refine ⟨(n_vp (by omega) (by omega)).mpr trivial, fun S4 e4 S5 e5 => ?_⟩
  obtain ⟨k0, hw⟩ := p_kind_w (T := T) (n := n) (s := s) (by omega)
  have hlt := x_w_lt hs hw
  have he := x_E_le (T := T) hs
  have ht5 : m_tk S5.1 a n T s := by
    obtain ⟨a1, a2, a3, a4, a5, a6, a7, a8⟩ := h
    have f : ∀ i, i ≠ 21 → S5.1 a i = z.1 a i := fun i hi => by rw [e5, m_k hi, e4, m_r (by omega)]
    exact ⟨by rw [f _ (by omega)]; exact a1, fun j hj => by rw [e5, m_r (by omega), e4, m_r (by omega)]; exact a2 j hj, by rw [f _ (by omega)]; exact a3, by rw [f _ (by omega)]; exact a4, by rw [f _ (by omega)]; exact a5, by rw [f _ (by omega)]; exact a6, by rw [f _ (by omega)]; exact a7, by rw [f _ (by omega)]; exact a8⟩
  have hr5 : m_sr S0 S5 a := by rw [e5, e4]; exact m_sr_21 (m_sr_8 hr)
  refine c_stp hn hm hs ht5 (fun S6 z1 z2 => ⟨rfl, ?_⟩)
  have hr6 := m_sr_1 hr5 z1
  have k6 : S6.1 (a + 8) = upd (z.1 (a + 8)) c (Int32.ofNat (p_kind T n s)) := by rw [z1.2.1 _ (by omega), e5, m_r (by omega), e4, m_u, r_s]
  have n6 : S6.1 (a + 9) = z.1 (a + 9) := by rw [z1.2.1 _ (by omega), e5, m_r (by omega), e4, m_r (by omega)]
  have f21 : S6.1 a 21 = Int32.ofNat (c + 1) := by rw [z1.2.2 _ (by omega), e5, m_s]
  rw [e6, n_eq (by omega) (by omega)]
  by_cases hk6 : p_kind T n s = 6
  · rw [if_pos hk6] at q1 q3
    refine j_pos hk6 ?_
    refine c_rep (S0 := S0) hD hn hm he.2 (by omega) hd z2 f21 hr6 (fun e p hp y hy => ?_) (fun v s2 hp hsg y hy => ?_) (fun v s2 hp hsg hdd y hy => ?_) (fun v s2 hp hsg hdd v0 v20 l1 l2 y y1 y2 y3 y4 y5 y6 => ?_)
    · rw [hp] at q1
      exact ⟨rfl, c_sign_e (m_er_7 hy) ⟨rfl, q1 e p rfl y hy⟩⟩
    · rw [hp] at q1
      simp only [p_bd] at q1
      rw [if_neg hsg] at q1
      exact ⟨rfl, c_sign_e (m_er_7 hy) ⟨rfl, q1 _ _ rfl y hy⟩⟩
    · rw [hp] at q1
      simp only [p_bd] at q1
      rw [if_pos hsg, if_pos hdd] at q1
      exact ⟨rfl, c_sign_e (m_er_7 hy) ⟨rfl, q1 _ _ rfl y hy⟩⟩
    · rw [hp] at q3
      simp only [p_bd] at q3
      rw [if_pos hsg, if_neg (by omega)] at q3
      have := q3 v _ rfl (by omega) l2 v0 v20 hdd y y1 y2 y3 (fun j hj => by rw [y4 _ (by omega) (by omega), k6, u_k (by omega)]) (fun j hj => by rw [y5 j (by omega), n6]) (by rw [y4 _ (by omega) (by omega), k6, u_s, hk6]; rfl) y6
      exact ev_Cv.mono (fun o S5 h5 => ⟨h5.1, ev_Cv.mono (fun o S6 h6 => ⟨h6.1, fun S7 e7 => ⟨rfl, h6.2 S7 e7⟩⟩) h5.2⟩) this
  · rw [if_neg hk6] at q1 q2
    refine j_neg hk6 ?_
    generalize hk : p_kind T n s = k at *
    unfold p_sing at q1 q2
    obtain ⟨r1, r2, r3⟩ := rg_end (k := k) (by omega)
    refine c_single (k := k) (by omega) (by omega) (by rw [k6, u_s]) (KC_ok (S0 := S0) hn hm (by omega) (p_rg k) 0 _ S6 (by omega) he.2 z2 hr6 (fun e p hp y hy => ⟨rfl, ?_⟩) (fun L s' hp k1 k2 y y1 y2 y3 y4 y5 y6 => ⟨rfl, ?_⟩))
    · rw [hp] at q1
      exact c_sign_e (m_er_7 hy) ⟨rfl, q1 e p rfl y hy⟩
    · have hL := p_args_len _ _ _ _ hp
      rw [hp] at q1 q2
      simp only [p_bd] at q1 q2
      refine c_sign hn hm k2 y1 (fun c10 x x1 x2 => ⟨rfl, ?_⟩) (fun c10 x3 x4 x x1 x2 => ⟨rfl, ?_⟩)
      · rw [p_sgn, if_neg c10] at q1
        exact q1 _ _ rfl x ⟨m_sr_1 y2 x1, x2⟩
      · rw [p_sgn, if_pos c10] at q2
        have kx : x.1 (a + 8) = upd (z.1 (a + 8)) c (Int32.ofNat k) := by rw [x1.2.1 _ (by omega), y3 _ (by omega) (by omega), k6]
        refine q2 (k, L) _ rfl (by omega) x4 x x2 (by rw [x1.2.2 _ (by omega), y4]; exact f21) (m_sr_1 y2 x1) (fun j hj => by rw [kx, u_k (by omega)]) (fun j hj => by rw [x1.2.1 _ (by omega), y5 j (Or.inl (by omega)), n6]) ⟨by rw [kx, u_s], by show k ≤ 5; omega, by show L.length ≤ 6; omega, fun w x' hw => ?_⟩
        rw [x1.2.1 _ (by omega)]
        exact y6 w x' hw
theorem rone_0 {g : ev_G} {S0 : ev_S} {a n : Nat} {T : Nat → Int32} (hn : n ≤ 800) (hm : ∀ j, j < n → ¬ T j = -1) : ROne g S0 a n T 0 := by
  intro Q c s z hs hc hst hp h21 hr q1 q2
  rw [p_one_0] at q1 q2
  have e : Dl 0 + 2 = 38 + 3 + 2 := rfl
  rw [e]
  refine rcmd (S0 := S0) (d := 2) (by omega) hn hm hs hc (by omega) hp h21 hr (fun e p he y hy => ?_) (fun c0 s' he k1 k2 y y1 y2 y3 y4 y5 y6 => ?_) (fun v s' he k1 k2 k3 k4 k5 => absurd k5 (by omega))
  · rw [he] at q1
    exact q1 e p rfl y hy
  · rw [he] at q2
    exact q2 c0 (c + 1) s' rfl k1 k2 (p_rc_c he) rfl y y1 y2 y3 y4 y5 y6
theorem rone_s {g : ev_G} {S0 : ev_S} {a n : Nat} {T : Nat → Int32} (hn : n ≤ 800) (hm : ∀ j, j < n → ¬ T j = -1) {l : Nat} (hl2 : l < 2) (hL : RLst g S0 a n T l) : ROne g S0 a n T (l + 1) := by
  intro Q c s z hs hc hst hp h21 hr q1 q2
  have hd : 2 - (l + 1) < 2 := by omega
  have hd1 : 2 - (l + 1) + 1 = 2 - l := by omega
  rw [p_one_s hd] at q1 q2
  have e : Dl (l + 1) + 2 = Dl l + 3 + 2 := by unfold Dl; omega
  have hD : 20 ≤ Dl l := by unfold Dl; omega
  rw [e]
  refine rcmd (S0 := S0) hD hn hm hs hc (by omega) hp h21 hr (fun e p he y hy => ?_) (fun c0 s' he k1 k2 y y1 y2 y3 y4 y5 y6 => ?_) (fun v s' he k1 k2 k3 k4 k5 y y1 y2 y3 y4 y5 y6 y7 => ?_)
  · rw [he] at q1
    exact q1 e p rfl y hy
  · rw [he] at q2
    exact q2 (Sum.inl c0) (c + 1) s' rfl k1 k2 (p_rc_c he) rfl y y1 y2 y3 y4 y5 y6
  · have hc30 := p_rc_c he
    rw [he] at q1 q2
    simp only [p_bd, p_fins] at q1 q2
    rw [hd1]
    -- behind an error
    have tail : ∀ (e : Int32) (p : Nat) (w : ev_S), (∀ y, m_er S0 y a e p → Q (.inl none) y) → m_er S0 w a e p → ∀ S7 : ev_S, S7 = ev_up w (a + 9) (6 * c + 1) (w.1 a 21) → ev_Cv g m_X10_takesSign 4 0 [ev_o 10 a, ev_i 59] S7 (fun o S8 => o = .inl none ∧ Q (.inl none) S8) := by
      intro e p w hq hw S7 e7
      have h7 : m_er S0 S7 a e p := by
        rw [e7]
        refine ⟨m_sr_9 hw.1, ?_⟩
        unfold m_te
        rw [m_r (by omega)]
        exact hw.2
      exact c_sign_e (m_er_7 h7) ⟨rfl, hq S7 h7⟩
    refine sg_X10_readsCommands_0 hD a _ (hL _ 801 (c + 1) s' y (by omega) k2 hc30 y1 y2 y3 (fun e p he2 w hw => ⟨rfl, ?_⟩) (fun L c2 s2 he2 m1 m2 m3 m4 m5 w w1 w2 w3 w4 w5 w6 => ⟨rfl, ?_⟩))
    · rw [he2] at q1
      exact c_sign_e (m_er_7 hw) ⟨rfl, tail e p w (q1 e p rfl) hw⟩
    · rw [he2] at q1 q2
      dsimp only at q1 q2
      refine c_sign hn hm m2 w1 (fun c10 x x1 x2 => ⟨rfl, ?_⟩) (fun c10 x3 x4 x x1 x2 => ⟨rfl, fun S7 e7 => ?_⟩)
      · rw [p_sgn, if_neg c10] at q1
        exact tail _ _ x (q1 _ _ rfl) ⟨m_sr_1 w3 x1, x2⟩
      · rw [p_sgn, if_pos c10] at q1 q2
        dsimp only at q1 q2
        have x21 : x.1 a 21 = Int32.ofNat c2 := by rw [x1.2.2 _ (by omega)]; exact w2
        rw [x21] at e7
        have t7 : m_tk S7.1 a n T (x_E T n s2) := m_tk_frame x2 (by rw [e7, m_r (by omega)]) (by rw [e7, m_r (by omega)])
        have r7 : m_sr S0 S7 a := by rw [e7]; exact m_sr_9 (m_sr_1 w3 x1)
        refine c_sign hn hm x4 t7 (fun c11 u u1 u2 => ⟨rfl, ?_⟩) (fun c11 u3 u4 u u1 u2 => ⟨rfl, ?_⟩)
        · rw [p_sgn, if_neg c11] at q1
          exact q1 _ _ rfl u ⟨m_sr_1 r7 u1, u2⟩
        · rw [p_sgn, if_pos c11] at q2
          dsimp only at q2
          obtain ⟨t, ht, ht20⟩ : ∃ t, v = Int32.ofNat t ∧ t ≤ 20 := by
            have i20 : (20 : Int32).toInt = 20 := rfl
            have i0 : (0 : Int32).toInt = 0 := rfl
            rw [z_le, i20] at k4
            rw [z_le, i0] at k3
            obtain ⟨t, h1, h2, h3⟩ := n_ofi k3 k4
            exact ⟨t, h1, by omega⟩
          have htv : v.toNatClampNeg = t := by rw [ht, n_c (by omega)]
          rw [htv] at q2
          have ku : u.1 (a + 8) = w.1 (a + 8) := by rw [u1.2.1 _ (by omega), e7, m_r (by omega), x1.2.1 _ (by omega)]
          have nu : u.1 (a + 9) = upd (w.1 (a + 9)) (6 * c + 1) (Int32.ofNat c2) := by rw [u1.2.1 _ (by omega), e7, m_u, r_s, x1.2.1 _ (by omega)]
          have hrz : at_rz (l + 1) (Sum.inr (t, L) : A0 ⊕ (Nat × List (AT l))) = 1 + ls_sz (at_rz l) L := rfl
          refine q2 (Sum.inr (t, L)) c2 _ rfl (by omega) u4 m3 (by rw [hrz]; omega) u u2 (by rw [u1.2.2 _ (by omega), e7, m_r (by omega)]; exact x21) (m_sr_1 r7 u1) (fun j hj => by rw [ku, w4 j (by omega), y4 j hj]) (fun j hj => by rw [nu, u_k (by omega), w5 j (by omega), y5 j hj]) ⟨?_, ?_, ht20, ?_, ?_⟩
          · rw [ku, w4 c (by omega)]; exact y6
          · rw [nu, u_k (by omega), w5 _ (by omega), y7]; exact ht
          · rw [nu, u_s]
            refine congrArg Int32.ofNat ?_
            exact m5
          · dsimp only
            exact q_cds_imp L (c + 1) (fun off' x' p1 p2 hx => r_code_fr l off' x' (fun j j1 j2 => by rw [ku]) (fun j j1 j2 => by rw [nu, u_k (by omega)]) hx) w6
