/-! ===== a setup: the reference reads it ===== -/
def m_s1 (S z : ev_S) (a : Nat) : Prop := z.2 = S.2 ∧ (∀ q, q ≠ a → q ≠ a + 1 → z.1 q = S.1 q) ∧ ∀ i, (i < 13 ∨ 18 < i) → z.1 a i = S.1 a i
theorem m_s1_refl (S : ev_S) (a : Nat) : m_s1 S S a := ⟨rfl, fun _ _ _ => rfl, fun _ _ => rfl⟩
theorem m_s1_1 {S z y : ev_S} {a : Nat} (h : m_s1 S z a) (h2 : m_1 z y a) : m_s1 S y a := ⟨h2.1.trans h.1, fun q h1 hq => (h2.2.1 q h1).trans (h.2.1 q h1 hq), fun i hi => (h2.2.2 i hi).trans (h.2.2 i hi)⟩
theorem m_s1_up {S z : ev_S} {a k : Nat} {v : Int32} (h : m_s1 S z a) : m_s1 S (ev_up z (a + 1) k v) a := ⟨h.1, fun q h1 hq => by rw [m_r hq]; exact h.2.1 q h1 hq, fun i hi => by rw [m_r (by omega)]; exact h.2.2 i hi⟩
def m_err (S z : ev_S) (a : Nat) (c : Int32) (p : Nat) : Prop := m_s1 S z a ∧ m_te z.1 a c p
theorem m_err_7 {S z : ev_S} {a p : Nat} {c : Int32} (h : m_err S z a c p) : ¬ z.1 a 17 = 0 := by rw [h.2.1]; exact h.2.2.1
theorem m_tk_up {z : ev_S} {a n s k : Nat} {v : Int32} {T : Nat → Int32} (h : m_tk z.1 a n T s) : m_tk (ev_up z (a + 1) k v).1 a n T s := m_tk_frame h (m_r (by omega)) (m_r (by omega))
theorem w_1 {T : Nat → Int32} {n s : Nat} : x_w T n s 28 = x_w T n s 1 := x_w_eq rfl rfl
theorem w_2 {T : Nat → Int32} {n s : Nat} : x_w T n s 29 = x_w T n s 2 := x_w_eq rfl rfl
theorem w_3 {T : Nat → Int32} {n s : Nat} : x_w T n s 30 = x_w T n s 3 := x_w_eq rfl rfl
theorem w_4 {T : Nat → Int32} {n s : Nat} : x_w T n s 31 = x_w T n s 4 := x_w_eq rfl rfl
section RB
variable {g : ev_G} {a : Nat} {Q : ev_O → ev_S → Prop}
theorem rb131_e {S : ev_S} (h : ¬ S.1 a 17 = 0) (x y z : Int32) (hQ : Q (.inl none) S) : ev_E g m_X10_readsBishop 5 0 131 [some (ev_o 10 a), some (ev_i x), some (ev_i y), some (ev_i z)] [] S Q :=
  sg_X10_readsBishop_131 a x y z (c_pass_e h ⟨rfl, c_sign_e h ⟨rfl, j_neg h hQ⟩⟩)
theorem rb94_e {S : ev_S} (h : ¬ S.1 a 17 = 0) (x y z : Int32) (hQ : Q (.inl none) S) : ev_E g m_X10_readsBishop 5 0 94 [some (ev_o 10 a), some (ev_i x), some (ev_i y), some (ev_i z)] [] S Q :=
  sg_X10_readsBishop_94 a x y z (j_neg h (c_must_e h ⟨false, rfl, rb131_e h x y z hQ⟩))
theorem rb69_e {S : ev_S} (h : ¬ S.1 a 17 = 0) (x y : Int32) (hQ : Q (.inl none) S) : ev_E g m_X10_readsBishop 5 0 69 [some (ev_o 10 a), some (ev_i x), some (ev_i y), none] [] S Q :=
  sg_X10_readsBishop_69 a x y (c_looks_e h ⟨false, rfl, fun hf => absurd hf (by decide), fun _ => rb94_e h x y 0 hQ⟩)
theorem rb51_e {S : ev_S} (h : ¬ S.1 a 17 = 0) (x : Int32) (hQ : Q (.inl none) S) : ev_E g m_X10_readsBishop 5 0 51 [some (ev_o 10 a), some (ev_i x), none, none] [] S Q :=
  sg_X10_readsBishop_51 a x (c_pass_e h ⟨rfl, c_num_e h ⟨_, rfl, rb69_e h x _ hQ⟩⟩)
theorem rp33_e {S : ev_S} (h : ¬ S.1 a 17 = 0) (hQ : Q (.inl none) S) : ev_E g m_X10_readsPass 6 0 33 [some (ev_o 10 a), none, none, none] [] S Q :=
  sg_X10_readsPass_33 a (c_pass_e h ⟨rfl, c_num_e h ⟨_, rfl, c_num_e h ⟨_, rfl, c_num_e h ⟨_, rfl, c_sign_e h ⟨rfl, j_neg h hQ⟩⟩⟩⟩⟩)
theorem rp12_e {S : ev_S} (h : ¬ S.1 a 17 = 0) (hQ : Q (.inl none) S) : ev_E g m_X10_readsPass 6 0 12 [some (ev_o 10 a), none, none, none] [] S Q :=
  sg_X10_readsPass_12 a ⟨fun _ => c_must_e h ⟨false, rfl, rp33_e h hQ⟩, fun _ => c_must_e h ⟨false, rfl, rp33_e h hQ⟩⟩
theorem rs94_e {S : ev_S} (h : ¬ S.1 a 17 = 0) (hQ : Q (.inl none) S) : ev_E g m_X10_readsSetup 7 0 94 [some (ev_o 10 a)] [] S Q :=
  sg_X10_readsSetup_94 a (j_neg h hQ)
theorem rs78_e {S : ev_S} (h : ¬ S.1 a 17 = 0) (hQ : Q (.inl none) S) : ev_E g m_X10_readsSetup 7 0 78 [some (ev_o 10 a)] [] S Q :=
  sg_X10_readsSetup_78 a (c_isW_e h _ ⟨false, rfl, fun hf => absurd hf (by decide), fun _ => rs94_e h hQ⟩)
theorem rp_e {S : ev_S} (h : ¬ S.1 a 17 = 0) (hQ : Q (.inl none) S) : ev_Cv g m_X10_readsPass 6 0 [ev_o 10 a] S Q :=
  sg_X10_readsPass_0 a (c_isW_e h _ ⟨false, rfl, fun hf => absurd hf (by decide), fun _ => c_must_e h ⟨false, rfl, rp12_e h hQ⟩⟩)
theorem rs57_e {S : ev_S} (h : ¬ S.1 a 17 = 0) (hQ : Q (.inl none) S) : ev_E g m_X10_readsSetup 7 0 57 [some (ev_o 10 a)] [] S Q :=
  sg_X10_readsSetup_57 a (c_isW_e h _ ⟨false, rfl, fun hf => absurd hf (by decide), fun _ => rp_e h ⟨rfl, rs78_e h hQ⟩⟩)
end RB
theorem c_rbish {g : ev_G} {S0 S : ev_S} {a n s N lim np : Nat} {T r : Nat → Int32} (hn : n ≤ 800) (hm : ∀ j, j < n → ¬ T j = -1) (hs : s ≤ n) (h : m_tk S.1 a n T s) (hr : S.1 (a + 1) = r) (hi : i_su r N lim np) (ht : m_s1 S0 S a) {Q : ev_O → ev_S → Prop}
    (q1 : ∀ c p, p_bish T n r N (x_E T n s) = .inl (c, p) → ∀ z, m_err S0 z a c p → Q (.inl none) z)
    (q2 : ∀ r' s', p_bish T n r N (x_E T n s) = .inr (r', s') → x_E T n s ≤ s' → s' ≤ n → i_su r' N lim np → ∀ z, m_s1 S0 z a → m_tk z.1 a n T s' → z.1 (a + 1) = r' → Q (.inl none) z) :
    ev_Cv g m_X10_readsBishop 5 0 [ev_o 10 a] S Q := by
  have h8 := hi.1.2.1
  have h4 := hi.1.1
  have hn9 := sq_le h8
  have r0 := hi.2.1.1
  have e8 : (8 : Int32) = Int32.ofNat 8 := rfl
  have e1' : (1 : Int32) = Int32.ofNat 2 - 1 := by decide
  have he := x_E_le (T := T) hs
  unfold p_bish at q1 q2
  refine sg_X10_readsBishop_0 a (c_stp hn hm hs h (fun z z1 z2 => ⟨rfl, ?_⟩))
  have t1 := m_s1_1 ht z1
  have zr : z.1 (a + 1) = r := by rw [z1.2.1 _ (by omega)]; exact hr
  generalize x_E T n s = s0 at *
  refine c_looks z2 (fun c p hp y y1 y2 => ⟨false, rfl, fun hf => absurd hf (by decide), fun _ => ?_⟩) (fun v1 s1 hp l1 l2 z16 hs1 => ⟨true, rfl, fun _ => ?_, fun hf => absurd rfl hf⟩)
  · rw [hp] at q1
    have e : m_err S0 y a c p := ⟨m_s1_1 t1 y1, y2⟩
    have h7 := m_err_7 e
    exact sg_X10_readsBishop_22 a _ (j_neg h7 (c_must_e h7 ⟨false, rfl, rb51_e h7 _ (q1 c p rfl y e)⟩))
  rw [hp] at q1 q2
  simp only [p_bd] at q1 q2
  obtain ⟨pl, hpl, hpl2⟩ := n_lom (k := 2) (by omega) (by omega) l1 (by rw [← e1']; exact l2)
  have hbl := o_bish_le r 0 N v1 h8
  rw [z16]
  refine sg_X10_readsBishop_22 a _ (j_pos z2.2.2.1 ?_)
  refine c_bishopsOf a 0 N v1 (by omega) (by rw [zr]; exact r0) h8 _ ⟨_, rfl, ?_⟩
  rw [zr, e8, n_le (by omega) (by omega)]
  refine ⟨fun c8 => ?_, fun c8 => ?_⟩
  · rw [if_pos c8] at q1
    refine c_must_f (by decide) z2 (fun y y1 y2 _ => ⟨false, rfl, ?_⟩)
    have e : m_err S0 y a _ _ := ⟨m_s1_1 t1 y1, y2⟩
    exact rb51_e (m_err_7 e) _ (q1 _ _ rfl y e)
  rw [if_neg c8] at q1 q2
  refine c_must_t z2.2.2.1 ⟨true, rfl, ?_⟩
  refine sg_X10_readsBishop_51 a _ (c_pass hn hm he.2 z2 (fun y y1 y2 => ⟨rfl, ?_⟩))
  have hes := x_E_le (T := T) he.2
  rw [← hs1] at y2 hes
  have t2 := m_s1_1 t1 y1
  have yr : y.1 (a + 1) = r := by rw [y1.2.1 _ (by omega)]; exact zr
  rw [yr, r0]
  refine c_num hn hm hes.2 y2 (fun c p hp2 v x x1 x2 => ⟨_, rfl, ?_⟩) (fun v2 s2 hp2 k1 k2 k3 k4 x x1 x2 => ⟨_, rfl, ?_⟩)
  · rw [hp2] at q1
    have e : m_err S0 x a c p := ⟨m_s1_1 t2 x1, x2⟩
    exact rb69_e (m_err_7 e) _ _ (q1 c p rfl x e)
  rw [hp2] at q1 q2
  dsimp only at q1 q2
  have t3 := m_s1_1 t2 x1
  have xr : x.1 (a + 1) = r := by rw [x1.2.1 _ (by omega)]; exact yr
  obtain ⟨ro, hro, hro2⟩ := n_lom (k := N) (by omega) (by omega) k1 k2
  refine sg_X10_readsBishop_69 a _ _ ?_
  rw [xr, r0]
  refine c_looks x2 (fun c p hp3 w w1 w2 => ⟨false, rfl, fun hf => absurd hf (by decide), fun _ => ?_⟩) (fun v3 s3 hp3 m1 m2 w16 hs3 => ⟨true, rfl, fun _ => ?_, fun hf => absurd rfl hf⟩)
  · rw [hp3] at q1
    have e : m_err S0 w a c p := ⟨m_s1_1 t3 w1, w2⟩
    exact rb94_e (m_err_7 e) _ _ _ (q1 c p rfl w e)
  rw [hp3] at q1 q2
  dsimp only at q1 q2
  obtain ⟨co, hco, hco2⟩ := n_lom (k := N) (by omega) (by omega) m1 m2
  have hsq : ro * N + co < N * N := by
    have : (ro + 1) * N ≤ N * N := Nat.mul_le_mul_right N hro2
    rw [Nat.add_mul, Nat.one_mul] at this
    omega
  rw [show v2.toNatClampNeg = ro by rw [hro, n_c (by omega)], show v3.toNatClampNeg = co by rw [hco, n_c (by omega)], show v1.toNatClampNeg = pl by rw [hpl, n_c (by omega)]] at q2
  rw [show v2.toNatClampNeg = ro by rw [hro, n_c (by omega)], show v3.toNatClampNeg = co by rw [hco, n_c (by omega)]] at q1
  rw [w16, hro, hco, hpl]
  have k3' : ((26 : Int32) + 64 * 0) = Int32.ofNat 26 := by decide
  have k4' : ((26 : Int32) + 64 * 1) = Int32.ofNat 90 := by decide
  have ecell : Int32.ofNat N * Int32.ofNat ro + Int32.ofNat co = Int32.ofNat (ro * N + co) := by rw [n_mul, n_add, Nat.mul_comm]
  refine sg_X10_readsBishop_94 a _ _ _ (j_pos x2.2.2.1 ?_)
  rw [xr, r0, k3', ecell, n_add, n_c (by omega)]
  refine ⟨(n_vp (by omega) (by omega)).mpr trivial, fun c9 => ?_, fun c9 => ?_⟩
  · rw [if_pos c9] at q1 q2
    refine c_must_t x2.2.2.1 ⟨true, rfl, ?_⟩
    have hes3 := x_E_le (T := T) k4
    rw [← hs3] at hes3
    refine sg_X10_readsBishop_131 a _ _ _ (c_pass hn hm k4 x2 (fun w w1 w2 => ⟨rfl, ?_⟩))
    rw [← hs3] at w2
    have t4 := m_s1_1 t3 w1
    have wr : w.1 (a + 1) = r := by rw [w1.2.1 _ (by omega)]; exact xr
    refine c_sign hn hm hes3.2 w2 (fun c10 u u1 u2 => ⟨rfl, ?_⟩) (fun c10 u3 u4 u u1 u2 => ⟨rfl, ?_⟩)
    · rw [p_sgn, if_neg c10] at q1
      have e : m_err S0 u a _ _ := ⟨m_s1_1 t4 u1, u2⟩
      exact j_neg (m_err_7 e) (q1 _ _ rfl u e)
    · rw [p_sgn, if_pos c10] at q2
      have t5 := m_s1_1 t4 u1
      have ur : u.1 (a + 1) = r := by rw [u1.2.1 _ (by omega)]; exact wr
      refine j_pos u2.2.2.1 ?_
      have e9 : (9 : Int32) + Int32.ofNat pl = Int32.ofNat (9 + pl) := n_add 9 pl
      rw [ur, r0, k3', k4', e9, ecell, n_add, n_c (by omega), n_c (by omega)]
      refine ⟨(n_vp (by omega) (by omega)).mpr trivial, fun S3 e3 => ?_⟩
      have r3 : S3.1 (a + 1) 0 = Int32.ofNat N := by rw [e3, m_k (by omega), ur]; exact r0
      rw [r3, ecell, n_add, n_c (by omega)]
      refine ⟨(n_vp (by omega) (by omega)).mpr trivial, fun S4 e4 => ⟨(n_vp (by omega) (by omega)).mpr trivial, fun S5 e5 => ?_⟩⟩
      have e49 : S4.1 (a + 1) (9 + pl) = r (9 + pl) := by rw [e4, m_k (by omega), e3, m_k (by omega), ur]
      have er : S5.1 (a + 1) = o_lay r pl (ro * N + co) := by
        rw [e5, e49, m_u, r_s, e4, m_u, r_s, e3, m_u, r_s, ur]
        rfl
      refine q2 _ _ rfl (by omega) u4 (i_su_lay hpl2 hsq hi) S5 ?_ ?_ er
      · rw [e5, e4, e3]; exact m_s1_up (m_s1_up (m_s1_up t5))
      · rw [e5, e4, e3]; exact m_tk_up (m_tk_up (m_tk_up u2))
  · rw [if_neg c9] at q1
    refine c_must_f (by decide) x2 (fun y y1 y2 _ => ⟨false, rfl, ?_⟩)
    have e : m_err S0 y a _ _ := ⟨m_s1_1 t3 y1, y2⟩
    exact rb131_e (m_err_7 e) _ _ _ (q1 _ _ rfl y e)
