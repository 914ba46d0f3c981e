/-! ===== a setup: what is read; the class ===== -/
def p_bd {α β : Type} (x : (Int32 × Nat) ⊕ α) (f : α → (Int32 × Nat) ⊕ β) : (Int32 × Nat) ⊕ β := match x with
  | .inl e => .inl e
  | .inr v => f v
def p_sgn (T : Nat → Int32) (n s : Nat) (c : Int32) : (Int32 × Nat) ⊕ Nat := if p_sg T n s c = true then .inr (x_E T n s) else .inl (1, x_B T n s)
def p_wrd (T : Nat → Int32) (n s k : Nat) : (Int32 × Nat) ⊕ Nat := if x_w T n s k = true then .inr (x_E T n s) else .inl (1, x_B T n s)
def o_np (r : Nat → Int32) : Nat := (r 3).toNatClampNeg
def p_bish (T : Nat → Int32) (n : Nat) (r : Nat → Int32) (N s : Nat) : (Int32 × Nat) ⊕ ((Nat → Int32) × Nat) :=
  p_bd (p_num T n s 0 1) (fun u => if 8 ≤ o_bish r 0 N u.1 then .inl (4, x_B T n s) else
    p_bd (p_num T n u.2 0 (Int32.ofNat N - 1)) (fun v => p_bd (p_num T n v.2 0 (Int32.ofNat N - 1)) (fun w =>
      if r (26 + (v.1.toNatClampNeg * N + w.1.toNatClampNeg)) = -1 then p_bd (p_sgn T n w.2 59) (fun s4 => .inr (o_lay r u.1.toNatClampNeg (v.1.toNatClampNeg * N + w.1.toNatClampNeg), s4)) else .inl (3, x_B T n v.2))))
def p_pass (T : Nat → Int32) (n : Nat) (r : Nat → Int32) (s : Nat) : (Int32 × Nat) ⊕ ((Nat → Int32) × Nat) :=
  p_bd (p_num T n s 1 9) (fun u => p_bd (p_num T n u.2 0 9) (fun v => p_bd (p_num T n v.2 0 9) (fun w => p_bd (p_sgn T n w.2 59) (fun s4 => .inr (o_open r (o_np r) u.1 v.1 w.1, s4)))))
def p_snow (T : Nat → Int32) (n : Nat) (r : Nat → Int32) (s : Nat) : (Int32 × Nat) ⊕ ((Nat → Int32) × Nat) :=
  p_bd (p_num T n s 0 (Int32.ofNat (o_np r) - 1)) (fun u => p_bd (p_num T n u.2 0 11) (fun v => p_bd (p_num T n v.2 0 9) (fun w => p_bd (p_sgn T n w.2 59) (fun s4 => .inr (o_snow r u.1.toNatClampNeg v.1.toNatClampNeg w.1, s4)))))
def p_bishs (T : Nat → Int32) (n N : Nat) : Nat → (Nat → Int32) → Nat → (Int32 × Nat) ⊕ ((Nat → Int32) × Nat)
  | 0, r, s => .inr (r, s)
  | k + 1, r, s => if x_w T n s 2 = true then p_bd (p_bish T n r N (x_E T n s)) (fun u => p_bishs T n N k u.1 u.2) else .inr (r, s)
def p_passs (T : Nat → Int32) (n : Nat) : Nat → (Nat → Int32) → Nat → (Int32 × Nat) ⊕ ((Nat → Int32) × Nat)
  | 0, r, s => .inr (r, s)
  | k + 1, r, s => if x_w T n s 3 = true then (if o_np r < 4 then p_bd (p_pass T n r (x_E T n s)) (fun u => p_passs T n k u.1 u.2) else .inl (4, x_B T n s)) else .inr (r, s)
def p_snows (T : Nat → Int32) (n : Nat) : Nat → (Nat → Int32) → Nat → (Int32 × Nat) ⊕ ((Nat → Int32) × Nat)
  | 0, r, s => .inr (r, s)
  | k + 1, r, s => if x_w T n s 4 = true then p_bd (p_snow T n r (x_E T n s)) (fun u => p_snows T n k u.1 u.2) else .inr (r, s)
def p_end (T : Nat → Int32) (n : Nat) (r : Nat → Int32) (s : Nat) : (Int32 × Nat) ⊕ (Nat → Int32) := if x_K T n s = 0 then .inr r else .inl (1, x_B T n s)
/-- behind the head: bishops, passes, snow -/
def p_body (T : Nat → Int32) (n N : Nat) (r : Nat → Int32) (s : Nat) : (Int32 × Nat) ⊕ (Nat → Int32) :=
  p_bd (p_bishs T n N 801 r s) (fun x => p_bd (p_wrd T n x.2 3) (fun s5 => p_bd (p_pass T n x.1 s5) (fun y => p_bd (p_passs T n 801 y.1 y.2) (fun z => p_bd (p_snows T n 801 z.1 z.2) (fun w => p_end T n w.1 w.2)))))
def p_head (T : Nat → Int32) (n : Nat) : (Int32 × Nat) ⊕ ((Nat × Nat) × Nat) :=
  p_bd (p_wrd T n 0 1) (fun s1 => p_bd (p_num T n s1 4 8) (fun u => p_bd (p_num T n u.2 1 60) (fun v => p_bd (p_sgn T n v.2 59) (fun s4 => .inr ((u.1.toNatClampNeg, v.1.toNatClampNeg), s4)))))
def p_set (A T : Nat → Int32) (n : Nat) : (Int32 × Nat) ⊕ (Nat → Int32) := p_bd (p_head T n) (fun u => p_body T n u.1.1 (o_gm0 A u.1.1 u.1.2) u.2)
/-- what reading a setup may touch in the class: the text's own row, the draft -/
def q_ts (S z : ev_S) (b : Nat) : Prop := z.2 = S.2 ∧ ∀ q, q ≠ b + 1 → (q < b + 52 ∨ b + 88 ≤ q) → z.1 q = S.1 q
theorem q_ts_refl (S : ev_S) (b : Nat) : q_ts S S b := ⟨rfl, fun _ _ _ => rfl⟩
theorem q_ts_1 {S z y : ev_S} {b : Nat} (h : q_ts S z b) (h2 : q_1 z y (b + 1)) : q_ts S y b := ⟨h2.1.trans h.1, fun q h1 hq => (h2.2 q h1).trans (h.2 q h1 hq)⟩
theorem q_ts_fr {S z y : ev_S} {b : Nat} (h : q_ts S z b) (h2 : q_fr z y (b + 52) 36) : q_ts S y b := ⟨h2.1.trans h.1, fun q h1 hq => (h2.2 q (by omega)).trans (h.2 q h1 hq)⟩
theorem q_ts_trans {S z y : ev_S} {b : Nat} (h : q_ts S z b) (h2 : q_ts z y b) : q_ts S y b := ⟨h2.1.trans h.1, fun q h1 hq => (h2.2 q h1 hq).trans (h.2 q h1 hq)⟩
def q_err (S z : ev_S) (b : Nat) (c : Int32) (p : Nat) : Prop := q_ts S z b ∧ q_te z.1 (b + 1) c p ∧ q_sh z.1 (b + 52)
theorem q_err_7 {S z : ev_S} {b p : Nat} {c : Int32} (h : q_err S z b c p) : ¬ z.1 (b + 1) 7 = 0 := by rw [h.2.1.1]; exact h.2.1.2.1
theorem q_err_1 {S z y : ev_S} {b n s N L p : Nat} {c : Int32} {r : Nat → Int32} {ρ : List Nat} (h : q_ts S z b) (h2 : q_1 z y (b + 1)) (he : q_te y.1 (b + 1) c p) (hg : q_gm z.1 (b + 52) r N L ρ) : q_err S y b c p := by
  have hs := q_sh_gm hg
  exact ⟨q_ts_1 h h2, he, by rw [h2.2 _ (by omega)]; exact hs.1, by rw [h2.2 _ (by omega)]; exact hs.2⟩
theorem n_lom {k : Nat} {v : Int32} (hk : 1 ≤ k) (hk2 : k < 1000000) (h0 : 0 ≤ v) (h1 : v ≤ Int32.ofNat k - 1) : ∃ m, v = Int32.ofNat m ∧ m < k := by
  exact (n_rng (x := v) hk2).mp ⟨h0, h1⟩
theorem x_rbish {g : ev_G} {S0 S : ev_S} {b n s N lim np : Nat} {T r : Nat → Int32} (hn : n ≤ 800) (hs : s ≤ n) (h : q_tk S.1 (b + 1) n T s) (hi : i_su r N lim np) (hg : q_gm S.1 (b + 52) r N 0 []) (ht : q_ts S0 S b) {Q : ev_O → ev_S → Prop}
    (q1 : ∀ c p, p_bish T n r N s = .inl (c, p) → ∀ z, q_err S0 z b c p → Q (.inl none) z)
    (q2 : ∀ r' s', p_bish T n r N s = .inr (r', s') → s ≤ s' → s' ≤ n → i_su r' N lim np → ∀ z, q_ts S0 z b → q_tk z.1 (b + 1) n T s' → q_gm z.1 (b + 52) r' N 0 [] → Q (.inl none) z) :
    ev_Cv g m_X9_readBishop 5 0 [ev_o 9 b, ev_i (Int32.ofNat N)] S Q := by
  have h8 := hi.1.2.1
  have h4 := hi.1.1
  have hn9 := sq_le h8
  have e8 : (8 : Int32) = Int32.ofNat 8 := rfl
  have e1' : (1 : Int32) = Int32.ofNat 2 - 1 := by decide
  unfold p_bish at q1 q2
  refine sg_X9_readBishop_0 b _ ?_
  rw [a_desk0, a_desk1]
  -- error mode, from the second number on
  have em2 : ∀ (c : Int32) (p : Nat) (z : ev_S) (v1_ v2_ : Int32), q_err S0 z b c p → (∀ z, q_err S0 z b c p → Q (.inl none) z) →
      ((j_at (z.1 (b + 52 + 1 + 2)) 64 (v2_ * Int32.ofNat N + 0) = -1 → ev_Cv g m_X8_expectSign 4 0 [ev_o 8 (b + 1), ev_i 59] z (fun o S4 => o = .inl none ∧ ((S4.1 (b + 1) 7 = 0 → ev_Cv g m_X0_place 2 0 [ev_o 0 (b + 52 + 1 + 1), ev_i v1_, ev_i (v2_ * Int32.ofNat N + 0)] S4 (fun o S5 => o = .inl none ∧ (ev_Cv g m_X0_place 2 0 [ev_o 0 (b + 52 + 10 + 1), ev_i v1_, ev_i (v2_ * Int32.ofNat N + 0)] S5 (fun o S6 => o = .inl none ∧ (Q (.inl none) S6))))) ∧ (¬ S4.1 (b + 1) 7 = 0 → Q (.inl none) S4)))) ∧
      (¬ j_at (z.1 (b + 52 + 1 + 2)) 64 (v2_ * Int32.ofNat N + 0) = -1 → ev_Cv g m_X8_failBefore 1 0 [ev_o 8 (b + 1), ev_i 3] z (fun o S7 => o = .inl none ∧ (ev_Cv g m_X8_expectSign 4 0 [ev_o 8 (b + 1), ev_i 59] S7 (fun o S8 => o = .inl none ∧ ((S8.1 (b + 1) 7 = 0 → ev_Cv g m_X0_place 2 0 [ev_o 0 (b + 52 + 1 + 1), ev_i v1_, ev_i (v2_ * Int32.ofNat N + 0)] S8 (fun o S9 => o = .inl none ∧ (ev_Cv g m_X0_place 2 0 [ev_o 0 (b + 52 + 10 + 1), ev_i v1_, ev_i (v2_ * Int32.ofNat N + 0)] S9 (fun o S10 => o = .inl none ∧ (Q (.inl none) S10))))) ∧ (¬ S8.1 (b + 1) 7 = 0 → Q (.inl none) S8))))))) := by
    intro c p z v1_ v2_ he hq
    have h7 := q_err_7 he
    exact ⟨fun _ => t_expS_e h7 ⟨rfl, j_neg h7 (hq z he)⟩, fun _ => t_failB_e h7 ⟨rfl, t_expS_e h7 ⟨rfl, j_neg h7 (hq z he)⟩⟩⟩
  refine t_num hn hs h (fun c p hp z z1 z2 => ⟨_, rfl, ?_⟩) (fun v1 s1 hp l1 l2 l3 l4 z z1 z2 z6 => ⟨_, rfl, ?_⟩)
  · have he := q_err_1 (n := n) (s := s) ht z1 z2 hg
    have h7 := q_err_7 he
    rw [hp] at q1
    have q1 := q1 c p rfl
    refine ⟨fun _ => t_num_e h7 ⟨_, rfl, t_num_e h7 ⟨_, rfl, em2 c p z 0 0 he q1⟩⟩, fun _ => t_failB_e h7 ⟨rfl, t_num_e h7 ⟨_, rfl, t_num_e h7 ⟨_, rfl, em2 c p z 0 0 he q1⟩⟩⟩⟩
  · rw [hp] at q1 q2
    have t1 := q_ts_1 ht z1
    have g1 : q_gm z.1 (b + 52) r N 0 [] := q_gm_frame (M := S.1) (fun q h1 h2 => z1.2 q (by omega)) hg
    obtain ⟨pl, hpl, hpl2⟩ := n_lom (k := 2) (by omega) (by omega) l1 (by rw [← e1']; exact l2)
    have hk0 := (g1.1 0 (by omega)).2.1
    have hb0 : ∀ x, x < 2 → z.1 (b + 52 + 1 + 3) x = Int32.ofNat (o_bish r 0 N (Int32.ofNat x)) := fun x hx => by
      have : x = 0 ∨ x = 1 := by omega
      rcases this with rfl | rfl
      · exact hk0.2.1
      · exact hk0.2.2.1
    have hbl := o_bish_le r 0 N v1 h8
    rw [hpl, a_in (by omega) (by omega), hb0 pl hpl2, e8, ← hpl, n_lt (by omega) (by omega)]
    simp only [p_bd] at q1 q2
    refine ⟨fun c8 => ?_, fun c8 => ?_⟩
    · rw [if_neg (by omega)] at q1 q2
      refine t_num hn l4 z2 (fun c p hp2 y y1 y2 => ⟨_, rfl, ?_⟩) (fun v2 s2 hp2 k1 k2 k3 k4 y y1 y2 y6 => ⟨_, rfl, ?_⟩)
      · have he := q_err_1 (n := n) (s := s) t1 y1 y2 g1
        have h7 := q_err_7 he
        rw [hp2] at q1
        exact t_num_e h7 ⟨_, rfl, em2 c p y _ _ he (q1 c p rfl)⟩
      · rw [hp2] at q1 q2
        have t2 := q_ts_1 t1 y1
        have g2 : q_gm y.1 (b + 52) r N 0 [] := q_gm_frame (M := z.1) (fun q h1 h2 => y1.2 q (by omega)) g1
        obtain ⟨ro, hro, hro2⟩ := n_lom (k := N) (by omega) (by omega) k1 k2
        dsimp only at q1 q2
        refine t_num hn k4 y2 (fun c p hp3 x x1 x2 => ⟨_, rfl, ?_⟩) (fun v3 s3 hp3 m1 m2 m3 m4 x x1 x2 x6 => ⟨_, rfl, ?_⟩)
        · have he := q_err_1 (n := n) (s := s) t2 x1 x2 g2
          rw [hp3] at q1
          exact em2 c p x _ _ he (q1 c p rfl)
        · rw [hp3] at q1 q2
          have t3 := q_ts_1 t2 x1
          have g3 : q_gm x.1 (b + 52) r N 0 [] := q_gm_frame (M := y.1) (fun q h1 h2 => x1.2 q (by omega)) g2
          obtain ⟨co, hco, hco2⟩ := n_lom (k := N) (by omega) (by omega) m1 m2
          have hsq : ro * N + co < N * N := by
            have : (ro + 1) * N ≤ N * N := Nat.mul_le_mul_right N hro2
            rw [Nat.add_mul, Nat.one_mul] at this
            omega
          have ev : v2 * Int32.ofNat N + v3 = Int32.ofNat (ro * N + co) := by rw [hro, hco, n_mul, n_add]
          have eo : x.1 (b + 52 + 1 + 2) (ro * N + co) = r (26 + (ro * N + co)) := by
            have := (g3.1 0 (by omega)).2.1.1 (ro * N + co) (by omega)
            rw [show 26 + 64 * 0 + (ro * N + co) = 26 + (ro * N + co) by omega] at this
            exact this
          dsimp only at q1 q2
          rw [show v2.toNatClampNeg = ro by rw [hro, n_c (by omega)], show v3.toNatClampNeg = co by rw [hco, n_c (by omega)], show v1.toNatClampNeg = pl by rw [hpl, n_c (by omega)]] at q2
          rw [show v2.toNatClampNeg = ro by rw [hro, n_c (by omega)], show v3.toNatClampNeg = co by rw [hco, n_c (by omega)], show v1.toNatClampNeg = pl by rw [hpl, n_c (by omega)]] at q1
          rw [ev, a_in (by omega) (by omega), eo, hpl]
          refine ⟨fun c9 => ?_, fun c9 => ?_⟩
          · rw [if_pos c9] at q1 q2
            refine t_expS hn m4 x2 (fun c10 w w1 w2 => ⟨rfl, ?_⟩) (fun c10 w3 w4 w w1 w2 => ⟨rfl, ?_⟩)
            · have he := q_err_1 (n := n) (s := s) t3 w1 w2 g3
              rw [p_sgn, if_neg c10] at q1
              exact j_neg (q_err_7 he) (q1 _ _ rfl w he)
            · rw [p_sgn, if_pos c10] at q2
              have t4 := q_ts_1 t3 w1
              have g4 : q_gm w.1 (b + 52) r N 0 [] := q_gm_frame (M := x.1) (fun q h1 h2 => w1.2 q (by omega)) g3
              refine j_pos w2.2.2.1 ?_
              refine g_place (e := b + 52) hpl2 hsq hi c9 g4 (fun v v1 v2 => ?_)
              refine q2 _ _ rfl (by omega) w4 (i_su_lay hpl2 hsq hi) v (q_ts_fr t4 v1) (q_tk_frame w2 (v1.2 _ (by omega)) (v1.2 _ (by omega))) v2
          · rw [if_neg c9] at q1
            refine t_failB (by decide) x2 x6 (fun w w1 w2 => ⟨rfl, ?_⟩)
            have he := q_err_1 (n := n) (s := s) t3 w1 w2 g3
            have h7 := q_err_7 he
            exact t_expS_e h7 ⟨rfl, j_neg h7 (q1 _ _ rfl w he)⟩
    · rw [if_pos (by omega)] at q1
      refine t_failB (by decide) z2 z6 (fun y y1 y2 => ⟨rfl, ?_⟩)
      have he := q_err_1 (n := n) (s := s) t1 y1 y2 g1
      have h7 := q_err_7 he
      exact t_num_e h7 ⟨_, rfl, t_num_e h7 ⟨_, rfl, em2 _ _ y _ _ he (q1 _ _ rfl)⟩⟩
