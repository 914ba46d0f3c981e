/-! ===== a script: the class reads a command's numbers ===== -/
theorem hi_d {g : ev_G} {S : ev_S} {Q : ev_O → ev_S → Prop} (hQ : Q (.inl (some (ev_i 60))) S) : ev_Cv g m_X7_highest 1 0 [ev_i 100] S Q := sg_X7_highest_0 100 (j_pos rfl hQ)
theorem hi_h {g : ev_G} {S : ev_S} {Q : ev_O → ev_S → Prop} (hQ : Q (.inl (some (ev_i 9))) S) : ev_Cv g m_X7_highest 1 0 [ev_i 104] S Q := sg_X7_highest_0 104 (j_neg (by decide) (j_neg (by decide) (j_neg (by decide) (j_neg (by decide) (j_pos rfl hQ)))))
theorem hi_l {g : ev_G} {S : ev_S} {Q : ev_O → ev_S → Prop} (hQ : Q (.inl (some (ev_i 79))) S) : ev_Cv g m_X7_highest 1 0 [ev_i 108] S Q := sg_X7_highest_0 108 (j_neg (by decide) (j_neg (by decide) (j_neg (by decide) (j_neg (by decide) (j_neg (by decide) (j_neg (by decide) (j_neg (by decide) (j_neg (by decide) (j_pos rfl hQ)))))))))
theorem hi_m {g : ev_G} {S : ev_S} {Q : ev_O → ev_S → Prop} (hQ : Q (.inl (some (ev_i 11))) S) : ev_Cv g m_X7_highest 1 0 [ev_i 109] S Q := sg_X7_highest_0 109 (j_neg (by decide) (j_neg (by decide) (j_neg (by decide) (j_neg (by decide) (j_neg (by decide) (j_neg (by decide) (j_neg (by decide) (j_neg (by decide) (j_neg (by decide) (j_pos rfl hQ))))))))))
theorem hi_p {g : ev_G} {S : ev_S} {Q : ev_O → ev_S → Prop} (hQ : Q (.inl (some (ev_i 3))) S) : ev_Cv g m_X7_highest 1 0 [ev_i 112] S Q := sg_X7_highest_0 112 (j_neg (by decide) (j_neg (by decide) (j_neg (by decide) (j_neg (by decide) (j_neg (by decide) (j_neg (by decide) (j_neg (by decide) (j_neg (by decide) (j_neg (by decide) (j_neg (by decide) (j_neg (by decide) (j_neg (by decide) (j_pos rfl hQ)))))))))))))
theorem hi_s {g : ev_G} {S : ev_S} {Q : ev_O → ev_S → Prop} (hQ : Q (.inl (some (ev_i 63))) S) : ev_Cv g m_X7_highest 1 0 [ev_i 115] S Q := sg_X7_highest_0 115 (j_neg (by decide) (j_neg (by decide) (j_neg (by decide) (j_neg (by decide) (j_neg (by decide) (j_neg (by decide) (j_neg (by decide) (j_neg (by decide) (j_neg (by decide) (j_neg (by decide) (j_neg (by decide) (j_neg (by decide) (j_neg (by decide) (j_neg (by decide) (j_neg (by decide) (j_pos rfl hQ))))))))))))))))
theorem hi_t {g : ev_G} {S : ev_S} {Q : ev_O → ev_S → Prop} (hQ : Q (.inl (some (ev_i 20))) S) : ev_Cv g m_X7_highest 1 0 [ev_i 116] S Q := sg_X7_highest_0 116 (j_neg (by decide) (j_neg (by decide) (j_neg (by decide) (j_neg (by decide) (j_neg (by decide) (j_neg (by decide) (j_neg (by decide) (j_neg (by decide) (j_neg (by decide) (j_neg (by decide) (j_neg (by decide) (j_neg (by decide) (j_neg (by decide) (j_neg (by decide) (j_neg (by decide) (j_neg (by decide) (j_pos rfl hQ)))))))))))))))))
theorem hi_w {g : ev_G} {S : ev_S} {Q : ev_O → ev_S → Prop} (hQ : Q (.inl (some (ev_i 1))) S) : ev_Cv g m_X7_highest 1 0 [ev_i 119] S Q := sg_X7_highest_0 119 (j_neg (by decide) (j_neg (by decide) (j_neg (by decide) (j_neg (by decide) (j_neg (by decide) (j_neg (by decide) (j_neg (by decide) (j_neg (by decide) (j_neg (by decide) (j_neg (by decide) (j_neg (by decide) (j_neg (by decide) (j_neg (by decide) (j_neg (by decide) (j_neg (by decide) (j_neg (by decide) (j_neg (by decide) (j_neg (by decide) (j_neg (by decide) (j_pos rfl hQ))))))))))))))))))))
def p_hi (ch v : Int32) : Prop := ∀ (g : ev_G) (S : ev_S) (Q : ev_O → ev_S → Prop), Q (.inl (some (ev_i v))) S → ev_Cv g m_X7_highest 1 0 [ev_i ch] S Q
/-- a command's string of letters says its numbers' ranges -/
theorem rg_at {k i : Nat} (hk : k ≤ 6) (hi : i < ev_le.getD (12 + k) 0) : ∃ q, (p_rg k).drop i = q :: (p_rg k).drop (i + 1) ∧ f_X7_lowest (j_lb (12 + k) i) = q.1 ∧ p_hi (j_lb (12 + k) i) q.2 := by
  have : k = 0 ∨ k = 1 ∨ k = 2 ∨ k = 3 ∨ k = 4 ∨ k = 5 ∨ k = 6 := by omega
  rcases this with rfl | rfl | rfl | rfl | rfl | rfl | rfl
  · have hi : i < 4 := hi
    have : i = 0 ∨ i = 1 ∨ i = 2 ∨ i = 3 := by omega
    rcases this with rfl | rfl | rfl | rfl
    · exact ⟨_, rfl, by decide, fun g S Q h => hi_w h⟩
    · exact ⟨_, rfl, by decide, fun g S Q h => hi_s h⟩
    · exact ⟨_, rfl, by decide, fun g S Q h => hi_s h⟩
    · exact ⟨_, rfl, by decide, fun g S Q h => hi_p h⟩
  · have hi : i < 6 := hi
    have : i = 0 ∨ i = 1 ∨ i = 2 ∨ i = 3 ∨ i = 4 ∨ i = 5 := by omega
    rcases this with rfl | rfl | rfl | rfl | rfl | rfl
    · exact ⟨_, rfl, by decide, fun g S Q h => hi_w h⟩
    · exact ⟨_, rfl, by decide, fun g S Q h => hi_p h⟩
    · exact ⟨_, rfl, by decide, fun g S Q h => hi_s h⟩
    · exact ⟨_, rfl, by decide, fun g S Q h => hi_s h⟩
    · exact ⟨_, rfl, by decide, fun g S Q h => hi_s h⟩
    · exact ⟨_, rfl, by decide, fun g S Q h => hi_s h⟩
  · have hi : i < 2 := hi
    have : i = 0 ∨ i = 1 := by omega
    rcases this with rfl | rfl
    · exact ⟨_, rfl, by decide, fun g S Q h => hi_l h⟩
    · exact ⟨_, rfl, by decide, fun g S Q h => hi_p h⟩
  · have hi : i < 1 := hi
    have : i = 0 := by omega
    subst this
    exact ⟨_, rfl, by decide, fun g S Q h => hi_d h⟩
  · have hi : i < 2 := hi
    have : i = 0 ∨ i = 1 := by omega
    rcases this with rfl | rfl
    · exact ⟨_, rfl, by decide, fun g S Q h => hi_p h⟩
    · exact ⟨_, rfl, by decide, fun g S Q h => hi_w h⟩
  · have hi : i < 3 := hi
    have : i = 0 ∨ i = 1 ∨ i = 2 := by omega
    rcases this with rfl | rfl | rfl
    · exact ⟨_, rfl, by decide, fun g S Q h => hi_p h⟩
    · exact ⟨_, rfl, by decide, fun g S Q h => hi_m h⟩
    · exact ⟨_, rfl, by decide, fun g S Q h => hi_h h⟩
  · have hi : i < 1 := hi
    have : i = 0 := by omega
    subst this
    exact ⟨_, rfl, by decide, fun g S Q h => hi_t h⟩
theorem rg_end {k : Nat} (hk : k ≤ 6) : (p_rg k).drop (ev_le.getD (12 + k) 0) = [] ∧ (p_rg k).length = ev_le.getD (12 + k) 0 ∧ ev_le.getD (12 + k) 0 ≤ 6 := by
  have : k = 0 ∨ k = 1 ∨ k = 2 ∨ k = 3 ∨ k = 4 ∨ k = 5 ∨ k = 6 := by omega
  rcases this with rfl | rfl | rfl | rfl | rfl | rfl | rfl <;> exact ⟨rfl, rfl, by decide⟩
theorem jp_r {S : ev_S} {a n q : Nat} {x v : Int32} (h : q ≠ a) : (j_put S a n x v).1 q = S.1 q := by
  unfold j_put
  split
  · rfl
  · split
    · rfl
    · exact m_r h
theorem jp_2 {S : ev_S} {a n : Nat} {x v : Int32} : (j_put S a n x v).2 = S.2 := by
  unfold j_put
  split
  · rfl
  · split <;> rfl
/-- what reading a script may touch in the class: the text's own row, the script -/
def q_sr (S z : ev_S) (b : Nat) : Prop := z.2 = S.2 ∧ ∀ q, q ≠ b + 1 → (q < b + 3 ∨ b + 9 ≤ q) → z.1 q = S.1 q
theorem q_sr_refl (S : ev_S) (b : Nat) : q_sr S S b := ⟨rfl, fun _ _ _ => rfl⟩
theorem q_sr_1 {S z y : ev_S} {b : Nat} (h : q_sr S z b) (h2 : q_1 z y (b + 1)) : q_sr S y b := ⟨h2.1.trans h.1, fun q h1 hq => (h2.2 q h1).trans (h.2 q h1 hq)⟩
theorem q_sr_up {S z : ev_S} {b q k : Nat} {v : Int32} (h : q_sr S z b) (h1 : b + 3 ≤ q) (h2 : q < b + 9) : q_sr S (ev_up z q k v) b := ⟨h.1, fun y hy hq => by rw [m_r (by omega)]; exact h.2 y hy hq⟩
theorem q_sr_jp {S z : ev_S} {b q n : Nat} {x v : Int32} (h : q_sr S z b) (h1 : b + 3 ≤ q) (h2 : q < b + 9) : q_sr S (j_put z q n x v) b := ⟨jp_2.trans h.1, fun y hy hq => by rw [jp_r (by omega)]; exact h.2 y hy hq⟩
theorem q_sr_tr {S z y : ev_S} {b : Nat} (h : q_sr S z b) (h2 : q_sr z y b) : q_sr S y b := ⟨h2.1.trans h.1, fun q h1 hq => (h2.2 q h1 hq).trans (h.2 q h1 hq)⟩
/-- an error, once seen, ends the reading of a command -/
theorem rc53_e {g : ev_G} {S0 : ev_S} {b : Nat} {c : Int32} {p : Nat} {Q : ev_O → ev_S → Prop} (hq : ∀ y, q_sr S0 y b → q_te y.1 (b + 1) c p → Q (.inl none) y) {k : Nat} (hk : k ≤ 6) : ∀ (m i : Nat) (z : ev_S), i + m = ev_le.getD (12 + k) 0 → q_sr S0 z b → q_te z.1 (b + 1) c p →
    ev_E g m_X7_readCommand 7 0 53 [some (ev_o 7 (b + 3)), some (ev_o 8 (b + 1)), some (ev_i (Int32.ofNat (k + 1))), some (ev_x 1 (12 + k)), some (ev_i (Int32.ofNat i)), none] [] z Q := by
  obtain ⟨r1, r2, r3⟩ := rg_end hk
  have last : ∀ z, q_sr S0 z b → q_te z.1 (b + 1) c p → ∀ u2 : Int32, ∀ S5 : ev_S, S5 = (j_put z (b + 3 + 1) 60 (z.1 (b + 3) 5) u2) → ∀ S6 : ev_S, S6 = (ev_up S5 (b + 3) 5 ((S5.1 (b + 3) 5) + 1)) → Q (.inl none) S6 := by
    intro z h1 h2 u2 S5 e5 S6 e6
    refine hq S6 (by rw [e6, e5]; exact q_sr_up (q_sr_jp h1 (by omega) (by omega)) (by omega) (by omega)) ?_
    unfold q_te
    rw [e6, m_r (by omega), e5, jp_r (by omega)]
    exact h2
  intro m
  induction m with
  | zero =>
    intro i z hi h1 h2
    have h7 : ¬ z.1 (b + 1) 7 = 0 := by rw [h2.1]; exact h2.2.1
    refine sg_X7_readCommand_53 (b + 3) (b + 1) _ _ _ (j_pos (by rw [j_sh0, n_le (by omega) (by omega)]; omega) ⟨fun _ => ?_, fun _ => ?_⟩)
    · have op : ∀ P : ev_S → Prop, P z → ((z.1 (b + 1) 7 = 0 → ∀ S2 : ev_S, S2 = j_put z (b + 3 + 5) 2 (z.1 (b + 3) 7) (z.1 (b + 3) 5) → ∀ S3 : ev_S, S3 = ev_up S2 (b + 3) 7 (S2.1 (b + 3) 7 + 1) → P S3) ∧ (¬ z.1 (b + 1) 7 = 0 → P z)) := fun P hP => j_neg h7 hP
      refine sg_X7_openBracket_0 (b + 3) (b + 1) ⟨fun _ => t_expS_e h7 ⟨rfl, ?_⟩, fun _ => ?_⟩
      · exact j_neg h7 ⟨rfl, last z h1 h2 _⟩
      · rw [t_isS_e h7]
        exact ⟨fun hf => absurd hf (by decide), fun _ => t_expS_e h7 ⟨rfl, j_neg h7 ⟨rfl, last z h1 h2 _⟩⟩⟩
    · exact t_expS_e h7 ⟨rfl, last z h1 h2 _⟩
  | succ m ih =>
    intro i z hi h1 h2
    have h7 : ¬ z.1 (b + 1) 7 = 0 := by rw [h2.1]; exact h2.2.1
    obtain ⟨q, hq1, hlo, hhi⟩ := rg_at hk (i := i) (by omega)
    obtain ⟨b1, b2⟩ := lit_b (k := 12 + k) (i := i) (by omega) (by omega)
    refine sg_X7_readCommand_53 (b + 3) (b + 1) _ _ _ (j_neg (by rw [j_sh0, n_le (by omega) (by omega)]; omega) ?_)
    refine ⟨fun hh => by rw [n_neg (by omega)] at hh; exact hh, fun _ hh => hh (by rw [n_lt (by omega) (by omega)]; omega), (n_vp (by omega) (by omega)).mpr trivial, b2, ?_⟩
    rw [b1]
    refine hhi g z _ ⟨_, rfl, t_num_e h7 ⟨_, rfl, fun S9 e9 => ?_⟩⟩
    rw [n_inc]
    refine ih (i + 1) S9 (by omega) (by rw [e9]; exact q_sr_jp h1 (by omega) (by omega)) ?_
    unfold q_te
    rw [e9, jp_r (by omega)]
    exact h2
/-- the numbers are read -/
theorem rc53 {g : ev_G} {S0 : ev_S} {b n len : Nat} {T : Nat → Int32} {Q : ev_O → ev_S → Prop} (hn : n ≤ 800) (hlen : len < 60) {k : Nat} (hk : k ≤ 6) : ∀ (m i s : Nat) (z : ev_S), i + m = ev_le.getD (12 + k) 0 → s ≤ n → q_tk z.1 (b + 1) n T s → z.1 (b + 3) 5 = Int32.ofNat len → q_sr S0 z b →
    (∀ c p, p_args T n ((p_rg k).drop i) s = .inl (c, p) → ∀ y, q_sr S0 y b → q_te y.1 (b + 1) c p → Q (.inl none) y) →
    (∀ L s', p_args T n ((p_rg k).drop i) s = .inr (L, s') → s ≤ s' → s' ≤ n → ∀ y, q_tk y.1 (b + 1) n T s' → q_sr S0 y b → (∀ q, q ≠ b + 1 → q ≠ b + 5 → y.1 q = z.1 q) → (∀ j, j < len * 6 + i → y.1 (b + 5) j = z.1 (b + 5) j) → (∀ w x, L[w]? = some x → y.1 (b + 5) (len * 6 + i + w) = x) →
      ev_E g m_X7_readCommand 7 0 53 [some (ev_o 7 (b + 3)), some (ev_o 8 (b + 1)), some (ev_i (Int32.ofNat (k + 1))), some (ev_x 1 (12 + k)), some (ev_i (Int32.ofNat (ev_le.getD (12 + k) 0))), none] [] y Q) →
    ev_E g m_X7_readCommand 7 0 53 [some (ev_o 7 (b + 3)), some (ev_o 8 (b + 1)), some (ev_i (Int32.ofNat (k + 1))), some (ev_x 1 (12 + k)), some (ev_i (Int32.ofNat i)), none] [] z Q := by
  obtain ⟨r1, r2, r3⟩ := rg_end hk
  intro m
  induction m with
  | zero =>
    intro i s z hi hs h h5 hr q1 q2
    have : i = ev_le.getD (12 + k) 0 := by omega
    subst this
    rw [r1] at q2
    exact q2 [] s rfl (Nat.le_refl _) hs z h hr (fun _ _ _ => rfl) (fun _ _ => rfl) (fun w x hx => by simp at hx)
  | succ m ih =>
    intro i s z hi hs h h5 hr q1 q2
    obtain ⟨q, hq1, hlo, hhi⟩ := rg_at hk (i := i) (by omega)
    obtain ⟨b1, b2⟩ := lit_b (k := 12 + k) (i := i) (by omega) (by omega)
    rw [hq1, p_args] at q1 q2
    refine sg_X7_readCommand_53 (b + 3) (b + 1) _ _ _ (j_neg (by rw [j_sh0, n_le (by omega) (by omega)]; omega) ?_)
    refine ⟨fun hh => by rw [n_neg (by omega)] at hh; exact hh, fun _ hh => hh (by rw [n_lt (by omega) (by omega)]; omega), (n_vp (by omega) (by omega)).mpr trivial, b2, ?_⟩
    have em : Int32.ofNat len * 6 + Int32.ofNat i = Int32.ofNat (len * 6 + i) := by rw [show Int32.ofNat len * 6 = Int32.ofNat (len * 6) from rm_6 len, n_add]
    rw [b1, hlo, h5, em]
    refine hhi g z _ ⟨_, rfl, t_num hn hs h (fun c p hp y y1 y2 => ⟨_, rfl, fun S9 e9 => ?_⟩) (fun v s1 hp l1 l2 l3 l4 y y1 y2 _ => ⟨_, rfl, fun S9 e9 => ?_⟩)⟩
    · rw [hp] at q1
      rw [n_inc]
      refine rc53_e (S0 := S0) (q1 c p rfl) hk m (i + 1) S9 (by omega) (by rw [e9]; exact q_sr_jp (q_sr_1 hr y1) (by omega) (by omega)) ?_
      unfold q_te
      rw [e9, jp_r (by omega)]
      exact y2
    · rw [hp] at q1 q2
      simp only [p_bd] at q1 q2
      rw [a_put (by omega) (by omega)] at e9
      have eq5 : b + 3 + 2 = b + 5 := rfl
      rw [eq5] at e9
      have fr : ∀ q, q ≠ b + 1 → q ≠ b + 5 → S9.1 q = z.1 q := fun q h1 h5 => by rw [e9, m_r h5]; exact y1.2 q h1
      have f5 : ∀ j, j < len * 6 + i → S9.1 (b + 5) j = z.1 (b + 5) j := fun j hj => by rw [e9, m_k (by omega), y1.2 _ (by omega)]
      have fv : S9.1 (b + 5) (len * 6 + i) = v := by rw [e9, m_s]
      rw [n_inc]
      refine ih (i + 1) s1 S9 (by omega) l4 (q_tk_frame y2 (by rw [e9, m_r (by omega)]) (by rw [e9, m_r (by omega)])) (by rw [fr _ (by omega) (by omega)]; exact h5) (by rw [e9]; exact q_sr_up (q_sr_1 hr y1) (by omega) (by omega)) (fun c p hp2 => ?_) (fun L s' hp2 k1 k2 x x1 x2 x3 x4 x5 => ?_)
      · rw [hp2] at q1
        exact q1 c p rfl
      · rw [hp2] at q2
        refine q2 _ _ rfl (by omega) k2 x x1 x2 (fun q h1 h5 => by rw [x3 q h1 h5, fr q h1 h5]) (fun j hj => by rw [x4 j (by omega), f5 j hj]) (fun w y hw => ?_)
        cases w with
        | zero =>
          simp at hw
          have e0 : len * 6 + i + 0 = len * 6 + i := rfl
          rw [e0, x4 _ (by omega), fv]
          exact hw
        | succ w =>
          simp at hw
          have := x5 w y hw
          rw [show len * 6 + i + (w + 1) = len * 6 + (i + 1) + w by omega]
          exact this
