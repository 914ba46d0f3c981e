/-! ===== a script: the class reads it ===== -/
theorem p_kind_end {T : Nat → Int32} {n s : Nat} (h : ¬ x_K T n s = 1) : p_kind T n s = 7 := by
  have hk := p_kind_le (T := T) (n := n) (s := s)
  by_cases h7 : p_kind T n s = 7
  · exact h7
  · obtain ⟨k, hw⟩ := p_kind_w (T := T) (n := n) (s := s) (by omega)
    exact absurd (x_w_1 hw).1 h
def p_fin0 (c : Nat) (u : (A0 ⊕ Int32) × Nat) : (Int32 × Nat) ⊕ (AT 0 × (Nat × Nat)) := match u.1 with
  | .inl c0 => .inr (c0, (c + 1, u.2))
  | .inr _ => .inl (0, 0)
def p_fins (T : Nat → Int32) (n l c : Nat) (u : (A0 ⊕ Int32) × Nat) : (Int32 × Nat) ⊕ (AT (l + 1) × (Nat × Nat)) := match u.1 with
  | .inl c0 => .inr (.inl c0, (c + 1, u.2))
  | .inr v => p_bd (p_lst T n (p_one T n l) 801 (c + 1) u.2) (fun w => p_bd (p_sgn T n w.2.2 41) (fun s2 => p_bd (p_sgn T n s2 59) (fun s3 => .inr (.inr (v.toNatClampNeg, w.1), (w.2.1, s3)))))
theorem p_one_0 {T : Nat → Int32} {n c s : Nat} : p_one T n 0 c s = p_bd (p_rc T n 2 c s) (p_fin0 c) := by
  unfold p_one p_rc
  by_cases h7 : p_kind T n s = 7
  · rw [if_pos h7, if_pos h7]; rfl
  rw [if_neg h7, if_neg h7]
  by_cases h30 : 30 ≤ c
  · rw [if_pos h30, if_pos h30]; rfl
  rw [if_neg h30, if_neg h30]
  by_cases h6 : p_kind T n s = 6
  · rw [if_pos h6, if_pos h6]
    cases p_num T n (x_E T n s) 0 20 with
    | inl e => rfl
    | inr u =>
      simp only [p_bd]
      by_cases h : p_sg T n u.2 40 = true
      · rw [if_pos h, if_pos h, if_pos (by omega)]
      · rw [if_neg h, if_neg h]
  · rw [if_neg h6, if_neg h6]
    cases p_sing T n (p_kind T n s) (x_E T n s) with
    | inl e => rfl
    | inr u => rfl
theorem p_one_s {T : Nat → Int32} {n l d c s : Nat} (hd : d < 2) : p_one T n (l + 1) c s = p_bd (p_rc T n d c s) (p_fins T n l c) := by
  unfold p_rc
  rw [p_one]
  dsimp only
  by_cases h7 : p_kind T n s = 7
  · rw [if_pos h7, if_pos h7]; rfl
  rw [if_neg h7, if_neg h7]
  by_cases h30 : 30 ≤ c
  · rw [if_pos h30, if_pos h30]; rfl
  rw [if_neg h30, if_neg h30]
  by_cases h6 : p_kind T n s = 6
  · rw [if_pos h6, if_pos h6]
    cases p_num T n (x_E T n s) 0 20 with
    | inl e => rfl
    | inr u =>
      simp only [p_bd]
      by_cases h : p_sg T n u.2 40 = true
      · rw [if_pos h, if_pos h, if_neg (by omega)]
        rfl
      · rw [if_neg h, if_neg h]
  · rw [if_neg h6, if_neg h6]
    cases p_sing T n (p_kind T n s) (x_E T n s) with
    | inl e => rfl
    | inr u => rfl
section Rd
variable {g : ev_G} {S0 : ev_S} {b n : Nat} {T : Nat → Int32} {Q : ev_O → ev_S → Prop}
theorem rd_err {z : ev_S} (u : Int32) (h7 : ¬ z.1 (b + 1) 7 = 0) (hQ : Q (.inl none) z) : ev_E g m_X7_read 8 0 21 [some (ev_o 7 (b + 3)), some (ev_o 8 (b + 1)), some (ev_i u)] [] z Q :=
  sg_X7_read_21 (b + 3) (b + 1) u ⟨fun _ => hQ, fun _ => j_neg h7 hQ⟩
/-- a command is read, where the end isn't, nor a bracket that ends one -/
theorem rd_cmd {z : ev_S} {i s len c d : Nat} (hi : i ≤ 800) (hn : n ≤ 800) (hs : s ≤ n) (hd : d ≤ 2) (h : q_ps z.1 b n T s len c d) (h0 : d = 0 → ¬ x_K T n s = 0) (h1 : 1 ≤ d → ¬ p_sg T n s 41 = true)
    (hc : ev_Cv g m_X7_readCommand 7 0 [ev_o 7 (b + 3), ev_o 8 (b + 1)] z (fun o S6 => o = .inl none ∧ (ev_E g m_X7_read 8 0 21 [some (ev_o 7 (b + 3)), some (ev_o 8 (b + 1)), some (ev_i (Int32.ofNat (i + 1)))] [] S6 Q))) :
    ev_E g m_X7_read 8 0 21 [some (ev_o 7 (b + 3)), some (ev_o 8 (b + 1)), some (ev_i (Int32.ofNat i))] [] z Q := by
  have e8 : (800 : Int32) = Int32.ofNat 800 := rfl
  have ez : (0 : Int32) = Int32.ofNat 0 := rfl
  obtain ⟨ht, h5, h6, h7⟩ := h
  refine sg_X7_read_21 (b + 3) (b + 1) _ (j_neg (by rw [e8, n_lt (by omega) (by omega)]; omega) (j_pos ht.2.2.1 ?_))
  have hskip : 1 ≤ d → ∀ P1 P2 : ev_O → ev_S → Prop, ev_Cv g m_X7_readCommand 7 0 [ev_o 7 (b + 3), ev_o 8 (b + 1)] z P1 → ev_Cv g m_X8_skipSign 4 0 [ev_o 8 (b + 1), ev_i 41] z (fun o S7 => ∃ v7_ : Bool, o = .inl (some (ev_i (if v7_ = true then 1 else 0))) ∧ ((v7_ = true → P2 o S7) ∧ (¬ v7_ = true → ev_Cv g m_X7_readCommand 7 0 [ev_o 7 (b + 3), ev_o 8 (b + 1)] S7 P1))) := by
    intro hd1 P1 P2 hp
    refine sg_X8_skipSign_0 (b + 1) 41 ?_
    rw [t_isS ht]
    exact ⟨fun hh => absurd hh (h1 hd1), fun _ => ⟨false, rfl, fun hf => absurd hf (by decide), fun _ => hp⟩⟩
  rw [h7, n_inc]
  refine ⟨fun hz => ?_, fun hz => ?_⟩
  · rw [ez, n_eq (by omega) (by omega)] at hz
    subst hz
    have hE : ¬ t_X8_isEnd z (b + 1) = true := by
      unfold t_X8_isEnd
      rw [if_pos ht.2.2.1, ht.2.2.2.2.2.1, if_neg (h0 rfl)]
      decide
    exact j_neg hE (j_pos (by decide) hc)
  · rw [ez, n_eq (by omega) (by omega)] at hz
    refine j_neg (by rw [ez, n_le (by omega) (by omega)]; omega) ?_
    exact hskip (by omega) _ _ hc
end Rd
def TOne (g : ev_G) (S0 : ev_S) (b n : Nat) (T : Nat → Int32) (Q : ev_O → ev_S → Prop) (l : Nat) : Prop := ∀ (c s len i : Nat) (z : ev_S), i ≤ s → s ≤ n → c ≤ 30 → len + (2 - l) ≤ 2 * c → ¬ p_stop T n s = true → q_ps z.1 b n T s len c (2 - l) → q_sr S0 z b →
  (∀ e p, p_one T n l c s = .inl (e, p) → ∀ y, q_sr S0 y b → q_te y.1 (b + 1) e p → Q (.inl none) y) →
  (∀ x c' s', p_one T n l c s = .inr (x, (c', s')) → s < s' → s' ≤ n → c' ≤ 30 → ∀ y i', i' ≤ s' → q_ps y.1 b n T s' (len + at_sz l x) c' (2 - l) → len + at_sz l x + (2 - l) ≤ 2 * c' → q_sr S0 y b → q_kp3 z.1 y.1 b len (2 - l) → q_code (y.1 (b + 4)) (y.1 (b + 5)) (y.1 (b + 6)) l len x →
    ev_E g m_X7_read 8 0 21 [some (ev_o 7 (b + 3)), some (ev_o 8 (b + 1)), some (ev_i (Int32.ofNat i'))] [] y Q) →
  ev_E g m_X7_read 8 0 21 [some (ev_o 7 (b + 3)), some (ev_o 8 (b + 1)), some (ev_i (Int32.ofNat i))] [] z Q
def TLst (g : ev_G) (S0 : ev_S) (b n : Nat) (T : Nat → Int32) (Q : ev_O → ev_S → Prop) (l : Nat) : Prop := ∀ (k c s len i : Nat) (z : ev_S), n < s + k → i ≤ s → s ≤ n → c ≤ 30 → len + (2 - l) ≤ 2 * c → q_ps z.1 b n T s len c (2 - l) → q_sr S0 z b →
  (∀ e p, p_lst T n (p_one T n l) k c s = .inl (e, p) → ∀ y, q_sr S0 y b → q_te y.1 (b + 1) e p → Q (.inl none) y) →
  (∀ L c' s', p_lst T n (p_one T n l) k c s = .inr (L, (c', s')) → s ≤ s' → s' ≤ n → c' ≤ 30 → p_stop T n s' = true → ∀ y i', i' ≤ s' → q_ps y.1 b n T s' (len + ls_sz (at_sz l) L) c' (2 - l) → len + ls_sz (at_sz l) L + (2 - l) ≤ 2 * c' → q_sr S0 y b → q_kp3 z.1 y.1 b len (2 - l) → q_cds (at_sz l) (q_code (y.1 (b + 4)) (y.1 (b + 5)) (y.1 (b + 6)) l) len L →
    ev_E g m_X7_read 8 0 21 [some (ev_o 7 (b + 3)), some (ev_o 8 (b + 1)), some (ev_i (Int32.ofNat i'))] [] y Q) →
  ev_E g m_X7_read 8 0 21 [some (ev_o 7 (b + 3)), some (ev_o 8 (b + 1)), some (ev_i (Int32.ofNat i))] [] z Q
theorem q_kp3_refl (M : Nat → Nat → Int32) (b len d : Nat) : q_kp3 M M b len d := ⟨fun _ _ => ⟨rfl, rfl⟩, fun _ _ => rfl, fun _ _ => rfl⟩
theorem tlst_of {g : ev_G} {S0 : ev_S} {b n : Nat} {T : Nat → Int32} {Q : ev_O → ev_S → Prop} {l : Nat} (h1 : TOne g S0 b n T Q l) : TLst g S0 b n T Q l := by
  intro k
  induction k with
  | zero => intro c s len i z hk hi hs; omega
  | succ k ih =>
    intro c s len i z hk hi hs hc hl hp hr q1 q2
    rw [p_lst] at q1 q2
    by_cases hst : p_stop T n s = true
    · rw [if_pos hst] at q2
      exact q2 [] c s rfl (Nat.le_refl _) hs hc hst z i hi hp hl hr (q_kp3_refl _ _ _ _) trivial
    · rw [if_neg hst] at q1 q2
      refine h1 c s len i z hi hs hc hl hst hp hr (fun e p he => ?_) (fun x c' s' hx k1 k2 k3 y i' k4 y1 y2 y3 y4 y5 => ?_)
      · rw [he] at q1
        exact q1 e p rfl
      · rw [hx] at q1 q2
        simp only [p_bd] at q1 q2
        refine ih c' s' (len + at_sz l x) i' y (by omega) k4 k2 k3 y2 y1 y3 (fun e p he => ?_) (fun L c2 s2 hL m1 m2 m3 m4 w i2 m5 w1 w2 w3 w4 w5 => ?_)
        · rw [he] at q1
          exact q1 e p rfl
        · rw [hL] at q2
          simp only [ls_sz] at q2
          refine q2 (x :: L) c2 s2 rfl (by omega) m2 m3 m4 w i2 m5 (by rw [ls_sz, ← Nat.add_assoc]; exact w1) (by rw [ls_sz, ← Nat.add_assoc]; exact w2) w3 (q_kp3_tr y4 w4 (by omega) (Nat.le_refl _)) ⟨?_, w5⟩
          exact q_code_fr l len x (fun j j1 j2 => w4.1 j (by omega)) (fun j j1 j2 => w4.2.1 j (by omega)) y5
theorem tone_0 {g : ev_G} {S0 : ev_S} {b n : Nat} {T : Nat → Int32} {Q : ev_O → ev_S → Prop} (hn : n ≤ 800) : TOne g S0 b n T Q 0 := by
  intro c s len i z hi hs hc hl hst hp hr q1 q2
  unfold p_stop at hst
  rw [Bool.or_eq_true, decide_eq_true_eq] at hst
  rw [p_one_0] at q1 q2
  refine rd_cmd (T := T) (n := n) (s := s) (by omega) hn hs (by omega) hp (fun h => absurd h (by omega)) (fun _ hh => hst (Or.inr hh)) ?_
  refine t_rc (S0 := S0) hn hs (by omega) hl hc hp hr (fun e p he y y1 y2 => ⟨rfl, ?_⟩) (fun c0 s' he k1 k2 y y1 y2 y3 y4 y5 => ⟨rfl, ?_⟩) (fun v s' he k1 k2 k3 k4 k5 y => absurd k5 (by omega))
  · rw [he] at q1
    exact rd_err _ (by rw [y2.1]; exact y2.2.1) (q1 e p rfl y y1 y2)
  · rw [he] at q2
    have hc30 : c + 1 ≤ 30 := by
      unfold p_rc at he
      by_cases h7 : p_kind T n s = 7
      · rw [if_pos h7] at he; cases he
      · rw [if_neg h7] at he
        by_cases h30 : 30 ≤ c
        · rw [if_pos h30] at he; cases he
        · omega
    exact q2 c0 (c + 1) s' rfl k1 k2 hc30 y (i + 1) (by omega) y1 (by rw [show at_sz 0 c0 = 1 from rfl]; omega) y2 y3 y4
theorem p_rc_c {T : Nat → Int32} {n d c s : Nat} {u : (A0 ⊕ Int32) × Nat} (he : p_rc T n d c s = .inr u) : c + 1 ≤ 30 := by
  unfold p_rc at he
  by_cases h7 : p_kind T n s = 7
  · rw [if_pos h7] at he; cases he
  · rw [if_neg h7] at he
    by_cases h30 : 30 ≤ c
    · rw [if_pos h30] at he; cases he
    · omega
theorem tone_s {g : ev_G} {S0 : ev_S} {b n : Nat} {T : Nat → Int32} {Q : ev_O → ev_S → Prop} (hn : n ≤ 800) {l : Nat} (hl2 : l < 2) (hL : TLst g S0 b n T Q l) : TOne g S0 b n T Q (l + 1) := by
  intro c s len i z hi hs hc hl hst hp hr q1 q2
  have hst' := hst
  unfold p_stop at hst'
  rw [Bool.or_eq_true, decide_eq_true_eq] at hst'
  have hd : 2 - (l + 1) < 2 := by omega
  have hd1 : 2 - (l + 1) + 1 = 2 - l := by omega
  rw [p_one_s hd] at q1 q2
  refine rd_cmd (T := T) (n := n) (s := s) (by omega) hn hs (by omega) hp (fun _ hh => hst' (Or.inl hh)) (fun _ hh => hst' (Or.inr hh)) ?_
  refine t_rc (S0 := S0) hn hs (by omega) hl hc hp hr (fun e p he y y1 y2 => ⟨rfl, ?_⟩) (fun c0 s' he k1 k2 y y1 y2 y3 y4 y5 => ⟨rfl, ?_⟩) (fun v s' he k1 k2 k3 k4 k5 y y1 y2 y3 y8 y4 y5 y6 y7 => ⟨rfl, ?_⟩)
  · rw [he] at q1
    exact rd_err _ (by rw [y2.1]; exact y2.2.1) (q1 e p rfl y y1 y2)
  · rw [he] at q2
    exact q2 (Sum.inl c0) (c + 1) s' rfl k1 k2 (p_rc_c he) y (i + 1) (by omega) y1 (by rw [show at_sz (l + 1) (Sum.inl c0 : A0 ⊕ (Nat × List (AT l))) = 1 from rfl]; omega) y2 (q_kp3_tr y3 (q_kp3_refl _ _ len 2) (Nat.le_refl _) (by omega) |> fun h => ⟨h.1, h.2.1, fun j hj => h.2.2 j (by omega)⟩) y4
  · have hc30 := p_rc_c he
    rw [he] at q1 q2
    simp only [p_bd, p_fins] at q1 q2
    rw [hd1] at y1 y6
    refine hL 801 (c + 1) s' (len + 1) (i + 1) y (by omega) (by omega) k2 hc30 y6 y1 y2 (fun e p he2 => ?_) (fun L c2 s2 he2 m1 m2 m3 m4 w i2 m5 w1 w2 w3 w4 w5 => ?_)
    · rw [he2] at q1
      exact q1 e p rfl
    · rw [he2] at q1 q2
      dsimp only at q1 q2
      by_cases h41 : p_sg T n s2 41 = true
      · rw [p_sgn, if_pos h41] at q1 q2
        dsimp only at q1 q2
        have e8 : (800 : Int32) = Int32.ofNat 800 := rfl
        have ez : (0 : Int32) = Int32.ofNat 0 := rfl
        have he2' := x_E_le (T := T) m2
        obtain ⟨wt, w5', w6', w7'⟩ := w1
        -- the closing bracket
        have cls : ev_Cv g m_X8_skipSign 4 0 [ev_o 8 (b + 1), ev_i 41] w (fun o S2 => ∃ v2_ : Bool, o = .inl (some (ev_i (if v2_ = true then 1 else 0))) ∧ ((v2_ = true → ev_Cv g m_X7_closeBracket 2 0 [ev_o 7 (b + 3)] S2 (fun o S3 => o = .inl none ∧ ev_Cv g m_X8_expectSign 4 0 [ev_o 8 (b + 1), ev_i 59] S3 (fun o S4 => o = .inl none ∧ ev_E g m_X7_read 8 0 21 [some (ev_o 7 (b + 3)), some (ev_o 8 (b + 1)), some (ev_i (Int32.ofNat (i2 + 1)))] [] S4 Q))) ∧ (¬ v2_ = true → ev_Cv g m_X7_readCommand 7 0 [ev_o 7 (b + 3), ev_o 8 (b + 1)] S2 (fun o S5 => o = .inl none ∧ ev_E g m_X7_read 8 0 21 [some (ev_o 7 (b + 3)), some (ev_o 8 (b + 1)), some (ev_i (Int32.ofNat (i2 + 1)))] [] S5 Q)))) := by
          refine sg_X8_skipSign_0 (b + 1) 41 ?_
          rw [t_isS wt]
          refine ⟨fun _ => t_stp hn m2 wt (fun x x1 x2 _ => ⟨rfl, true, rfl, fun _ => ?_, fun hf => absurd rfl hf⟩), fun hh => absurd h41 hh⟩
          generalize hS : len + 1 + ls_sz (at_sz l) L = len2 at *
          have hlen2 : len2 < 60 := by omega
          have x5 : x.1 (b + 3) 5 = Int32.ofNat len2 := by rw [x1.2 _ (by omega)]; exact w5'
          have x7 : x.1 (b + 3) 7 = Int32.ofNat (2 - (l + 1) + 1) := by rw [x1.2 _ (by omega), hd1]; exact w7'
          have x8 : x.1 (b + 8) (2 - (l + 1)) = Int32.ofNat len := by rw [x1.2 _ (by omega), w4.2.2 _ (by omega)]; exact y8
          refine sg_X7_closeBracket_0 (b + 3) ?_
          rw [x7, x5, n_d1]
          intro S1 e1 S2 e2 S3 e3 S4 e4 S5 e5
          have s8 : S1.1 (b + 3 + 5) (2 - (l + 1)) = Int32.ofNat len := by rw [e1, m_r (by omega)]; exact x8
          rw [a_put (by omega) (by omega)] at e2
          have s25 : S2.1 (b + 3) 5 = Int32.ofNat len2 := by rw [e2, m_r (by omega), e1, m_k (by omega)]; exact x5
          rw [s25, a_in (by omega) (by omega), s8, a_put (by omega) (by omega)] at e3
          have s35 : S3.1 (b + 3) 5 = Int32.ofNat len2 := by rw [e3, m_r (by omega)]; exact s25
          rw [a_in (by omega) (by omega), s8, s35, a_put (by omega) (by omega)] at e4
          have s45 : S4.1 (b + 3) 5 = Int32.ofNat len2 := by rw [e4, m_r (by omega)]; exact s35
          rw [s45, n_inc] at e5
          refine ⟨rfl, ?_⟩
          have fx : ∀ q, q ≠ b + 3 → q ≠ b + 4 → q ≠ b + 6 → S5.1 q = x.1 q := fun q h3 h4 h6 => by rw [e5, m_r h3, e4, m_r (by omega), e3, m_r (by omega), e2, m_r (by omega), e1, m_r h3]
          have st5 : q_tk S5.1 (b + 1) n T (x_E T n s2) := q_tk_frame x2 (fx _ (by omega) (by omega) (by omega)) (fx _ (by omega) (by omega) (by omega))
          have sr5 : q_sr S0 S5 b := by rw [e5, e4, e3, e2, e1]; exact q_sr_up (q_sr_up (q_sr_up (q_sr_up (q_sr_up (q_sr_1 w3 x1) (by omega) (by omega)) (by omega) (by omega)) (by omega) (by omega)) (by omega) (by omega)) (by omega) (by omega)
          refine t_expS hn he2'.2 st5 (fun c10 v v1 v2 => ⟨rfl, ?_⟩) (fun c10 v3 v4 v v1 v2 => ⟨rfl, ?_⟩)
          · rw [p_sgn, if_neg c10] at q1
            exact rd_err _ (by rw [v2.1]; exact v2.2.1) (q1 _ _ rfl v (q_sr_1 sr5 v1) v2)
          · rw [p_sgn, if_pos c10] at q2
            dsimp only at q2
            have hv20 : v.2 = v.2 := rfl
            obtain ⟨t, ht, ht20⟩ : ∃ t, y.1 (b + 5) (len * 6) = Int32.ofNat t ∧ t ≤ 20 := by
              have i20 : (20 : Int32).toInt = 20 := rfl
              have i0 : (0 : Int32).toInt = 0 := rfl
              rw [y5]
              rw [z_le, i20] at k4
              rw [z_le, i0] at k3
              obtain ⟨t, h1, h2, h3⟩ := n_ofi k3 k4
              exact ⟨t, h1, by omega⟩
            have htv : (y.1 (b + 5) (len * 6)).toNatClampNeg = t := by rw [ht, n_c (by omega)]
            rw [← y5, htv] at q2
            have hsz : at_sz (l + 1) (Sum.inr (t, L) : A0 ⊕ (Nat × List (AT l))) = 2 + ls_sz (at_sz l) L := rfl
            have hsum : len + (2 + ls_sz (at_sz l) L) = len2 + 1 := by omega
            have g4 : v.1 (b + 4) = upd (w.1 (b + 4)) len2 8 := by rw [v1.2 _ (by omega), e5, m_r (by omega), e4, m_r (by omega), e3, m_r (by omega), e2, m_u, show b + 3 + 1 = b + 4 from rfl, r_s, e1, m_r (by omega), x1.2 _ (by omega)]
            have g6 : v.1 (b + 6) = upd (upd (w.1 (b + 6)) len2 (Int32.ofNat len)) len (Int32.ofNat len2) := by
              rw [v1.2 _ (by omega), e5, m_r (by omega), e4, m_u, show b + 3 + 3 = b + 6 from rfl, r_s, e3, m_u, show b + 3 + 3 = b + 6 from rfl, r_s, e2, m_r (by omega), e1, m_r (by omega), x1.2 _ (by omega)]
            have g5 : v.1 (b + 5) = w.1 (b + 5) := by rw [v1.2 _ (by omega), fx _ (by omega) (by omega) (by omega), x1.2 _ (by omega)]
            have g8 : v.1 (b + 8) = w.1 (b + 8) := by rw [v1.2 _ (by omega), fx _ (by omega) (by omega) (by omega), x1.2 _ (by omega)]
            refine q2 (Sum.inr (t, L)) c2 _ rfl (by omega) v4 m3 v (i2 + 1) (by
              have h3 : x_K T n s2 = 3 := by
                unfold p_sg at h41
                rw [decide_eq_true_eq] at h41
                exact h41.1
              have hb2 := x_B_le (T := T) m2
              have hk3 := x_K3 h3
              have hlt : s2 < x_E T n s2 := by
                have hE : x_E T n s2 = x_B T n s2 + 1 ∨ x_B T n s2 < x_E T n s2 := by
                  unfold x_E x_Eb
                  rw [if_neg (by omega)]
                  unfold x_K x_Kb at h3
                  rw [if_neg (by omega)] at h3
                  by_cases c1 : t_X8_isLetter (T (x_B T n s2)) = true
                  · rw [if_pos c1] at h3; exact absurd h3 (by decide)
                  · rw [if_neg c1] at h3 ⊢
                    by_cases c2 : t_X8_isDigit (T (x_B T n s2)) = true
                    · rw [if_pos c2] at h3; exact absurd h3 (by decide)
                    · rw [if_neg c2]; exact Or.inl rfl
                omega
              omega) ⟨v2, ?_, ?_, ?_⟩ ?_ (q_sr_1 sr5 v1) ⟨fun j hj => ⟨?_, ?_⟩, fun j hj => ?_, fun j hj => ?_⟩ ⟨?_, ?_, ht20, ?_, ?_, ?_, ?_⟩
            · rw [hsz, hsum, v1.2 _ (by omega), e5, m_s]
            · rw [v1.2 _ (by omega), e5, m_k (by omega), e4, m_r (by omega), e3, m_r (by omega), e2, m_r (by omega), e1, m_k (by omega), x1.2 _ (by omega)]; exact w6'
            · rw [v1.2 _ (by omega), e5, m_k (by omega), e4, m_r (by omega), e3, m_r (by omega), e2, m_r (by omega), e1, m_s]
            · rw [hsz, hsum]; omega
            · rw [g4, u_k (by omega), (w4.1 j (by omega)).1, (y3.1 j hj).1]
            · rw [g6, u_k (by omega), u_k (by omega), (w4.1 j (by omega)).2, (y3.1 j hj).2]
            · rw [g5, w4.2.1 j (by omega), y3.2.1 j hj]
            · rw [g8, w4.2.2 j (by omega), y3.2.2 j hj]
            · rw [g4, u_k (by omega), (w4.1 len (by omega)).1]; exact y4
            · rw [g5, w4.2.1 _ (by omega)]; exact ht
            · rw [g4]; dsimp only; rw [hS, u_s]
            · rw [g6]; dsimp only; rw [hS, u_k (by omega), u_s]
            · rw [g6]; dsimp only; rw [hS, u_s]
            · dsimp only
              exact q_cds_imp L (len + 1) (fun off' x' p1 p2 hx => q_code_fr l off' x' (fun j j1 j2 => ⟨by rw [g4, u_k (by omega)], by rw [g6, u_k (by omega), u_k (by omega)]⟩) (fun j j1 j2 => by rw [g5]) hx) w5
        refine sg_X7_read_21 (b + 3) (b + 1) _ (j_neg (by rw [e8, n_lt (by omega) (by omega)]; omega) (j_pos wt.2.2.1 ?_))
        rw [w7', n_inc]
        refine j_neg (by rw [ez, n_eq (by omega) (by omega)]; omega) (j_neg (by rw [ez, n_le (by omega) (by omega)]; omega) ?_)
        exact cls
      · rw [p_sgn, if_neg h41] at q1
        dsimp only at q1
        have hK : x_K T n s2 = 0 := by
          unfold p_stop at m4
          rw [Bool.or_eq_true, decide_eq_true_eq] at m4
          rcases m4 with m4 | m4
          · exact m4
          · exact absurd m4 h41
        have hk7 : p_kind T n s2 = 7 := p_kind_end (by rw [hK]; decide)
        have hpr : p_rc T n (2 - l) c2 s2 = .inl (1, x_B T n s2) := by unfold p_rc; rw [if_pos hk7]
        refine rd_cmd (T := T) (n := n) (s := s2) (by omega) hn m2 (by omega) w1 (fun h => absurd h (by omega)) (fun _ => h41) ?_
        refine t_rc (S0 := S0) hn m2 (by omega) w2 m3 w1 w3 (fun e p hp x x1 x2 => ⟨rfl, ?_⟩) (fun c0 s' hp => ?_) (fun v s' hp => ?_)
        · rw [hpr] at hp
          have hp' := Sum.inl.inj hp
          rw [hp'] at q1
          exact rd_err _ (by rw [x2.1]; exact x2.2.1) (q1 e p rfl x x1 x2)
        · rw [hpr] at hp; cases hp
        · rw [hpr] at hp; cases hp
theorem t_read {g : ev_G} {S : ev_S} {b n : Nat} {T : Nat → Int32} (hn : n ≤ 800) (h1 : S.1 (b + 1) 1 = Int32.ofNat n) (hT : ∀ j, j < n → S.1 (b + 2) j = T j) {Q : ev_O → ev_S → Prop}
    (q1 : ∀ e p, p_scr T n = .inl (e, p) → ∀ y, q_sr S y b → q_te y.1 (b + 1) e p → Q (.inl none) y)
    (q2 : ∀ L c, p_scr T n = .inr (L, c) → ∀ y, q_sr S y b → y.1 (b + 1) 7 = 0 → y.1 (b + 1) 8 = -1 → y.1 (b + 3) 5 = Int32.ofNat (ls_sz (at_sz 2) L) → ls_sz (at_sz 2) L ≤ 60 → q_cds (at_sz 2) (q_code (y.1 (b + 4)) (y.1 (b + 5)) (y.1 (b + 6)) 2) 0 L → Q (.inl none) y) :
    ev_Cv g m_X7_read 8 0 [ev_o 7 (b + 3), ev_o 8 (b + 1)] S Q := by
  have ez : (0 : Int32) = Int32.ofNat 0 := rfl
  have e8 : (800 : Int32) = Int32.ofNat 800 := rfl
  unfold p_scr at q1 q2
  have t0 := tone_0 (g := g) (S0 := S) (b := b) (T := T) (Q := Q) hn
  have t1 : TOne g S b n T Q 1 := tone_s hn (by omega) (tlst_of t0)
  have t2 : TOne g S b n T Q 2 := tone_s hn (by omega) (tlst_of t1)
  refine sg_X7_read_0 (b + 3) (b + 1) (fun S1 e1 S2 e2 S3 e3 => ?_)
  have xq : ∀ q, q ≠ b + 3 → S3.1 q = S.1 q := fun q hq => by rw [e3, m_r hq, e2, m_r hq, e1, m_r hq]
  refine t_beg (T := T) hn (by rw [xq _ (by omega)]; exact h1) (fun j hj => by rw [xq _ (by omega)]; exact hT j hj) (fun z z1 z2 => ⟨rfl, ?_⟩)
  have hr : q_sr S z b := q_sr_1 (by rw [e3, e2, e1]; exact q_sr_up (q_sr_up (q_sr_up (q_sr_refl S b) (by omega) (by omega)) (by omega) (by omega)) (by omega) (by omega)) z1
  have hp : q_ps z.1 b n T 0 0 0 (2 - 2) := ⟨z2, by rw [z1.2 _ (by omega), e3, m_k (by omega), e2, m_k (by omega), e1, m_s]; rfl, by rw [z1.2 _ (by omega), e3, m_k (by omega), e2, m_s]; rfl, by rw [z1.2 _ (by omega), e3, m_s]; rfl⟩
  rw [ez]
  refine tlst_of t2 801 0 0 0 0 z (by omega) (Nat.le_refl _) (Nat.zero_le _) (by omega) (by omega) hp hr (fun e p he => ?_) (fun L c' s' he k1 k2 k3 k4 y i' k5 y1 y2 y3 y4 y5 => ?_)
  · rw [he] at q1
    exact q1 e p rfl
  · rw [he] at q1 q2
    simp only [p_bd] at q1 q2
    rw [Nat.zero_add] at y1 y2
    by_cases hK : x_K T n s' = 0
    · rw [if_pos hK] at q2
      obtain ⟨yt, y5', y6', y7'⟩ := y1
      have hE : t_X8_isEnd y (b + 1) = true := by
        unfold t_X8_isEnd
        rw [if_pos yt.2.2.1, yt.2.2.2.2.2.1, if_pos hK]
      refine sg_X7_read_21 (b + 3) (b + 1) _ (j_neg (by rw [e8, n_lt (by omega) (by omega)]; omega) (j_pos yt.2.2.1 (j_pos (by rw [y7']; rfl) (j_pos hE ?_))))
      exact q2 L c' rfl y y3 yt.2.2.1 yt.2.2.2.1 y5' (by omega) y5
    · rw [if_neg hK] at q1
      have h3 : x_K T n s' = 3 := by
        unfold p_stop at k4
        rw [Bool.or_eq_true, decide_eq_true_eq] at k4
        rcases k4 with k4 | k4
        · exact absurd k4 hK
        · unfold p_sg at k4
          rw [decide_eq_true_eq] at k4
          exact k4.1
      have hk7 : p_kind T n s' = 7 := p_kind_end (by rw [h3]; decide)
      have hpr : p_rc T n (2 - 2) c' s' = .inl (1, x_B T n s') := by unfold p_rc; rw [if_pos hk7]
      refine rd_cmd (T := T) (n := n) (s := s') (by omega) hn k2 (by omega) y1 (fun _ => hK) (fun h => absurd h (by omega)) ?_
      refine t_rc (S0 := S) hn k2 (by omega) y2 k3 y1 y3 (fun e p hp x x1 x2 => ⟨rfl, ?_⟩) (fun c0 s'' hp => ?_) (fun v s'' hp => ?_)
      · rw [hpr] at hp
        have hp' := Sum.inl.inj hp
        rw [hp'] at q1
        exact rd_err _ (by rw [x2.1]; exact x2.2.1) (q1 e p rfl x x1 x2)
      · rw [hpr] at hp; cases hp
      · rw [hpr] at hp; cases hp
