/-! ===== a text's tokens ===== -/
def x_rn (P : Nat → Bool) : Nat → Nat → Nat
  | 0, s => s
  | k + 1, s => if P s = true then x_rn P k (s + 1) else s
theorem x_rn_t {P : Nat → Bool} {n s : Nat} (hs : s < n) (h : P s = true) : x_rn P (n - s) s = x_rn P (n - (s + 1)) (s + 1) := by
  obtain ⟨k, hk⟩ : ∃ k, n - s = k + 1 := ⟨n - s - 1, by omega⟩
  rw [hk, x_rn, if_pos h, show n - (s + 1) = k by omega]
theorem x_rn_f {P : Nat → Bool} {k s : Nat} (h : ¬ P s = true) : x_rn P k s = s := by
  cases k with
  | zero => rfl
  | succ k => rw [x_rn, if_neg h]
theorem x_rn_ge {P : Nat → Bool} : ∀ (k s : Nat), s ≤ x_rn P k s ∧ x_rn P k s ≤ s + k := by
  intro k
  induction k with
  | zero => intro s; rw [x_rn]; omega
  | succ k ih =>
    intro s
    rw [x_rn]
    split
    · have := ih (s + 1)
      omega
    · omega
theorem x_rn_st {P : Nat → Bool} : ∀ (k s j : Nat), s ≤ j → j < x_rn P k s → P j = true := by
  intro k
  induction k with
  | zero => intro s j h1 h2; rw [x_rn] at h2; omega
  | succ k ih =>
    intro s j h1 h2
    rw [x_rn] at h2
    split at h2
    · next hp =>
      by_cases hj : j = s
      · rw [hj]; exact hp
      · exact ih (s + 1) j (by omega) h2
    · omega
def x_bl (T : Nat → Int32) (n j : Nat) : Bool := decide (j < n) && t_X8_isBlank (T j)
def x_lt (T : Nat → Int32) (n j : Nat) : Bool := decide (j < n) && t_X8_isLetter (T j)
def x_dg (T : Nat → Int32) (n j : Nat) : Bool := decide (j < n) && t_X8_isDigit (T j)
theorem x_and {n j : Nat} {b : Bool} : ((decide (j < n) && b) = true) = (j < n ∧ b = true) := by
  rw [Bool.and_eq_true, decide_eq_true_eq]
/-- k digits from j on -/
def x_num (T : Nat → Int32) : Nat → Nat → Int32 → Int32
  | 0, _, v => v
  | k + 1, j, v => x_num T k (j + 1) (ev_min 1000 (v * 10 + T j - 48))
/-- the token that is looked for from s on: where it begins, where it ends, its kind, its value -/
def x_B (T : Nat → Int32) (n s : Nat) : Nat := x_rn (x_bl T n) (n - s) s
def x_Eb (T : Nat → Int32) (n b : Nat) : Nat := if n ≤ b then b else if t_X8_isLetter (T b) = true then x_rn (x_lt T n) (n - b) b else if t_X8_isDigit (T b) = true then x_rn (x_dg T n) (n - b) b else b + 1
def x_Kb (T : Nat → Int32) (n b : Nat) : Int32 := if n ≤ b then 0 else if t_X8_isLetter (T b) = true then 1 else if t_X8_isDigit (T b) = true then 2 else if T b = 59 ∨ T b = 40 ∨ T b = 41 then 3 else 4
def x_Vb (T : Nat → Int32) (n b : Nat) : Int32 := if n ≤ b then 0 else if t_X8_isLetter (T b) = true then 0 else if t_X8_isDigit (T b) = true then x_num T (x_rn (x_dg T n) (n - b) b - b) b 0 else T b
def x_E (T : Nat → Int32) (n s : Nat) : Nat := x_Eb T n (x_B T n s)
def x_K (T : Nat → Int32) (n s : Nat) : Int32 := x_Kb T n (x_B T n s)
def x_V (T : Nat → Int32) (n s : Nat) : Int32 := x_Vb T n (x_B T n s)
theorem x_B_le {T : Nat → Int32} {n s : Nat} (hs : s ≤ n) : s ≤ x_B T n s ∧ x_B T n s ≤ n := by
  have := x_rn_ge (P := x_bl T n) (n - s) s
  unfold x_B
  omega
theorem x_Eb_le {T : Nat → Int32} {n b : Nat} (hb : b ≤ n) : b ≤ x_Eb T n b ∧ x_Eb T n b ≤ n := by
  unfold x_Eb
  split
  · omega
  · split
    · have := x_rn_ge (P := x_lt T n) (n - b) b
      omega
    · split
      · have := x_rn_ge (P := x_dg T n) (n - b) b
        omega
      · omega
theorem x_E_le {T : Nat → Int32} {n s : Nat} (hs : s ≤ n) : s ≤ x_E T n s ∧ x_E T n s ≤ n := by
  have h1 := x_B_le (T := T) hs
  have h2 := x_Eb_le (T := T) h1.2
  unfold x_E
  omega
/-! ===== the class: the next token ===== -/
theorem t_word {g : ev_G} {a n : Nat} {T : Nat → Int32} (hn : n ≤ 800) : ∀ (k j : Nat) (S : ev_S), j + k = n → S.1 a 1 = Int32.ofNat n → (∀ j, j < n → S.1 (a + 1) j = T j) → S.1 a 5 = Int32.ofNat j → ∀ Q : ev_O → ev_S → Prop,
    Q (.inl none) (ev_up S a 5 (Int32.ofNat (x_rn (x_lt T n) (n - j) j))) → ev_E g m_X8_stepOverWord 2 0 5 [some (ev_o 8 a)] [] S Q := by
  intro k
  induction k with
  | zero =>
    intro j S hj h1 hT h5 Q hQ
    have e : x_rn (x_lt T n) (n - j) j = j := x_rn_f (by unfold x_lt; rw [x_and]; omega)
    have es : ev_up S a 5 (Int32.ofNat j) = S := by
      rw [m_u, ← h5, u_self, r_self]
    rw [e, es] at hQ
    exact sg_X8_stepOverWord_5 a (j_pos (by rw [h1, h5, n_le (by omega) (by omega)]; omega) hQ)
  | succ k ih =>
    intro j S hj h1 hT h5 Q hQ
    refine sg_X8_stepOverWord_5 a (j_neg (by rw [h1, h5, n_le (by omega) (by omega)]; omega) ?_)
    rw [h5, a_in (by omega) (by omega), hT j (by omega), n_inc]
    refine ⟨fun hl S1 e1 => ?_, fun hl => ?_⟩
    · refine ih (j + 1) S1 (by omega) (by rw [e1, m_k (by omega)]; exact h1) (fun i hi => by rw [e1, m_r (by omega)]; exact hT i hi) (by rw [e1, m_s]) Q ?_
      rw [e1, m_u, m_u, r_s, r_rr, u_u, ← m_u, ← x_rn_t (by omega) (by unfold x_lt; rw [x_and]; exact ⟨by omega, hl⟩)]
      exact hQ
    · have e : x_rn (x_lt T n) (n - j) j = j := x_rn_f (by unfold x_lt; rw [x_and]; exact fun q => hl q.2)
      have es : ev_up S a 5 (Int32.ofNat j) = S := by
        rw [m_u, ← h5, u_self, r_self]
      rw [e, es] at hQ
      exact hQ
theorem t_numb {g : ev_G} {a n : Nat} {T : Nat → Int32} (hn : n ≤ 800) : ∀ (k j : Nat) (S : ev_S), j + k = n → S.1 a 1 = Int32.ofNat n → (∀ j, j < n → S.1 (a + 1) j = T j) → S.1 a 5 = Int32.ofNat j → ∀ Q : ev_O → ev_S → Prop,
    Q (.inl none) (ev_up (ev_up S a 3 (x_num T (x_rn (x_dg T n) (n - j) j - j) j (S.1 a 3))) a 5 (Int32.ofNat (x_rn (x_dg T n) (n - j) j))) → ev_E g m_X8_stepOverNumber 2 0 5 [some (ev_o 8 a)] [] S Q := by
  intro k
  have stop : ∀ (j : Nat) (S : ev_S), S.1 a 5 = Int32.ofNat j → ¬ x_dg T n j = true → ∀ Q : ev_O → ev_S → Prop, Q (.inl none) (ev_up (ev_up S a 3 (x_num T (x_rn (x_dg T n) (n - j) j - j) j (S.1 a 3))) a 5 (Int32.ofNat (x_rn (x_dg T n) (n - j) j))) → Q (.inl none) S := by
    intro j S h5 hd Q hQ
    have e : x_rn (x_dg T n) (n - j) j = j := x_rn_f hd
    rw [e, Nat.sub_self, x_num] at hQ
    have es : ev_up (ev_up S a 3 (S.1 a 3)) a 5 (Int32.ofNat j) = S := by
      rw [m_u S, u_self, r_self, m_u, ← h5, u_self, r_self]
    rw [es] at hQ
    exact hQ
  induction k with
  | zero =>
    intro j S hj h1 hT h5 Q hQ
    exact sg_X8_stepOverNumber_5 a (j_pos (by rw [h1, h5, n_le (by omega) (by omega)]; omega) (stop j S h5 (by unfold x_dg; rw [x_and]; omega) Q hQ))
  | succ k ih =>
    intro j S hj h1 hT h5 Q hQ
    refine sg_X8_stepOverNumber_5 a (j_neg (by rw [h1, h5, n_le (by omega) (by omega)]; omega) ?_)
    rw [h5, a_in (by omega) (by omega), hT j (by omega), n_inc]
    refine ⟨fun hl S1 e1 S2 e2 => ?_, fun hl => stop j S h5 (by unfold x_dg; rw [x_and]; exact fun q => hl q.2) Q hQ⟩
    have x3 : S2.1 a 3 = ev_min 1000 (S.1 a 3 * 10 + T j - 48) := by rw [e2, m_k (by omega), e1, m_s]
    refine ih (j + 1) S2 (by omega) (by rw [e2, m_k (by omega), e1, m_k (by omega)]; exact h1) (fun i hi => by rw [e2, m_r (by omega), e1, m_r (by omega)]; exact hT i hi) (by rw [e2, m_s]) Q ?_
    have hx := x_rn_t (P := x_dg T n) (n := n) (s := j) (by omega) (by unfold x_dg; rw [x_and]; exact ⟨by omega, hl⟩)
    have hge := (x_rn_ge (P := x_dg T n) (n - (j + 1)) (j + 1)).1
    rw [hx, show x_rn (x_dg T n) (n - (j + 1)) (j + 1) - j = (x_rn (x_dg T n) (n - (j + 1)) (j + 1) - (j + 1)) + 1 by omega, x_num] at hQ
    rw [x3, e2, e1]
    generalize x_num T (x_rn (x_dg T n) (n - (j + 1)) (j + 1) - (j + 1)) (j + 1) (ev_min 1000 (S.1 a 3 * 10 + T j - 48)) = v at *
    generalize Int32.ofNat (x_rn (x_dg T n) (n - (j + 1)) (j + 1)) = w at *
    have es : ev_up (ev_up (ev_up (ev_up S a 3 (ev_min 1000 (S.1 a 3 * 10 + T j - 48))) a 5 (Int32.ofNat (j + 1))) a 3 v) a 5 w = ev_up (ev_up S a 3 v) a 5 w := by
      rw [m_u, m_u, m_u, m_u, m_u (ev_up S a 3 v), m_u]
      simp only [r_s, r_rr]
      refine congrArg (ev_ur S a) ?_
      funext i
      by_cases h5 : i = 5
      · rw [h5, u_s, u_s]
      · rw [u_k h5, u_k h5]
        by_cases h3 : i = 3
        · rw [h3, u_s, u_s]
        · rw [u_k h3, u_k h5, u_k h3, u_k h3]
    rw [es]
    exact hQ
theorem t_step {g : ev_G} {S : ev_S} {a n s : Nat} {T : Nat → Int32} (hn : n ≤ 800) (h1 : S.1 a 1 = Int32.ofNat n) (hT : ∀ j, j < n → S.1 (a + 1) j = T j) (h5 : S.1 a 5 = Int32.ofNat s) (hs : s ≤ n) {Q : ev_O → ev_S → Prop}
    (hQ : ∀ z : ev_S, z.2 = S.2 → (∀ q, q ≠ a → z.1 q = S.1 q) → z.1 a 1 = Int32.ofNat n → z.1 a 7 = S.1 a 7 → z.1 a 8 = S.1 a 8 → z.1 a 6 = S.1 a 4 → z.1 a 4 = Int32.ofNat (x_B T n s) → z.1 a 2 = x_K T n s → z.1 a 3 = x_V T n s → z.1 a 5 = Int32.ofNat (x_E T n s) → Q (.inl none) z) :
    ev_Cv g m_X8_step 3 0 [ev_o 8 a] S Q := by
  have key : ∀ (k j : Nat) (Z : ev_S), j + k = n → x_B T n s = x_rn (x_bl T n) (n - j) j → Z.2 = S.2 → (∀ q, q ≠ a → Z.1 q = S.1 q) → Z.1 a 1 = Int32.ofNat n → Z.1 a 7 = S.1 a 7 → Z.1 a 8 = S.1 a 8 → Z.1 a 6 = S.1 a 4 → Z.1 a 4 = Int32.ofNat j → ev_E g m_X8_step 3 0 16 [some (ev_o 8 a), none] [] Z Q := by
    intro k
    induction k with
    | zero =>
      intro j Z hj hx zp zq z1 z7 z8 z6 z4
      have zT : ∀ j, j < n → Z.1 (a + 1) j = T j := fun j hj => by rw [zq _ (by omega)]; exact hT j hj
      have e : x_rn (x_bl T n) (n - j) j = j := x_rn_f (by unfold x_bl; rw [x_and]; omega)
      rw [e] at hx
      refine sg_X8_step_16 a (j_pos (by rw [z1, z4, n_le (by omega) (by omega)]; omega) ?_)
      intro S1 e1 S2 e2
      have x2 : ∀ i, i ≠ 3 → i ≠ 5 → S2.1 a i = Z.1 a i := fun i h3 h5 => by rw [e2, m_k h3, e1, m_k h5]
      have x23 : S2.1 a 3 = 0 := by rw [e2, m_s]
      have x25 : S2.1 a 5 = Int32.ofNat j := by rw [e2, m_k (by omega), e1, m_s, z4]
      have xq : ∀ q, q ≠ a → S2.1 q = Z.1 q := fun q hq => by rw [e2, m_r hq, e1, m_r hq]
      have xp : S2.2 = Z.2 := by rw [e2, e1]; rfl
      rw [z1, z4, n_lt (by omega) (by omega)]
      refine ⟨fun hlt => ?_, fun hlt S3 e3 => ?_⟩
      · rw [a_in (by omega) (by omega), xq (a + 1) (by omega), zT j hlt, n_inc]
        refine ⟨fun hl => ?_, fun hl => ⟨fun hd => ?_, fun hd => ?_⟩⟩
        · refine sg_X8_stepOverWord_0 a (fun S3 e3 => ?_)
          refine t_word (T := T) hn (n - j) j S3 (by omega) (by rw [e3, m_k (by omega), x2 1 (by omega) (by omega)]; exact z1) (fun i hi => by rw [e3, m_r (by omega), xq _ (by omega)]; exact zT i hi) (by rw [e3, m_k (by omega)]; exact x25) _ ⟨rfl, ?_⟩
          refine hQ _ (by rw [e3]; exact xp.trans zp) (fun q hq => by rw [m_r hq, e3, m_r hq, xq q hq]; exact zq q hq) ?_ ?_ ?_ ?_ ?_ ?_ ?_ ?_
          · rw [m_k (by omega), e3, m_k (by omega), x2 1 (by omega) (by omega)]; exact z1
          · rw [m_k (by omega), e3, m_k (by omega), x2 7 (by omega) (by omega)]; exact z7
          · rw [m_k (by omega), e3, m_k (by omega), x2 8 (by omega) (by omega)]; exact z8
          · rw [m_k (by omega), e3, m_k (by omega), x2 6 (by omega) (by omega)]; exact z6
          · rw [m_k (by omega), e3, m_k (by omega), x2 4 (by omega) (by omega), z4, hx]
          · rw [m_k (by omega), e3, m_s, x_K, hx, x_Kb, if_neg (by omega), if_pos hl]
          · rw [m_k (by omega), e3, m_k (by omega), x23, x_V, hx, x_Vb, if_neg (by omega), if_pos hl]
          · rw [m_s, x_E, hx, x_Eb, if_neg (by omega), if_pos hl]
        · refine sg_X8_stepOverNumber_0 a (fun S3 e3 => ?_)
          refine t_numb (T := T) hn (n - j) j S3 (by omega) (by rw [e3, m_k (by omega), x2 1 (by omega) (by omega)]; exact z1) (fun i hi => by rw [e3, m_r (by omega), xq _ (by omega)]; exact zT i hi) (by rw [e3, m_k (by omega)]; exact x25) _ ⟨rfl, ?_⟩
          have x33 : S3.1 a 3 = 0 := by rw [e3, m_k (by omega)]; exact x23
          rw [x33]
          refine hQ _ (by rw [e3]; exact xp.trans zp) (fun q hq => by rw [m_r hq, m_r hq, e3, m_r hq, xq q hq]; exact zq q hq) ?_ ?_ ?_ ?_ ?_ ?_ ?_ ?_
          · rw [m_k (by omega), m_k (by omega), e3, m_k (by omega), x2 1 (by omega) (by omega)]; exact z1
          · rw [m_k (by omega), m_k (by omega), e3, m_k (by omega), x2 7 (by omega) (by omega)]; exact z7
          · rw [m_k (by omega), m_k (by omega), e3, m_k (by omega), x2 8 (by omega) (by omega)]; exact z8
          · rw [m_k (by omega), m_k (by omega), e3, m_k (by omega), x2 6 (by omega) (by omega)]; exact z6
          · rw [m_k (by omega), m_k (by omega), e3, m_k (by omega), x2 4 (by omega) (by omega), z4, hx]
          · rw [m_k (by omega), m_k (by omega), e3, m_s, x_K, hx, x_Kb, if_neg (by omega), if_neg hl, if_pos hd]
          · rw [m_k (by omega), m_s, x_V, hx, x_Vb, if_neg (by omega), if_neg hl, if_pos hd]
          · rw [m_s, x_E, hx, x_Eb, if_neg (by omega), if_neg hl, if_pos hd]
        · have sg : ∀ (v : Int32) (S3 S4 S5 : ev_S), v = (if T j = 59 ∨ T j = 40 ∨ T j = 41 then 3 else 4) → S3 = ev_up S2 a 2 v → S4 = ev_up S3 a 3 (T j) → S5 = ev_up S4 a 5 (Int32.ofNat (j + 1)) → Q (.inl none) S5 := by
            intro v S3 S4 S5 hv e3 e4 e5
            refine hQ _ (by rw [e5, e4, e3]; exact xp.trans zp) (fun q hq => by rw [e5, m_r hq, e4, m_r hq, e3, m_r hq, xq q hq]; exact zq q hq) ?_ ?_ ?_ ?_ ?_ ?_ ?_ ?_
            · rw [e5, m_k (by omega), e4, m_k (by omega), e3, m_k (by omega), x2 1 (by omega) (by omega)]; exact z1
            · rw [e5, m_k (by omega), e4, m_k (by omega), e3, m_k (by omega), x2 7 (by omega) (by omega)]; exact z7
            · rw [e5, m_k (by omega), e4, m_k (by omega), e3, m_k (by omega), x2 8 (by omega) (by omega)]; exact z8
            · rw [e5, m_k (by omega), e4, m_k (by omega), e3, m_k (by omega), x2 6 (by omega) (by omega)]; exact z6
            · rw [e5, m_k (by omega), e4, m_k (by omega), e3, m_k (by omega), x2 4 (by omega) (by omega), z4, hx]
            · rw [e5, m_k (by omega), e4, m_k (by omega), e3, m_s, hv, x_K, hx, x_Kb, if_neg (show ¬ n ≤ j by omega), if_neg hl, if_neg hd]
            · rw [e5, m_k (by omega), e4, m_s, x_V, hx, x_Vb, if_neg (by omega), if_neg hl, if_neg hd]
            · rw [e5, m_s, x_E, hx, x_Eb, if_neg (by omega), if_neg hl, if_neg hd]
          exact ⟨fun h S3 e3 S4 e4 S5 e5 => sg 3 S3 S4 S5 (if_pos (Or.inl h)).symm e3 e4 e5, fun h59 => ⟨fun h S3 e3 S4 e4 S5 e5 => sg 3 S3 S4 S5 (if_pos (Or.inr (Or.inl h))).symm e3 e4 e5, fun h40 => ⟨fun h S3 e3 S4 e4 S5 e5 => sg 3 S3 S4 S5 (if_pos (Or.inr (Or.inr h))).symm e3 e4 e5, fun h41 S3 e3 S4 e4 S5 e5 => sg 4 S3 S4 S5 (if_neg (fun q => by rcases q with q | q | q; exact h59 q; exact h40 q; exact h41 q)).symm e3 e4 e5⟩⟩⟩
      · refine hQ S3 (by rw [e3]; exact xp.trans zp) (fun q hq => by rw [e3, m_r hq, xq q hq]; exact zq q hq) ?_ ?_ ?_ ?_ ?_ ?_ ?_ ?_
        · rw [e3, m_k (by omega), x2 1 (by omega) (by omega)]; exact z1
        · rw [e3, m_k (by omega), x2 7 (by omega) (by omega)]; exact z7
        · rw [e3, m_k (by omega), x2 8 (by omega) (by omega)]; exact z8
        · rw [e3, m_k (by omega), x2 6 (by omega) (by omega)]; exact z6
        · rw [e3, m_k (by omega), x2 4 (by omega) (by omega), z4, hx]
        · rw [e3, m_s, x_K, hx, x_Kb, if_pos (by omega)]
        · rw [e3, m_k (by omega), x23, x_V, hx, x_Vb, if_pos (by omega)]
        · rw [e3, m_k (by omega), x25, x_E, hx, x_Eb, if_pos (by omega)]
    | succ k ih =>
      intro j Z hj hx zp zq z1 z7 z8 z6 z4
      have zT : ∀ j, j < n → Z.1 (a + 1) j = T j := fun j hj => by rw [zq _ (by omega)]; exact hT j hj
      refine sg_X8_step_16 a (j_neg (by rw [z1, z4, n_le (by omega) (by omega)]; omega) ?_)
      have hc : j_at (Z.1 (a + 1)) 800 (Z.1 a 4) = T j := by rw [z4, a_in (by omega) (by omega), zT j (by omega)]
      by_cases hb : t_X8_isBlank (T j) = true
      · refine j_pos (by rw [hc]; exact hb) (fun S1 e1 => ?_)
        rw [z4, n_inc] at e1
        rw [x_rn_t (by omega) (by unfold x_bl; rw [x_and]; exact ⟨by omega, hb⟩)] at hx
        exact ih (j + 1) S1 (by omega) hx (by rw [e1]; exact zp) (fun q hq => by rw [e1, m_r hq]; exact zq q hq) (by rw [e1, m_k (by omega)]; exact z1) (by rw [e1, m_k (by omega)]; exact z7) (by rw [e1, m_k (by omega)]; exact z8) (by rw [e1, m_k (by omega)]; exact z6) (by rw [e1, m_s])
      · refine j_neg (by rw [hc]; exact hb) ?_
        have e : x_rn (x_bl T n) (n - j) j = j := x_rn_f (by unfold x_bl; rw [x_and]; exact fun q => hb q.2)
        rw [e] at hx
        intro S1 e1 S2 e2
        have x2 : ∀ i, i ≠ 3 → i ≠ 5 → S2.1 a i = Z.1 a i := fun i h3 h5 => by rw [e2, m_k h3, e1, m_k h5]
        have x23 : S2.1 a 3 = 0 := by rw [e2, m_s]
        have x25 : S2.1 a 5 = Int32.ofNat j := by rw [e2, m_k (by omega), e1, m_s, z4]
        have xq : ∀ q, q ≠ a → S2.1 q = Z.1 q := fun q hq => by rw [e2, m_r hq, e1, m_r hq]
        have xp : S2.2 = Z.2 := by rw [e2, e1]; rfl
        rw [z1, z4, n_lt (by omega) (by omega)]
        refine ⟨fun hlt => ?_, fun hlt S3 e3 => ?_⟩
        · rw [a_in (by omega) (by omega), xq (a + 1) (by omega), zT j hlt, n_inc]
          refine ⟨fun hl => ?_, fun hl => ⟨fun hd => ?_, fun hd => ?_⟩⟩
          · refine sg_X8_stepOverWord_0 a (fun S3 e3 => ?_)
            refine t_word (T := T) hn (n - j) j S3 (by omega) (by rw [e3, m_k (by omega), x2 1 (by omega) (by omega)]; exact z1) (fun i hi => by rw [e3, m_r (by omega), xq _ (by omega)]; exact zT i hi) (by rw [e3, m_k (by omega)]; exact x25) _ ⟨rfl, ?_⟩
            refine hQ _ (by rw [e3]; exact xp.trans zp) (fun q hq => by rw [m_r hq, e3, m_r hq, xq q hq]; exact zq q hq) ?_ ?_ ?_ ?_ ?_ ?_ ?_ ?_
            · rw [m_k (by omega), e3, m_k (by omega), x2 1 (by omega) (by omega)]; exact z1
            · rw [m_k (by omega), e3, m_k (by omega), x2 7 (by omega) (by omega)]; exact z7
            · rw [m_k (by omega), e3, m_k (by omega), x2 8 (by omega) (by omega)]; exact z8
            · rw [m_k (by omega), e3, m_k (by omega), x2 6 (by omega) (by omega)]; exact z6
            · rw [m_k (by omega), e3, m_k (by omega), x2 4 (by omega) (by omega), z4, hx]
            · rw [m_k (by omega), e3, m_s, x_K, hx, x_Kb, if_neg (by omega), if_pos hl]
            · rw [m_k (by omega), e3, m_k (by omega), x23, x_V, hx, x_Vb, if_neg (by omega), if_pos hl]
            · rw [m_s, x_E, hx, x_Eb, if_neg (by omega), if_pos hl]
          · refine sg_X8_stepOverNumber_0 a (fun S3 e3 => ?_)
            refine t_numb (T := T) hn (n - j) j S3 (by omega) (by rw [e3, m_k (by omega), x2 1 (by omega) (by omega)]; exact z1) (fun i hi => by rw [e3, m_r (by omega), xq _ (by omega)]; exact zT i hi) (by rw [e3, m_k (by omega)]; exact x25) _ ⟨rfl, ?_⟩
            have x33 : S3.1 a 3 = 0 := by rw [e3, m_k (by omega)]; exact x23
            rw [x33]
            refine hQ _ (by rw [e3]; exact xp.trans zp) (fun q hq => by rw [m_r hq, m_r hq, e3, m_r hq, xq q hq]; exact zq q hq) ?_ ?_ ?_ ?_ ?_ ?_ ?_ ?_
            · rw [m_k (by omega), m_k (by omega), e3, m_k (by omega), x2 1 (by omega) (by omega)]; exact z1
            · rw [m_k (by omega), m_k (by omega), e3, m_k (by omega), x2 7 (by omega) (by omega)]; exact z7
            · rw [m_k (by omega), m_k (by omega), e3, m_k (by omega), x2 8 (by omega) (by omega)]; exact z8
            · rw [m_k (by omega), m_k (by omega), e3, m_k (by omega), x2 6 (by omega) (by omega)]; exact z6
            · rw [m_k (by omega), m_k (by omega), e3, m_k (by omega), x2 4 (by omega) (by omega), z4, hx]
            · rw [m_k (by omega), m_k (by omega), e3, m_s, x_K, hx, x_Kb, if_neg (by omega), if_neg hl, if_pos hd]
            · rw [m_k (by omega), m_s, x_V, hx, x_Vb, if_neg (by omega), if_neg hl, if_pos hd]
            · rw [m_s, x_E, hx, x_Eb, if_neg (by omega), if_neg hl, if_pos hd]
          · have sg : ∀ (v : Int32) (S3 S4 S5 : ev_S), v = (if T j = 59 ∨ T j = 40 ∨ T j = 41 then 3 else 4) → S3 = ev_up S2 a 2 v → S4 = ev_up S3 a 3 (T j) → S5 = ev_up S4 a 5 (Int32.ofNat (j + 1)) → Q (.inl none) S5 := by
              intro v S3 S4 S5 hv e3 e4 e5
              refine hQ _ (by rw [e5, e4, e3]; exact xp.trans zp) (fun q hq => by rw [e5, m_r hq, e4, m_r hq, e3, m_r hq, xq q hq]; exact zq q hq) ?_ ?_ ?_ ?_ ?_ ?_ ?_ ?_
              · rw [e5, m_k (by omega), e4, m_k (by omega), e3, m_k (by omega), x2 1 (by omega) (by omega)]; exact z1
              · rw [e5, m_k (by omega), e4, m_k (by omega), e3, m_k (by omega), x2 7 (by omega) (by omega)]; exact z7
              · rw [e5, m_k (by omega), e4, m_k (by omega), e3, m_k (by omega), x2 8 (by omega) (by omega)]; exact z8
              · rw [e5, m_k (by omega), e4, m_k (by omega), e3, m_k (by omega), x2 6 (by omega) (by omega)]; exact z6
              · rw [e5, m_k (by omega), e4, m_k (by omega), e3, m_k (by omega), x2 4 (by omega) (by omega), z4, hx]
              · rw [e5, m_k (by omega), e4, m_k (by omega), e3, m_s, hv, x_K, hx, x_Kb, if_neg (show ¬ n ≤ j by omega), if_neg hl, if_neg hd]
              · rw [e5, m_k (by omega), e4, m_s, x_V, hx, x_Vb, if_neg (by omega), if_neg hl, if_neg hd]
              · rw [e5, m_s, x_E, hx, x_Eb, if_neg (by omega), if_neg hl, if_neg hd]
            exact ⟨fun h S3 e3 S4 e4 S5 e5 => sg 3 S3 S4 S5 (if_pos (Or.inl h)).symm e3 e4 e5, fun h59 => ⟨fun h S3 e3 S4 e4 S5 e5 => sg 3 S3 S4 S5 (if_pos (Or.inr (Or.inl h))).symm e3 e4 e5, fun h40 => ⟨fun h S3 e3 S4 e4 S5 e5 => sg 3 S3 S4 S5 (if_pos (Or.inr (Or.inr h))).symm e3 e4 e5, fun h41 S3 e3 S4 e4 S5 e5 => sg 4 S3 S4 S5 (if_neg (fun q => by rcases q with q | q | q; exact h59 q; exact h40 q; exact h41 q)).symm e3 e4 e5⟩⟩⟩
        · refine hQ S3 (by rw [e3]; exact xp.trans zp) (fun q hq => by rw [e3, m_r hq, xq q hq]; exact zq q hq) ?_ ?_ ?_ ?_ ?_ ?_ ?_ ?_
          · rw [e3, m_k (by omega), x2 1 (by omega) (by omega)]; exact z1
          · rw [e3, m_k (by omega), x2 7 (by omega) (by omega)]; exact z7
          · rw [e3, m_k (by omega), x2 8 (by omega) (by omega)]; exact z8
          · rw [e3, m_k (by omega), x2 6 (by omega) (by omega)]; exact z6
          · rw [e3, m_k (by omega), x2 4 (by omega) (by omega), z4, hx]
          · rw [e3, m_s, x_K, hx, x_Kb, if_pos (by omega)]
          · rw [e3, m_k (by omega), x23, x_V, hx, x_Vb, if_pos (by omega)]
          · rw [e3, m_k (by omega), x25, x_E, hx, x_Eb, if_pos (by omega)]
  refine sg_X8_step_0 a (fun S1 e1 S2 e2 => ?_)
  have x2 : ∀ i, i ≠ 4 → i ≠ 6 → S2.1 a i = S.1 a i := fun i h4 h6 => by rw [e2, m_k h4, e1, m_k h6]
  have x5 : S1.1 a 5 = Int32.ofNat s := by rw [e1, m_k (by omega)]; exact h5
  exact key (n - s) s S2 (by omega) rfl (by rw [e2, e1]; rfl) (fun q hq => by rw [e2, m_r hq, e1, m_r hq]) (by rw [x2 1 (by omega) (by omega)]; exact h1) (x2 7 (by omega) (by omega)) (x2 8 (by omega) (by omega)) (by rw [e2, m_k (by omega), e1, m_s]) (by rw [e2, m_s]; exact h5)
