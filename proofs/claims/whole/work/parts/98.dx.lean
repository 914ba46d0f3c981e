/-! ===== the reference: the next token ===== -/
theorem c_seen {S : ev_S} {a n j : Nat} {T : Nat → Int32} (hn : n ≤ 800) (h10 : S.1 a 10 = Int32.ofNat n) (hT : ∀ j, j < n → S.1 (a + 7) j = T j) (hj : j ≤ n) : f_X10_seen S a (Int32.ofNat j) = if j < n then T j else -1 := by
  unfold f_X10_seen
  rw [h10]
  by_cases h : j < n
  · rw [if_neg (by rw [n_le (by omega) (by omega)]; omega), if_pos h, n_c (by omega), hT j h]
  · rw [if_pos (by rw [n_le (by omega) (by omega)]; omega), if_neg h]
theorem c_vsn {n j : Nat} (hn : n ≤ 800) (hj : j ≤ n) : ¬ Int32.ofNat n ≤ Int32.ofNat j → vp_in (Int32.ofNat j) 800 := by
  intro h
  rw [n_le (by omega) (by omega)] at h
  exact (n_vp (by omega) (by omega)).mpr trivial
theorem c_lt (c : Int32) : t_X10_in c 97 122 = t_X8_isLetter c := rfl
theorem c_dg (c : Int32) : t_X10_in c 48 57 = t_X8_isDigit c := rfl
theorem c_rword {g : ev_G} {a n : Nat} {T : Nat → Int32} (hn : n ≤ 800) : ∀ (k j : Nat) (S : ev_S), j + k = n → S.1 a 10 = Int32.ofNat n → (∀ j, j < n → S.1 (a + 7) j = T j) → S.1 a 13 = Int32.ofNat j → ∀ Q : ev_O → ev_S → Prop,
    Q (.inl none) (ev_up S a 13 (Int32.ofNat (x_rn (x_lt T n) (n - j) j))) → ev_E g m_X10_reads 2 0 85 [some (ev_o 10 a), none] [] S Q := by
  have em : t_X8_isLetter (-1) = false := by decide
  intro k
  have stop : ∀ (j : Nat) (S : ev_S), S.1 a 13 = Int32.ofNat j → ¬ x_lt T n j = true → ∀ Q : ev_O → ev_S → Prop, Q (.inl none) (ev_up S a 13 (Int32.ofNat (x_rn (x_lt T n) (n - j) j))) → Q (.inl none) S := by
    intro j S h5 hd Q hQ
    have e : x_rn (x_lt T n) (n - j) j = j := x_rn_f hd
    have es : ev_up S a 13 (Int32.ofNat j) = S := by rw [m_u, ← h5, u_self, r_self]
    rw [e, es] at hQ
    exact hQ
  induction k with
  | zero =>
    intro j S hj h1 hT h5 Q hQ
    refine sg_X10_reads_85 a ?_
    rw [h5, c_seen hn h1 hT (by omega), if_neg (by omega), h1, c_lt, em]
    exact ⟨c_vsn hn (by omega), fun h => absurd h (by decide), fun _ => stop j S h5 (by unfold x_lt; rw [x_and]; omega) Q hQ⟩
  | succ k ih =>
    intro j S hj h1 hT h5 Q hQ
    refine sg_X10_reads_85 a ?_
    rw [h5, c_seen hn h1 hT (by omega), if_pos (by omega), h1, c_lt, n_inc]
    refine ⟨c_vsn hn (by omega), fun hl S1 e1 => ?_, fun hl => stop j S h5 (by unfold x_lt; rw [x_and]; exact fun q => hl q.2) Q hQ⟩
    refine ih (j + 1) S1 (by omega) (by rw [e1, m_k (by omega)]; exact h1) (fun i hi => by rw [e1, m_r (by omega)]; exact hT i hi) (by rw [e1, m_s]) Q ?_
    rw [e1, m_u, m_u, r_s, r_rr, u_u, ← m_u, ← x_rn_t (by omega) (by unfold x_lt; rw [x_and]; exact ⟨by omega, hl⟩)]
    exact hQ
theorem c_rnumb {g : ev_G} {a n : Nat} {T : Nat → Int32} (hn : n ≤ 800) : ∀ (k j : Nat) (S : ev_S), j + k = n → S.1 a 10 = Int32.ofNat n → (∀ j, j < n → S.1 (a + 7) j = T j) → S.1 a 13 = Int32.ofNat j → ∀ Q : ev_O → ev_S → Prop,
    Q (.inl none) (ev_up (ev_up S a 16 (x_num T (x_rn (x_dg T n) (n - j) j - j) j (S.1 a 16))) a 13 (Int32.ofNat (x_rn (x_dg T n) (n - j) j))) → ev_E g m_X10_reads 2 0 137 [some (ev_o 10 a), none] [] S Q := by
  have em : t_X8_isDigit (-1) = false := by decide
  intro k
  have stop : ∀ (j : Nat) (S : ev_S), S.1 a 13 = Int32.ofNat j → ¬ x_dg T n j = true → ∀ Q : ev_O → ev_S → Prop, Q (.inl none) (ev_up (ev_up S a 16 (x_num T (x_rn (x_dg T n) (n - j) j - j) j (S.1 a 16))) a 13 (Int32.ofNat (x_rn (x_dg T n) (n - j) j))) → Q (.inl none) S := by
    intro j S h5 hd Q hQ
    have e : x_rn (x_dg T n) (n - j) j = j := x_rn_f hd
    rw [e, Nat.sub_self, x_num] at hQ
    have es : ev_up (ev_up S a 16 (S.1 a 16)) a 13 (Int32.ofNat j) = S := by
      rw [m_u S, u_self, r_self, m_u, ← h5, u_self, r_self]
    rw [es] at hQ
    exact hQ
  induction k with
  | zero =>
    intro j S hj h1 hT h5 Q hQ
    refine sg_X10_reads_137 a ?_
    rw [h5, c_seen hn h1 hT (by omega), if_neg (by omega), h1, c_dg, em]
    exact ⟨c_vsn hn (by omega), fun h => absurd h (by decide), fun _ => stop j S h5 (by unfold x_dg; rw [x_and]; omega) Q hQ⟩
  | succ k ih =>
    intro j S hj h1 hT h5 Q hQ
    refine sg_X10_reads_137 a ?_
    rw [h5, c_seen hn h1 hT (by omega), if_pos (by omega), h1, c_dg, n_inc]
    refine ⟨c_vsn hn (by omega), fun hl S1 e1 S2 e2 => ?_, fun hl => stop j S h5 (by unfold x_dg; rw [x_and]; exact fun q => hl q.2) Q hQ⟩
    have x3 : S2.1 a 16 = ev_min 1000 (S.1 a 16 * 10 + T j - 48) := by rw [e2, m_k (by omega), e1, m_s, Int32.mul_comm]
    refine ih (j + 1) S2 (by omega) (by rw [e2, m_k (by omega), e1, m_k (by omega)]; exact h1) (fun i hi => by rw [e2, m_r (by omega), e1, m_r (by omega)]; exact hT i hi) (by rw [e2, m_s]) Q ?_
    have hx := x_rn_t (P := x_dg T n) (n := n) (s := j) (by omega) (by unfold x_dg; rw [x_and]; exact ⟨by omega, hl⟩)
    have hge := (x_rn_ge (P := x_dg T n) (n - (j + 1)) (j + 1)).1
    rw [hx, show x_rn (x_dg T n) (n - (j + 1)) (j + 1) - j = (x_rn (x_dg T n) (n - (j + 1)) (j + 1) - (j + 1)) + 1 by omega, x_num] at hQ
    rw [x3, e2, e1, Int32.mul_comm 10]
    generalize x_num T (x_rn (x_dg T n) (n - (j + 1)) (j + 1) - (j + 1)) (j + 1) (ev_min 1000 (S.1 a 16 * 10 + T j - 48)) = v at *
    generalize Int32.ofNat (x_rn (x_dg T n) (n - (j + 1)) (j + 1)) = w at *
    have es : ev_up (ev_up (ev_up (ev_up S a 16 (ev_min 1000 (S.1 a 16 * 10 + T j - 48))) a 13 (Int32.ofNat (j + 1))) a 16 v) a 13 w = ev_up (ev_up S a 16 v) a 13 w := by
      rw [m_u, m_u, m_u, m_u, m_u (ev_up S a 16 v), m_u]
      simp only [r_s, r_rr]
      refine congrArg (ev_ur S a) ?_
      funext i
      by_cases h5 : i = 13
      · rw [h5, u_s, u_s]
      · rw [u_k h5, u_k h5]
        by_cases h3 : i = 16
        · rw [h3, u_s, u_s]
        · rw [u_k h3, u_k h5, u_k h3, u_k h3]
    rw [es]
    exact hQ
theorem c_reads {g : ev_G} {S : ev_S} {a n s : Nat} {T : Nat → Int32} (hn : n ≤ 800) (h10 : S.1 a 10 = Int32.ofNat n) (hT : ∀ j, j < n → S.1 (a + 7) j = T j) (hm : ∀ j, j < n → ¬ T j = -1) (h13 : S.1 a 13 = Int32.ofNat s) (hs : s ≤ n) {Q : ev_O → ev_S → Prop}
    (hQ : ∀ z : ev_S, z.2 = S.2 → (∀ q, q ≠ a → z.1 q = S.1 q) → (∀ i, i ≠ 13 → i ≠ 14 → i ≠ 15 → i ≠ 16 → z.1 a i = S.1 a i) → z.1 a 13 = Int32.ofNat (x_E T n s) → z.1 a 14 = Int32.ofNat (x_B T n s) → z.1 a 15 = x_K T n s → (x_K T n s = 2 → z.1 a 16 = x_V T n s) → Q (.inl none) z) :
    ev_Cv g m_X10_reads 2 0 [ev_o 10 a] S Q := by
  have key : ∀ (k j : Nat) (Z : ev_S), j + k = n → x_B T n s = x_rn (x_bl T n) (n - j) j → Z.2 = S.2 → (∀ q, q ≠ a → Z.1 q = S.1 q) → (∀ i, i ≠ 13 → Z.1 a i = S.1 a i) → Z.1 a 13 = Int32.ofNat j → ev_E g m_X10_reads 2 0 0 [some (ev_o 10 a), none] [] Z Q := by
    intro k
    induction k with
    | zero =>
      intro j Z hj hx zp zq zi z13
      have zT : ∀ j, j < n → Z.1 (a + 7) j = T j := fun j hj => by rw [zq _ (by omega)]; exact hT j hj
      have z10 : Z.1 a 10 = Int32.ofNat n := by rw [zi _ (by omega)]; exact h10
      have e : x_rn (x_bl T n) (n - j) j = j := x_rn_f (by unfold x_bl; rw [x_and]; omega)
      rw [e] at hx
      refine sg_X10_reads_h0 a ?_
      rw [z13, z10, c_seen hn z10 zT (by omega), if_neg (by omega)]
      refine ⟨c_vsn hn (by omega), j_neg (by decide) (j_neg (by decide) (fun S2 e2 => ?_))⟩
      have y10 : S2.1 a 10 = Int32.ofNat n := by rw [e2, m_k (by omega)]; exact z10
      rw [y10, c_seen (T := T) hn y10 (fun i hi => by rw [e2, m_r (by omega)]; exact zT i hi) (by omega), if_neg (by omega)]
      refine ⟨c_vsn hn (by omega), j_pos rfl (fun S3 e3 => ?_)⟩
      have hk : x_K T n s = 0 := by rw [x_K, hx, x_Kb, if_pos (by omega)]
      refine hQ S3 (by rw [e3, e2]; exact zp) (fun q hq => by rw [e3, m_r hq, e2, m_r hq]; exact zq q hq) (fun i h1 h2 h3 h4 => by rw [e3, m_k h3, e2, m_k h2]; exact zi i h1) ?_ ?_ ?_ (fun h => ?_)
      · rw [e3, m_k (by omega), e2, m_k (by omega), z13, x_E, hx, x_Eb, if_pos (by omega)]
      · rw [e3, m_k (by omega), e2, m_s, hx]
      · rw [e3, m_s, hk]
      · rw [hk] at h; exact absurd h (by decide)
    | succ k ih =>
      intro j Z hj hx zp zq zi z13
      have zT : ∀ j, j < n → Z.1 (a + 7) j = T j := fun j hj => by rw [zq _ (by omega)]; exact hT j hj
      have z10 : Z.1 a 10 = Int32.ofNat n := by rw [zi _ (by omega)]; exact h10
      refine sg_X10_reads_h0 a ?_
      rw [z13, z10, c_seen hn z10 zT (by omega), if_pos (by omega), n_inc]
      have go : (T j = 32 ∨ T j = 10) → ∀ S1 : ev_S, S1 = ev_up Z a 13 (Int32.ofNat (j + 1)) → ev_E g m_X10_reads 2 0 0 [some (ev_o 10 a), none] [] S1 Q := by
        intro hb S1 e1
        have hb2 : t_X8_isBlank (T j) = true := by
          unfold t_X8_isBlank
          rcases hb with hb | hb
          · rw [if_pos hb]
          · rw [hb]; decide
        rw [x_rn_t (by omega) (by unfold x_bl; rw [x_and]; exact ⟨by omega, hb2⟩)] at hx
        exact ih (j + 1) S1 (by omega) hx (by rw [e1]; exact zp) (fun q hq => by rw [e1, m_r hq]; exact zq q hq) (fun i hi => by rw [e1, m_k hi]; exact zi i hi) (by rw [e1, m_s])
      refine ⟨c_vsn hn (by omega), fun h => go (Or.inl h), fun h32 => ⟨fun h => go (Or.inr h), fun h10' S2 e2 => ?_⟩⟩
      have hb : ¬ t_X8_isBlank (T j) = true := by
        unfold t_X8_isBlank
        rw [if_neg h32, if_neg h10']
        decide
      have e : x_rn (x_bl T n) (n - j) j = j := x_rn_f (by unfold x_bl; rw [x_and]; exact fun q => hb q.2)
      rw [e] at hx
      have y10 : S2.1 a 10 = Int32.ofNat n := by rw [e2, m_k (by omega)]; exact z10
      have yT : ∀ j, j < n → S2.1 (a + 7) j = T j := fun i hi => by rw [e2, m_r (by omega)]; exact zT i hi
      have y13 : S2.1 a 13 = Int32.ofNat j := by rw [e2, m_k (by omega)]; exact z13
      have y14 : S2.1 a 14 = Int32.ofNat j := by rw [e2, m_s]
      have yi : ∀ i, i ≠ 13 → i ≠ 14 → S2.1 a i = S.1 a i := fun i h1 h2 => by rw [e2, m_k h2]; exact zi i h1
      have yq : ∀ q, q ≠ a → S2.1 q = S.1 q := fun q hq => by rw [e2, m_r hq]; exact zq q hq
      have yp : S2.2 = S.2 := by rw [e2]; exact zp
      rw [y10, c_seen hn y10 yT (by omega), if_pos (by omega), c_lt, c_dg]
      refine ⟨c_vsn hn (by omega), j_neg (hm j (by omega)) ⟨fun hl S3 e3 => ?_, fun hl => ⟨fun hd S3 e3 S4 e4 => ?_, fun hd => ?_⟩⟩⟩
      · have hk : x_K T n s = 1 := by rw [x_K, hx, x_Kb, if_neg (by omega), if_pos hl]
        refine c_rword (T := T) hn (n - j) j S3 (by omega) (by rw [e3, m_k (by omega)]; exact y10) (fun i hi => by rw [e3, m_r (by omega)]; exact yT i hi) (by rw [e3, m_k (by omega)]; exact y13) Q ?_
        refine hQ _ (by rw [e3]; exact yp) (fun q hq => by rw [m_r hq, e3, m_r hq]; exact yq q hq) (fun i h1 h2 h3 h4 => by rw [m_k h1, e3, m_k h3]; exact yi i h1 h2) ?_ ?_ ?_ (fun h => ?_)
        · rw [m_s, x_E, hx, x_Eb, if_neg (by omega), if_pos hl]
        · rw [m_k (by omega), e3, m_k (by omega), y14, hx]
        · rw [m_k (by omega), e3, m_s, hk]
        · rw [hk] at h; exact absurd h (by decide)
      · have hk : x_K T n s = 2 := by rw [x_K, hx, x_Kb, if_neg (by omega), if_neg hl, if_pos hd]
        have x16 : S4.1 a 16 = 0 := by rw [e4, m_s]
        refine c_rnumb (T := T) hn (n - j) j S4 (by omega) (by rw [e4, m_k (by omega), e3, m_k (by omega)]; exact y10) (fun i hi => by rw [e4, m_r (by omega), e3, m_r (by omega)]; exact yT i hi) (by rw [e4, m_k (by omega), e3, m_k (by omega)]; exact y13) Q ?_
        rw [x16]
        refine hQ _ (by rw [e4, e3]; exact yp) (fun q hq => by rw [m_r hq, m_r hq, e4, m_r hq, e3, m_r hq]; exact yq q hq) (fun i h1 h2 h3 h4 => by rw [m_k h1, m_k h4, e4, m_k h4, e3, m_k h3]; exact yi i h1 h2) ?_ ?_ ?_ (fun h => ?_)
        · rw [m_s, x_E, hx, x_Eb, if_neg (by omega), if_neg hl, if_pos hd]
        · rw [m_k (by omega), m_k (by omega), e4, m_k (by omega), e3, m_k (by omega), y14, hx]
        · rw [m_k (by omega), m_k (by omega), e4, m_k (by omega), e3, m_s, hk]
        · rw [m_k (by omega), m_s, x_V, hx, x_Vb, if_neg (by omega), if_neg hl, if_pos hd]
      · have sg : ∀ (v : Int32) (S3 S4 : ev_S), v = (if T j = 59 ∨ T j = 40 ∨ T j = 41 then 3 else 4) → ¬ v = 2 → S3 = ev_up S2 a 15 v → S4 = ev_up S3 a 13 (Int32.ofNat (j + 1)) → Q (.inl none) S4 := by
          intro v S3 S4 hv hv2 e3 e4
          have hk : x_K T n s = v := by rw [hv, x_K, hx, x_Kb, if_neg (show ¬ n ≤ j by omega), if_neg hl, if_neg hd]
          refine hQ S4 (by rw [e4, e3]; exact yp) (fun q hq => by rw [e4, m_r hq, e3, m_r hq]; exact yq q hq) (fun i h1 h2 h3 h4 => by rw [e4, m_k h1, e3, m_k h3]; exact yi i h1 h2) ?_ ?_ ?_ (fun h => ?_)
          · rw [e4, m_s, x_E, hx, x_Eb, if_neg (by omega), if_neg hl, if_neg hd]
          · rw [e4, m_k (by omega), e3, m_k (by omega), y14, hx]
          · rw [e4, m_k (by omega), e3, m_s, hk]
          · rw [hk] at h; exact absurd h hv2
        exact ⟨fun h S3 e3 S4 e4 => sg 3 S3 S4 (if_pos (Or.inl h)).symm (by decide) e3 e4, fun h59 => ⟨fun h S3 e3 S4 e4 => sg 3 S3 S4 (if_pos (Or.inr (Or.inl h))).symm (by decide) e3 e4, fun h40 => ⟨fun h S3 e3 S4 e4 => sg 3 S3 S4 (if_pos (Or.inr (Or.inr h))).symm (by decide) e3 e4, fun h41 S3 e3 S4 e4 => sg 4 S3 S4 (if_neg (fun q => by rcases q with q | q | q; exact h59 q; exact h40 q; exact h41 q)).symm (by decide) e3 e4⟩⟩⟩
  exact sg_X10_reads_0 a (key (n - s) s S (by omega) rfl rfl (fun _ _ => rfl) (fun _ _ => rfl) h13)
