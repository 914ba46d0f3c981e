/-! ===== the law's cases: contradictions ===== -/
theorem n_mn {a b : Nat} (ha : a < 2147483648) (hb : b < 2147483648) : ∃ k, ev_min (Int32.ofNat a) (Int32.ofNat b) = Int32.ofNat k ∧ k ≤ a ∧ k ≤ b := by
  unfold ev_min
  by_cases h : Int32.ofNat b < Int32.ofNat a
  · rw [if_pos h]
    rw [n_lt hb ha] at h
    exact ⟨b, rfl, by omega, Nat.le_refl _⟩
  · rw [if_neg h]
    rw [n_lt hb ha] at h
    exact ⟨a, rfl, Nat.le_refl _, by omega⟩
def df_f (r : Nat → Int32) (k : Nat) : Bool := decide (¬ (r (154 + 180 * 0 + 3 * k) = r (154 + 180 * 1 + 3 * k) ∧ r (154 + 180 * 0 + 3 * k + 1) = r (154 + 180 * 1 + 3 * k + 1)))
theorem mv_val {S : ev_S} {b p n mm k : Nat} {r : Nat → Int32} (hm : r (12 + 7 * p) = Int32.ofNat mm) (h60 : mm ≤ 60) (hb : q_board S.1 b r p n mm) (hk : k < mm) : f_X0_moveAt S b (Int32.ofNat (k + 1)) = r (154 + 180 * p + 3 * k) * 64 + r (154 + 180 * p + 3 * k + 1) := by
  have e6 : S.1 b 6 = Int32.ofNat mm := by rw [hb.2.2.2.2.2.1]; exact hm
  have i1 : (1 : Int32) = Int32.ofNat 1 := rfl
  unfold f_X0_moveAt
  rw [e6, if_neg (by rw [i1, n_lt (by omega) (by omega)]; omega), if_neg (by rw [n_lt (by omega) (by omega)]; omega), a_in (by omega) (by omega), (hb.2.2.2.2.2.2.2.2 k hk).1]
theorem b_diff {g : ev_G} {S : ev_S} {a b n m0 m1 K : Nat} {r : Nat → Int32} (h8 : n ≤ 8) (hm0 : r (12 + 7 * 0) = Int32.ofNat m0) (hm1 : r (12 + 7 * 1) = Int32.ofNat m1) (h0 : m0 ≤ 60) (h1 : m1 ≤ 60) (hv0 : i_mv r 0 n m0) (hv1 : i_mv r 1 n m1) (hb0 : q_board S.1 a r 0 n m0) (hb1 : q_board S.1 b r 1 n m1) (hK : ev_min (Int32.ofNat m0) (Int32.ofNat m1) = Int32.ofNat K) (k0 : K ≤ m0) (k1 : K ≤ m1) :
    ev_Fn g m_X0_differencesFrom 3 [ev_o 0 a, ev_o 0 b] S (some (ev_i (Int32.ofNat (cnt (df_f r) K)))) S := by
  intro Q hQ
  have e0 : S.1 a 6 = Int32.ofNat m0 := by rw [hb0.2.2.2.2.2.1]; exact hm0
  have e1 : S.1 b 6 = Int32.ofNat m1 := by rw [hb1.2.2.2.2.2.1]; exact hm1
  refine sg_X0_differencesFrom_0 a b ?_
  rw [e0, e1, hK]
  have key : ∀ (w i : Nat), i + w = K → ev_E g m_X0_differencesFrom 3 0 17 [some (ev_o 0 a), some (ev_o 0 b), some (ev_i (Int32.ofNat (cnt (df_f r) i))), some (ev_i (Int32.ofNat K)), some (ev_i (Int32.ofNat (i + 1)))] [] S Q := by
    intro w
    induction w with
    | zero =>
      intro i hi
      have e : i = K := by omega
      subst e
      exact sg_X0_differencesFrom_17 a b _ _ _ (j_pos (by rw [n_lt (by omega) (by omega)]; omega) hQ)
    | succ w ih =>
      intro i hi
      have hi' := ih (i + 1) (by omega)
      have v0 := mv_val hm0 h0 hb0 (show i < m0 by omega)
      have v1 := mv_val hm1 h1 hb1 (show i < m1 by omega)
      obtain ⟨d0, d0'⟩ := (mv_at (x := Int32.ofNat (i + 1)) h8 hm0 h0 hv0 hb0).2 i rfl (by omega)
      obtain ⟨d1, d1'⟩ := (mv_at (x := Int32.ofNat (i + 1)) h8 hm1 h1 hv1 hb1).2 i rfl (by omega)
      refine sg_X0_differencesFrom_17 a b _ _ _ (j_neg (by rw [n_lt (by omega) (by omega)]; omega) ?_)
      rw [n_inc, n_inc]
      refine ⟨fun h => ?_, fun h => ?_⟩
      · rw [cnt_f (by
          unfold df_f
          rw [decide_eq_true_eq]
          refine fun hh => hh ⟨?_, ?_⟩
          · rw [← d0, ← d1, h]
          · rw [← d0', ← d1', h])] at hi'
        exact hi'
      · rw [cnt_t (by
          unfold df_f
          rw [decide_eq_true_eq]
          refine fun hh => h ?_
          rw [v0, v1, hh.1, hh.2])] at hi'
        exact hi'
  exact key K 0 (by omega)
theorem cnt_split {f g h : Nat → Bool} : ∀ n, (∀ i, i < n → (if f i = true then 1 else 0) = (if g i = true then 1 else 0) + (if h i = true then 1 else 0)) → cnt f n = cnt g n + cnt h n := by
  intro n
  induction n with
  | zero => intro _; rfl
  | succ n ih =>
    intro hh
    have h1 := ih (fun i hi => hh i (by omega))
    have h2 := hh n (by omega)
    show cnt f n + _ = (cnt g n + _) + (cnt h n + _)
    omega
theorem cnt_tail {f : Nat → Bool} {k : Nat} : ∀ m, (∀ i, k ≤ i → i < k + m → ¬ f i = true) → cnt f (k + m) = cnt f k := by
  intro m
  induction m with
  | zero => intro _; rfl
  | succ m ih =>
    intro h
    have e : k + (m + 1) = k + m + 1 := rfl
    rw [e, cnt_f (h _ (by omega) (by omega))]
    exact ih (fun i a b => h i a (by omega))
theorem bish_all {r : Nat → Int32} {p n : Nat} (h8 : n ≤ 8) (h : i_sq r p n) : cnt (fun s => decide (¬ r (26 + 64 * p + s) = -1)) 64 = o_bish r p n 0 + o_bish r p n 1 := by
  have hn9 := sq_le h8
  have t := cnt_tail (f := fun s => decide (¬ r (26 + 64 * p + s) = -1)) (k := n * n) (64 - n * n) (fun i a b hh => by
    rw [decide_eq_true_eq] at hh
    rcases h i (by omega) with h1 | ⟨h1, -⟩
    · exact hh h1
    · omega)
  rw [show n * n + (64 - n * n) = 64 by omega] at t
  rw [t]
  unfold o_bish
  refine cnt_split _ (fun i hi => ?_)
  rcases h i (by omega) with h1 | ⟨-, h1 | h1⟩
  · rw [h1]; rfl
  · rw [h1]; rfl
  · rw [h1]; rfl
theorem sub3 {A x : Int32} {b c : Nat} : A - Int32.ofNat b - Int32.ofNat c - x = A - (Int32.ofNat (b + c) + x) := by
  rw [← n_add]
  rw [Int32.sub_eq_add_neg, Int32.sub_eq_add_neg, Int32.sub_eq_add_neg, Int32.sub_eq_add_neg, Int32.neg_add, Int32.neg_add, Int32.sub_eq_add_neg, Int32.sub_eq_add_neg, Int32.add_assoc, Int32.add_assoc, Int32.add_assoc]
theorem b_astray {g : ev_G} {S : ev_S} {b p n mm : Nat} {r : Nat → Int32} (h8 : n ≤ 8) (hs : i_sq r p n) (hb : q_board S.1 b r p n mm) : ev_Fn g m_X0_bishopsAstray 3 [ev_o 0 b] S (some (ev_i (ev_abs ((r 9 + r 10) - Int32.ofNat (o_bish r p n 0) - Int32.ofNat (o_bish r p n 1) - r (12 + 7 * p + 1))))) S := by
  intro Q hQ
  have e64 : (64 : Int32) = Int32.ofNat 64 := rfl
  rw [sub3, ← bish_all h8 hs, ← hb.2.2.2.2.2.2.2.1, ← hb.2.2.2.2.2.2.1] at hQ
  have key : ∀ (w i : Nat), i + w = 64 → ev_E g m_X0_bishopsAstray 3 0 4 [some (ev_o 0 b), some (ev_i (Int32.ofNat (cnt (fun s => decide (¬ r (26 + 64 * p + s) = -1)) i))), some (ev_i (Int32.ofNat i))] [] S Q := by
    intro w
    induction w with
    | zero =>
      intro i hi
      have e : i = 64 := by omega
      subst e
      exact sg_X0_bishopsAstray_4 b _ _ (j_pos (Int32.le_refl _) hQ)
    | succ w ih =>
      intro i hi
      have hi' := ih (i + 1) (by omega)
      refine sg_X0_bishopsAstray_4 b _ _ (j_neg (by rw [e64, n_le (by omega) (by omega)]; omega) ?_)
      rw [a_in (by omega) (by omega), hb.1 i (by omega), n_inc, n_inc]
      refine ⟨fun h => ?_, fun h => ?_⟩
      · rw [cnt_f (by rw [decide_eq_true_eq]; exact fun hh => hh h)] at hi'
        exact hi'
      · rw [cnt_t (by rw [decide_eq_true_eq]; exact h)] at hi'
        exact hi'
  exact sg_X0_bishopsAstray_0 b (key 64 0 (by omega))
/-- mules in the stables of the first passes -/
def sts (r : Nat → Int32) : Nat → Int32
  | 0 => 0
  | q + 1 => sts r q + (r (1140 + 15 * q + 1) + r (1140 + 15 * q + 2))
theorem cnt_mem {f : Nat → Bool} : ∀ (L : Nat) (ρ : List Nat), ρ.Nodup → (∀ l, l ∈ ρ ↔ l < L ∧ f l = true) → ρ.length = cnt f L := by
  intro L
  induction L with
  | zero =>
    intro ρ _ h
    cases ρ with
    | nil => rfl
    | cons x ρ => have := (h x).mp (List.mem_cons_self ..); omega
  | succ L ih =>
    intro ρ hn h
    by_cases hf : f L = true
    · have hm : L ∈ ρ := (h L).mpr ⟨by omega, hf⟩
      have h1 := ih (ρ.erase L) (hn.erase L) (fun l => by
        rw [hn.mem_erase_iff, h l]
        constructor
        · rintro ⟨a, b, c⟩
          exact ⟨by omega, c⟩
        · rintro ⟨a, b⟩
          exact ⟨by omega, by omega, b⟩)
      rw [List.length_erase_of_mem hm] at h1
      have hp := List.length_pos_of_mem hm
      rw [cnt_t hf]
      omega
    · rw [cnt_f hf]
      refine ih ρ hn (fun l => ?_)
      rw [h l]
      constructor
      · rintro ⟨a, b⟩
        refine ⟨?_, b⟩
        by_cases hl : l = L
        · rw [hl] at b; exact absurd b hf
        · omega
      · rintro ⟨a, b⟩
        exact ⟨by omega, b⟩
theorem road_len {r : Nat → Int32} {np L d : Nat} {ρ : List Nat} (h : i_pst r np L d ρ) : ρ.length = cnt (fun l => decide (r (1200 + 11 * l + 6) = 1)) L := by
  obtain ⟨h1, ⟨dp, h2, h3, h4⟩, h5⟩ := h
  refine cnt_mem L ρ (i_road_nd h5) (fun l => ?_)
  rw [decide_eq_true_eq]
  constructor
  · intro hm
    exact ⟨(h5.1 l hm).1, (h5.1 l hm).2.1⟩
  · rintro ⟨hl, hs⟩
    refine h5.2.2 l hl hs (fun hle => ?_)
    have i0 : (0 : Int32).toInt = 0 := rfl
    rw [z_le, i0] at hle
    have := (h4 l hl hs).1
    omega
theorem b_mules {g : ev_G} {S : ev_S} {e np : Nat} {r : Nat → Int32} {x : Int32} (hnp : np ≤ 4) (h4 : S.1 e 4 = r 11) (hst : ∀ q, q < 4 → ∀ s, s < 2 → S.1 (e + 3) (q * 2 + s) = r (1140 + 15 * q + (1 + s))) (hz : ∀ q, np ≤ q → q < 4 → ∀ s, s < 2 → r (1140 + 15 * q + (1 + s)) = 0) : ev_Fn g m_X5_mulesAstray 2 [ev_o 5 e, ev_i x] S (some (ev_i (ev_abs (r 11 - (sts r np + x))))) S := by
  intro Q hQ
  have e8 : (8 : Int32) = Int32.ofNat 8 := rfl
  have hsts : ∀ k, np + k ≤ 4 → sts r (np + k) = sts r np := by
    intro k
    induction k with
    | zero => intro _; rfl
    | succ k ih =>
      intro hk
      have a1 : r (1140 + 15 * (np + k) + 1) = 0 := hz (np + k) (by omega) (by omega) 0 (by omega)
      have a2 : r (1140 + 15 * (np + k) + 2) = 0 := hz (np + k) (by omega) (by omega) 1 (by omega)
      have e1 : np + (k + 1) = np + k + 1 := rfl
      rw [e1, sts, a1, a2, Int32.add_zero, Int32.add_zero]
      exact ih (by omega)
  have key : ∀ (w q : Nat), q + w = 4 → ev_E g m_X5_mulesAstray 2 0 4 [some (ev_o 5 e), some (ev_i x), some (ev_i (sts r q)), some (ev_i (Int32.ofNat (q * 2)))] [] S Q := by
    intro w
    induction w with
    | zero =>
      intro q hq
      have e1 : q = 4 := by omega
      subst e1
      refine sg_X5_mulesAstray_4 e _ _ _ (j_pos (Int32.le_refl _) ?_)
      have := hsts (4 - np) (by omega)
      rw [show np + (4 - np) = 4 by omega] at this
      rw [this, h4]
      exact hQ
    | succ w ih =>
      intro q hq
      have s0 : S.1 (e + 3) (q * 2) = r (1140 + 15 * q + 1) := hst q (by omega) 0 (by omega)
      have s1 : S.1 (e + 3) (q * 2 + 1) = r (1140 + 15 * q + 2) := hst q (by omega) 1 (by omega)
      refine sg_X5_mulesAstray_4 e _ _ _ (j_neg (by rw [e8, n_le (by omega) (by omega)]; omega) ?_)
      rw [a_in (by omega) (by omega), s0, n_inc]
      refine sg_X5_mulesAstray_4 e _ _ _ (j_neg (by rw [e8, n_le (by omega) (by omega)]; omega) ?_)
      rw [a_in (by omega) (by omega), s1, n_inc, Int32.add_assoc]
      have := ih (q + 1) (by omega)
      rw [show (q + 1) * 2 = q * 2 + 1 + 1 by omega] at this
      exact this
  exact sg_X5_mulesAstray_0 e _ (key 4 0 (by omega))
