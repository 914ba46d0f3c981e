/-! ===== the class: the post; letters under way ===== -/
/-- a list lies in a row from off on -/
def q_arr (R : Nat → Int32) : Nat → List Nat → Prop
  | _, [] => True
  | off, x :: σ => R off = Int32.ofNat x ∧ q_arr R (off + 1) σ
theorem q_arr_congr {R R' : Nat → Int32} : ∀ (σ : List Nat) (off : Nat), (∀ j, off ≤ j → j < off + σ.length → R' j = R j) → q_arr R off σ → q_arr R' off σ := by
  intro σ
  induction σ with
  | nil => intro _ _ _; trivial
  | cons x σ ih =>
    intro off he h
    simp only [List.length_cons] at he
    exact ⟨by rw [he off (by omega) (by omega)]; exact h.1, ih (off + 1) (fun j h1 h2 => he j (by omega) (by omega)) h.2⟩
theorem q_arr_app {R : Nat → Int32} : ∀ (σ τ : List Nat) (off : Nat), q_arr R off σ → q_arr R (off + σ.length) τ → q_arr R off (σ ++ τ) := by
  intro σ
  induction σ with
  | nil => intro τ off _ h; exact h
  | cons x σ ih =>
    intro τ off h1 h2
    refine ⟨h1.1, ih τ (off + 1) h1.2 ?_⟩
    rw [List.length_cons] at h2
    rw [show off + 1 + σ.length = off + (σ.length + 1) by omega]
    exact h2
theorem q_arr_get {R : Nat → Int32} : ∀ (σ : List Nat) (off i x : Nat), q_arr R off σ → σ[i]? = some x → R (off + i) = Int32.ofNat x := by
  intro σ
  induction σ with
  | nil => intro off i x _ h; simp at h
  | cons y σ ih =>
    intro off i x h1 h2
    cases i with
    | zero => simp at h2; subst h2; exact h1.1
    | succ i =>
      have := ih (off + 1) i x h1.2 (by simpa using h2)
      rw [show off + (i + 1) = off + 1 + i by omega]
      exact this
/-- the post's picture, the road aside -/
def q_mid (M : Nat → Nat → Int32) (e : Nat) (r : Nat → Int32) (L : Nat) : Prop :=
  (M (e + 1) 3 = r 3 ∧ M (e + 1) 4 = r 11 ∧ M e 13 = r 4 ∧ M e 16 = r 8 ∧ M e 17 = r 7) ∧
  (∀ q, q < 4 → M (e + 2) q = r (1140 + 15 * q) ∧ (∀ s, s < 2 → M (e + 4) (q * 2 + s) = r (1140 + 15 * q + (1 + s))) ∧ (∀ t, t < 12 → M (e + 3) (q * 12 + t) = r (1140 + 15 * q + (3 + t))) ∧ ∀ s, s < 2 → M (e + 16) (q * 2 + s) = Int32.ofNat (cnt (o_wt r q s) L)) ∧
  ∀ l, l < L → M (e + 5) l = r (1200 + 11 * l) ∧ M (e + 9) l = r (1200 + 11 * l + 1) ∧ M (e + 10) l = r (1200 + 11 * l + 6) ∧ M (e + 12) l = r (1200 + 11 * l + 7) ∧ (r (1200 + 11 * l + 6) = 1 → M (e + 11) l = r (1200 + 11 * l + 9)) ∧ (r (1200 + 11 * l + 6) = 2 → M (e + 13) l = r (1200 + 11 * l + 10))
/-- what the post's part of a row holds -/
def i_ps (r : Nat → Int32) (np L d : Nat) : Prop :=
  r 3 = Int32.ofNat np ∧ np ≤ 4 ∧ r 4 = Int32.ofNat L ∧ L ≤ 84 ∧ r 2 = Int32.ofNat d ∧ d < 1000000 ∧
  (∀ q, q < np → (1 ≤ (r (1140 + 15 * q)).toInt ∧ (r (1140 + 15 * q)).toInt ≤ 9) ∧ ∀ t, t < 12 → 0 ≤ (r (1140 + 15 * q + (3 + t))).toInt ∧ (r (1140 + 15 * q + (3 + t))).toInt ≤ 9) ∧
  ∀ l, l < L → ∃ b q, b < 2 ∧ q < np ∧ r (1200 + 11 * l) = Int32.ofNat b ∧ r (1200 + 11 * l + 1) = Int32.ofNat q ∧ (r (1200 + 11 * l + 6) = 0 ∨ r (1200 + 11 * l + 6) = 1 ∨ r (1200 + 11 * l + 6) = 2) ∧ (r (1200 + 11 * l + 6) = 1 → 1 ≤ (r (1200 + 11 * l + 9)).toInt)
def o_ari (r : Nat → Int32) (d l : Nat) : Bool := decide (r (1140 + 15 * o_q r l + (3 + d / 30 % 12)) ≠ 9 ∧ r (1200 + 11 * l + 9) - 1 = 0)
/-- a letter goes on, unread -/
def o_gp (r : Nat → Int32) (d l : Nat) : Nat → Int32 :=
  if r (1140 + 15 * o_q r l + (3 + d / 30 % 12)) = 9 then r
  else if r (1200 + 11 * l + 9) - 1 = 0 then o_arr (upd r (1200 + 11 * l + 9) (r (1200 + 11 * l + 9) - 1)) l (o_b r l) (o_q r l)
  else upd r (1200 + 11 * l + 9) (r (1200 + 11 * l + 9) - 1)
def o_tp (d : Nat) : List Nat → (Nat → Int32) → (Nat → Int32)
  | [], r => r
  | l :: ρ, r => o_tp d ρ (o_gp r d l)
def o_ar (d : Nat) : List Nat → (Nat → Int32) → List Nat
  | [], _ => []
  | l :: ρ, r => if o_ari r d l = true then l :: o_ar d ρ (o_gp r d l) else o_ar d ρ (o_gp r d l)
def o_sy (d : Nat) : List Nat → (Nat → Int32) → List Nat
  | [], _ => []
  | l :: ρ, r => if o_ari r d l = true then o_sy d ρ (o_gp r d l) else l :: o_sy d ρ (o_gp r d l)
theorem o_ar_sy (d : Nat) : ∀ (ρ : List Nat) (r : Nat → Int32), (o_ar d ρ r).length + (o_sy d ρ r).length = ρ.length := by
  intro ρ
  induction ρ with
  | nil => intro r; rfl
  | cons l ρ ih =>
    intro r
    have := ih (o_gp r d l)
    simp only [o_ar, o_sy]
    split <;> simp only [List.length_cons] <;> omega
theorem i_ps_bq {r : Nat → Int32} {np L d l : Nat} (h : i_ps r np L d) (hl : l < L) : o_b r l < 2 ∧ o_q r l < np ∧ r (1200 + 11 * l) = Int32.ofNat (o_b r l) ∧ r (1200 + 11 * l + 1) = Int32.ofNat (o_q r l) ∧ (r (1200 + 11 * l + 6) = 0 ∨ r (1200 + 11 * l + 6) = 1 ∨ r (1200 + 11 * l + 6) = 2) ∧ (r (1200 + 11 * l + 6) = 1 → 1 ≤ (r (1200 + 11 * l + 9)).toInt) := by
  obtain ⟨h1, h2, h3, h4, h5, h5', h6, h7⟩ := h
  obtain ⟨b, q, hb, hq, eb, eq, hs, hr⟩ := h7 l hl
  have eob : o_b r l = b := by unfold o_b; rw [eb, n_c (by omega)]
  have eoq : o_q r l = q := by unfold o_q; rw [eq, n_c (by omega)]
  rw [eob, eoq]
  exact ⟨hb, hq, eb, eq, hs, hr⟩
theorem o_gp_at {r : Nat → Int32} {d l j : Nat} (h6 : j ≠ 1200 + 11 * l + 6) (h9 : j ≠ 1200 + 11 * l + 9) (h10 : j ≠ 1200 + 11 * l + 10) (hs : j ≠ 1140 + 15 * o_q r l + (1 + (1 - o_b r l))) (h7 : j ≠ 7) (h8 : j ≠ 8) : o_gp r d l j = r j := by
  unfold o_gp
  split
  · rfl
  · split
    · rw [o_arr_at h6 h10 hs h7 h8, u_k h9]
    · rw [u_k h9]
/-- a letter under way goes on: the row behind it -/
theorem i_ps_gp {r : Nat → Int32} {np L d l : Nat} (h : i_ps r np L d) (hl : l < L) (h1 : r (1200 + 11 * l + 6) = 1) :
    i_ps (o_gp r d l) np L d ∧ (∀ j, j ≠ l → o_gp r d l (1200 + 11 * j + 6) = r (1200 + 11 * j + 6)) ∧ (o_ari r d l = true → o_gp r d l (1200 + 11 * l + 6) = 2) ∧ (¬ o_ari r d l = true → o_gp r d l (1200 + 11 * l + 6) = 1) := by
  obtain ⟨hb, hq, eb, eq, hs, hr⟩ := i_ps_bq h hl
  have hh := h
  obtain ⟨g1, g2, g3, g4, g5, g5', g6, g7⟩ := h
  have fr : ∀ j, j ≠ 1200 + 11 * l + 6 → j ≠ 1200 + 11 * l + 9 → j ≠ 1200 + 11 * l + 10 → j ≠ 1140 + 15 * o_q r l + (1 + (1 - o_b r l)) → j ≠ 7 → j ≠ 8 → o_gp r d l j = r j := fun j a b c d e f => o_gp_at a b c d e f
  have e6a : o_ari r d l = true → o_gp r d l (1200 + 11 * l + 6) = 2 := by
    intro ha
    simp only [o_ari, decide_eq_true_eq, ne_eq] at ha
    unfold o_gp
    rw [if_neg ha.1, if_pos ha.2, o_arr, u_k (by omega), u_k (by omega), u_k (by omega), u_k (by omega), u_s]
  have e6n : ¬ o_ari r d l = true → o_gp r d l (1200 + 11 * l + 6) = 1 := by
    intro ha
    simp only [o_ari, decide_eq_true_eq, ne_eq, not_and] at ha
    unfold o_gp
    split
    · exact h1
    · next hc =>
      rw [if_neg (ha hc), u_k (by omega)]
      exact h1
  refine ⟨⟨by rw [fr 3 (by omega) (by omega) (by omega) (by omega) (by omega) (by omega)]; exact g1, g2, by rw [fr 4 (by omega) (by omega) (by omega) (by omega) (by omega) (by omega)]; exact g3, g4, by rw [fr 2 (by omega) (by omega) (by omega) (by omega) (by omega) (by omega)]; exact g5, g5', fun q hq9 => ?_, fun l' hl' => ?_⟩, fun j hj => fr _ (by omega) (by omega) (by omega) (by omega) (by omega) (by omega), e6a, e6n⟩
  · rw [fr _ (by omega) (by omega) (by omega) (by omega) (by omega) (by omega)]
    refine ⟨(g6 q hq9).1, fun t ht => ?_⟩
    rw [fr _ (by omega) (by omega) (by omega) (by omega) (by omega) (by omega)]
    exact (g6 q hq9).2 t ht
  · obtain ⟨b', q', c1, c2, c3, c4, c5, c6⟩ := g7 l' hl'
    refine ⟨b', q', c1, c2, by rw [fr _ (by omega) (by omega) (by omega) (by omega) (by omega) (by omega)]; exact c3, by rw [fr _ (by omega) (by omega) (by omega) (by omega) (by omega) (by omega)]; exact c4, ?_⟩
    by_cases hll : l' = l
    · subst hll
      by_cases ha : o_ari r d l' = true
      · rw [e6a ha]
        exact ⟨Or.inr (Or.inr rfl), fun q => absurd q (by decide)⟩
      · rw [e6n ha]
        refine ⟨Or.inr (Or.inl rfl), fun _ => ?_⟩
        have hr1 := hr h1
        simp only [o_ari, decide_eq_true_eq, ne_eq, not_and] at ha
        unfold o_gp
        split
        · exact hr1
        · next hc =>
          rw [if_neg (ha hc), u_s]
          have e1 : (1 : Int32).toInt = 1 := rfl
          have hn := ha hc
          have hz := z_hi (r (1200 + 11 * l' + 9))
          rw [z_eq, z_sub (by rw [e1]; omega) (by rw [e1]; omega), e1] at hn
          rw [z_sub (by rw [e1]; omega) (by rw [e1]; omega), e1]
          have e0 : (0 : Int32).toInt = 0 := rfl
          rw [e0] at hn
          omega
    · rw [fr _ (by omega) (by omega) (by omega) (by omega) (by omega) (by omega), fr _ (by omega) (by omega) (by omega) (by omega) (by omega) (by omega)]
      exact ⟨c5, c6⟩
