/-! ===== the law's own game: a letter is posted; letters counted ===== -/
/-- outside the own game nothing has changed, and not what it isn't compared by -/
def w_bo (M : Nat → Nat → Int32) (a : Nat) : Prop := w_bl (M (a + 8)) ∧ w_bl (M (a + 15)) ∧ w_bl (M (a + 29)) ∧ w_bl (M (a + 30)) ∧ w_bl (M (a + 31))
def w_kp (S z : ev_S) (a : Nat) : Prop := q_fr S z a 36 ∧ (∀ k, 11 ≤ k → z.1 a k = S.1 a k) ∧ (w_bo S.1 a → w_bo z.1 a)
theorem w_kp_mk {S z : ev_S} {a : Nat} (h1 : z.2 = S.2) (h2 : ∀ q, q < a ∨ a + 36 ≤ q → z.1 q = S.1 q) (h3 : ∀ k, 11 ≤ k → z.1 a k = S.1 a k) (h4 : ∀ x, x = a + 8 ∨ x = a + 15 ∨ x = a + 29 ∨ x = a + 30 ∨ x = a + 31 → z.1 x = S.1 x) : w_kp S z a :=
  ⟨⟨h1, h2⟩, h3, fun h => by unfold w_bo at *; rw [h4 (a + 8) (by omega), h4 (a + 15) (by omega), h4 (a + 29) (by omega), h4 (a + 30) (by omega), h4 (a + 31) (by omega)]; exact h⟩
theorem w_kp_rf (S : ev_S) (a : Nat) : w_kp S S a := ⟨⟨rfl, fun _ _ => rfl⟩, fun _ _ => rfl, fun h => h⟩
theorem w_kp_tr {S T z : ev_S} {a : Nat} (h1 : w_kp S T a) (h2 : w_kp T z a) : w_kp S z a := ⟨q_fr_trans h1.1 h2.1, fun k hk => (h2.2.1 k hk).trans (h1.2.1 k hk), fun h => h2.2.2 (h1.2.2 h)⟩
theorem w_kp_b {S z : ev_S} {a p : Nat} (hp : p < 2) (h : q_fb S z (a + 2 + 7 * p)) : w_kp S z a := by
  refine ⟨⟨h.1.1, fun q hq => h.1.2 q (by omega)⟩, fun k _ => by rw [h.1.2 a (by omega)], fun ⟨h1, h2, h3, h4, h5⟩ => ?_⟩
  have e29 : z.1 (a + 29) = S.1 (a + 29) := h.1.2 _ (by omega)
  have e30 : z.1 (a + 30) = S.1 (a + 30) := h.1.2 _ (by omega)
  have e31 : z.1 (a + 31) = S.1 (a + 31) := h.1.2 _ (by omega)
  unfold w_bo
  rw [e29, e30, e31]
  have : p = 0 ∨ p = 1 := by omega
  rcases this with rfl | rfl
  · have e15 : z.1 (a + 15) = S.1 (a + 15) := h.1.2 _ (by omega)
    rw [e15]
    exact ⟨h.2 h1, h2, h3, h4, h5⟩
  · have e8 : z.1 (a + 8) = S.1 (a + 8) := h.1.2 _ (by omega)
    rw [e8]
    exact ⟨h1, h.2 h2, h3, h4, h5⟩
/-- both boards stay -/
theorem w_bds {M M' : Nat → Nat → Int32} {a : Nat} {r r' : Nat → Int32} (hmad : ∀ p, p < 2 → o_mad r p ≤ 60) (f : ∀ q, a + 2 ≤ q → q < a + 16 → M' q = M q) (e : ∀ j, (12 ≤ j ∧ j < 762) → r' j = r j) (h : ∀ p, p < 2 → w_bd M (a + 2 + 7 * p) r p) : ∀ p, p < 2 → w_bd M' (a + 2 + 7 * p) r' p :=
  fun p hp => w_bd_row (hmad p hp) hp (fun j hj => e j (by unfold o_own at hj; omega)) (w_bd_fr (fun q q1 q2 => f q (by omega) (by omega)) (h p hp))
theorem w_posts {g : ev_G} {S : ev_S} {a L : Nat} {r : Nat → Int32} {x0 x1 x2 x3 x4 x5 : Int32} (hL : L ≤ 80) (h4 : r 4 = Int32.ofNat L) (hmad : ∀ p, p < 2 → o_mad r p ≤ 60) (hx2 : x2 = 0 ∨ x2 = 1) (hx3 : x2 = 1 → ¬ x3 = 1) (h : w_gm S.1 a r L) {Q : ev_O → ev_S → Prop}
    (hQ : ∀ z, w_kp S z a → w_gm z.1 a (o_post r L x0 x1 x2 x3 x4 x5) (L + 1) → Q (.inl (some (ev_i (Int32.ofNat L)))) z) : ev_Cv g m_X11_posts 1 0 [ev_o 11 a, ev_i x0, ev_i x1, ev_i x2, ev_i x3, ev_i x4, ev_i x5] S Q := by
  obtain ⟨h1, h2, h3, hl, h5, ⟨⟨hd0, h6⟩, ⟨h7, h7'⟩, h8⟩⟩ := h
  have e4 : S.1 a 4 = Int32.ofNat L := (h1 4 (by omega)).trans h4
  have e2 : S.1 a 2 = r 2 := h1 2 (by omega)
  refine sg_X11_posts_0 a x0 x1 x2 x3 x4 x5 ?_
  rw [e4, n_c (by omega), n_inc, e2]
  refine ⟨(n_vp (by omega) (by omega)).mpr trivial, ?_⟩
  intro S1 y1 S2 y2
  refine ⟨by rcases hx2 with rfl | rfl <;> decide, ?_⟩
  intro S3 y3 S4 y4 S5 y5 S6 y6 S7 y7 S8 y8 S9 y9
  have fr : ∀ q, q ≠ a → q ≠ a + 19 → q ≠ a + 20 → q ≠ a + 29 → q ≠ a + 21 → q ≠ a + 22 → q ≠ a + 23 → q ≠ a + 24 → q ≠ a + 25 → S9.1 q = S.1 q := fun q q0 q1 q2 q3 q4 q5 q6 q7 q8 => by
    rw [y9, m_r q0, y8, m_r q8, y7, m_r q7, y6, m_r q6, y5, m_r q5, y4, m_r q4, y3, m_r q3, y2, m_r q2, y1, m_r q1]
  have f0 : ∀ k, k ≠ 4 → S9.1 a k = S.1 a k := fun k hk => by rw [y9, m_k hk, y8, m_r (by omega), y7, m_r (by omega), y6, m_r (by omega), y5, m_r (by omega), y4, m_r (by omega), y3, m_r (by omega), y2, m_r (by omega), y1, m_r (by omega)]
  have f4 : S9.1 a 4 = Int32.ofNat (L + 1) := by rw [y9, m_s]
  have g19 : S9.1 (a + 19) = upd (S.1 (a + 19)) L x0 := by rw [y9, m_r (by omega), y8, m_r (by omega), y7, m_r (by omega), y6, m_r (by omega), y5, m_r (by omega), y4, m_r (by omega), y3, m_r (by omega), y2, m_r (by omega), y1, m_u, r_s]
  have g20 : S9.1 (a + 20) = upd (S.1 (a + 20)) L x1 := by rw [y9, m_r (by omega), y8, m_r (by omega), y7, m_r (by omega), y6, m_r (by omega), y5, m_r (by omega), y4, m_r (by omega), y3, m_r (by omega), y2, m_u, r_s, y1, m_r (by omega)]
  have g29 : S9.1 (a + 29) = upd (S.1 (a + 29)) L x2 := by rw [y9, m_r (by omega), y8, m_r (by omega), y7, m_r (by omega), y6, m_r (by omega), y5, m_r (by omega), y4, m_r (by omega), y3, m_u, r_s, y2, m_r (by omega), y1, m_r (by omega)]
  have g21 : S9.1 (a + 21) = upd (S.1 (a + 21)) L x3 := by rw [y9, m_r (by omega), y8, m_r (by omega), y7, m_r (by omega), y6, m_r (by omega), y5, m_r (by omega), y4, m_u, r_s, y3, m_r (by omega), y2, m_r (by omega), y1, m_r (by omega)]
  have g22 : S9.1 (a + 22) = upd (S.1 (a + 22)) L x4 := by rw [y9, m_r (by omega), y8, m_r (by omega), y7, m_r (by omega), y6, m_r (by omega), y5, m_u, r_s, y4, m_r (by omega), y3, m_r (by omega), y2, m_r (by omega), y1, m_r (by omega)]
  have g23 : S9.1 (a + 23) = upd (S.1 (a + 23)) L x5 := by rw [y9, m_r (by omega), y8, m_r (by omega), y7, m_r (by omega), y6, m_u, r_s, y5, m_r (by omega), y4, m_r (by omega), y3, m_r (by omega), y2, m_r (by omega), y1, m_r (by omega)]
  have g24 : S9.1 (a + 24) = upd (S.1 (a + 24)) L 0 := by rw [y9, m_r (by omega), y8, m_r (by omega), y7, m_u, r_s, y6, m_r (by omega), y5, m_r (by omega), y4, m_r (by omega), y3, m_r (by omega), y2, m_r (by omega), y1, m_r (by omega)]
  have g25 : S9.1 (a + 25) = upd (S.1 (a + 25)) L (r 2) := by rw [y9, m_r (by omega), y8, m_u, r_s, y7, m_r (by omega), y6, m_r (by omega), y5, m_r (by omega), y4, m_r (by omega), y3, m_r (by omega), y2, m_r (by omega), y1, m_r (by omega)]
  have z2 : S9.2 = S.2 := by rw [y9, y8, y7, y6, y5, y4, y3, y2, y1]; rfl
  have er : ∀ j, j ≠ 4 → (j < 1200 + 11 * L ∨ 1200 + 11 * L + 7 < j) → o_post r L x0 x1 x2 x3 x4 x5 j = r j := fun j j4 jl => by
    unfold o_post
    rw [u_k j4, u_k (by omega), u_k (by omega), u_k (by omega), u_k (by omega), u_k (by omega), u_k (by omega), u_k (by omega), u_k (by omega)]
  have hbo : w_bo S.1 a → w_bo S9.1 a := fun ⟨b1, b2, b3, b4, b5⟩ => by
    unfold w_bo
    rw [g29, fr (a + 8) (by omega) (by omega) (by omega) (by omega) (by omega) (by omega) (by omega) (by omega) (by omega), fr (a + 15) (by omega) (by omega) (by omega) (by omega) (by omega) (by omega) (by omega) (by omega) (by omega), fr (a + 30) (by omega) (by omega) (by omega) (by omega) (by omega) (by omega) (by omega) (by omega) (by omega), fr (a + 31) (by omega) (by omega) (by omega) (by omega) (by omega) (by omega) (by omega) (by omega) (by omega)]
    exact ⟨b1, b2, w_bl_up hx2 b3, b4, b5⟩
  refine hQ S9 ⟨⟨z2, fun q hq => fr q (by omega) (by omega) (by omega) (by omega) (by omega) (by omega) (by omega) (by omega) (by omega)⟩, fun k hk => f0 k (by omega), hbo⟩ ⟨fun k hk => ?_, w_bds hmad (fun q q1 q2 => fr q (by omega) (by omega) (by omega) (by omega) (by omega) (by omega) (by omega) (by omega) (by omega)) (fun j hj => er j (by omega) (by omega)) h2, w_ps_row (fun j j1 j2 => er j (by omega) (by omega)) (w_ps_fr (fun q q1 q2 => fr q (by omega) (by omega) (by omega) (by omega) (by omega) (by omega) (by omega) (by omega) (by omega)) h3), fun l hl' => ?_, fun k hk => w_pr_row (fun w hw => er _ (by omega) (by omega)) (w_pr_fr (fun q q1 q2 => fr q (by omega) (by omega) (by omega) (by omega) (by omega) (by omega) (by omega) (by omega) (by omega)) (h5 k hk)), ⟨⟨by rw [er 2 (by omega) (by omega)]; exact hd0, fun p hp => by rw [er _ (by omega) (by omega)]; exact h6 p hp⟩, ⟨by rw [er 772 (by omega) (by omega)]; exact h7, by rw [er 773 (by omega) (by omega)]; exact h7'⟩, fun l hl' => ?_⟩⟩
  · by_cases hk4 : k = 4
    · subst hk4
      rw [f4]
      unfold o_post
      rw [u_s]
    · rw [f0 k hk4, er k hk4 (by omega)]
      exact h1 k hk
  · by_cases hll : l = L
    · subst hll
      unfold w_lt
      rw [g19, g20, g29, g21, g22, g23, g24, g25, u_s, u_s, u_s, u_s, u_s, u_s, u_s, u_s]
      have q6 : o_post r l x0 x1 x2 x3 x4 x5 (1200 + 11 * l + 6) = 0 := by unfold o_post; rw [u_k (by omega), u_k (by omega), u_s]
      rw [q6]
      refine ⟨?_, ?_, ?_, ?_, ?_, ?_, rfl, ?_, fun h9 => absurd h9 (by decide), fun h9 => absurd h9 (by decide)⟩
      · unfold o_post; rw [u_k (by omega), u_k (by omega), u_k (by omega), u_k (by omega), u_k (by omega), u_k (by omega), u_k (by omega), u_k (by omega), u_s]
      · unfold o_post; rw [u_k (by omega), u_k (by omega), u_k (by omega), u_k (by omega), u_k (by omega), u_k (by omega), u_k (by omega), u_s]
      · unfold o_post; rw [u_k (by omega), u_k (by omega), u_k (by omega), u_k (by omega), u_k (by omega), u_k (by omega), u_s]
      · unfold o_post; rw [u_k (by omega), u_k (by omega), u_k (by omega), u_k (by omega), u_k (by omega), u_s]
      · unfold o_post; rw [u_k (by omega), u_k (by omega), u_k (by omega), u_k (by omega), u_s]
      · unfold o_post; rw [u_k (by omega), u_k (by omega), u_k (by omega), u_s]
      · unfold o_post; rw [u_k (by omega), u_s]
    · refine w_lt_row (fun w hw => er _ (by omega) (by omega)) ?_
      have hw := hl l (by omega)
      unfold w_lt at *
      rw [g19, g20, g29, g21, g22, g23, g24, g25, u_k hll, u_k hll, u_k hll, u_k hll, u_k hll, u_k hll, u_k hll, u_k hll, fr (a + 26) (by omega) (by omega) (by omega) (by omega) (by omega) (by omega) (by omega) (by omega) (by omega), fr (a + 27) (by omega) (by omega) (by omega) (by omega) (by omega) (by omega) (by omega) (by omega) (by omega), fr (a + 28) (by omega) (by omega) (by omega) (by omega) (by omega) (by omega) (by omega) (by omega) (by omega)]
      exact hw
  · by_cases hll : l = L
    · subst hll
      have q2 : o_post r l x0 x1 x2 x3 x4 x5 (1200 + 11 * l + 2) = x2 := by unfold o_post; rw [u_k (by omega), u_k (by omega), u_k (by omega), u_k (by omega), u_k (by omega), u_k (by omega), u_s]
      have q3 : o_post r l x0 x1 x2 x3 x4 x5 (1200 + 11 * l + 3) = x3 := by unfold o_post; rw [u_k (by omega), u_k (by omega), u_k (by omega), u_k (by omega), u_k (by omega), u_s]
      rw [q2, q3]
      exact hx3
    · rw [er _ (by omega) (by omega), er (1200 + 11 * l + 3) (by omega) (by omega)]
      exact h8 l (by omega)
/-- the letter that is awaited -/
def w_aw (r : Nat → Int32) (p L : Nat) : Nat := fnd (fun l => decide (¬ r (1200 + 11 * l) = Int32.ofNat p ∧ r (1200 + 11 * l + 6) < 2 ∧ r (1200 + 11 * l + 3) = Int32.ofNat (o_mad r p + 1))) L
theorem w_awaited {g : ev_G} {S : ev_S} {a p m L : Nat} {r : Nat → Int32} (hp : p < 2) (hL : L ≤ 81) (h4 : r 4 = Int32.ofNat L) (hm : r (12 + 7 * p) = Int32.ofNat m) (hm60 : m ≤ 60) (h : w_gm S.1 a r L) :
    ev_Fn g m_X11_awaited 1 [ev_o 11 a, ev_i (Int32.ofNat p)] S (some (ev_i (o_ix L (w_aw r p L)))) S := by
  intro Q hQ
  have hmd : o_mad r p = m := by unfold o_mad; rw [hm, n_c (by omega)]
  have e4 : S.1 a 4 = Int32.ofNat L := (h.1 4 (by omega)).trans h4
  have eb : S.1 (a + 2 + 7 * p) 6 = Int32.ofNat m := (h.2.1 p hp).2.2.2.1.trans hm
  refine sg_X11_awaited_0 a _ ?_
  have key := dn (n := L) (P := fun i => (∀ j, j < i → ¬ (fun l => decide (¬ r (1200 + 11 * l) = Int32.ofNat p ∧ r (1200 + 11 * l + 6) < 2 ∧ r (1200 + 11 * l + 3) = Int32.ofNat (o_mad r p + 1))) j = true) → ev_E g m_X11_awaited 1 0 2 [some (ev_o 11 a), some (ev_i (Int32.ofNat p)), some (ev_i (Int32.ofNat i))] [] S Q) ?_ ?_ 0 (Nat.zero_le _)
  · exact key (fun j hj => by omega)
  · intro hall
    refine sg_X11_awaited_2 a _ _ (j_pos (by rw [e4, n_le (by omega) (by omega)]; exact Nat.le_refl _) ?_)
    unfold w_aw at hQ
    rw [fnd_none L hall] at hQ
    unfold o_ix at hQ
    rw [if_neg (Nat.lt_irrefl _)] at hQ
    exact hQ
  · intro i hi ih hall
    obtain ⟨w0, -, -, w3, -, -, w6, -⟩ := h.2.2.2.1 i hi
    have e2 : (2 : Int32) = Int32.ofNat 2 := rfl
    refine sg_X11_awaited_2 a _ _ (j_neg (by rw [e4, n_le (by omega) (by omega)]; omega) ⟨(n_vp (by omega) (by omega)).mpr trivial, ?_⟩)
    rw [n_c (by omega), w0, w3, w6, w_bdA hp, eb, n_inc, n_inc]
    have skip : ¬ (¬ r (1200 + 11 * i) = Int32.ofNat p ∧ r (1200 + 11 * i + 6) < 2 ∧ r (1200 + 11 * i + 3) = Int32.ofNat (o_mad r p + 1)) → ev_E g m_X11_awaited 1 0 2 [some (ev_o 11 a), some (ev_i (Int32.ofNat p)), some (ev_i (Int32.ofNat (i + 1)))] [] S Q := fun hn => ih (fun j hj => by
      by_cases hji : j = i
      · rw [hji]
        simp only [decide_eq_true_eq]
        exact hn
      · exact hall j (by omega))
    refine ⟨fun c1 => skip (fun q => q.1 c1), fun c1 => ⟨fun c2 => skip (fun q => ?_), fun c2 => ⟨(n_vp (by omega) (by omega)).mpr trivial, fun c3 => ?_, fun c3 => skip (fun q => c3 (by rw [← hmd]; exact q.2.2))⟩⟩⟩
    · have := q.2.1
      rw [z_lt] at this
      rw [z_le] at c2
      omega
    · have hit : (fun l => decide (¬ r (1200 + 11 * l) = Int32.ofNat p ∧ r (1200 + 11 * l + 6) < 2 ∧ r (1200 + 11 * l + 3) = Int32.ofNat (o_mad r p + 1))) i = true := by
        simp only [decide_eq_true_eq]
        refine ⟨c1, ?_, by rw [hmd]; exact c3⟩
        rw [z_le] at c2
        rw [z_lt]
        omega
      unfold w_aw at hQ
      rw [fnd_some hit hall L hi] at hQ
      unfold o_ix at hQ
      rw [if_pos hi] at hQ
      exact hQ
theorem w_queue {g : ev_G} {S : ev_S} {a q s L : Nat} {r : Nat → Int32} (hL : L ≤ 81) (h4 : r 4 = Int32.ofNat L) (h : w_gm S.1 a r L) :
    ev_Fn g m_X11_queue 1 [ev_o 11 a, ev_i (Int32.ofNat q), ev_i (Int32.ofNat s)] S (some (ev_i (Int32.ofNat (cnt (o_wt r q s) L)))) S := by
  intro Q hQ
  have e4 : S.1 a 4 = Int32.ofNat L := (h.1 4 (by omega)).trans h4
  refine sg_X11_queue_0 a _ _ ?_
  have key := dn (n := L) (P := fun i => ev_E g m_X11_queue 1 0 5 [some (ev_o 11 a), some (ev_i (Int32.ofNat q)), some (ev_i (Int32.ofNat s)), some (ev_i (Int32.ofNat (cnt (o_wt r q s) i))), some (ev_i (Int32.ofNat i))] [] S Q) ?_ ?_ 0 (Nat.zero_le _)
  · exact key
  · exact sg_X11_queue_5 a _ _ _ _ (j_pos (by rw [e4, n_le (by omega) (by omega)]; exact Nat.le_refl _) hQ)
  · intro i hi ih
    obtain ⟨w0, w1, -, -, -, -, w6, -⟩ := h.2.2.2.1 i hi
    refine sg_X11_queue_5 a _ _ _ _ (j_neg (by rw [e4, n_le (by omega) (by omega)]; omega) ⟨(n_vp (by omega) (by omega)).mpr trivial, ?_⟩)
    rw [n_c (by omega), w0, w1, w6, n_inc, n_inc, ra_0]
    have skip : ¬ o_wt r q s i = true → ev_E g m_X11_queue 1 0 5 [some (ev_o 11 a), some (ev_i (Int32.ofNat q)), some (ev_i (Int32.ofNat s)), some (ev_i (Int32.ofNat (cnt (o_wt r q s) i))), some (ev_i (Int32.ofNat (i + 1)))] [] S Q := fun hn => by
      rw [← cnt_f hn]
      exact ih
    refine ⟨fun c1 => ⟨fun c2 => ⟨fun c3 => ?_, fun c3 => skip (fun z => ?_)⟩, fun c2 => skip (fun z => ?_)⟩, fun c1 => skip (fun z => ?_)⟩
    · rw [← cnt_t (f := o_wt r q s) (by simp only [o_wt, decide_eq_true_eq]; exact ⟨c1, c2, c3⟩)]
      exact ih
    · simp only [o_wt, decide_eq_true_eq] at z
      exact c3 z.2.2
    · simp only [o_wt, decide_eq_true_eq] at z
      exact c2 z.2.1
    · simp only [o_wt, decide_eq_true_eq] at z
      exact c1 z.1
/-- both boards alike: the move counts, and all squares -/
def w_eq (r : Nat → Int32) (i : Nat) : Bool := decide (r 12 = r 19 ∧ ∀ s, s < i → r (26 + s) = r (90 + s))
theorem w_areEqual {g : ev_G} {S : ev_S} {a L : Nat} {r : Nat → Int32} (h : w_gm S.1 a r L) :
    ev_Fn g m_X11_areEqual 1 [ev_o 11 a] S (some (ev_i (if w_eq r 64 = true then 1 else 0))) S := by
  intro Q hQ
  have b0 := h.2.1 0 (by omega)
  have b1 := h.2.1 1 (by omega)
  have e0 : S.1 (a + 2) 6 = r 12 := b0.2.2.2.1
  have e1 : S.1 (a + 9) 6 = r 19 := b1.2.2.2.1
  have s0 : ∀ s, s < 64 → S.1 (a + 3) s = r (26 + s) := b0.1
  have s1 : ∀ s, s < 64 → S.1 (a + 10) s = r (90 + s) := b1.1
  have e64 : (64 : Int32) = Int32.ofNat 64 := rfl
  have key := dn (n := 64) (P := fun i => ev_E g m_X11_areEqual 1 0 29 [some (ev_o 11 a), some (ev_i (if w_eq r i = true then 1 else 0)), some (ev_i (Int32.ofNat i))] [] S Q) ?_ ?_ 0 (Nat.zero_le _)
  · refine sg_X11_areEqual_0 a ?_
    rw [e0, e1]
    by_cases h9 : r 12 = r 19
    · refine j_pos h9 ?_
      rw [if_pos (by simp only [w_eq, decide_eq_true_eq]; exact ⟨h9, fun s hs => by omega⟩)] at key
      exact key
    · refine j_neg h9 ?_
      rw [if_neg (by simp only [w_eq, decide_eq_true_eq]; exact fun q => h9 q.1)] at key
      exact key
  · refine sg_X11_areEqual_29 a _ _ (j_pos (by rw [e64, n_le (by omega) (by omega)]; exact Nat.le_refl _) ⟨?_, hQ⟩)
    split <;> rfl
  · intro i hi ih
    refine sg_X11_areEqual_29 a _ _ (j_neg (by rw [e64, n_le (by omega) (by omega)]; omega) ?_)
    rw [n_c (by omega), n_inc, s0 i hi, s1 i hi]
    by_cases h9 : w_eq r i = true
    · rw [if_pos h9]
      refine j_neg (by decide) ⟨(n_vp (by omega) (by omega)).mpr trivial, ?_⟩
      simp only [w_eq, decide_eq_true_eq] at h9
      by_cases h10 : r (26 + i) = r (90 + i)
      · refine j_pos h10 ?_
        rw [if_pos (by
          simp only [w_eq, decide_eq_true_eq]
          refine ⟨h9.1, fun s hs => ?_⟩
          by_cases hsi : s = i
          · rw [hsi]; exact h10
          · exact h9.2 s (by omega))] at ih
        exact ih
      · refine j_neg h10 ?_
        rw [if_neg (by
          simp only [w_eq, decide_eq_true_eq]
          exact fun q => h10 (q.2 i (by omega)))] at ih
        exact ih
    · rw [if_neg h9]
      refine j_pos rfl ?_
      rw [if_neg (by
        intro q
        apply h9
        simp only [w_eq, decide_eq_true_eq] at q ⊢
        exact ⟨q.1, fun s hs => q.2 s (by omega)⟩)] at ih
      exact ih
