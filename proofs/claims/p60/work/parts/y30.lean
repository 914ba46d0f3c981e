/-! ===== the law begins: the new row, the own game's picture of it ===== -/
theorem app_at : ∀ (W : List Int32) (R : Nat → Int32) (k j : Nat), j < W.length → app R k W (k + j) = W.getD j 0 := by
  intro W
  induction W with
  | nil => intro R k j h; exact absurd h (Nat.not_lt_zero _)
  | cons v W ih =>
    intro R k j h
    cases j with
    | zero => rw [app, app_lt _ _ _ _ (by omega), Nat.add_zero, u_s]; rfl
    | succ j =>
      rw [app, show k + (j + 1) = k + 1 + j by omega, ih _ _ _ (by rw [List.length_cons] at h; omega)]
      rfl
/-- what else a row that is set up holds -/
def EJ (r : Nat → Int32) (N np : Nat) : Prop := (∀ j, (j = 5 ∨ (13 ≤ j ∧ j < 26 ∧ j ≠ 19)) → r j = if j = 14 ∨ j = 21 then -1 else 0) ∧ (∀ t, t < 2 → r 9 = Int32.ofNat (o_bish r t N 0) ∧ r 10 = Int32.ofNat (o_bish r t N 1)) ∧ r 11 = sts r np ∧ ∀ q, q < 4 → ∀ s, s < 2 → 0 ≤ (r (1140 + 15 * q + (1 + s))).toInt ∧ (r (1140 + 15 * q + (1 + s))).toInt ≤ 9
theorem EJ_gm0 {A : Nat → Int32} {N lim : Nat} (h8 : N ≤ 8) : EJ (o_gm0 A N lim) N 0 := by
  have hn9 := sq_le h8
  have hb : ∀ p, p < 2 → ∀ q : Int32, ¬ (-1 : Int32) = q → o_bish (o_gm0 A N lim) p N q = 0 := fun p hp q hq => by
    unfold o_bish
    refine cnt_0 _ (fun s hs => ?_)
    rw [g0_m (by omega)]
    simp [hq]
  refine ⟨fun j hj => ?_, fun t ht => ?_, ?_, fun q hq s hs => ?_⟩
  · by_cases h : j = 14 ∨ j = 21
    · rw [if_pos h, g0_m (by omega)]
    · rw [if_neg h, g0_0 (by omega) (by omega) (by omega)]
  · rw [hb t ht 0 (by decide), hb t ht 1 (by decide), g0_0 (by omega) (by omega) (by omega), g0_0 (by omega) (by omega) (by omega)]
    exact ⟨rfl, rfl⟩
  · rw [g0_0 (by omega) (by omega) (by omega)]
    rfl
  · rw [g0_0 (by omega) (by omega) (by omega)]
    decide
theorem EJ_lay {r : Nat → Int32} {N np p q : Nat} (hp : p < 2) (h8 : N ≤ 8) (hnp : np ≤ 4) (hq : q < N * N) (he : ∀ t, t < 2 → r (26 + 64 * t + q) = -1) (h : EJ r N np) : EJ (o_lay r p q) N np := by
  obtain ⟨h1, h2, h3, h4⟩ := h
  have hn9 := sq_le h8
  have e : ∀ j, (j < 9 ∨ (11 ≤ j ∧ j < 26) ∨ 154 ≤ j) → o_lay r p q j = r j := fun j hj => o_lay_at (by omega) (by omega) (by omega)
  refine ⟨fun j hj => by rw [e j (by omega)]; exact h1 j hj, fun t ht => ?_, ?_, fun q' hq' s hs => by rw [e _ (by omega)]; exact h4 q' hq' s hs⟩
  · obtain ⟨a1, a2⟩ := h2 t ht
    rw [o_bish_lay 0 hp ht h8 hq (he t ht) (by decide), o_bish_lay 1 hp ht h8 hq (he t ht) (by decide)]
    have hp' : p = 0 ∨ p = 1 := by omega
    rcases hp' with rfl | rfl
    · constructor
      · rw [if_pos (show Int32.ofNat 0 = 0 from rfl), ← n_inc, ← a1]
        unfold o_lay
        exact u_s _ _ _
      · rw [if_neg (show ¬ Int32.ofNat 0 = 1 by decide), o_lay_at (by omega) (by omega) (by omega)]
        exact a2
    · constructor
      · rw [if_neg (show ¬ Int32.ofNat 1 = 0 by decide), o_lay_at (by omega) (by omega) (by omega)]
        exact a1
      · rw [if_pos (show Int32.ofNat 1 = 1 from rfl), ← n_inc, ← a2]
        unfold o_lay
        exact u_s _ _ _
  · rw [e _ (by omega), sts_same np (fun q' hq' s hs => e _ (by omega))]
    exact h3
theorem EJ_open {r : Nat → Int32} {N np a b c : Nat} (h8 : N ≤ 8) (hnp : np < 4) (hb : b ≤ 9) (hc : c ≤ 9) (h : EJ r N np) : EJ (o_open r np (Int32.ofNat a) (Int32.ofNat b) (Int32.ofNat c)) N (np + 1) := by
  obtain ⟨h1, h2, h3, h4⟩ := h
  have hn9 := sq_le h8
  obtain ⟨f0, f1, f2, f11, f3⟩ := o_open_f (r := r) (np := np) (v0 := Int32.ofNat a) (v1 := Int32.ofNat b) (v2 := Int32.ofNat c)
  have e : ∀ j, (j < 1140 + 15 * np ∨ 1140 + 15 * np + 2 < j) → j ≠ 11 → j ≠ 3 → o_open r np (Int32.ofNat a) (Int32.ofNat b) (Int32.ofNat c) j = r j := fun j h h1 h3 => o_open_at h h1 h3
  refine ⟨fun j hj => by rw [e j (by omega) (by omega) (by omega)]; exact h1 j hj, fun t ht => ?_, ?_, fun q hq s hs => ?_⟩
  · have eb : ∀ x, o_bish (o_open r np (Int32.ofNat a) (Int32.ofNat b) (Int32.ofNat c)) t N x = o_bish r t N x := fun x => by
      unfold o_bish
      exact cnt_congr _ (fun i hi => by rw [e _ (by omega) (by omega) (by omega)])
    rw [eb, eb, e _ (by omega) (by omega) (by omega), e _ (by omega) (by omega) (by omega)]
    exact h2 t ht
  · rw [f11, sts, f1, f2, sts_same np (fun q hq s hs => e _ (by omega) (by omega) (by omega)), h3]
  · by_cases hqn : q = np
    · subst hqn
      have hs' : s = 0 ∨ s = 1 := by omega
      rcases hs' with rfl | rfl
      · rw [show 1140 + 15 * q + (1 + 0) = 1140 + 15 * q + 1 from rfl, f1, n_i (by omega)]
        omega
      · rw [show 1140 + 15 * q + (1 + 1) = 1140 + 15 * q + 2 from rfl, f2, n_i (by omega)]
        omega
    · rw [e _ (by omega) (by omega) (by omega)]
      exact h4 q hq s hs
theorem EJ_snow {r : Nat → Int32} {N np q t : Nat} {v : Int32} (h8 : N ≤ 8) (hnp : np ≤ 4) (hq : q < 4) (ht : t < 12) (h : EJ r N np) : EJ (o_snow r q t v) N np := by
  obtain ⟨h1, h2, h3, h4⟩ := h
  have hn9 := sq_le h8
  have e : ∀ j, j ≠ 1140 + 15 * q + (3 + t) → o_snow r q t v j = r j := fun j hj => u_k hj
  refine ⟨fun j hj => by rw [e j (by omega)]; exact h1 j hj, fun t' ht' => ?_, ?_, fun q' hq' s hs => by rw [e _ (by omega)]; exact h4 q' hq' s hs⟩
  · have eb : ∀ x, o_bish (o_snow r q t v) t' N x = o_bish r t' N x := fun x => by
      unfold o_bish
      exact cnt_congr _ (fun i hi => by rw [e _ (by omega)])
    rw [eb, eb, e _ (by omega), e _ (by omega)]
    exact h2 t' ht'
  · rw [e _ (by omega), sts_same np (fun q' hq' s hs => e _ (by omega))]
    exact h3
theorem CX_new {r : Nat → Int32} {N lim np : Nat} (hi : i_su r N lim np) (hj : EJ r N np) : CX r N np 0 := by
  obtain ⟨⟨h4, h8, h60, hnp⟩, ⟨r0, r1, r3⟩, hz, hm, hp, ho, hb⟩ := hi
  obtain ⟨j1, j2, j3, j4⟩ := hj
  have hmd : ∀ p, p < 2 → o_mad r p = 0 := fun p hp => by unfold o_mad; rw [hz _ (by omega)]; rfl
  refine ⟨⟨⟨fun p hp k k1 k2 k3 w hw => absurd k2 (by rw [hmd p hp]; omega), fun p hp k k1 k2 => absurd k2 (by rw [hmd (1 - p) (by omega)]; omega), fun p hp k k1 k2 k3 => absurd (hm _ (by omega) (by omega)) k3, fun l hl => absurd hl (by omega), fun p hp k k1 k2 => absurd k2 (by rw [hmd p hp]; omega)⟩, fun p hp => ?_, fun p hp hov => ?_⟩, ?_⟩
  · obtain ⟨a1, a2⟩ := j2 p hp
    have e : r (12 + 7 * p + 1) = 0 := by
      rw [j1 _ (by omega), if_neg (by omega)]
    unfold CB
    rw [e, Int32.add_zero, a1, a2]
  · rw [hmd p hp]
    refine ⟨hm _ (by omega) (by omega), ?_⟩
    unfold o_due
    rw [decide_eq_true_eq]
    rintro ⟨-, h, -⟩
    omega
  · unfold CM
    rw [j3]
    exact (Int32.add_zero _).symm
theorem w_s2_new {r : Nat → Int32} {N lim np : Nat} (hi : i_su r N lim np) (hj : EJ r N np) : w_s2 r := by
  intro q hq s hs
  have h := hj.2.2.2 q hq s hs
  have h8 : r 8 = 0 := hi.2.2.1 8 (by omega)
  have e0 : (0 : Int32).toInt = 0 := rfl
  rw [h8, e0]
  omega
/-- the own game's picture of a row that is set up, np passes wanted -/
def OP (M : Nat → Nat → Int32) (a : Nat) (r : Nat → Int32) (np : Nat) : Prop :=
  (M a 0 = r 0 ∧ M a 1 = r 1 ∧ M a 3 = Int32.ofNat np ∧ ∀ j, j ≠ 0 → j ≠ 1 → j ≠ 3 → j ≠ 9 → j ≠ 10 → M a j = ct_row ct_t11 0 j) ∧ (∀ x, 1 ≤ x → x < 36 → x ≠ 3 → x ≠ 6 → x ≠ 10 → x ≠ 13 → x ≠ 16 → x ≠ 17 → x ≠ 18 → M (a + x) = ct_row ct_t11 x) ∧ (∀ s, s < 64 → M (a + 3) s = r (26 + s) ∧ M (a + 10) s = r (90 + s)) ∧ (∀ n, n < 61 → M (a + 6) n = -1 ∧ M (a + 13) n = -1) ∧ w_ps M a r
theorem OP_fr {M M' : Nat → Nat → Int32} {a np : Nat} {r : Nat → Int32} (f : ∀ x, x < 36 → M' (a + x) = M (a + x)) (h : OP M a r np) : OP M' a r np := by
  obtain ⟨⟨h1, h2, h3, h4⟩, h5, h6, h7, h8⟩ := h
  have f0 : M' a = M a := f 0 (by omega)
  refine ⟨⟨by rw [f0]; exact h1, by rw [f0]; exact h2, by rw [f0]; exact h3, by rw [f0]; exact h4⟩, fun x x1 x2 x3 x4 x5 x6 x7 x8 x9 => by rw [f x x2]; exact h5 x x1 x2 x3 x4 x5 x6 x7 x8 x9, fun s hs => by rw [f 3 (by omega), f 10 (by omega)]; exact h6 s hs, fun n hn => by rw [f 6 (by omega), f 13 (by omega)]; exact h7 n hn, ?_⟩
  exact w_ps_fr (fun q q1 q2 => by have := f (q - a) (by omega); rwa [show a + (q - a) = q by omega] at this) h8
theorem OP_gm {M : Nat → Nat → Int32} {a N lim np : Nat} {r : Nat → Int32} (hi : i_su r N lim np) (hj : EJ r N np) (h : OP M a r np) : w_gm M a r 0 ∧ w_bo M a ∧ M a 32 = -1 ∧ M a 33 = 0 := by
  obtain ⟨⟨h4, h8, h60, hnp⟩, ⟨r0, r1, r3⟩, hz, hm, hp, ho, hb⟩ := hi
  obtain ⟨j1, j2, j3, j4⟩ := hj
  obtain ⟨⟨g1, g2, g3, g4⟩, g5, g6, g7, g8⟩ := h
  have hmd : ∀ p, p < 2 → o_mad r p = 0 := fun p hp => by unfold o_mad; rw [hz _ (by omega)]; rfl
  have fz : ∀ j, j = 2 ∨ j = 4 ∨ j = 5 ∨ j = 6 ∨ j = 7 ∨ j = 8 → M a j = 0 := fun j hj => by
    rw [g4 j (by omega) (by omega) (by omega) (by omega) (by omega)]
    rcases hj with rfl | rfl | rfl | rfl | rfl | rfl <;> rfl
  have zr : ∀ x, 19 ≤ x → x < 36 → ∀ k, M (a + x) k = 0 := fun x h1 h2 k => by
    rw [g5 x (by omega) h2 (by omega) (by omega) (by omega) (by omega) (by omega) (by omega) (by omega)]
    have hx : x = 19 ∨ x = 20 ∨ x = 21 ∨ x = 22 ∨ x = 23 ∨ x = 24 ∨ x = 25 ∨ x = 26 ∨ x = 27 ∨ x = 28 ∨ x = 29 ∨ x = 30 ∨ x = 31 ∨ x = 32 ∨ x = 33 ∨ x = 34 ∨ x = 35 := by omega
    rcases hx with rfl | rfl | rfl | rfl | rfl | rfl | rfl | rfl | rfl | rfl | rfl | rfl | rfl | rfl | rfl | rfl | rfl <;> rfl
  have z8 : ∀ k, M (a + 8) k = 0 := fun k => by rw [g5 8 (by omega) (by omega) (by omega) (by omega) (by omega) (by omega) (by omega) (by omega) (by omega)]; rfl
  have z15 : ∀ k, M (a + 15) k = 0 := fun k => by rw [g5 15 (by omega) (by omega) (by omega) (by omega) (by omega) (by omega) (by omega) (by omega) (by omega)]; rfl
  have b2 : M (a + 2) = ct_row ct_t11 2 := g5 2 (by omega) (by omega) (by omega) (by omega) (by omega) (by omega) (by omega) (by omega) (by omega)
  have b9 : M (a + 9) = ct_row ct_t11 9 := g5 9 (by omega) (by omega) (by omega) (by omega) (by omega) (by omega) (by omega) (by omega) (by omega)
  refine ⟨⟨fun k hk => ?_, fun p hp => ?_, g8, fun l hl => absurd hl (by omega), fun k hk => ⟨?_, ?_, fun hh => absurd (hz _ (by omega)) hh⟩, ⟨⟨by rw [hz 2 (by omega)]; decide, fun p hp => Or.inl ?_⟩, ⟨hz _ (by omega), hz _ (by omega)⟩, fun l hl => absurd hl (by omega)⟩⟩, ⟨fun k => Or.inl (z8 k), fun k => Or.inl (z15 k), fun k => Or.inl (zr 29 (by omega) (by omega) k), fun k => Or.inl (zr 30 (by omega) (by omega) k), fun k => Or.inl (zr 31 (by omega) (by omega) k)⟩, ?_, ?_⟩
  · have hk' : k = 0 ∨ k = 1 ∨ k = 2 ∨ k = 3 ∨ k = 4 ∨ k = 5 ∨ k = 6 ∨ k = 7 ∨ k = 8 := by omega
    rcases hk' with rfl | rfl | rfl | rfl | rfl | rfl | rfl | rfl | rfl
    · exact g1
    · exact g2
    · rw [fz 2 (by omega), hz 2 (by omega)]
    · exact g3.trans r3.symm
    · rw [fz 4 (by omega), hz 4 (by omega)]
    · rw [fz 5 (by omega), j1 5 (by omega), if_neg (by omega)]
    · rw [fz 6 (by omega), hz 6 (by omega)]
    · rw [fz 7 (by omega), hz 7 (by omega)]
    · rw [fz 8 (by omega), hz 8 (by omega)]
  · have hp' : p = 0 ∨ p = 1 := by omega
    rcases hp' with rfl | rfl
    · refine ⟨fun s hs => (g6 s hs).1, fun k hk => absurd hk (by rw [hmd 0 (by omega)]; omega), fun k hk => ⟨?_, fun hh => absurd (hm _ (by omega) (by omega)) hh⟩, ?_, ?_, ?_, ?_, ?_, ?_⟩
      · rw [hm _ (by omega) (by omega)]
        exact (g7 k (by omega)).1
      · rw [hz _ (by omega), show a + 2 + 7 * 0 = a + 2 from rfl, b2]; rfl
      · rw [j1 _ (by omega), if_pos (by omega), show a + 2 + 7 * 0 = a + 2 from rfl, b2]; rfl
      · rw [j1 _ (by omega), if_neg (by omega), show a + 2 + 7 * 0 = a + 2 from rfl, b2]; rfl
      · rw [j1 _ (by omega), if_neg (by omega), show a + 2 + 7 * 0 = a + 2 from rfl, b2]; rfl
      · rw [j1 _ (by omega), if_neg (by omega), show a + 2 + 7 * 0 = a + 2 from rfl, b2]; rfl
      · rw [j1 _ (by omega), if_neg (by omega), show a + 2 + 7 * 0 = a + 2 from rfl, b2]; rfl
    · refine ⟨fun s hs => ?_, fun k hk => absurd hk (by rw [hmd 1 (by omega)]; omega), fun k hk => ⟨?_, fun hh => absurd (hm _ (by omega) (by omega)) hh⟩, ?_, ?_, ?_, ?_, ?_, ?_⟩
      · rw [show a + 2 + 7 * 1 + 1 = a + 10 from rfl, show 26 + 64 * 1 + s = 90 + s by omega]
        exact (g6 s hs).2
      · rw [hm _ (by omega) (by omega)]
        exact (g7 k (by omega)).2
      · rw [hz _ (by omega), show a + 2 + 7 * 1 = a + 9 from rfl, b9]; rfl
      · rw [j1 _ (by omega), if_pos (by omega), show a + 2 + 7 * 1 = a + 9 from rfl, b9]; rfl
      · rw [j1 _ (by omega), if_neg (by omega), show a + 2 + 7 * 1 = a + 9 from rfl, b9]; rfl
      · rw [j1 _ (by omega), if_neg (by omega), show a + 2 + 7 * 1 = a + 9 from rfl, b9]; rfl
      · rw [j1 _ (by omega), if_neg (by omega), show a + 2 + 7 * 1 = a + 9 from rfl, b9]; rfl
      · rw [j1 _ (by omega), if_neg (by omega), show a + 2 + 7 * 1 = a + 9 from rfl, b9]; rfl
  · rw [zr 30 (by omega) (by omega), hz _ (by omega)]
  · rw [zr 31 (by omega) (by omega), hz _ (by omega)]
  · rw [j1 _ (by omega), if_pos (by omega)]
  · rw [g4 32 (by omega) (by omega) (by omega) (by omega) (by omega)]; rfl
  · rw [g4 33 (by omega) (by omega) (by omega) (by omega) (by omega)]; rfl
