/-! ===== the law's cases: boards, winners, moves ===== -/
theorem n_rng1 {x : Int32} {k : Nat} (hk : k < 1000000) : (1 ≤ x ∧ x ≤ Int32.ofNat k) ↔ ∃ q, x = Int32.ofNat (q + 1) ∧ q < k := by
  have i1 : (1 : Int32).toInt = 1 := rfl
  constructor
  · rintro ⟨h1, h2⟩
    rw [z_le, i1] at h1
    rw [z_le, n_i (by omega)] at h2
    obtain ⟨q, e1, e2, e3⟩ := n_ofi (x := x) (k := k) (by omega) h2
    rw [e1, n_i e3] at h1
    exact ⟨q - 1, by rw [e1]; exact congrArg Int32.ofNat (by omega), by omega⟩
  · rintro ⟨q, rfl, hq⟩
    have i1' : (1 : Int32) = Int32.ofNat 1 := rfl
    rw [i1', n_le (by omega) (by omega), n_le (by omega) (by omega)]
    omega
theorem mv_at {S : ev_S} {b p n mm : Nat} {x : Int32} {r : Nat → Int32} (h8 : n ≤ 8) (hm : r (12 + 7 * p) = Int32.ofNat mm) (h60 : mm ≤ 60) (hmv : i_mv r p n mm) (hb : q_board S.1 b r p n mm) :
    (f_X0_moveAt S b x = -1 ↔ ¬ ∃ k, x = Int32.ofNat (k + 1) ∧ k < mm) ∧ ∀ k, x = Int32.ofNat (k + 1) → k < mm → f_X0_moveAt S b x / 64 = r (154 + 180 * p + 3 * k) ∧ ev_rem (f_X0_moveAt S b x) 64 = r (154 + 180 * p + 3 * k + 1) := by
  have hn9 := sq_le h8
  have e6 : S.1 b 6 = Int32.ofNat mm := by rw [hb.2.2.2.2.2.1]; exact hm
  have i1 : (1 : Int32) = Int32.ofNat 1 := rfl
  have val : ∀ k, x = Int32.ofNat (k + 1) → k < mm → ∃ f t, f < 64 ∧ t < 64 ∧ r (154 + 180 * p + 3 * k) = Int32.ofNat f ∧ r (154 + 180 * p + 3 * k + 1) = Int32.ofNat t ∧ f_X0_moveAt S b x = Int32.ofNat (f * 64 + t) := by
    intro k hk1 hk2
    obtain ⟨f, t, hf, ht, hrf, hrt, -⟩ := hmv k hk2
    refine ⟨f, t, by omega, by omega, hrf, hrt, ?_⟩
    unfold f_X0_moveAt
    rw [hk1, e6, if_neg (by rw [i1, n_lt (by omega) (by omega)]; omega), if_neg (by rw [n_lt (by omega) (by omega)]; omega), a_in (by omega) (by omega), (hb.2.2.2.2.2.2.2.2 k hk2).1, hrf, hrt]
    have e64 : (64 : Int32) = Int32.ofNat 64 := rfl
    rw [e64, n_mul, n_add]
  refine ⟨⟨fun h ⟨k, hk1, hk2⟩ => ?_, fun h => ?_⟩, fun k hk1 hk2 => ?_⟩
  · obtain ⟨f, t, hf, ht, -, -, hv⟩ := val k hk1 hk2
    rw [hv] at h
    exact absurd h (n_m1' (by omega))
  · unfold f_X0_moveAt
    by_cases h1 : x < 1
    · rw [if_pos h1]
    · rw [if_neg h1]
      by_cases h2 : S.1 b 6 < x
      · rw [if_pos h2]
      · rw [e6] at h2
        exact absurd ((n_rng1 (by omega)).mp ⟨Int32.not_lt.mp h1, Int32.not_lt.mp h2⟩) h
  · obtain ⟨f, t, hf, ht, hrf, hrt, hv⟩ := val k hk1 hk2
    rw [hv, hrf, hrt, n_dv64 hf ht, n_rm64 hf ht]
    exact ⟨rfl, rfl⟩