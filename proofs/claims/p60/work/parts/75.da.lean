/-! ===== both: a mule is brought, as asked ===== -/
theorem n_rng {x : Int32} {k : Nat} (hk : k < 1000000) : (0 ≤ x ∧ x ≤ Int32.ofNat k - 1) ↔ ∃ q, x = Int32.ofNat q ∧ q < k := by
  have e0 : (0 : Int32).toInt = 0 := rfl
  have e1 : (1 : Int32).toInt = 1 := rfl
  constructor
  · rintro ⟨h1, h2⟩
    obtain ⟨q, hq, hq2⟩ := n_of h1
    refine ⟨q, hq, ?_⟩
    rw [z_le, hq, n_i hq2, z_sub (by rw [n_i (by omega), e1]; omega) (by rw [n_i (by omega), e1]; omega), n_i (by omega), e1] at h2
    omega
  · rintro ⟨q, hq, hq2⟩
    rw [z_le, z_le, hq, n_i (by omega), z_sub (by rw [n_i (by omega), e1]; omega) (by rw [n_i (by omega), e1]; omega), n_i (by omega), e0, e1]
    omega
theorem n_bit {y : Int32} : (y = 0 ∨ y = 1) ↔ ∃ s, y = Int32.ofNat s ∧ s < 2 := by
  constructor
  · rintro (h | h)
    · exact ⟨0, h, by decide⟩
    · exact ⟨1, h, by decide⟩
  · rintro ⟨s, h, hs⟩
    have : s = 0 ∨ s = 1 := by omega
    rcases this with rfl | rfl
    · exact Or.inl h
    · exact Or.inr h
theorem t_ex {S : ev_S} {a np : Nat} {x : Int32} (h : S.1 a 3 = Int32.ofNat np) (hnp : np < 1000000) : t_X5_exists S a x = true ↔ ∃ q, x = Int32.ofNat q ∧ q < np := by
  unfold t_X5_exists
  rw [h]
  constructor
  · intro hh
    by_cases h1 : x < 0
    · rw [if_pos h1] at hh; exact absurd hh (by decide)
    · rw [if_neg h1] at hh
      by_cases h2 : Int32.ofNat np ≤ x
      · rw [if_pos h2] at hh; exact absurd hh (by decide)
      · have e0 : (0 : Int32).toInt = 0 := rfl
        rw [z_lt, e0] at h1
        obtain ⟨q, hq, hq2⟩ := n_of (x := x) (by rw [z_le, e0]; omega)
        rw [hq, n_le (by omega) hq2] at h2
        exact ⟨q, hq, by omega⟩
  · rintro ⟨q, hq, hq2⟩
    rw [hq, if_neg (by rw [n_neg (by omega)]; exact id), if_neg (by rw [n_le (by omega) (by omega)]; omega)]
theorem t_pl {y : Int32} : t_X9_isPlayer y = true ↔ ∃ s, y = Int32.ofNat s ∧ s < 2 := by
  rw [← n_bit]
  unfold t_X9_isPlayer
  constructor
  · intro h
    by_cases h1 : y = 0
    · exact Or.inl h1
    · rw [if_neg h1] at h
      by_cases h2 : y = 1
      · exact Or.inr h2
      · rw [if_neg h2] at h; exact absurd h (by decide)
  · rintro (h | h)
    · rw [if_pos h]
    · rw [h]; rfl
theorem q_his_frame {M M' : Nat → Nat → Int32} {a u : Nat} {R : Nat → Int32} (f : ∀ q, a ≤ q → M' q = M q) (h : q_his M a R u) : q_his M' a R u := by
  obtain ⟨a1, a2, w, a3, a4, a5, a6⟩ := h
  refine ⟨by rw [f _ (by omega)]; exact a1, a2, w, a3, by rw [f _ (by omega)]; exact a4, fun i hi => ?_, fun i hi => ?_⟩
  · obtain ⟨s1, s2⟩ := a5 i hi
    exact ⟨by rw [f _ (by omega)]; exact s1, by rw [f _ (by omega)]; exact s2⟩
  · obtain ⟨r0, e0, q0⟩ := a6 i hi
    exact ⟨r0, e0, q_any_frame (M := M) (fun q h1 h2 => f q (by omega)) q0⟩
theorem x_addMule {g : ev_G} {S : ev_S} {b n lim np L d u : Nat} {x y : Int32} {r R : Nat → Int32} {ρ : List Nat} (hi : IG r n lim np L d ρ) (hL : L ≤ 80) (hd : d < 10000) (hg : q_gm S.1 (b + 11) r n L ρ) (hk : i_ok r n np L) (hh : q_his S.1 (b + 93) R u) {Q : ev_O → ev_S → Prop}
    (q1 : ¬ ((∃ q, x = Int32.ofNat q ∧ q < np) ∧ ∃ s, y = Int32.ofNat s ∧ s < 2) → Q (.inr 0) S)
    (q2 : ∀ q s, x = Int32.ofNat q → q < np → y = Int32.ofNat s → s < 2 → 9 ≤ r (1140 + 15 * q + (1 + s)) → Q (.inr 1) S)
    (q3 : ∀ q s, x = Int32.ofNat q → q < np → y = Int32.ofNat s → s < 2 → ¬ 9 ≤ r (1140 + 15 * q + (1 + s)) → ∀ z, q_fr S z (b + 11) 412 → (∀ q, b + 47 ≤ q → q < b + 93 → z.1 q = S.1 q) → q_any z.1 (b + 11) (o_mule r q s) → q_his z.1 (b + 93) (o_kp R r u) (o_ku u) → Q (.inl (some (ev_i (r (1140 + 15 * q + (1 + s)) + 1)))) z) :
    ev_Cv g m_X9_addMule 6 1 [ev_o 9 b, ev_i x, ev_i y] S Q := by
  have hnp := hi.1.2.2.2.1
  have e3 : S.1 (b + 11 + 20) 3 = Int32.ofNat np := by
    have := hg.2.1.1.1.1
    rw [hi.1.2.2.1] at this
    exact this
  have est : ∀ q s, q < np → s < 2 → S.1 (b + 11 + 23) (q * 2 + s) = r (1140 + 15 * q + (1 + s)) := fun q s hq hs => (hg.2.1.1.2.1 q (by omega)).2.1 s hs
  have fault : (¬ ((∃ q, x = Int32.ofNat q ∧ q < np) ∧ ∃ s, y = Int32.ofNat s ∧ s < 2) ∧ f_X2_muleFault S (b + 11) x y = 1) ∨ ∃ q s, x = Int32.ofNat q ∧ q < np ∧ y = Int32.ofNat s ∧ s < 2 ∧ ((9 ≤ r (1140 + 15 * q + (1 + s)) ∧ f_X2_muleFault S (b + 11) x y = 2) ∨ (¬ 9 ≤ r (1140 + 15 * q + (1 + s)) ∧ f_X2_muleFault S (b + 11) x y = 0)) := by
    unfold f_X2_muleFault
    by_cases hx : t_X5_exists S (b + 11 + 20) x = true
    · rw [if_pos hx]
      by_cases hy : t_X9_isPlayer y = true
      · rw [if_pos hy]
        obtain ⟨q, hq, hq2⟩ := (t_ex e3 (by omega)).mp hx
        obtain ⟨s, hs, hs2⟩ := t_pl.mp hy
        right
        refine ⟨q, s, hq, hq2, hs, hs2, ?_⟩
        rw [hq, hs, n_ln2 (by omega) hs2, a_in (by omega) (by omega), est q s hq2 hs2]
        by_cases h9 : r (1140 + 15 * q + (1 + s)) < 9
        · right
          refine ⟨?_, if_pos h9⟩
          rw [z_le]
          rw [z_lt] at h9
          omega
        · left
          refine ⟨?_, if_neg h9⟩
          rw [z_le]
          rw [z_lt] at h9
          omega
      · rw [if_neg hy]
        left
        exact ⟨fun q => hy (t_pl.mpr q.2), rfl⟩
    · rw [if_neg hx]
      left
      exact ⟨fun q => hx ((t_ex e3 (by omega)).mpr q.1), rfl⟩
  refine sg_X9_addMule_0 b x y ?_
  rcases fault with ⟨h, f⟩ | ⟨q, s, hq, hq2, hs, hs2, ⟨h, f⟩ | ⟨h, f⟩⟩
  · rw [f]
    exact j_pos rfl (q1 h)
  · rw [f]
    exact j_neg (by decide) (j_pos rfl (q2 q s hq hq2 hs hs2 h))
  · rw [f]
    refine j_neg (by decide) (j_neg (by decide) (j_neg (by decide) ?_))
    refine h_remember (a := b + 93) (b := b + 11) (by omega) hh ⟨n, lim, np, L, d, ρ, hi, hL, hd, hg, hk⟩ (fun z z1 z2 => ⟨rfl, ?_⟩)
    have hgz := q_gm_frame (M := S.1) (M' := z.1) (fun q h1 h2 => z1.2 q (by omega)) hg
    have ezs : z.1 (b + 34) (q * 2 + s) = r (1140 + 15 * q + (1 + s)) := (hgz.2.1.1.2.1 q (by omega)).2.1 s hs2
    intro S2 e2
    rw [hq, hs, n_ln2 (by omega) hs2, a_put (by omega) (by omega), a_in (by omega) (by omega), m_r (by omega)] at e2
    rw [hq, hs, n_ln2 (by omega) hs2, a_put (by omega) (by omega), a_in (by omega) (by omega), a_in (by omega) (by omega), m_s, m_r (by omega), ezs]
    have x2 : ∀ y, y ≠ b + 31 → y ≠ b + 34 → S2.1 y = z.1 y := fun y h1 h2 => by rw [e2, m_r h2, m_r h1]
    refine q3 q s hq hq2 hs hs2 h S2 ⟨by rw [e2]; exact z1.1, fun y hy => by rw [x2 y (by omega) (by omega), z1.2 y (by omega)]⟩ (fun y h1 h2 => by rw [x2 y (by omega) (by omega), z1.2 y (by omega)]) ⟨n, lim, np, L, d, ρ, IG_mule hq2 hs2 hi, hL, hd, q_gm_mule (S := z) hi hq2 hs2 hgz e2, i_ok_mule hnp hq2 hs2 hk⟩ ?_
    exact q_his_frame (fun y h1 => x2 y (by omega) (by omega)) z2
