/-! ===== both: a copy is sent, as asked ===== -/
theorem t_le {S : ev_S} {a L : Nat} {x : Int32} (h : S.1 a 13 = Int32.ofNat L) (hL : L < 1000000) : t_X6_exists S a x = true ↔ ∃ l, x = Int32.ofNat l ∧ l < L := by
  unfold t_X6_exists
  rw [h]
  constructor
  · intro hh
    by_cases h1 : x < 0
    · rw [if_pos h1] at hh; exact absurd hh (by decide)
    · rw [if_neg h1] at hh
      by_cases h2 : Int32.ofNat L ≤ x
      · rw [if_pos h2] at hh; exact absurd hh (by decide)
      · have e0 : (0 : Int32).toInt = 0 := rfl
        rw [z_lt, e0] at h1
        obtain ⟨q, hq, hq2⟩ := n_of (x := x) (by rw [z_le, e0]; omega)
        rw [hq, n_le (by omega) hq2] at h2
        exact ⟨q, hq, by omega⟩
  · rintro ⟨q, hq, hq2⟩
    rw [hq, if_neg (by rw [n_neg (by omega)]; exact id), if_neg (by rw [n_le (by omega) (by omega)]; omega)]
theorem x_resend {g : ev_G} {S : ev_S} {b n lim np L d u : Nat} {x y : Int32} {r R : Nat → Int32} {ρ : List Nat} (hi : IG r n lim np L d ρ) (hL : L ≤ 80) (hd : d < 10000) (hg : q_gm S.1 (b + 11) r n L ρ) (hk : i_ok r n np L) (hh : q_his S.1 (b + 93) R u) {Q : ev_O → ev_S → Prop}
    (q1 : ¬ ((∃ l, x = Int32.ofNat l ∧ l < L) ∧ ∃ q, y = Int32.ofNat q ∧ q < np) → Q (.inr 0) S)
    (q2 : ∀ l q, x = Int32.ofNat l → l < L → y = Int32.ofNat q → q < np → ¬ L < 80 → Q (.inr 1) S)
    (q3 : ∀ l q, x = Int32.ofNat l → l < L → y = Int32.ofNat q → q < np → L < 80 → ∀ z, q_fr S z (b + 11) 412 → (∀ q, b + 47 ≤ q → q < b + 93 → z.1 q = S.1 q) → q_any z.1 (b + 11) (o_res r l q L) → q_his z.1 (b + 93) (o_kp R r u) (o_ku u) → Q (.inl (some (ev_i (Int32.ofNat L)))) z) :
    ev_Cv g m_X9_resend 6 1 [ev_o 9 b, ev_i x, ev_i y] S Q := by
  have hnp := hi.1.2.2.2.1
  have e80 : (80 : Int32) = Int32.ofNat 80 := rfl
  have e3 : S.1 (b + 11 + 20) 3 = Int32.ofNat np := by
    have := hg.2.1.1.1.1
    rw [hi.1.2.2.1] at this
    exact this
  have e13 : S.1 (b + 11 + 19) 13 = Int32.ofNat L := by
    rw [hg.2.1.1.1.2.2.1]
    exact hi.1.2.2.2.2.1
  have fault : (¬ ((∃ l, x = Int32.ofNat l ∧ l < L) ∧ ∃ q, y = Int32.ofNat q ∧ q < np) ∧ f_X2_copyFault S (b + 11) x y = 1) ∨ ∃ l q, x = Int32.ofNat l ∧ l < L ∧ y = Int32.ofNat q ∧ q < np ∧ ((¬ L < 80 ∧ f_X2_copyFault S (b + 11) x y = 2) ∨ (L < 80 ∧ f_X2_copyFault S (b + 11) x y = 0)) := by
    unfold f_X2_copyFault
    by_cases hx : t_X6_exists S (b + 11 + 19) x = true
    · rw [if_pos hx]
      by_cases hy : t_X5_exists S (b + 11 + 20) y = true
      · rw [if_pos hy]
        obtain ⟨l, hl, hl2⟩ := (t_le e13 (by omega)).mp hx
        obtain ⟨q, hq, hq2⟩ := (t_ex e3 (by omega)).mp hy
        right
        refine ⟨l, q, hl, hl2, hq, hq2, ?_⟩
        have hlt : S.1 (b + 11 + 19) 13 < 80 ↔ L < 80 := by rw [e13, e80, n_lt (by omega) (by omega)]
        by_cases h9 : L < 80
        · right
          exact ⟨h9, if_pos (hlt.mpr h9)⟩
        · left
          exact ⟨h9, if_neg (fun h => h9 (hlt.mp h))⟩
      · rw [if_neg hy]
        left
        exact ⟨fun q => hy ((t_ex e3 (by omega)).mpr q.2), rfl⟩
    · rw [if_neg hx]
      left
      exact ⟨fun q => hx ((t_le e13 (by omega)).mpr q.1), rfl⟩
  refine sg_X9_resend_0 b x y ?_
  rcases fault with ⟨h, f⟩ | ⟨l, q, hl, hl2, hq, hq2, ⟨h, f⟩ | ⟨h, f⟩⟩
  · rw [f]
    exact j_pos rfl (q1 h)
  · rw [f]
    exact j_neg (by decide) (j_pos rfl (q2 l q hl hl2 hq hq2 h))
  · rw [f]
    refine j_neg (by decide) (j_neg (by decide) (j_neg (by decide) ?_))
    refine h_remember (a := b + 93) (b := b + 11) (by omega) hh ⟨n, lim, np, L, d, ρ, hi, hL, hd, hg, hk⟩ (fun z z1 z2 => ⟨rfl, ?_⟩)
    have hgz := q_gm_frame (M := S.1) (M' := z.1) (fun q h1 h2 => z1.2 q (by omega)) hg
    rw [hl, hq]
    refine g_resend hi h hl2 hq2 hgz (fun w w1 w2 => ⟨_, rfl, ?_⟩)
    exact q3 l q hl hl2 hq hq2 h w ⟨w1.1.trans z1.1, fun y hy => by rw [w1.2 y (by omega), z1.2 y (by omega)]⟩ (fun y h1 h2 => by rw [w1.2 y (by omega), z1.2 y (by omega)]) ⟨n, lim, np, L + 1, d, ρ, IG_res hi h hl2 hq2, by omega, hd, w2, i_ok_post hk⟩ (q_his_frame (fun y h1 => w1.2 y (by omega)) z2)
