/-! ===== both: snow is set, as asked ===== -/
def o_snow (r : Nat → Int32) (q t : Nat) (v : Int32) : Nat → Int32 := upd r (1140 + 15 * q + (3 + t)) v
theorem IG_snow {r : Nat → Int32} {n lim np L d q t : Nat} {v : Int32} {ρ : List Nat} (hq : q < np) (ht : t < 12) (hv : 0 ≤ v ∧ v ≤ 9) (h : IG r n lim np L d ρ) : IG (o_snow r q t v) n lim np L d ρ := by
  have hnp := h.1.2.2.2.1
  unfold o_snow
  refine IG_post2 h (fun j hj => ?_) (fun q' hq' t' ht' => ?_)
  · refine u_k ?_
    rcases hj with hj | hj | hj | ⟨q', hq', hj⟩ | hj <;> omega
  · by_cases hk : 1140 + 15 * q' + (3 + t') = 1140 + 15 * q + (3 + t)
    · rw [hk, u_s]
      have h1 := hv.1
      have h2 := hv.2
      rw [z_le, show (0 : Int32).toInt = 0 from rfl] at h1
      rw [z_le, show (9 : Int32).toInt = 9 from rfl] at h2
      exact ⟨h1, h2⟩
    · rw [u_k hk]
      exact (h.2.1.1.2.2.2.2.2.2.1 q' hq').2 t' ht'
theorem i_ok_snow {r : Nat → Int32} {n np L q t : Nat} {v : Int32} (hnp : np ≤ 4) (hq : q < np) (ht : t < 12) (h : i_ok r n np L) : i_ok (o_snow r q t v) n np L := by
  unfold o_snow
  refine ⟨h.1, by rw [u_k (by omega)]; exact h.2.1, fun q' h1 h2 s hs => by rw [u_k (by omega)]; exact h.2.2.1 q' h1 h2 s hs, ?_⟩
  rw [u_k (by omega), h.2.2.2]
  refine congrArg Int32.ofNat (cnt_congr L (fun i hi => ?_))
  unfold o_st2
  rw [u_k (by omega)]
theorem q_mid_snow {M M' : Nat → Nat → Int32} {e np L d q t : Nat} {v : Int32} {r : Nat → Int32} (hi : i_ps r np L d) (hq : q < np) (ht : t < 12) (h : q_mid M e r L)
    (f : ∀ x, x ≠ e + 3 → M' x = M x) (g3 : ∀ k, M' (e + 3) k = if k = q * 12 + t then v else M (e + 3) k) : q_mid M' e (o_snow r q t v) L := by
  obtain ⟨⟨a1, a2, a3, a4, a5⟩, c, w⟩ := h
  have hnp := hi.2.1
  have hL := hi.2.2.2.1
  unfold o_snow
  refine ⟨⟨?_, ?_, ?_, ?_, ?_⟩, fun q' hq9 => ⟨?_, fun s' hs9 => ?_, fun t' ht' => ?_, fun s' hs9 => ?_⟩, fun l hl => ?_⟩
  · rw [f _ (by omega), u_k (by omega)]; exact a1
  · rw [f _ (by omega), u_k (by omega)]; exact a2
  · rw [f _ (by omega), u_k (by omega)]; exact a3
  · rw [f _ (by omega), u_k (by omega)]; exact a4
  · rw [f _ (by omega), u_k (by omega)]; exact a5
  · rw [f _ (by omega), u_k (by omega)]; exact (c q' hq9).1
  · rw [f _ (by omega), u_k (by omega)]; exact (c q' hq9).2.1 s' hs9
  · rw [g3]
    by_cases hk : q' * 12 + t' = q * 12 + t
    · have hqq : q' = q := by omega
      have htt : t' = t := by omega
      rw [if_pos hk, hqq, htt, u_s]
    · rw [if_neg hk, u_k (by omega)]; exact (c q' hq9).2.2.1 t' ht'
  · rw [f _ (by omega), (c q' hq9).2.2.2 s' hs9]
    refine congrArg Int32.ofNat ?_
    exact cnt_congr L (fun i hi9 => (o_wt_same (u_k (by omega)) (u_k (by omega)) (by rw [u_k (by omega)])).symm)
  · rw [f (e + 5) (by omega), f (e + 9) (by omega), f (e + 10) (by omega), f (e + 11) (by omega), f (e + 12) (by omega), f (e + 13) (by omega), u_k (show 1200 + 11 * l ≠ 1140 + 15 * q + (3 + t) by omega), u_k (show 1200 + 11 * l + 1 ≠ 1140 + 15 * q + (3 + t) by omega), u_k (show 1200 + 11 * l + 6 ≠ 1140 + 15 * q + (3 + t) by omega), u_k (show 1200 + 11 * l + 7 ≠ 1140 + 15 * q + (3 + t) by omega), u_k (show 1200 + 11 * l + 9 ≠ 1140 + 15 * q + (3 + t) by omega), u_k (show 1200 + 11 * l + 10 ≠ 1140 + 15 * q + (3 + t) by omega)]
    exact w l hl
theorem q_gm_snow {S z : ev_S} {e n lim np L d q t : Nat} {v : Int32} {r : Nat → Int32} {ρ : List Nat} (hi : IG r n lim np L d ρ) (hq : q < np) (ht : t < 12) (hg : q_gm S.1 e r n L ρ) (hz : z = ev_up S (e + 22) (q * 12 + t) v) : q_gm z.1 e (o_snow r q t v) n L ρ := by
  have x : ∀ y, y ≠ e + 22 → z.1 y = S.1 y := fun y h1 => by rw [hz, m_r h1]
  have hnp := hi.1.2.2.2.1
  refine q_gm_post2 hi.1 hg (fun j hj => ?_) (fun y h1 h2 => x y (by omega)) ⟨?_, ?_, ?_⟩ ?_ ?_
  · unfold o_snow
    refine u_k ?_
    rcases hj with hj | hj | hj | hj | hj | ⟨l, w, hw, hj⟩ <;> omega
  · refine q_mid_snow hi.2.1.1 hq ht hg.2.1.1 (fun y hy => x y (by omega)) (fun k => ?_)
    rw [hz]
    by_cases hk : k = q * 12 + t
    · rw [if_pos hk, hk, m_s]
    · rw [if_neg hk, m_k hk]
  · rw [x _ (by omega)]; exact hg.2.1.2.1
  · rw [x _ (by omega)]; exact hg.2.1.2.2
  · rw [x _ (by omega)]
    unfold o_snow
    rw [u_k (by omega)]; exact hg.2.2.2.1
  · rw [x _ (by omega)]
theorem t_mo {y : Int32} : t_X9_isMonth y = true ↔ ∃ t, y = Int32.ofNat t ∧ t < 12 := by
  have e0 : (0 : Int32).toInt = 0 := rfl
  have e12 : (12 : Int32) = Int32.ofNat 12 := rfl
  unfold t_X9_isMonth
  constructor
  · intro h
    by_cases h1 : y < 0
    · rw [if_pos h1] at h; exact absurd h (by decide)
    · rw [if_neg h1] at h
      by_cases h2 : 12 ≤ y
      · rw [if_pos h2] at h; exact absurd h (by decide)
      · rw [z_lt, e0] at h1
        obtain ⟨t, ht, ht2⟩ := n_of (x := y) (by rw [z_le, e0]; omega)
        rw [ht, e12, n_le (by omega) ht2] at h2
        exact ⟨t, ht, by omega⟩
  · rintro ⟨t, ht, ht2⟩
    rw [ht, e12, if_neg (by rw [n_neg (by omega)]; exact id), if_neg (by rw [n_le (by omega) (by omega)]; omega)]
theorem x_setSnow {g : ev_G} {S : ev_S} {b n lim np L d u : Nat} {x y v : Int32} {r R : Nat → Int32} {ρ : List Nat} (hi : IG r n lim np L d ρ) (hL : L ≤ 80) (hd : d < 10000) (hg : q_gm S.1 (b + 11) r n L ρ) (hk : i_ok r n np L) (hh : q_his S.1 (b + 93) R u) {Q : ev_O → ev_S → Prop}
    (q1 : ¬ ((∃ q, x = Int32.ofNat q ∧ q < np) ∧ ∃ t, y = Int32.ofNat t ∧ t < 12) → Q (.inr 0) S)
    (q2 : ∀ q t, x = Int32.ofNat q → q < np → y = Int32.ofNat t → t < 12 → ¬ (0 ≤ v ∧ v ≤ 9) → Q (.inr 2) S)
    (q3 : ∀ q t, x = Int32.ofNat q → q < np → y = Int32.ofNat t → t < 12 → (0 ≤ v ∧ v ≤ 9) → ∀ z, q_fr S z (b + 11) 412 → (∀ q, b + 47 ≤ q → q < b + 93 → z.1 q = S.1 q) → q_any z.1 (b + 11) (o_snow r q t v) → q_his z.1 (b + 93) (o_kp R r u) (o_ku u) → Q (.inl (some (ev_i (r (1140 + 15 * q + (3 + t)))))) z) :
    ev_Cv g m_X9_setSnow 6 1 [ev_o 9 b, ev_i x, ev_i y, ev_i v] S Q := by
  have hnp := hi.1.2.2.2.1
  have e3 : S.1 (b + 11 + 20) 3 = Int32.ofNat np := by
    have := hg.2.1.1.1.1
    rw [hi.1.2.2.1] at this
    exact this
  have e0 : (0 : Int32).toInt = 0 := rfl
  have fault : (¬ ((∃ q, x = Int32.ofNat q ∧ q < np) ∧ ∃ t, y = Int32.ofNat t ∧ t < 12) ∧ f_X2_snowFault S (b + 11) x y v = 1) ∨ ∃ q t, x = Int32.ofNat q ∧ q < np ∧ y = Int32.ofNat t ∧ t < 12 ∧ ((¬ (0 ≤ v ∧ v ≤ 9) ∧ f_X2_snowFault S (b + 11) x y v = 3) ∨ ((0 ≤ v ∧ v ≤ 9) ∧ f_X2_snowFault S (b + 11) x y v = 0)) := by
    unfold f_X2_snowFault
    by_cases hx : t_X5_exists S (b + 11 + 20) x = true
    · rw [if_pos hx]
      by_cases hy : t_X9_isMonth y = true
      · rw [if_pos hy]
        obtain ⟨q, hq, hq2⟩ := (t_ex e3 (by omega)).mp hx
        obtain ⟨t, ht, ht2⟩ := t_mo.mp hy
        right
        refine ⟨q, t, hq, hq2, ht, ht2, ?_⟩
        by_cases h1 : v < 0
        · left
          refine ⟨fun h => ?_, if_pos h1⟩
          have := h.1
          rw [z_le] at this
          rw [z_lt] at h1
          omega
        · rw [if_neg h1]
          by_cases h2 : v ≤ 9
          · right
            refine ⟨⟨?_, h2⟩, if_pos h2⟩
            rw [z_le]
            rw [z_lt] at h1
            omega
          · left
            exact ⟨fun h => h2 h.2, if_neg h2⟩
      · rw [if_neg hy]
        left
        exact ⟨fun q => hy (t_mo.mpr q.2), rfl⟩
    · rw [if_neg hx]
      left
      exact ⟨fun q => hx ((t_ex e3 (by omega)).mpr q.1), rfl⟩
  refine sg_X9_setSnow_0 b x y v ?_
  rcases fault with ⟨h, f⟩ | ⟨q, t, hq, hq2, ht, ht2, ⟨h, f⟩ | ⟨h, f⟩⟩
  · rw [f]
    exact j_pos rfl (q1 h)
  · rw [f]
    exact j_neg (by decide) (j_neg (by decide) (j_pos rfl (q2 q t hq hq2 ht ht2 h)))
  · rw [f]
    refine j_neg (by decide) (j_neg (by decide) (j_neg (by decide) ?_))
    refine h_remember (a := b + 93) (b := b + 11) (by omega) hh ⟨n, lim, np, L, d, ρ, hi, hL, hd, hg, hk⟩ (fun z z1 z2 => ⟨rfl, ?_⟩)
    have hgz := q_gm_frame (M := S.1) (M' := z.1) (fun q h1 h2 => z1.2 q (by omega)) hg
    have ezs : z.1 (b + 33) (q * 12 + t) = r (1140 + 15 * q + (3 + t)) := (hgz.2.1.1.2.1 q (by omega)).2.2.1 t ht2
    intro S2 e2
    rw [hq, ht, n_ln12 (by omega) ht2, a_put (by omega) (by omega)] at e2
    rw [hq, ht, n_ln12 (by omega) ht2, a_in (by omega) (by omega), ezs]
    have x2 : ∀ y, y ≠ b + 33 → S2.1 y = z.1 y := fun y h1 => by rw [e2, m_r h1]
    refine q3 q t hq hq2 ht ht2 h S2 ⟨by rw [e2]; exact z1.1, fun y hy => by rw [x2 y (by omega), z1.2 y (by omega)]⟩ (fun y h1 h2 => by rw [x2 y (by omega), z1.2 y (by omega)]) ⟨n, lim, np, L, d, ρ, IG_snow hq2 ht2 h hi, hL, hd, q_gm_snow (S := z) hi hq2 ht2 hgz e2, i_ok_snow hnp hq2 ht2 hk⟩ ?_
    exact q_his_frame (fun y h1 => x2 y (by omega)) z2
