/-! ===== both: a letter is posted ===== -/
theorem o_post_at {r : Nat → Int32} {l j : Nat} {x0 x1 x2 x3 x4 x5 : Int32} (h : j < 1200 + 11 * l ∨ 1200 + 11 * l + 7 < j) (h4 : j ≠ 4) : o_post r l x0 x1 x2 x3 x4 x5 j = r j := by
  unfold o_post
  rw [u_k h4, u_k (by omega), u_k (by omega), u_k (by omega), u_k (by omega), u_k (by omega), u_k (by omega), u_k (by omega), u_k (by omega)]
theorem o_post_f {r : Nat → Int32} {l : Nat} {x0 x1 x2 x3 x4 x5 : Int32} :
    o_post r l x0 x1 x2 x3 x4 x5 4 = Int32.ofNat (l + 1) ∧ o_post r l x0 x1 x2 x3 x4 x5 (1200 + 11 * l) = x0 ∧ o_post r l x0 x1 x2 x3 x4 x5 (1200 + 11 * l + 1) = x1 ∧ o_post r l x0 x1 x2 x3 x4 x5 (1200 + 11 * l + 2) = x2 ∧
    o_post r l x0 x1 x2 x3 x4 x5 (1200 + 11 * l + 3) = x3 ∧ o_post r l x0 x1 x2 x3 x4 x5 (1200 + 11 * l + 4) = x4 ∧ o_post r l x0 x1 x2 x3 x4 x5 (1200 + 11 * l + 5) = x5 ∧ o_post r l x0 x1 x2 x3 x4 x5 (1200 + 11 * l + 6) = 0 ∧ o_post r l x0 x1 x2 x3 x4 x5 (1200 + 11 * l + 7) = r 2 := by
  unfold o_post
  refine ⟨u_s _ _ _, ?_, ?_, ?_, ?_, ?_, ?_, ?_, ?_⟩
  · rw [u_k (by omega), u_k (by omega), u_k (by omega), u_k (by omega), u_k (by omega), u_k (by omega), u_k (by omega), u_k (by omega), u_s]
  · rw [u_k (by omega), u_k (by omega), u_k (by omega), u_k (by omega), u_k (by omega), u_k (by omega), u_k (by omega), u_s]
  · rw [u_k (by omega), u_k (by omega), u_k (by omega), u_k (by omega), u_k (by omega), u_k (by omega), u_s]
  · rw [u_k (by omega), u_k (by omega), u_k (by omega), u_k (by omega), u_k (by omega), u_s]
  · rw [u_k (by omega), u_k (by omega), u_k (by omega), u_k (by omega), u_s]
  · rw [u_k (by omega), u_k (by omega), u_k (by omega), u_s]
  · rw [u_k (by omega), u_k (by omega), u_s]
  · rw [u_k (by omega), u_s]
theorem i_ok_post {r : Nat → Int32} {n np L : Nat} {x0 x1 x2 x3 x4 x5 : Int32} (h : i_ok r n np L) : i_ok (o_post r L x0 x1 x2 x3 x4 x5) n np (L + 1) := by
  have p6 := (o_post_f (r := r) (l := L) (x0 := x0) (x1 := x1) (x2 := x2) (x3 := x3) (x4 := x4) (x5 := x5)).2.2.2.2.2.2.2.1
  refine ⟨h.1, by rw [o_post_at (by omega) (by omega)]; exact h.2.1, fun q' h1 h2 s hs => by rw [o_post_at (by omega) (by omega)]; exact h.2.2.1 q' h1 h2 s hs, ?_⟩
  rw [o_post_at (by omega) (by omega), cnt_f (by unfold o_st2; rw [p6]; decide), h.2.2.2]
  refine congrArg Int32.ofNat (cnt_congr L (fun i hi => ?_))
  unfold o_st2
  rw [o_post_at (by omega) (by omega)]
theorem IG_post {r : Nat → Int32} {n lim np L d b q k f t : Nat} {isp : Int32} {ρ : List Nat} (h : IG r n lim np L d ρ) (hL : L < 80) (hb : b < 2) (hq : q < np) (hk1 : 1 ≤ k) (hk : k ≤ 60) (hf : f < n * n) (ht : t < n * n) (hft : f ≠ t)
    (hi : isp = 0 ∨ isp = 1 ∧ i_pr r n k ∧ o_maker k = b ∧ r (762 + 6 * k + 2) = Int32.ofNat f ∧ r (762 + 6 * k + 3) = Int32.ofNat t) : IG (o_post r L (Int32.ofNat b) (Int32.ofNat q) isp (Int32.ofNat k) (Int32.ofNat f) (Int32.ofNat t)) n lim np (L + 1) d ρ := by
  obtain ⟨h1, ⟨⟨g1, g2, g3, g4, g5, g5', g6, g7⟩, ⟨dp, h6, hdp, hlv⟩, hro⟩, hbd⟩ := h
  have hnp := g2
  obtain ⟨i0, i1, i3, i3', i4, i4', i2, i2', il⟩ := h1
  obtain ⟨p4, p0, p1, p2, p3, p4', p5, p6, p7⟩ := o_post_f (r := r) (l := L) (x0 := Int32.ofNat b) (x1 := Int32.ofNat q) (x2 := isp) (x3 := Int32.ofNat k) (x4 := Int32.ofNat f) (x5 := Int32.ofNat t)
  have e : ∀ j, (j < 1200 + 11 * L ∨ 1200 + 11 * L + 7 < j) → j ≠ 4 → o_post r L (Int32.ofNat b) (Int32.ofNat q) isp (Int32.ofNat k) (Int32.ofNat f) (Int32.ofNat t) j = r j := fun j h h4 => o_post_at h h4
  generalize o_post r L (Int32.ofNat b) (Int32.ofNat q) isp (Int32.ofNat k) (Int32.ofNat f) (Int32.ofNat t) = r' at *
  have e6 : ∀ l, l < L → r' (1200 + 11 * l + 6) = r (1200 + 11 * l + 6) := fun l hl => e _ (by omega) (by omega)
  have e8 : ∀ l, l < L → r' (1200 + 11 * l + 8) = r (1200 + 11 * l + 8) := fun l hl => e _ (by omega) (by omega)
  have hpr : ∀ k', k' ≤ 62 → i_pr r n k' → i_pr r' n k' := fun k' hk' hh => by
    rw [i_pr, e _ (by omega) (by omega), e _ (by omega) (by omega), e _ (by omega) (by omega), e _ (by omega) (by omega), e _ (by omega) (by omega), e _ (by omega) (by omega)]
    exact hh
  refine ⟨⟨i_dk_same (by omega) i0 (fun j hj => e j (by omega) (by omega)), i_dk_same (by omega) i1 (fun j hj => e j (by omega) (by omega)), by rw [e _ (by omega) (by omega)]; exact i3, i3', p4, by omega, by rw [e _ (by omega) (by omega)]; exact i2, i2', fun l hl => ?_⟩, ⟨⟨by rw [e _ (by omega) (by omega)]; exact g1, g2, p4, by omega, by rw [e _ (by omega) (by omega)]; exact g5, g5', fun q' hq' => ?_, fun l hl => ?_⟩, ⟨dp, by rw [e _ (by omega) (by omega)]; exact h6, ?_, fun l hl hst => ?_⟩, fun l hl => ?_, ?_, fun l hl hst h9 => ?_⟩, fun p hp => ?_⟩
  · by_cases hlL : l = L
    · subst hlL
      refine ⟨b, q, hb, hq, p0, p1, fun _ => ⟨k, hb, by omega, hk1, hk, p0, p1, p3, f, t, hf, ht, hft, p4', p5, ?_⟩⟩
      rcases hi with hi | ⟨h9, h10, h11, h12, h13⟩
      · exact Or.inl (by rw [p2]; exact hi)
      · exact Or.inr ⟨by rw [p2]; exact h9, hpr k (by omega) h10, h11, by rw [e _ (by omega) (by omega)]; exact h12, by rw [e _ (by omega) (by omega)]; exact h13⟩
    · obtain ⟨b', q', c1, c2, c3, c4, c5⟩ := il l (by omega)
      refine ⟨b', q', c1, c2, by rw [e _ (by omega) (by omega)]; exact c3, by rw [e _ (by omega) (by omega)]; exact c4, fun hn => ?_⟩
      obtain ⟨k', c6⟩ := c5 hn
      exact ⟨k', i_let_same c6 (fun j hj => e j (by omega) (by omega))⟩
  · rw [e _ (by omega) (by omega)]
    refine ⟨(g6 q' hq').1, fun t' ht' => ?_⟩
    rw [e _ (by omega) (by omega)]
    exact (g6 q' hq').2 t' ht'
  · by_cases hlL : l = L
    · subst hlL
      exact ⟨b, q, hb, hq, p0, p1, Or.inl p6, fun hh => by rw [p6] at hh; exact absurd hh (by decide)⟩
    · rw [e _ (by omega) (by omega), e _ (by omega) (by omega), e _ (by omega) (by omega), e _ (by omega) (by omega)]
      exact g7 l (by omega)
  · rw [cnt_t (by simp only [p6, decide_eq_true_eq]), cnt_congr (h := fun l => decide (r (1200 + 11 * l + 6) = 0)) L (fun i hi => by simp only [e6 i hi])]
    omega
  · have hlL : l ≠ L := fun hh => by
      rw [hh, p6] at hst
      exact absurd hst (by decide)
    rw [e6 l (by omega)] at hst
    rw [e8 l (by omega)]
    exact hlv l (by omega) hst
  · have hh := hro.1 l hl
    rw [e6 l hh.1, e8 l hh.1]
    exact ⟨by omega, hh.2⟩
  · refine List.Pairwise.imp_of_mem (fun {x y} hx hy hxy => ?_) hro.2.1
    rw [e8 x (hro.1 x hx).1, e8 y (hro.1 y hy).1]
    exact hxy
  · have hlL : l ≠ L := fun hh => by
      rw [hh, p6] at hst
      exact absurd hst (by decide)
    rw [e6 l (by omega)] at hst
    rw [e8 l (by omega)] at h9
    exact hro.2.2 l (by omega) hst h9
  · have hdk : i_dk r p n lim := by
      have : p = 0 ∨ p = 1 := by omega
      rcases this with rfl | rfl
      · exact i0
      · exact i1
    exact i_bd_same i0.2.1 (i_dk_mad hdk) hp (fun j hj => e j (by omega) (by omega)) (hbd p hp)
