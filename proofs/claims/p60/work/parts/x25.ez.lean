/-! ===== the fastest pass: letters that nobody reads ===== -/
theorem i_pst_post {r : Nat → Int32} {np L d b q : Nat} {x2 x3 x4 x5 : Int32} {ρ : List Nat} (h : i_pst r np L d ρ) (hL : L < 84) (hb : b < 2) (hq : q < np) : i_pst (o_post r L (Int32.ofNat b) (Int32.ofNat q) x2 x3 x4 x5) np (L + 1) d ρ := by
  obtain ⟨⟨g1, g2, g3, g4, g5, g5', g6, g7⟩, ⟨dp, h6, hdp, hlv⟩, hro⟩ := h
  obtain ⟨p4, p0, p1, p2, p3, p4', p5, p6, p7⟩ := o_post_f (r := r) (l := L) (x0 := Int32.ofNat b) (x1 := Int32.ofNat q) (x2 := x2) (x3 := x3) (x4 := x4) (x5 := x5)
  have e : ∀ j, (j < 1200 + 11 * L ∨ 1200 + 11 * L + 7 < j) → j ≠ 4 → o_post r L (Int32.ofNat b) (Int32.ofNat q) x2 x3 x4 x5 j = r j := fun j h h4 => o_post_at h h4
  generalize o_post r L (Int32.ofNat b) (Int32.ofNat q) x2 x3 x4 x5 = r' at *
  have e6 : ∀ l, l < L → r' (1200 + 11 * l + 6) = r (1200 + 11 * l + 6) := fun l hl => e _ (by omega) (by omega)
  have e8 : ∀ l, l < L → r' (1200 + 11 * l + 8) = r (1200 + 11 * l + 8) := fun l hl => e _ (by omega) (by omega)
  refine ⟨⟨by rw [e _ (by omega) (by omega)]; exact g1, g2, p4, by omega, by rw [e _ (by omega) (by omega)]; exact g5, g5', fun q' hq' => ⟨?_, fun t' ht' => ?_⟩, fun l hl => ?_⟩, ⟨dp, by rw [e _ (by omega) (by omega)]; exact h6, ?_, fun l hl hst => ?_⟩, fun l hl => ?_, ?_, fun l hl hst h9 => ?_⟩
  · rw [e _ (by omega) (by omega)]; exact (g6 q' hq').1
  · rw [e _ (by omega) (by omega)]; exact (g6 q' hq').2 t' ht'
  · by_cases hlL : l = L
    · subst hlL
      exact ⟨b, q, hb, hq, p0, p1, Or.inl p6, fun hh => by rw [p6] at hh; exact absurd hh (by decide)⟩
    · rw [e _ (by omega) (by omega), e _ (by omega) (by omega), e _ (by omega) (by omega), e _ (by omega) (by omega)]
      exact g7 l (by omega)
  · rw [cnt_t (by simp only [p6, decide_eq_true_eq]), cnt_congr (h := fun l => decide (r (1200 + 11 * l + 6) = 0)) L (fun i hi => by simp only [e6 i hi])]
    omega
  · have hlL : l ≠ L := fun hh => by
      rw [hh, p6] at hst
      exact absurd hst (by decide)
    rw [e6 l (by omega)] at hst
    rw [e8 l (by omega)]
    exact hlv l (by omega) hst
  · have hh := hro.1 l hl
    rw [e6 l hh.1, e8 l hh.1]
    exact ⟨by omega, hh.2⟩
  · refine List.Pairwise.imp_of_mem (fun {x y} hx hy hxy => ?_) hro.2.1
    rw [e8 x (hro.1 x hx).1, e8 y (hro.1 y hy).1]
    exact hxy
  · have hlL : l ≠ L := fun hh => by
      rw [hh, p6] at hst
      exact absurd hst (by decide)
    rw [e6 l (by omega)] at hst
    rw [e8 l (by omega)] at h9
    exact hro.2.2 l (by omega) hst h9
theorem IR_blank {r : Nat → Int32} {n lim np L d b q : Nat} {x2 x3 x4 x5 : Int32} (h : IR r n lim np L d (-1)) (hL : L ≤ 80) (hb : b < 2) (hq : q < np) : IR (o_post r L (Int32.ofNat b) (Int32.ofNat q) x2 x3 x4 x5) n lim np (L + 1) d (Int32.ofNat L) := by
  obtain ⟨i0, i1, i3, i3', i4, i4', i2, i2', il⟩ := h
  obtain ⟨p4, p0, p1, p2, p3, p4', p5, p6, p7⟩ := o_post_f (r := r) (l := L) (x0 := Int32.ofNat b) (x1 := Int32.ofNat q) (x2 := x2) (x3 := x3) (x4 := x4) (x5 := x5)
  have e : ∀ j, (j < 1200 + 11 * L ∨ 1200 + 11 * L + 7 < j) → j ≠ 4 → o_post r L (Int32.ofNat b) (Int32.ofNat q) x2 x3 x4 x5 j = r j := fun j h h4 => o_post_at h h4
  generalize o_post r L (Int32.ofNat b) (Int32.ofNat q) x2 x3 x4 x5 = r' at *
  refine ⟨i_dk_same (by omega) i0 (fun j hj => e j (by omega) (by omega)), i_dk_same (by omega) i1 (fun j hj => e j (by omega) (by omega)), by rw [e _ (by omega) (by omega)]; exact i3, i3', p4, by omega, by rw [e _ (by omega) (by omega)]; exact i2, i2', fun l hl => ?_⟩
  by_cases hlL : l = L
  · subst hlL
    exact ⟨b, q, hb, hq, p0, p1, fun hh => absurd rfl hh⟩
  · obtain ⟨b', q', c1, c2, c3, c4, c5⟩ := il l (by omega)
    refine ⟨b', q', c1, c2, by rw [e _ (by omega) (by omega)]; exact c3, by rw [e _ (by omega) (by omega)]; exact c4, fun _ => ?_⟩
    obtain ⟨k', c6⟩ := c5 (n_m1' (by omega))
    exact ⟨k', i_let_same c6 (fun j hj => e j (by omega) (by omega))⟩
/-- the rows of the days that come -/
def xit (np M d : Nat) (r : Nat → Int32) : Nat → (Nat → Int32)
  | 0 => r
  | m + 1 => o_dp (xit np M d r m) np M (d + m)
theorem xit_pst {np M d : Nat} {r : Nat → Int32} {ρ : List Nat} (h : i_pst r np M d ρ) : ∀ m, d + m < 1000000 → ∃ σ, i_pst (xit np M d r m) np M (d + m) σ := by
  intro m
  induction m with
  | zero => intro _; exact ⟨ρ, h⟩
  | succ m ih =>
    intro hm
    obtain ⟨σ, h1⟩ := ih (by omega)
    rw [xit, show d + (m + 1) = d + m + 1 by omega]
    exact i_pst_dp (by omega) h1
/-- one letter more on every pass -/
def xps (p : Nat) (r : Nat → Int32) (L : Nat) : Nat → (Nat → Int32)
  | 0 => r
  | i + 1 => o_post (xps p r L i) (L + i) (Int32.ofNat p) (Int32.ofNat i) 0 1 0 0
theorem xps_pst {p np L d : Nat} {r : Nat → Int32} {ρ : List Nat} (h : i_pst r np L d ρ) (hp : p < 2) (hL : L ≤ 80) : ∀ i, i ≤ np → i_pst (xps p r L i) np (L + i) d ρ := by
  intro i
  induction i with
  | zero => intro _; exact h
  | succ i ih =>
    intro hi
    have := h.1.2.1
    exact i_pst_post (ih (by omega)) (by omega) hp (by omega)
theorem xps_at {p L : Nat} {r : Nat → Int32} : ∀ i, (∀ j, j < 1200 + 11 * L → j ≠ 4 → xps p r L i j = r j) ∧ ∀ q, q < i → xps p r L i (1200 + 11 * (L + q)) = Int32.ofNat p ∧ xps p r L i (1200 + 11 * (L + q) + 1) = Int32.ofNat q ∧ xps p r L i (1200 + 11 * (L + q) + 6) = 0 := by
  intro i
  induction i with
  | zero => exact ⟨fun _ _ _ => rfl, fun q hq => by omega⟩
  | succ i ih =>
    obtain ⟨h1, h2⟩ := ih
    obtain ⟨p4, p0, p1, p2, p3, p4', p5, p6, p7⟩ := o_post_f (r := xps p r L i) (l := L + i) (x0 := Int32.ofNat p) (x1 := Int32.ofNat i) (x2 := 0) (x3 := 1) (x4 := 0) (x5 := 0)
    refine ⟨fun j hj j4 => ?_, fun q hq => ?_⟩
    · rw [xps, o_post_at (by omega) j4]
      exact h1 j hj j4
    · by_cases hqi : q = i
      · subst hqi
        exact ⟨p0, p1, p6⟩
      · rw [xps, o_post_at (by omega) (by omega), o_post_at (by omega) (by omega), o_post_at (by omega) (by omega)]
        exact h2 q (by omega)
/-- the letter of pass q has come after m days -/
def PP (r : Nat → Int32) (np L d p m q : Nat) : Prop := xit np (L + np) d (xps p r L np) m (1200 + 11 * (L + q) + 6) = 2
def FP (np : Nat) (P : Nat → Nat → Prop) (v : Int32) : Prop := (v = -1 ∧ ∀ m, m ≤ 400 → ∀ q, q < np → ¬ P m q) ∨ ∃ q m, v = Int32.ofNat q ∧ q < np ∧ m ≤ 400 ∧ P m q ∧ (∀ m' q', m' < m → q' < np → ¬ P m' q') ∧ ∀ q', q' < q → ¬ P m q'
theorem FP_one {np : Nat} {P : Nat → Nat → Prop} {v w : Int32} (h : FP np P v) (h2 : FP np P w) : v = w := by
  rcases h with ⟨h1, h3⟩ | ⟨q, m, h1, h3, h4, h5, h6, h7⟩
  · rcases h2 with ⟨g1, g3⟩ | ⟨q', m', g1, g3, g4, g5, g6, g7⟩
    · rw [h1, g1]
    · exact absurd g5 (h3 m' g4 q' g3)
  · rcases h2 with ⟨g1, g3⟩ | ⟨q', m', g1, g3, g4, g5, g6, g7⟩
    · exact absurd h5 (g3 m h4 q h3)
    · have hm : m = m' := by
        rcases Nat.lt_trichotomy m m' with c | c | c
        · exact absurd h5 (g6 m q c h3)
        · exact c
        · exact absurd g5 (h6 m' q' c g3)
      subst hm
      have hq : q = q' := by
        rcases Nat.lt_trichotomy q q' with c | c | c
        · exact absurd h5 (g7 q c)
        · exact c
        · exact absurd g5 (h7 q' c)
      rw [h1, g1, hq]
theorem pj_0 {p np L q : Nat} {r y : Nat → Int32} (hL : L ≤ 80) (hq : q < np) (hnp : np ≤ 4) (hy : ∀ j, j < 2091 → y j = r j) : PJ q L (L + q) L (L + np) (L + 1) (xps p r L np) (o_post y L (Int32.ofNat p) (Int32.ofNat q) 0 1 0 0) := by
  obtain ⟨h1, h2⟩ := xps_at (p := p) (L := L) (r := r) np
  obtain ⟨p4, p0, p1, p2, p3, p4', p5, p6, p7⟩ := o_post_f (r := y) (l := L) (x0 := Int32.ofNat p) (x1 := Int32.ofNat q) (x2 := 0) (x3 := 1) (x4 := 0) (x5 := 0)
  have e : ∀ j, j < 1200 + 11 * L → j ≠ 4 → o_post y L (Int32.ofNat p) (Int32.ofNat q) 0 1 0 0 j = xps p r L np j := fun j hj h4 => by rw [o_post_at (Or.inl hj) h4, h1 j hj h4, hy j (by omega)]
  obtain ⟨k0, k1, k6⟩ := h2 q hq
  refine ⟨fun w hw => e _ (by omega) (by omega), fun l hl => ⟨e _ (by omega) (by omega), e _ (by omega) (by omega), fun _ => ⟨e _ (by omega) (by omega), fun _ => e _ (by omega) (by omega)⟩⟩, ⟨by rw [p0, k0], by rw [p1, k1], fun _ => ⟨by rw [p6, k6], fun hh => by rw [k6] at hh; exact absurd hh (by decide)⟩⟩, k1, ⟨by omega, by omega, by omega, by omega⟩, fun l a b c hh => ?_, fun l a b c => by omega⟩
  have hl : l = L + (l - L) := by omega
  rw [hl, (h2 (l - L) (by omega)).2.1, n_eq (by omega) (by omega)] at hh
  omega
/-- what the reference finds for one pass -/
theorem pa_spec {np L d p q : Nat} {r : Nat → Int32} {ρ : List Nat} (hL : L ≤ 80) (hq : q < np) (hp : p < 2) (hi : i_pst r np L d ρ) (hd : d < 10000) : ∀ (k j : Nat) (y : Nat → Int32) (σ : List Nat), j + k = 400 → i_pst y np (L + 1) (d + j) σ → PJ q L (L + q) L (L + np) (L + 1) (xit np (L + np) d (xps p r L np) j) y → ¬ PP r np L d p j q →
    (o_pa L np (L + 1) k (d + j) y = -1 ∧ ∀ m, j < m → m ≤ 400 → ¬ PP r np L d p m q) ∨ ∃ m, j < m ∧ m ≤ 400 ∧ o_pa L np (L + 1) k (d + j) y = Int32.ofNat (d + m) ∧ PP r np L d p m q ∧ ∀ m', j < m' → m' < m → ¬ PP r np L d p m' q := by
  have hnp := hi.1.2.1
  intro k
  induction k with
  | zero =>
    intro j y σ hjk hy hpj hn
    have e6 : y (1200 + 11 * L + 6) = xit np (L + np) d (xps p r L np) j (1200 + 11 * (L + q) + 6) := (hpj.2.2.1.2.2 hpj.2.2.2.1).1
    have h2 : ¬ y (1200 + 11 * L + 6) = 2 := by rw [e6]; exact hn
    exact Or.inl ⟨o_pa_0 h2, fun m h1 h3 => by omega⟩
  | succ k ih =>
    intro j y σ hjk hy hpj hn
    have e6 : y (1200 + 11 * L + 6) = xit np (L + np) d (xps p r L np) j (1200 + 11 * (L + q) + 6) := (hpj.2.2.1.2.2 hpj.2.2.2.1).1
    have h2 : ¬ y (1200 + 11 * L + 6) = 2 := by rw [e6]; exact hn
    obtain ⟨τ, hx⟩ := xit_pst (xps_pst hi hp hL np (Nat.le_refl _)) j (by omega)
    have hpj' := pj_dp (by omega) (by omega) hpj hx hy
    obtain ⟨σ', hy'⟩ := i_pst_dp (by omega) hy
    have e6' : o_dp y np (L + 1) (d + j) (1200 + 11 * L + 6) = xit np (L + np) d (xps p r L np) (j + 1) (1200 + 11 * (L + q) + 6) := (hpj'.2.2.1.2.2 hpj'.2.2.2.1).1
    rw [o_pa_s h2]
    by_cases h3 : PP r np L d p (j + 1) q
    · have h3' : o_dp y np (L + 1) (d + j) (1200 + 11 * L + 6) = 2 := by rw [e6']; exact h3
      refine Or.inr ⟨j + 1, by omega, by omega, ?_, h3, fun m' a b => by omega⟩
      rw [o_pa_2 h3', o_dp_came (by omega) hy (by omega) h2 h3', show d + (j + 1) = d + j + 1 by omega]
    · have hj : d + (j + 1) = d + j + 1 := by omega
      rcases ih (j + 1) _ σ' (by omega) (by rw [hj]; exact hy') hpj' h3 with ⟨a1, a2⟩ | ⟨m, a1, a2, a3, a4, a5⟩
      · refine Or.inl ⟨by rw [← hj]; exact a1, fun m b1 b2 => ?_⟩
        by_cases hm : m = j + 1
        · rw [hm]; exact h3
        · exact a2 m (by omega) b2
      · refine Or.inr ⟨m, by omega, a2, by rw [← hj]; exact a3, a4, fun m' b1 b2 => ?_⟩
        by_cases hm : m' = j + 1
        · rw [hm]; exact h3
        · exact a5 m' (by omega) b2
