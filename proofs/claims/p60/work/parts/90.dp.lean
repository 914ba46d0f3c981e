/-! ===== both: a promise: the row behind it ===== -/
theorem o_prm_at {r : Nat → Int32} {k j : Nat} {v0 v1 v2 v3 : Int32} (h : j < 762 + 6 * k ∨ 762 + 6 * k + 4 < j) : o_prm r k v0 v1 v2 v3 j = r j := by
  unfold o_prm
  rw [u_k (by omega), u_k (by omega), u_k (by omega), u_k (by omega), u_k (by omega)]
theorem o_prm_f {r : Nat → Int32} {k : Nat} {v0 v1 v2 v3 : Int32} : o_prm r k v0 v1 v2 v3 (762 + 6 * k) = v0 ∧ o_prm r k v0 v1 v2 v3 (762 + 6 * k + 1) = v1 ∧ o_prm r k v0 v1 v2 v3 (762 + 6 * k + 2) = v2 ∧ o_prm r k v0 v1 v2 v3 (762 + 6 * k + 3) = v3 ∧ o_prm r k v0 v1 v2 v3 (762 + 6 * k + 4) = 1 := by
  unfold o_prm
  refine ⟨?_, ?_, ?_, ?_, u_s _ _ _⟩
  · rw [u_k (by omega), u_k (by omega), u_k (by omega), u_k (by omega), u_s]
  · rw [u_k (by omega), u_k (by omega), u_k (by omega), u_s]
  · rw [u_k (by omega), u_k (by omega), u_s]
  · rw [u_k (by omega), u_s]
theorem IG_prm {r : Nat → Int32} {n lim np L d k ef et rf rt : Nat} {ρ : List Nat} (h : IG r n lim np L d ρ) (hk : k ≤ 60) (hz : r (762 + 6 * k + 4) = 0) (hef : ef < n * n) (het : et < n * n) (hee : ef ≠ et) (hrf : rf < n * n) (hrt : rt < n * n) (hrr : rf ≠ rt) :
    IG (o_prm r k (Int32.ofNat ef) (Int32.ofNat et) (Int32.ofNat rf) (Int32.ofNat rt)) n lim np L d ρ ∧ i_pr (o_prm r k (Int32.ofNat ef) (Int32.ofNat et) (Int32.ofNat rf) (Int32.ofNat rt)) n k := by
  obtain ⟨p0, p1, p2, p3, p4⟩ := o_prm_f (r := r) (k := k) (v0 := Int32.ofNat ef) (v1 := Int32.ofNat et) (v2 := Int32.ofNat rf) (v3 := Int32.ofNat rt)
  have e : ∀ j, (j < 762 + 6 * k ∨ 762 + 6 * k + 4 < j) → o_prm r k (Int32.ofNat ef) (Int32.ofNat et) (Int32.ofNat rf) (Int32.ofNat rt) j = r j := fun j hj => o_prm_at hj
  generalize o_prm r k (Int32.ofNat ef) (Int32.ofNat et) (Int32.ofNat rf) (Int32.ofNat rt) = r' at *
  obtain ⟨⟨i0, i1, i3, i3', i4, i4', i2, i2', il⟩, hps, hbd⟩ := h
  have h5 : r (762 + 6 * k + 5) = 0 ∨ r (762 + 6 * k + 5) = 1 := by
    rcases i0.2.2.2.2.2.2 k (by omega) with q | q
    · exact Or.inl q.2
    · obtain ⟨_, _, _, _, _, _, _, _, _, _, _, _, _, _, _, q5⟩ := q
      exact q5
  have hpk : i_pr r' n k := ⟨ef, et, rf, rt, hef, het, hee, hrf, hrt, hrr, p0, p1, p2, p3, p4, by rw [e _ (by omega)]; exact h5⟩
  have hpr : ∀ k', k' ≠ k → i_pr r n k' → i_pr r' n k' := fun k' hk' hh => by
    rw [i_pr, e _ (by omega), e _ (by omega), e _ (by omega), e _ (by omega), e _ (by omega), e _ (by omega)]
    exact hh
  have hne : ∀ k', i_pr r n k' → k' ≠ k := fun k' hh hq => by
    subst hq
    obtain ⟨_, _, _, _, _, _, _, _, _, _, _, _, _, _, q4, _⟩ := hh
    rw [hz] at q4
    exact absurd q4 (by decide)
  have hdk : ∀ p, p < 2 → i_dk r p n lim → i_dk r' p n lim := fun p hp hd => by
    obtain ⟨d0, d1, d2, d3, ⟨m, d4, d4'⟩, d5, d6⟩ := hd
    refine ⟨by rw [e _ (by omega)]; exact d0, d1, by rw [e _ (by omega)]; exact d2, d3, ⟨m, by rw [e _ (by omega)]; exact d4, d4'⟩, fun j hj => by rw [e _ (by omega), e _ (by omega)]; exact d5 j hj, fun j hj => ?_⟩
    by_cases hjk : j = k
    · subst hjk
      exact Or.inr hpk
    · rcases d6 j hj with q | q
      · exact Or.inl (by rw [e _ (by omega), e _ (by omega)]; exact q)
      · exact Or.inr (hpr j hjk q)
  refine ⟨⟨⟨hdk 0 (by omega) i0, hdk 1 (by omega) i1, by rw [e _ (by omega)]; exact i3, i3', by rw [e _ (by omega)]; exact i4, i4', by rw [e _ (by omega)]; exact i2, i2', fun l hl => ?_⟩, i_pst_agP hps (fun j hj => e j (by omega)), fun p hp => ?_⟩, hpk⟩
  · obtain ⟨b, q, c1, c2, c3, c4, c5⟩ := il l hl
    refine ⟨b, q, c1, c2, by rw [e _ (by omega)]; exact c3, by rw [e _ (by omega)]; exact c4, fun hn => ?_⟩
    obtain ⟨k', a1, a2, a3, a4, a5, a6, a7, f, t, a8, a9, a10, a11, a12, a13⟩ := c5 hn
    refine ⟨k', a1, a2, a3, a4, by rw [e _ (by omega)]; exact a5, by rw [e _ (by omega)]; exact a6, by rw [e _ (by omega)]; exact a7, f, t, a8, a9, a10, by rw [e _ (by omega)]; exact a11, by rw [e _ (by omega)]; exact a12, ?_⟩
    rcases a13 with q0 | ⟨q1, q2, q3, q4, q5⟩
    · exact Or.inl (by rw [e _ (by omega)]; exact q0)
    · have hk' := hne k' q2
      exact Or.inr ⟨by rw [e _ (by omega)]; exact q1, hpr k' hk' q2, q3, by rw [e _ (by omega)]; exact q4, by rw [e _ (by omega)]; exact q5⟩
  · have hd : i_dk r p n lim := by
      have : p = 0 ∨ p = 1 := by omega
      rcases this with rfl | rfl
      · exact i0
      · exact i1
    exact i_bd_same hd.2.1 (by have := n_mad hd; omega) hp (fun j hj => e j (by omega)) (hbd p hp)
/-- what a player who may promise has -/
theorem o_mayp_k {r : Nat → Int32} {n lim np L d p m : Nat} {ρ : List Nat} (hp : p < 2) (hi : IG r n lim np L d ρ) (hm : r (12 + 7 * p) = Int32.ofNat m) (hml : m ≤ lim) (h : o_mayp r p n m L) : m < lim ∧ o_maker (m + 1) = 1 - p ∧ o_maker (m + 2) = p := by
  have hlt := o_turn_lt hp (i_dk_of hi.1 hp) hm hml h.1
  have hne : ¬ o_maker (m + 1) = p := fun q => h.2.1 (by
    unfold o_turn
    have h1 := h.1
    rw [Bool.not_eq_true] at h1
    rw [h1, q]
    simp)
  refine ⟨hlt, ?_, ?_⟩
  · unfold o_maker at *
    split at hne <;> split <;> omega
  · unfold o_maker at *
    split at hne <;> split <;> omega
theorem o_ams_k {r : Nat → Int32} {n lim p m f t rf rt : Nat} (hd : i_dk r p n lim) (hlt : m < lim) (h : o_ams r p n m f t rf rt = true) : m + 2 ≤ lim ∧ f ≠ t ∧ rf ≠ rt := by
  unfold o_ams at h
  rw [Bool.and_eq_true, Bool.and_eq_true, Bool.and_eq_true, decide_eq_true_eq] at h
  obtain ⟨h1, h2, h3, h4⟩ := h
  have h60 := hd.2.2.2.1
  rw [hd.2.2.1, n_eq (by omega) (by omega)] at h2
  exact ⟨by omega, (o_moves_f h1).2, (o_moves_f h4).2⟩
theorem IG_prom {r : Nat → Int32} {n lim np L d p q m f t rf rt : Nat} {ρ : List Nat} (hp : p < 2) (hq : q < np) (hf : f < n * n) (ht : t < n * n) (hrf : rf < n * n) (hrt : rt < n * n) (hi : IG r n lim np L d ρ) (hm : r (12 + 7 * p) = Int32.ofNat m) (hml : m ≤ lim) (h : o_mayp r p n m L) (hM : o_ams r p n m f t rf rt = true) : IG (o_prom r p q (m + 2) f t rf rt L) n lim np (L + 1) d ρ := by
  obtain ⟨hlt, hk1, hk2⟩ := o_mayp_k hp hi hm hml h
  have hd := i_dk_of hi.1 hp
  obtain ⟨k1, k2, k3⟩ := o_ams_k hd hlt hM
  have h60 := hd.2.2.2.1
  obtain ⟨g1, g2⟩ := IG_prm hi (by omega : m + 2 ≤ 60) h.2.2.1 hf ht k2 hrf hrt k3
  obtain ⟨p0, p1, p2, p3, p4⟩ := o_prm_f (r := r) (k := m + 2) (v0 := Int32.ofNat f) (v1 := Int32.ofNat t) (v2 := Int32.ofNat rf) (v3 := Int32.ofNat rt)
  exact IG_post g1 h.2.2.2 hp hq (by omega) (by omega) hrf hrt k3 (Or.inr ⟨rfl, g2, hk2, p2, p3⟩)
theorem i_ok_prom {r : Nat → Int32} {n np L p q k f t rf rt : Nat} (hk : k ≤ 60) (h : i_ok r n np L) : i_ok (o_prom r p q k f t rf rt L) n np (L + 1) := by
  unfold o_prom
  exact i_ok_post (i_ok_same h (fun j hj => o_prm_at (by omega)))
/-! the class: a promise is kept -/
theorem q_dk_prm {M M' : Nat → Nat → Int32} {e p n k : Nat} {r : Nat → Int32} {v0 v1 v2 v3 : Int32} (h8 : n ≤ 8) (h60 : o_mad r p ≤ 60) (hp : p < 2) (hk : k ≤ 60) (h : q_dk M e r p n)
    (f : ∀ q, e ≤ q → q < e + 9 → q ≠ e + 7 → q ≠ e + 8 → M' q = M q) (g7 : ∀ j, j ≠ k → M' (e + 7) j = M (e + 7) j) (g8 : ∀ j, j ≠ k → M' (e + 8) j = M (e + 8) j)
    (gk : (o_prm r k v0 v1 v2 v3 (762 + 6 * k + o_fl p k) = 0 → M' (e + 7) k = -1 ∧ M' (e + 8) k = -1) ∧ (¬ o_prm r k v0 v1 v2 v3 (762 + 6 * k + o_fl p k) = 0 → M' (e + 7) k = v0 * 64 + v1 ∧ M' (e + 8) k = v2 * 64 + v3)) : q_dk M' e (o_prm r k v0 v1 v2 v3) p n := by
  obtain ⟨p0, p1, p2, p3, p4⟩ := o_prm_f (r := r) (k := k) (v0 := v0) (v1 := v1) (v2 := v2) (v3 := v3)
  have e' : ∀ j, (j < 762 + 6 * k ∨ 762 + 6 * k + 4 < j) → o_prm r k v0 v1 v2 v3 j = r j := fun j hj => o_prm_at hj
  generalize o_prm r k v0 v1 v2 v3 = r' at *
  unfold q_dk at *
  have em : o_mad r' p = o_mad r p := by unfold o_mad; rw [e' _ (by omega)]
  rw [em]
  obtain ⟨a0, a1, a2, a3, a4, a5, a6, a7, a8, a9⟩ := h
  have fe := f e (by omega) (by omega) (by omega) (by omega)
  refine ⟨by rw [fe]; exact a0, b_row h8 h60 (fun j hj => e' j (by omega)) (b_frame (M := M) (fun q h1 h2 => f q (by omega) (by omega) (by omega) (by omega)) a1), fun j hj => by rw [f (e + 6) (by omega) (by omega) (by omega) (by omega), e' _ (by omega), e' _ (by omega)]; exact a2 j hj, fun j hj => ?_, ?_, by rw [fe, e' _ (by omega)]; exact a5, by rw [fe, e' _ (by omega)]; exact a6, by rw [fe, e' _ (by omega)]; exact a7, by rw [fe, e' _ (by omega)]; exact a8, by rw [fe, e' _ (by omega)]; exact a9⟩
  · by_cases hjk : j = k
    · subst hjk
      rw [p0, p1, p2, p3]
      exact gk
    · have hfl := o_fl_or p j
      rw [g7 j hjk, g8 j hjk, e' _ (by omega), e' _ (by omega), e' _ (by omega), e' _ (by omega), e' _ (by omega)]
      exact a3 j hj
  · rw [fe, a4]
    refine congrArg Int32.ofNat ?_
    exact cnt_congr 60 (fun i hi => by rw [e' _ (by omega)])
theorem g_promise {g : ev_G} {S : ev_S} {e n lim np L d p q m f t rf rt : Nat} {r : Nat → Int32} {ρ : List Nat} (hp : p < 2) (hq : q < np) (hf : f < n * n) (ht : t < n * n) (hrf : rf < n * n) (hrt : rt < n * n) (hi : IG r n lim np L d ρ) (hm : r (12 + 7 * p) = Int32.ofNat m) (hml : m ≤ lim) (h : o_mayp r p n m L) (hM : o_ams r p n m f t rf rt = true) (hg : q_gm S.1 e r n L ρ) {Q : ev_O → ev_S → Prop}
    (hQ : ∀ z, q_fr S z e 36 → q_gm z.1 e (o_prom r p q (m + 2) f t rf rt L) n (L + 1) ρ → Q (.inl (some (ev_i (Int32.ofNat (m + 2))))) z) :
    ev_Cv g m_X2_makePromise 4 0 [ev_o 2 e, ev_i (Int32.ofNat p), ev_i (Int32.ofNat q), ev_i (Int32.ofNat (f * 64 + t)), ev_i (Int32.ofNat (rf * 64 + rt))] S Q := by
  obtain ⟨hlt, hk1, hk2⟩ := o_mayp_k hp hi hm hml h
  have hd := i_dk_of hi.1 hp
  obtain ⟨k1, k2, k3⟩ := o_ams_k hd hlt hM
  have h60 := hd.2.2.2.1
  have h8 := hd.2.1
  have hL := h.2.2.2
  obtain ⟨g1, g2⟩ := IG_prm hi (by omega : m + 2 ≤ 60) h.2.2.1 hf ht k2 hrf hrt k3
  have hdk := hg.1 p hp
  have e6 : S.1 (e + 1 + 9 * p + 1) 6 = Int32.ofNat m := by
    have := hdk.2.1.2.2.2.2.2.1
    rw [hm] at this
    exact this
  refine sg_X2_makePromise_0 e _ _ _ _ ?_
  rw [a_desk hp, e6, n_inc, n_inc]
  intro S1 e1
  rw [a_put (by omega) (by omega), a_put (by omega) (by omega)] at e1
  have x1 : ∀ y, y ≠ e + 1 + 9 * p + 7 → y ≠ e + 1 + 9 * p + 8 → S1.1 y = S.1 y := fun y h1 h2 => by rw [e1, m_r h2, m_r h1]
  have x7 : ∀ j, S1.1 (e + 1 + 9 * p + 7) j = if j = m + 2 then Int32.ofNat (f * 64 + t) else S.1 (e + 1 + 9 * p + 7) j := fun j => by
    rw [e1, m_r (by omega)]
    by_cases hj : j = m + 2
    · rw [if_pos hj, hj]; exact m_s _ _ _ _
    · rw [if_neg hj]; exact m_k hj
  have x8 : ∀ j, S1.1 (e + 1 + 9 * p + 8) j = if j = m + 2 then Int32.ofNat (rf * 64 + rt) else S.1 (e + 1 + 9 * p + 8) j := fun j => by
    rw [e1]
    by_cases hj : j = m + 2
    · rw [if_pos hj, hj]; exact m_s _ _ _ _
    · rw [if_neg hj]
      have : (ev_up (ev_up S (e + 1 + 9 * p + 7) (m + 1 + 1) (Int32.ofNat (f * 64 + t))) (e + 1 + 9 * p + 8) (m + 1 + 1) (Int32.ofNat (rf * 64 + rt))).1 (e + 1 + 9 * p + 8) j = (ev_up S (e + 1 + 9 * p + 7) (m + 1 + 1) (Int32.ofNat (f * 64 + t))).1 (e + 1 + 9 * p + 8) j := m_k hj
      rw [this, m_r (by omega)]
  have agp : agP r (o_prm r (m + 2) (Int32.ofNat f) (Int32.ofNat t) (Int32.ofNat rf) (Int32.ofNat rt)) := fun j hj => o_prm_at (by omega)
  have gm1 : q_gm S1.1 e (o_prm r (m + 2) (Int32.ofNat f) (Int32.ofNat t) (Int32.ofNat rf) (Int32.ofNat rt)) n L ρ := by
    refine ⟨fun p' hp' => ?_, ?_, fun l hl => ?_, ?_, ?_⟩
    · have hmd := n_mad (i_dk_of hi.1 hp')
      by_cases hpp : p' = p
      · subst hpp
        have hfl : o_fl p' (m + 2) = 4 := if_pos hk2
        refine q_dk_prm h8 (by omega) hp' (by omega) hdk (fun y h1 h2 h3 h4 => x1 y h3 h4) (fun j hj => by rw [x7, if_neg hj]) (fun j hj => by rw [x8, if_neg hj]) ?_
        rw [hfl, o_prm_f.2.2.2.2, x7, x8, if_pos rfl, if_pos rfl, n_mvn, n_mvn]
        exact ⟨fun h0 => absurd h0 (by decide), fun _ => ⟨rfl, rfl⟩⟩
      · have hfl : o_fl p' (m + 2) = 5 := if_neg (fun hh => hpp (hh.symm.trans hk2))
        have hdk' := hg.1 p' hp'
        have hz5 : r (762 + 6 * (m + 2) + 5) = 0 := by
          rcases hd.2.2.2.2.2.2 (m + 2) (by omega) with z | z
          · exact z.2
          · obtain ⟨_, _, _, _, _, _, _, _, _, _, _, _, _, _, z4, _⟩ := z
            rw [h.2.2.1] at z4
            exact absurd z4 (by decide)
        refine q_dk_prm h8 (by omega) hp' (by omega) hdk' (fun y h1 h2 h3 h4 => x1 y (by omega) (by omega)) (fun j hj => by rw [x1 _ (by omega) (by omega)]) (fun j hj => by rw [x1 _ (by omega) (by omega)]) ?_
        have h3 := hdk'.2.2.2.1 (m + 2) (by omega)
        rw [hfl, hz5] at h3
        rw [hfl, o_prm_at (by omega), hz5, x1 _ (by omega) (by omega), x1 _ (by omega) (by omega)]
        exact ⟨h3.1, fun hh => absurd rfl hh⟩
    · have hp1 : q_pst S.1 (e + 19) (o_prm r (m + 2) (Int32.ofNat f) (Int32.ofNat t) (Int32.ofNat rf) (Int32.ofNat rt)) L ρ := ⟨q_mid_agP hg.2.1.1 agp, hg.2.1.2⟩
      exact q_pst_frame (M := S.1) (fun y h1 h2 => x1 y (by omega) (by omega)) hp1
    · have c := hg.2.2.1 l hl
      obtain ⟨k', hl'⟩ := IR_let hi.1 hl
      obtain ⟨b1, b2, b3, b4, b5, b6, b7, ff, tt, b8, b9, b10, b11, b12, b13⟩ := hl'
      unfold q_con at c ⊢
      rw [x1 _ (by omega) (by omega), x1 _ (by omega) (by omega), x1 _ (by omega) (by omega), o_prm_at (by omega), o_prm_at (by omega), o_prm_at (by omega), o_prm_at (by omega)]
      refine ⟨c.1, c.2.1, ?_⟩
      rw [c.2.2]
      by_cases h1 : r (1200 + 11 * l + 2) = 1
      · rw [if_pos h1, if_pos h1, b7, n_c (by omega)]
        rcases b13 with z | z
        · rw [z] at h1
          exact absurd h1 (by decide)
        · have hkk : k' ≠ m + 2 := fun hh => by
            obtain ⟨_, _, _, _, _, _, _, _, _, _, _, _, _, _, z4, _⟩ := z.2.1
            rw [hh, h.2.2.1] at z4
            exact absurd z4 (by decide)
          rw [o_prm_at (by omega), o_prm_at (by omega)]
      · rw [if_neg h1, if_neg h1]
    · rw [x1 _ (by omega) (by omega), o_prm_at (by omega)]
      exact hg.2.2.2.1
    · rw [x1 _ (by omega) (by omega), o_prm_at (by omega)]
      exact hg.2.2.2.2
  have s4 : S1.1 e 4 = o_prm r (m + 2) (Int32.ofNat f) (Int32.ofNat t) (Int32.ofNat rf) (Int32.ofNat rt) 2 := gm1.2.2.2.1
  rw [s4]
  refine p_add (x2 := 1) (x3 := Int32.ofNat (m + 2)) (x4 := Int32.ofNat rf) (x5 := Int32.ofNat rt) g1.2.1.1 hL hp hq gm1.2.1 (fun w w0 w1 w2 w6 w7 w8 => ⟨_, rfl, ?_⟩)
  have fr : ∀ y, y < e + 19 ∨ e + 36 ≤ y → w.1 y = S1.1 y := fun y hy => w1 y (by omega) (by omega) (by omega) (by omega) (by omega) (by omega) (by omega) (by omega) (by omega)
  obtain ⟨p0, p1, p2, p3, p4⟩ := o_prm_f (r := r) (k := m + 2) (v0 := Int32.ofNat f) (v1 := Int32.ofNat t) (v2 := Int32.ofNat rf) (v3 := Int32.ofNat rt)
  have gw := q_gm_add (k := m + 2) (isp := 1) (M' := w.1) g1 hL (by omega) gm1 (fun y h1 h2 => fr y (by omega)) w2 w6 (fun j => by rw [n_mvn]; exact w7 j) (fun j => by rw [if_pos (rfl : (1 : Int32) = 1), p0, p1, n_mvn]; exact w8 j)
  exact hQ w ⟨w0.trans (by rw [e1]; rfl), fun x hx => by rw [fr x (by omega), x1 x (by omega) (by omega)]⟩ gw
