/-! ===== the law's own game: a letter arrives ===== -/
theorem w_gm_dup {M M' : Nat → Nat → Int32} {a L : Nat} {r : Nat → Int32} {v : Int32} (hmad : ∀ p, p < 2 → o_mad r p ≤ 60) (f : ∀ q, q ≠ a → M' q = M q) (fa : ∀ k, k ≠ 5 → M' a k = M a k) (e : M' a 5 = v) (h : w_gm M a r L) : w_gm M' a (upd r 5 v) L := by
  obtain ⟨h1, h2, h3, h4, h5, ⟨⟨hd0, h6⟩, ⟨h7, h7'⟩, h8⟩⟩ := h
  have er : ∀ j, j ≠ 5 → upd r 5 v j = r j := fun j hj => u_k hj
  refine ⟨fun k hk => ?_, w_bds hmad (fun q q1 q2 => f q (by omega)) (fun j hj => er j (by omega)) h2, w_ps_row (fun j j1 j2 => er j (by omega)) (w_ps_fr (fun q q1 q2 => f q (by omega)) h3), fun l hl => w_lt_row (fun w hw => er _ (by omega)) (w_lt_fr (fun q q1 q2 => f q (by omega)) (h4 l hl)), fun k hk => w_pr_row (fun w hw => er _ (by omega)) (w_pr_fr (fun q q1 q2 => f q (by omega)) (h5 k hk)), ⟨⟨by rw [er 2 (by omega)]; exact hd0, fun p hp => by rw [er _ (by omega)]; exact h6 p hp⟩, ⟨by rw [er 772 (by omega)]; exact h7, by rw [er 773 (by omega)]; exact h7'⟩, fun l hl => by rw [er _ (by omega), er (1200 + 11 * l + 3) (by omega)]; exact h8 l hl⟩⟩
  by_cases hk5 : k = 5
  · subst hk5
    rw [e, u_s]
  · rw [fa k hk5, er k hk5]
    exact h1 k hk
theorem w_gm_known {M M' : Nat → Nat → Int32} {a L k0 : Nat} {r : Nat → Int32} (hmad : ∀ p, p < 2 → o_mad r p ≤ 60) (hk0 : k0 ≤ 62) (hk1 : k0 ≠ 1) (f : ∀ q, q ≠ a + 31 → M' q = M q) (fa : ∀ k, k ≠ k0 → M' (a + 31) k = M (a + 31) k) (e : M' (a + 31) k0 = 1) (h : w_gm M a r L) : w_gm M' a (upd r (762 + 6 * k0 + 5) 1) L := by
  obtain ⟨h1, h2, h3, h4, h5, ⟨⟨hd0, h6⟩, ⟨h7, h7'⟩, h8⟩⟩ := h
  have er : ∀ j, j ≠ 762 + 6 * k0 + 5 → upd r (762 + 6 * k0 + 5) 1 j = r j := fun j hj => u_k hj
  refine ⟨fun k hk => by rw [f a (by omega), er k (by omega)]; exact h1 k hk, w_bds hmad (fun q q1 q2 => f q (by omega)) (fun j hj => er j (by omega)) h2, w_ps_row (fun j j1 j2 => er j (by omega)) (w_ps_fr (fun q q1 q2 => f q (by omega)) h3), fun l hl => w_lt_row (fun w hw => er _ (by omega)) (w_lt_fr (fun q q1 q2 => f q (by omega)) (h4 l hl)), fun k hk => ?_, ⟨⟨by rw [er 2 (by omega)]; exact hd0, fun p hp => by rw [er _ (by omega)]; exact h6 p hp⟩, ⟨by rw [er 772 (by omega)]; exact h7, by rw [er 773 (by omega)]; exact h7'⟩, fun l hl => by rw [er _ (by omega), er (1200 + 11 * l + 3) (by omega)]; exact h8 l hl⟩⟩
  have hw := h5 k hk
  by_cases hkk : k = k0
  · subst hkk
    unfold w_pr at hw ⊢
    rw [f (a + 30) (by omega), f (a + 32) (by omega), f (a + 33) (by omega), f (a + 34) (by omega), f (a + 35) (by omega), e, u_s, er (762 + 6 * k + 4) (by omega), er (762 + 6 * k) (by omega), er (762 + 6 * k + 1) (by omega), er (762 + 6 * k + 2) (by omega), er (762 + 6 * k + 3) (by omega)]
    exact ⟨hw.1, rfl, hw.2.2⟩
  · refine w_pr_row (fun w hw => er _ (by omega)) ?_
    unfold w_pr at hw ⊢
    rw [f (a + 30) (by omega), f (a + 32) (by omega), f (a + 33) (by omega), f (a + 34) (by omega), f (a + 35) (by omega), fa k hkk]
    exact hw
theorem w_gm_st {M M' : Nat → Nat → Int32} {a p k0 L : Nat} {r : Nat → Int32} {x y : Int32} (hp : p < 2) (hk0 : k0 ≤ 60) (hmad : ∀ p, p < 2 → o_mad r p ≤ 60) (f : ∀ q, q ≠ a + 2 + 7 * p + 4 → q ≠ a + 2 + 7 * p + 5 → M' q = M q)
    (f4 : ∀ k, k ≠ k0 → M' (a + 2 + 7 * p + 4) k = M (a + 2 + 7 * p + 4) k) (f5 : ∀ k, k ≠ k0 → M' (a + 2 + 7 * p + 5) k = M (a + 2 + 7 * p + 5) k) (v4 : M' (a + 2 + 7 * p + 4) k0 = x) (v5 : M' (a + 2 + 7 * p + 5) k0 = y) (h : w_gm M a r L) : w_gm M' a (upd (upd r (514 + 124 * p + 2 * k0) x) (514 + 124 * p + 2 * k0 + 1) y) L := by
  have e : ∀ j, j ≠ 514 + 124 * p + 2 * k0 → j ≠ 514 + 124 * p + 2 * k0 + 1 → upd (upd r (514 + 124 * p + 2 * k0) x) (514 + 124 * p + 2 * k0 + 1) y j = r j := fun j j1 j2 => by rw [u_k j2, u_k j1]
  have em : o_mad (upd (upd r (514 + 124 * p + 2 * k0) x) (514 + 124 * p + 2 * k0 + 1) y) p = o_mad r p := by unfold o_mad; rw [e _ (by omega) (by omega)]
  obtain ⟨b1, b2, b3, b4, b5, b6, b7, b8, b9⟩ := h.2.1 p hp
  refine w_gm_own hp hmad (fun j hj => e j (fun q => hj (by unfold o_own; omega)) (fun q => hj (by unfold o_own; omega))) (fun q q1 q2 q3 => f q (by omega) (by omega)) ?_ (by rw [e _ (by omega) (by omega)]; exact h.2.2.2.2.2.1.2 p hp) h
  have hm60 := hmad p hp
  refine ⟨fun s hs => by rw [f _ (by omega) (by omega), e _ (by omega) (by omega)]; exact b1 s hs, fun k hk => ?_, fun k hk => ?_, by rw [f _ (by omega) (by omega), e _ (by omega) (by omega)]; exact b4, by rw [f _ (by omega) (by omega), e _ (by omega) (by omega)]; exact b5, by rw [f _ (by omega) (by omega), e _ (by omega) (by omega)]; exact b6, by rw [f _ (by omega) (by omega), e _ (by omega) (by omega)]; exact b7, by rw [f _ (by omega) (by omega), e _ (by omega) (by omega)]; exact b8, by rw [f _ (by omega) (by omega), e _ (by omega) (by omega)]; exact b9⟩
  · rw [em] at hk
    rw [f _ (by omega) (by omega), f _ (by omega) (by omega), e _ (by omega) (by omega), e (154 + 180 * p + 3 * k + 1) (by omega) (by omega)]
    exact b2 k hk
  · by_cases hkk : k = k0
    · subst hkk
      rw [v4, v5, u_s, u_k (by omega), u_s]
      exact ⟨rfl, fun _ => rfl⟩
    · rw [f4 k hkk, f5 k hkk, e _ (by omega) (by omega), e (514 + 124 * p + 2 * k + 1) (by omega) (by omega)]
      exact b3 k hk
/-- the post's part of it -/
theorem w_gm_arr {M M' : Nat → Nat → Int32} {a L l b q : Nat} {r : Nat → Int32} (hL : L ≤ 81) (hl : l < L) (hb : b < 2) (hq : q < 4) (hmad : ∀ p, p < 2 → o_mad r p ≤ 60)
    (f : ∀ j, j ≠ a → j ≠ a + 17 → j ≠ a + 24 → j ≠ a + 28 → M' j = M j) (f24 : M' (a + 24) = upd (M (a + 24)) l 2) (f28 : M' (a + 28) = upd (M (a + 28)) l (M a 2)) (f17 : M' (a + 17) = upd (M (a + 17)) (2 * q + (1 - b)) (M (a + 17) (2 * q + (1 - b)) + 1))
    (fa : ∀ k, k ≠ 7 → k ≠ 8 → M' a k = M a k) (f7 : M' a 7 = M a 7 + (M a 2 - M (a + 25) l)) (f8 : M' a 8 = M a 8 + 1) (h : w_gm M a r L) : w_gm M' a (o_arr r l b q) L := by
  obtain ⟨h1, h2, h3, h4, h5, ⟨⟨hd0, h6⟩, ⟨h7, h7'⟩, h8⟩⟩ := h
  have er : ∀ j, j ≠ 1200 + 11 * l + 6 → j ≠ 1200 + 11 * l + 10 → j ≠ 1140 + 15 * q + (1 + (1 - b)) → j ≠ 7 → j ≠ 8 → o_arr r l b q j = r j := fun j j1 j2 j3 j4 j5 => o_arr_at j1 j2 j3 j4 j5
  have v6 : o_arr r l b q (1200 + 11 * l + 6) = 2 := by rw [o_arr, u_k (by omega), u_k (by omega), u_k (by omega), u_k (by omega), u_s]
  have v10 : o_arr r l b q (1200 + 11 * l + 10) = r 2 := by rw [o_arr, u_k (by omega), u_k (by omega), u_k (by omega), u_s]
  have vs : o_arr r l b q (1140 + 15 * q + (1 + (1 - b))) = r (1140 + 15 * q + (1 + (1 - b))) + 1 := by rw [o_arr, u_k (by omega), u_k (by omega), u_s]
  have v7 : o_arr r l b q 7 = r 7 + (r 2 - r (1200 + 11 * l + 7)) := by rw [o_arr, u_k (by omega), u_s]
  have v8 : o_arr r l b q 8 = r 8 + 1 := by rw [o_arr, u_s]
  refine ⟨fun k hk => ?_, w_bds hmad (fun q q1 q2 => f q (by omega) (by omega) (by omega) (by omega)) (fun j hj => er j (by omega) (by omega) (by omega) (by omega) (by omega)) h2, fun q' hq' => ?_, fun l' hl' => ?_, fun k hk => w_pr_row (fun w hw => er _ (by omega) (by omega) (by omega) (by omega) (by omega)) (w_pr_fr (fun q q1 q2 => f q (by omega) (by omega) (by omega) (by omega)) (h5 k hk)), ⟨⟨by rw [er 2 (by omega) (by omega) (by omega) (by omega) (by omega)]; exact hd0, fun p hp => by rw [er _ (by omega) (by omega) (by omega) (by omega) (by omega)]; exact h6 p hp⟩, ⟨by rw [er 772 (by omega) (by omega) (by omega) (by omega) (by omega)]; exact h7, by rw [er 773 (by omega) (by omega) (by omega) (by omega) (by omega)]; exact h7'⟩, fun l hl => by rw [er _ (by omega) (by omega) (by omega) (by omega) (by omega), er (1200 + 11 * l + 3) (by omega) (by omega) (by omega) (by omega) (by omega)]; exact h8 l hl⟩⟩
  · by_cases k7 : k = 7
    · rw [k7, f7, v7, h1 7 (by omega), h1 2 (by omega), (h4 l hl).2.2.2.2.2.2.2.1]
    · by_cases k8 : k = 8
      · rw [k8, f8, v8, h1 8 (by omega)]
      · rw [fa k k7 k8, er k (by omega) (by omega) (by omega) k7 k8]
        exact h1 k hk
  · obtain ⟨g1, g2, g3⟩ := h3 q' hq'
    refine ⟨by rw [f (a + 16) (by omega) (by omega) (by omega) (by omega), er _ (by omega) (by omega) (by omega) (by omega) (by omega)]; exact g1, fun s hs => ?_, fun t ht => by rw [f (a + 18) (by omega) (by omega) (by omega) (by omega), er _ (by omega) (by omega) (by omega) (by omega) (by omega)]; exact g3 t ht⟩
    rw [f17]
    by_cases hqs : 2 * q' + s = 2 * q + (1 - b)
    · have hq2 : q' = q := by omega
      have hs2 : s = 1 - b := by omega
      subst hq2 hs2
      rw [u_s, vs, g2 _ (by omega)]
    · rw [u_k hqs, er _ (by omega) (by omega) (by omega) (by omega) (by omega)]
      exact g2 s hs
  · have hw := h4 l' hl'
    by_cases hll : l' = l
    · subst hll
      obtain ⟨w0, w1, w2, w3, w4, w5, w6, w7, w8, w9⟩ := hw
      unfold w_lt
      rw [f24, f28, u_s, u_s, f (a + 19) (by omega) (by omega) (by omega) (by omega), f (a + 20) (by omega) (by omega) (by omega) (by omega), f (a + 29) (by omega) (by omega) (by omega) (by omega), f (a + 21) (by omega) (by omega) (by omega) (by omega), f (a + 22) (by omega) (by omega) (by omega) (by omega), f (a + 23) (by omega) (by omega) (by omega) (by omega), f (a + 25) (by omega) (by omega) (by omega) (by omega), v6, v10,
        er (1200 + 11 * l') (by omega) (by omega) (by omega) (by omega) (by omega), er (1200 + 11 * l' + 1) (by omega) (by omega) (by omega) (by omega) (by omega), er (1200 + 11 * l' + 2) (by omega) (by omega) (by omega) (by omega) (by omega), er (1200 + 11 * l' + 3) (by omega) (by omega) (by omega) (by omega) (by omega), er (1200 + 11 * l' + 4) (by omega) (by omega) (by omega) (by omega) (by omega), er (1200 + 11 * l' + 5) (by omega) (by omega) (by omega) (by omega) (by omega), er (1200 + 11 * l' + 7) (by omega) (by omega) (by omega) (by omega) (by omega)]
      exact ⟨w0, w1, w2, w3, w4, w5, rfl, w7, fun h9 => absurd h9 (by decide), fun _ => h1 2 (by omega)⟩
    · refine w_lt_row (fun w hw => er _ (by omega) (by omega) (by omega) (by omega) (by omega)) ?_
      unfold w_lt at hw ⊢
      rw [f24, f28, u_k hll, u_k hll, f (a + 19) (by omega) (by omega) (by omega) (by omega), f (a + 20) (by omega) (by omega) (by omega) (by omega), f (a + 29) (by omega) (by omega) (by omega) (by omega), f (a + 21) (by omega) (by omega) (by omega) (by omega), f (a + 22) (by omega) (by omega) (by omega) (by omega), f (a + 23) (by omega) (by omega) (by omega) (by omega), f (a + 25) (by omega) (by omega) (by omega) (by omega), f (a + 26) (by omega) (by omega) (by omega) (by omega), f (a + 27) (by omega) (by omega) (by omega) (by omega)]
      exact hw
theorem i_bd_take {r : Nat → Int32} {p k n : Nat} {isp f t : Int32} (hk : k ≤ 60) (h8 : n ≤ 8) (h60 : o_mad r p ≤ 60) (hp : p < 2) (h : i_bd r p n) : i_bd (o_take r p k isp f t) p n := by
  refine i_bd_same h8 h60 hp (fun j hj => ?_) h
  unfold o_take
  split
  · split
    · rw [u_k (by omega)]
    · rw [u_k (by omega)]
  · split
    · rw [u_k (by omega)]
    · split
      · rw [u_k (by omega), u_k (by omega)]
      · rw [u_k (by omega)]
theorem o_take_mad {r : Nat → Int32} {p k p' : Nat} {isp f t : Int32} (hk : k ≤ 60) (hp : p < 2) (hp' : p' < 2) : o_mad (o_take r p k isp f t) p' = o_mad r p' := by
  unfold o_mad o_take
  split
  · split
    · rw [u_k (by omega)]
    · rw [u_k (by omega)]
  · split
    · rw [u_k (by omega)]
    · split
      · rw [u_k (by omega), u_k (by omega)]
      · rw [u_k (by omega)]
/-- the reader's part of it -/
theorem w_reads {g : ev_G} {S : ev_S} {a n lim L l b q k : Nat} {r : Nat → Int32} (hL : L ≤ 81) (hl : l < L) (hlet : i_let r n l b q k) (hdk : i_dk r (1 - b) n lim) (hbd : i_bd r (1 - b) n) (hmad : ∀ p, p < 2 → o_mad r p ≤ 60) (h : w_gm S.1 a r L) {Q : ev_O → ev_S → Prop}
    (hQ : ∀ z, w_kp S z a → w_gm z.1 a (o_read r n l) L → Q (.inl none) z) : ev_E g m_X11_arrives 4 0 91 [some (ev_o 11 a), some (ev_i (Int32.ofNat l)), some (ev_i (Int32.ofNat (1 - b))), some (ev_i (Int32.ofNat k)), none] [] S Q := by
  rw [rd_eq hlet] at hQ
  obtain ⟨hb, hq, hk1, hk, eb, eq, ek, f, t, hf, ht, hft, ef, et, hi⟩ := hlet
  obtain ⟨w0, w1, w2, w3, w4, w5, w6, w7, w8, w9⟩ := h.2.2.2.1 l hl
  have hp : 1 - b < 2 := by omega
  have hmp := hmad (1 - b) hp
  have hpi : r (1200 + 11 * l + 2) = 1 → i_pr r n k := fun h9 => by
    rcases hi with h10 | h10
    · rw [h10] at h9; exact absurd h9 (by decide)
    · exact h10.2.1
  have hdt := i_dk_take (isp := r (1200 + 11 * l + 2)) hp hk1 hk hf ht hft hpi hdk
  have hbt : i_bd (o_take r (1 - b) k (r (1200 + 11 * l + 2)) (Int32.ofNat f) (Int32.ofNat t)) (1 - b) n := i_bd_take hk hdk.2.1 hmp hp hbd
  have hmt : ∀ p, p < 2 → o_mad (o_take r (1 - b) k (r (1200 + 11 * l + 2)) (Int32.ofNat f) (Int32.ofNat t)) p ≤ 60 := fun p' hp' => by rw [o_take_mad hk hp hp']; exact hmad p' hp'
  rw [ef, et] at hQ
  generalize hP : 1 - b = p at *
  -- the letter taken in, moves are applied
  have fin : ∀ T : ev_S, w_kp S T a → w_gm T.1 a (o_take r p k (r (1200 + 11 * l + 2)) (Int32.ofNat f) (Int32.ofNat t)) L → ev_Cv g m_X11_goesOn 3 0 [ev_o 11 a, ev_i (Int32.ofNat p)] T (fun o z => o = .inl none ∧ Q (.inl none) z) := fun T t1 t2 =>
    w_goesOn hp hdt hbt hmt t2 (fun z z1 z2 => ⟨rfl, hQ z (w_kp_tr t1 (w_kp_b hp z1)) z2⟩)
  obtain ⟨b1, b2, b3, b4, b5, b6, b7, b8, b9⟩ := h.2.1 p hp
  obtain ⟨b31, b32⟩ := b3 k hk
  have e5 : S.1 a 5 = r 5 := h.1 5 (by omega)
  have emad : r (12 + 7 * p) = Int32.ofNat (o_mad r p) := by
    obtain ⟨m, hm, hml⟩ := hdk.2.2.2.2.1
    unfold o_mad
    rw [hm, n_c (by have := hdk.2.2.2.1; omega)]
  refine sg_X11_arrives_91 a _ _ _ ⟨(n_vp (by omega) (by omega)).mpr trivial, ?_⟩
  rw [n_c (by omega), n_c (by omega), w2]
  -- a duplicate is counted, or not
  have dup : ∀ (v : Int32) (T : ev_S), T = ev_up S a 5 (S.1 a 5 + v) → w_kp S T a ∧ w_gm T.1 a (upd r 5 (r 5 + v)) L := fun v T x => by
    have k1 : ∀ q, q ≠ a → T.1 q = S.1 q := fun q hq => by rw [x, m_r hq]
    have k2 : ∀ k, k ≠ 5 → T.1 a k = S.1 a k := fun k hk => by rw [x, m_k hk]
    refine ⟨w_kp_mk (by rw [x]; rfl) (fun q hq => k1 q (by omega)) (fun k hk => k2 k (by omega)) (fun q hq => k1 q (by omega)), w_gm_dup hmad k1 k2 (by rw [x, m_s, e5]) h⟩
  have d0 : upd r 5 (r 5 + 0) = r := by rw [Int32.add_zero, u_self]
  have hk62 : (S.1 (a + 31)) k = r (762 + 6 * k + 5) := (h.2.2.2.2.1 k (by omega)).2.1
  have lets : ∀ T : ev_S, w_kp S T a → T = ev_up S a 5 (S.1 a 5 + 0) ∨ T = ev_up S a 5 (S.1 a 5 + 1) → T.1 (a + 29) l = r (1200 + 11 * l + 2) ∧ T.1 (a + 22) l = Int32.ofNat f ∧ T.1 (a + 23) l = Int32.ofNat t := fun T _ x => by
    have k1 : ∀ q, q ≠ a → T.1 q = S.1 q := fun q hq => by rcases x with x | x <;> rw [x, m_r hq]
    exact ⟨by rw [k1 _ (by omega), w2], by rw [k1 _ (by omega), w4, ef], by rw [k1 _ (by omega), w5, et]⟩
  have h01 : ¬ (1 : Int32) = 0 := by decide
  refine ⟨fun i0 => ⟨(n_vp (by omega) (by omega)).mpr trivial, ?_⟩, fun i1 => ⟨(n_vp (by omega) (by omega)).mpr trivial, ?_⟩⟩
  · rw [w_bdA hp, b4, emad, n_le (by omega) (by omega), b31]
    have etk : o_take r p k (r (1200 + 11 * l + 2)) (Int32.ofNat f) (Int32.ofNat t) = if k ≤ o_mad r p then upd r 5 (r 5 + 1) else if r (514 + 124 * p + 2 * k) = -1 then upd (upd r (514 + 124 * p + 2 * k) (Int32.ofNat f)) (514 + 124 * p + 2 * k + 1) (Int32.ofNat t) else upd r 5 (r 5 + 1) := by
      unfold o_take
      rw [i0, if_neg (show ¬ (0 : Int32) = 1 by decide)]
    have old : o_take r p k (r (1200 + 11 * l + 2)) (Int32.ofNat f) (Int32.ofNat t) = upd r 5 (r 5 + 1) → ev_E g m_X11_arrives 4 0 143 [some (ev_o 11 a), some (ev_i (Int32.ofNat l)), some (ev_i (Int32.ofNat p)), some (ev_i (Int32.ofNat k)), some (ev_i 1)] [] S Q := fun eo => by
      refine sg_X11_arrives_143 a _ _ _ _ (j_neg h01 ?_)
      intro T x
      obtain ⟨t1, t2⟩ := dup 1 T x
      obtain ⟨l1, -, -⟩ := lets T t1 (Or.inr x)
      rw [← eo] at t2
      refine sg_X11_arrives_162 a _ _ _ _ ⟨(n_vp (by omega) (by omega)).mpr trivial, ?_⟩
      rw [n_c (by omega), l1]
      exact j_pos i0 (j_neg h01 (fin T t1 t2))
    refine ⟨fun c1 => old (by rw [etk, if_pos c1]), fun c1 => ⟨(n_vp (by omega) (by omega)).mpr trivial, ?_⟩⟩
    rw [if_neg c1] at etk
    have hsg : r (514 + 124 * p + 2 * k) = -1 ∨ 0 ≤ (r (514 + 124 * p + 2 * k)).toInt := by
      rcases hdk.2.2.2.2.2.1 k (by omega) with h9 | ⟨f', t', hf', -, -, e', -⟩
      · exact Or.inl h9
      · right
        have hn9 := sq_le hdk.2.1
        rw [e', n_i (by omega)]
        omega
    rw [n_neg1 hsg]
    refine ⟨fun c2 => ?_, fun c2 => old (by rw [etk, if_neg c2])⟩
    rw [if_pos c2] at etk
    refine sg_X11_arrives_143 a _ _ _ _ (j_pos rfl ?_)
    intro T x
    obtain ⟨t1, t2⟩ := dup 0 T x
    obtain ⟨l1, l2, l3⟩ := lets T t1 (Or.inl x)
    rw [d0] at t2
    refine sg_X11_arrives_162 a _ _ _ _ ⟨(n_vp (by omega) (by omega)).mpr trivial, ?_⟩
    rw [n_c (by omega), l1]
    refine j_pos i0 (j_pos rfl ⟨(n_vp (by omega) (by omega)).mpr trivial, (n_vp (by omega) (by omega)).mpr trivial, ?_⟩)
    rw [w_bdA hp, n_c (by omega), l2]
    intro S2 x2 S3 x3
    have l4 : S2.1 (a + 23) l = Int32.ofNat t := by rw [x2, m_r (by omega), l3]
    rw [l4] at x3
    have k3 : ∀ q, q ≠ a + 2 + 7 * p + 4 → q ≠ a + 2 + 7 * p + 5 → S3.1 q = T.1 q := fun q q1 q2 => by rw [x3, m_r q2, x2, m_r q1]
    refine fin S3 (w_kp_tr t1 (w_kp_mk (by rw [x3, x2]; rfl) (fun q hq => k3 q (by omega) (by omega)) (fun k _ => by rw [k3 a (by omega) (by omega)]) (fun q hq => k3 q (by omega) (by omega)))) ?_
    rw [etk]
    refine w_gm_st hp hk hmad k3 (fun k hk => by rw [x3, m_r (by omega), x2, m_k hk]) (fun k hk => by rw [x3, m_k hk, x2, m_r (by omega)]) (by rw [x3, m_r (by omega), x2, m_s]) (by rw [x3, m_s]) t2
  · have i1' : r (1200 + 11 * l + 2) = 1 := by
      rcases hi with h9 | h9
      · exact absurd h9 i1
      · exact h9.1
    have hkn1 : k ≠ 1 := by
      intro h9
      refine h.2.2.2.2.2.2.2 l hl i1' ?_
      rw [ek, h9]
      rfl
    have h05 : r (762 + 6 * k + 5) = 0 ∨ r (762 + 6 * k + 5) = 1 := by
      obtain ⟨_, _, _, _, -, -, -, -, -, -, -, -, -, -, -, h9⟩ := hpi i1'
      exact h9
    rw [hk62]
    have etk : o_take r p k (r (1200 + 11 * l + 2)) (Int32.ofNat f) (Int32.ofNat t) = if r (762 + 6 * k + 5) = 1 then upd r 5 (r 5 + 1) else upd r (762 + 6 * k + 5) 1 := by
      unfold o_take
      rw [i1', if_pos rfl]
    have last : ∀ (v : Int32) (r' : Nat → Int32) (T : ev_S), w_kp S T a → T = ev_up S a 5 (S.1 a 5 + 0) ∨ T = ev_up S a 5 (S.1 a 5 + 1) → (∀ p, p < 2 → o_mad r' p ≤ 60) → w_gm T.1 a r' L → o_take r p k (r (1200 + 11 * l + 2)) (Int32.ofNat f) (Int32.ofNat t) = upd r' (762 + 6 * k + 5) 1 →
        ev_E g m_X11_arrives 4 0 162 [some (ev_o 11 a), some (ev_i (Int32.ofNat l)), some (ev_i (Int32.ofNat p)), some (ev_i (Int32.ofNat k)), some (ev_i v)] [] T Q := fun v r' T t1 x hm' t2 eo => by
      obtain ⟨l1, l2, l3⟩ := lets T t1 x
      refine sg_X11_arrives_162 a _ _ _ _ ⟨(n_vp (by omega) (by omega)).mpr trivial, ?_⟩
      rw [n_c (by omega), l1]
      refine j_neg i1 ⟨(n_vp (by omega) (by omega)).mpr trivial, ?_⟩
      rw [n_c (by omega)]
      intro S2 x2
      have k3 : ∀ q, q ≠ a + 31 → S2.1 q = T.1 q := fun q q1 => by rw [x2, m_r q1]
      refine fin S2 (w_kp_tr t1 ⟨⟨by rw [x2]; rfl, fun q hq => k3 q (by omega)⟩, fun k _ => by rw [k3 a (by omega)], fun ⟨c1, c2, c3, c4, c5⟩ => by
        unfold w_bo
        rw [k3 (a + 8) (by omega), k3 (a + 15) (by omega), k3 (a + 29) (by omega), k3 (a + 30) (by omega), x2, m_u, r_s]
        exact ⟨c1, c2, c3, c4, w_bl_up (Or.inr rfl) c5⟩⟩) ?_
      rw [eo]
      exact w_gm_known hm' (by omega) hkn1 k3 (fun k hk => by rw [x2, m_k hk]) (by rw [x2, m_s]) t2
    rcases h05 with h9 | h9
    · rw [h9]
      rw [h9, if_neg (show ¬ (0 : Int32) = 1 by decide)] at etk
      refine sg_X11_arrives_143 a _ _ _ _ (j_pos rfl ?_)
      intro T x
      obtain ⟨t1, t2⟩ := dup 0 T x
      rw [d0] at t2
      exact last _ r T t1 (Or.inl x) hmad t2 etk
    · rw [h9]
      rw [h9, if_pos rfl] at etk
      refine sg_X11_arrives_143 a _ _ _ _ (j_neg h01 ?_)
      intro T x
      obtain ⟨t1, t2⟩ := dup 1 T x
      refine last _ (upd r 5 (r 5 + 1)) T t1 (Or.inr x) (fun p' hp' => by unfold o_mad; rw [u_k (by omega)]; exact hmad p' hp') t2 ?_
      rw [etk]
      funext j
      by_cases hj : j = 762 + 6 * k + 5
      · rw [hj, u_s, u_k (by omega), h9]
      · rw [u_k hj]
theorem w_arrives {g : ev_G} {S : ev_S} {a n lim np L d l b q : Nat} {r : Nat → Int32} {blk : Int32} (hI : IR r n lim np L d blk) (hbd : ∀ p, p < 2 → i_bd r p n) (hl : l < L) (hb : b < 2) (hq : q < 4) (eb : r (1200 + 11 * l) = Int32.ofNat b) (eq : r (1200 + 11 * l + 1) = Int32.ofNat q) (h : w_gm S.1 a r L) (hs : S.1 a 32 = blk) {Q : ev_O → ev_S → Prop}
    (hQ : ∀ z, w_kp S z a → w_gm z.1 a (o_come r n l b q blk) L → Q (.inl none) z) : ev_Cv g m_X11_arrives 4 0 [ev_o 11 a, ev_i (Int32.ofNat l)] S Q := by
  have hL := hI.2.2.2.2.2.1
  have hmad : ∀ p, p < 2 → o_mad r p ≤ 60 := fun p hp => by
    have : p = 0 ∨ p = 1 := by omega
    rcases this with rfl | rfl
    · obtain ⟨-, -, -, h60, ⟨m, hm, hml⟩, -⟩ := hI.1
      unfold o_mad
      rw [hm, n_c (by omega)]
      omega
    · obtain ⟨-, -, -, h60, ⟨m, hm, hml⟩, -⟩ := hI.2.1
      unfold o_mad
      rw [hm, n_c (by omega)]
      omega
  obtain ⟨w0, w1, w2, w3, w4, w5, w6, w7, w8, w9⟩ := h.2.2.2.1 l hl
  have e1b : (1 : Int32) - Int32.ofNat b = Int32.ofNat (1 - b) := n_sub 1 b (by omega)
  refine sg_X11_arrives_0 a _ ⟨(n_vp (by omega) (by omega)).mpr trivial, ?_⟩
  rw [n_c (by omega), w0, w1, w3, eb, eq, e1b, lm_2, n_add, n_c (by omega)]
  intro S1 x1 S2 x2
  refine ⟨(n_vp (by omega) (by omega)).mpr trivial, ?_⟩
  intro S3 x3 S4 x4 S5 x5
  have kfr : ∀ q, q ≠ a → q ≠ a + 17 → q ≠ a + 24 → q ≠ a + 28 → S5.1 q = S.1 q := fun q q0 q1 q2 q3 => by rw [x5, m_r q0, x4, m_r q0, x3, m_r q1, x2, m_r q3, x1, m_r q2]
  have ka : ∀ k, k ≠ 7 → k ≠ 8 → S5.1 a k = S.1 a k := fun k q7 q8 => by rw [x5, m_k q8, x4, m_k q7, x3, m_r (by omega), x2, m_r (by omega), x1, m_r (by omega)]
  have k24 : S5.1 (a + 24) = upd (S.1 (a + 24)) l 2 := by rw [x5, m_r (by omega), x4, m_r (by omega), x3, m_r (by omega), x2, m_r (by omega), x1, m_u, r_s]
  have k28 : S5.1 (a + 28) = upd (S.1 (a + 28)) l (S.1 a 2) := by rw [x5, m_r (by omega), x4, m_r (by omega), x3, m_r (by omega), x2, m_u, r_s, x1, m_r (by omega)]
  have k17 : S5.1 (a + 17) = upd (S.1 (a + 17)) (2 * q + (1 - b)) (S.1 (a + 17) (2 * q + (1 - b)) + 1) := by rw [x5, m_r (by omega), x4, m_r (by omega), x3, m_u, r_s, x2, m_r (by omega), x1, m_r (by omega)]
  have k7 : S5.1 a 7 = S.1 a 7 + (S.1 a 2 - S.1 (a + 25) l) := by rw [x5, m_k (by omega), x4, m_s]
  have k8 : S5.1 a 8 = S.1 a 8 + 1 := by rw [x5, m_s]
  have hkp : w_kp S S5 a := w_kp_mk (by rw [x5, x4, x3, x2, x1]; rfl) (fun q hq => kfr q (by omega) (by omega) (by omega) (by omega)) (fun k hk => ka k (by omega) (by omega)) (fun q hq => kfr q (by omega) (by omega) (by omega) (by omega))
  have hg := w_gm_arr hL hl hb hq hmad kfr k24 k28 k17 ka k7 k8 h
  unfold o_come at hQ
  rw [hs]
  by_cases hlb : Int32.ofNat l = blk
  · rw [if_pos hlb] at hQ
    exact j_pos hlb (hQ S5 hkp hg)
  · rw [if_neg hlb] at hQ
    obtain ⟨b', q', hb', hq', eb', eq', hk'⟩ := hI.2.2.2.2.2.2.2.2 l hl
    obtain ⟨k, hk⟩ := hk' hlb
    have hbb : b' = b := by rw [eb, n_eq (by omega) (by omega)] at eb'; exact eb'.symm
    have hqq : q' = q := by
      have := hI.2.2.2.1
      rw [eq, n_eq (by omega) (by omega)] at eq'
      exact eq'.symm
    rw [hbb, hqq] at hk
    have hk3 : r (1200 + 11 * l + 3) = Int32.ofNat k := hk.2.2.2.2.2.2.1
    have hk2 : i_let (o_arr r l b q) n l b q k := i_let_same hk (fun j hj => by rw [o_arr_at (by omega) (by omega) (by omega) (by omega) (by omega)])
    obtain ⟨c0, c1, -⟩ := IR_arr (l := l) hb hq hI
    have hd : i_dk (o_arr r l b q) (1 - b) n lim := by
      have : b = 0 ∨ b = 1 := by omega
      rcases this with rfl | rfl
      · exact c1
      · exact c0
    have hn8 := hI.1.2.1
    have hma : ∀ p, p < 2 → o_mad (o_arr r l b q) p = o_mad r p := fun p hp => by unfold o_mad; rw [o_arr_at (by omega) (by omega) (by omega) (by omega) (by omega)]
    have hbd2 : i_bd (o_arr r l b q) (1 - b) n := i_bd_same hn8 (hmad _ (by omega)) (by omega) (fun j hj => o_arr_at (by omega) (by omega) (by omega) (by omega) (by omega)) (hbd (1 - b) (by omega))
    rw [hk3]
    exact j_neg hlb (w_reads hL hl hk2 hd hbd2 (fun p hp => by rw [hma p hp]; exact hmad p hp) hg (fun z z1 z2 => hQ z (w_kp_tr hkp z1) z2))
