/-! ===== the law's own game: letters leave; the day whole ===== -/
theorem w_gm_lv1 {M M' : Nat → Nat → Int32} {a L q s d j : Nat} {r : Nat → Int32} (hL : L ≤ 81) (hj : j < L) (hq : q < 4) (hs : s < 2) (hmad : ∀ p, p < 2 → o_mad r p ≤ 60)
    (f : ∀ x, x ≠ a → x ≠ a + 17 → x ≠ a + 24 → x ≠ a + 26 → x ≠ a + 27 → M' x = M x) (fa : ∀ k, k ≠ 6 → M' a k = M a k) (f6 : M' a 6 = M a 6 + 1) (f17 : M' (a + 17) = upd (M (a + 17)) (2 * q + s) (M (a + 17) (2 * q + s) - 1))
    (f24 : M' (a + 24) = upd (M (a + 24)) j 1) (f26 : M' (a + 26) = upd (M (a + 26)) j (M a 6 + 1)) (f27 : M' (a + 27) = upd (M (a + 27)) j (r (1140 + 15 * q) + r (1140 + 15 * q + (3 + d / 30 % 12)))) (h : w_gm M a r L) : w_gm M' a (o_lv1 r q s d j) L := by
  obtain ⟨h1, h2, h3, h4, h5, ⟨⟨hd0, h6⟩, ⟨h7, h7'⟩, h8⟩⟩ := h
  have er : ∀ i, i ≠ 1140 + 15 * q + (1 + s) → i ≠ 6 → i ≠ 1200 + 11 * j + 6 → i ≠ 1200 + 11 * j + 8 → i ≠ 1200 + 11 * j + 9 → o_lv1 r q s d j i = r i := fun i j1 j2 j3 j4 j5 => o_lv1_at j1 j2 j3 j4 j5
  have v6 : o_lv1 r q s d j 6 = r 6 + 1 := by rw [o_lv1, u_k (by omega), u_k (by omega), u_k (by omega), u_s]
  have vs : o_lv1 r q s d j (1140 + 15 * q + (1 + s)) = r (1140 + 15 * q + (1 + s)) - 1 := by rw [o_lv1, u_k (by omega), u_k (by omega), u_k (by omega), u_k (by omega), u_s]
  have vt : o_lv1 r q s d j (1200 + 11 * j + 6) = 1 := by rw [o_lv1, u_k (by omega), u_k (by omega), u_s]
  have v8 : o_lv1 r q s d j (1200 + 11 * j + 8) = r 6 + 1 := by rw [o_lv1, u_k (by omega), u_s]
  have v9 : o_lv1 r q s d j (1200 + 11 * j + 9) = r (1140 + 15 * q) + r (1140 + 15 * q + (3 + d / 30 % 12)) := by rw [o_lv1, u_s]
  refine ⟨fun k hk => ?_, w_bds hmad (fun q q1 q2 => f q (by omega) (by omega) (by omega) (by omega) (by omega)) (fun j hj => er j (by omega) (by omega) (by omega) (by omega) (by omega)) h2, fun q' hq' => ?_, fun l' hl' => ?_, fun k hk => w_pr_row (fun w hw => er _ (by omega) (by omega) (by omega) (by omega) (by omega)) (w_pr_fr (fun q q1 q2 => f q (by omega) (by omega) (by omega) (by omega) (by omega)) (h5 k hk)), ⟨⟨by rw [er 2 (by omega) (by omega) (by omega) (by omega) (by omega)]; exact hd0, fun p hp => by rw [er _ (by omega) (by omega) (by omega) (by omega) (by omega)]; exact h6 p hp⟩, ⟨by rw [er 772 (by omega) (by omega) (by omega) (by omega) (by omega)]; exact h7, by rw [er 773 (by omega) (by omega) (by omega) (by omega) (by omega)]; exact h7'⟩, fun l hl => by rw [er _ (by omega) (by omega) (by omega) (by omega) (by omega), er (1200 + 11 * l + 3) (by omega) (by omega) (by omega) (by omega) (by omega)]; exact h8 l hl⟩⟩
  · by_cases k6 : k = 6
    · rw [k6, f6, v6, h1 6 (by omega)]
    · rw [fa k k6, er k (by omega) k6 (by omega) (by omega) (by omega)]
      exact h1 k hk
  · obtain ⟨g1, g2, g3⟩ := h3 q' hq'
    refine ⟨by rw [f (a + 16) (by omega) (by omega) (by omega) (by omega) (by omega), er _ (by omega) (by omega) (by omega) (by omega) (by omega)]; exact g1, fun s' hs' => ?_, fun t ht => by rw [f (a + 18) (by omega) (by omega) (by omega) (by omega) (by omega), er _ (by omega) (by omega) (by omega) (by omega) (by omega)]; exact g3 t ht⟩
    rw [f17]
    by_cases hqs : 2 * q' + s' = 2 * q + s
    · have hq2 : q' = q := by omega
      have hs2 : s' = s := by omega
      subst hq2 hs2
      rw [u_s, vs, g2 _ (by omega)]
    · rw [u_k hqs, er _ (by omega) (by omega) (by omega) (by omega) (by omega)]
      exact g2 s' hs'
  · have hw := h4 l' hl'
    by_cases hll : l' = j
    · subst hll
      obtain ⟨w0, w1, w2, w3, w4, w5, w6, w7, w8, w9⟩ := hw
      unfold w_lt
      rw [f24, f26, f27, u_s, u_s, u_s, f (a + 19) (by omega) (by omega) (by omega) (by omega) (by omega), f (a + 20) (by omega) (by omega) (by omega) (by omega) (by omega), f (a + 29) (by omega) (by omega) (by omega) (by omega) (by omega), f (a + 21) (by omega) (by omega) (by omega) (by omega) (by omega), f (a + 22) (by omega) (by omega) (by omega) (by omega) (by omega), f (a + 23) (by omega) (by omega) (by omega) (by omega) (by omega), f (a + 25) (by omega) (by omega) (by omega) (by omega) (by omega), vt, v8, v9,
        er (1200 + 11 * l') (by omega) (by omega) (by omega) (by omega) (by omega), er (1200 + 11 * l' + 1) (by omega) (by omega) (by omega) (by omega) (by omega), er (1200 + 11 * l' + 2) (by omega) (by omega) (by omega) (by omega) (by omega), er (1200 + 11 * l' + 3) (by omega) (by omega) (by omega) (by omega) (by omega), er (1200 + 11 * l' + 4) (by omega) (by omega) (by omega) (by omega) (by omega), er (1200 + 11 * l' + 5) (by omega) (by omega) (by omega) (by omega) (by omega), er (1200 + 11 * l' + 7) (by omega) (by omega) (by omega) (by omega) (by omega)]
      exact ⟨w0, w1, w2, w3, w4, w5, rfl, w7, fun _ => ⟨by rw [h1 6 (by omega)], rfl⟩, fun h9 => absurd h9 (by decide)⟩
    · refine w_lt_row (fun w hw => er _ (by omega) (by omega) (by omega) (by omega) (by omega)) ?_
      unfold w_lt at hw ⊢
      rw [f24, f26, f27, u_k hll, u_k hll, u_k hll, f (a + 19) (by omega) (by omega) (by omega) (by omega) (by omega), f (a + 20) (by omega) (by omega) (by omega) (by omega) (by omega), f (a + 29) (by omega) (by omega) (by omega) (by omega) (by omega), f (a + 21) (by omega) (by omega) (by omega) (by omega) (by omega), f (a + 22) (by omega) (by omega) (by omega) (by omega) (by omega), f (a + 23) (by omega) (by omega) (by omega) (by omega) (by omega), f (a + 25) (by omega) (by omega) (by omega) (by omega) (by omega), f (a + 28) (by omega) (by omega) (by omega) (by omega) (by omega)]
      exact hw
/-- no stable owes a mule -/
def w_nn (r : Nat → Int32) : Prop := ∀ q, q < 4 → ∀ s, s < 2 → 0 ≤ (r (1140 + 15 * q + (1 + s))).toInt
theorem w_nn_lv1 {r : Nat → Int32} {q s d j : Nat} (hq : q < 4) (hs : s < 2) (hz : ¬ r (1140 + 15 * q + (1 + s)) = 0) (h : w_nn r) : w_nn (o_lv1 r q s d j) := by
  intro q' hq' s' hs'
  by_cases hqs : 1140 + 15 * q' + (1 + s') = 1140 + 15 * q + (1 + s)
  · have vs : o_lv1 r q s d j (1140 + 15 * q + (1 + s)) = r (1140 + 15 * q + (1 + s)) - 1 := by rw [o_lv1, u_k (by omega), u_k (by omega), u_k (by omega), u_k (by omega), u_s]
    have h0 := h q hq s hs
    have e1 : (1 : Int32).toInt = 1 := rfl
    have e0 : (0 : Int32).toInt = 0 := rfl
    rw [z_eq, e0] at hz
    have hhi := z_hi (r (1140 + 15 * q + (1 + s)))
    rw [hqs, vs, z_sub (by rw [e1]; omega) (by rw [e1]; omega), e1]
    omega
  · rw [o_lv1_at hqs (by omega) (by omega) (by omega) (by omega)]
    exact h q' hq' s' hs'
theorem w_send {g : ev_G} {a np L d q s : Nat} (hq : q < np) (hs : s < 2) : ∀ (m : Nat) (S : ev_S) (r : Nat → Int32) (ρ : List Nat) (j k : Nat), j + m = L → L ≤ 81 → i_pst r np L d ρ → w_nn r → (∀ p, p < 2 → o_mad r p ≤ 60) → w_gm S.1 a r L → ((∀ i, i < j → ¬ o_wt r q s i = true) ∨ r (1140 + 15 * q + (1 + s)) = 0) → cnt (o_wt r q s) L < k → ¬ r (1140 + 15 * q + (3 + d / 30 % 12)) = 9 → ∀ Q : ev_O → ev_S → Prop,
    (∀ z ρ', w_kp S z a → i_pst (o_lv q s d L k r) np L d ρ' → w_nn (o_lv q s d L k r) → (∀ p, p < 2 → o_mad (o_lv q s d L k r) p ≤ 60) → w_gm z.1 a (o_lv q s d L k r) L → ev_E g m_X11_passes 5 0 108 [some (ev_o 11 a), none, some (ev_i (Int32.ofNat (2 * q + s + 1))), none] [] z Q) →
    ev_E g m_X11_passes 5 0 120 [some (ev_o 11 a), none, some (ev_i (Int32.ofNat (2 * q + s))), some (ev_i (Int32.ofNat j))] [] S Q := by
  intro m
  induction m with
  | zero =>
    intro S r ρ j k hjm hL hi hn hmad h hb hk _ Q hQ
    have e4 : S.1 a 4 = Int32.ofNat L := (h.1 4 (by omega)).trans hi.1.2.2.1
    have hnp := hi.1.2.1
    refine sg_X11_passes_120 a _ _ (j_pos (by rw [e4, n_le (by omega) (by omega)]; omega) ?_)
    rw [n_inc]
    rw [o_lv_stop (by omega) (by
      rcases hb with hb | hb
      · exact Or.inl (fun i hi9 => hb i (by omega))
      · right
        rw [hb]
        exact Int32.le_refl _)] at hQ
    exact hQ S ρ (w_kp_rf S a) hi hn hmad h
  | succ m ih =>
    intro S r ρ j k hjm hL hi hn hmad h hb hk hsn Q hQ
    have hnp := hi.1.2.1
    have hd6 := hi.1.2.2.2.2.2.1
    have hj : j < L := by omega
    have e4 : S.1 a 4 = Int32.ofNat L := (h.1 4 (by omega)).trans hi.1.2.2.1
    have e2 : S.1 a 2 = Int32.ofNat d := (h.1 2 (by omega)).trans hi.1.2.2.2.2.1
    obtain ⟨w0, w1, w2, w3, w4, w5, w6, w7, w8, w9⟩ := h.2.2.2.1 j hj
    obtain ⟨g1, g2, g3⟩ := h.2.2.1 q (by omega)
    have hT : d / 30 % 12 < 12 := Nat.mod_lt _ (by decide)
    have hd30 : d / 30 < 2147483648 := by omega
    have hdv : Int32.ofNat (2 * q + s) / 2 = Int32.ofNat q := by
      have := n_divc (d := 2 * q + s) (c := 2) (by omega) (by decide) (by decide)
      rw [show (2 * q + s) / 2 = q by omega] at this
      exact this
    have hrm : ev_rem (Int32.ofNat (2 * q + s)) 2 = Int32.ofNat s := by rw [n_rem2 (by omega), show (2 * q + s) % 2 = s by omega]
    have hs9 : ¬ (9 : Int32) ≤ r (1140 + 15 * q + (3 + d / 30 % 12)) := by
      have := (hi.1.2.2.2.2.2.2.1 q hq).2 _ hT
      have e9 : (9 : Int32).toInt = 9 := rfl
      rw [z_eq, e9] at hsn
      rw [z_le, e9]
      omega
    refine sg_X11_passes_120 a _ _ (j_neg (by rw [e4, n_le (by omega) (by omega)]; omega) ?_)
    rw [hdv, hrm, lm_12, e2, n_dv30 (by omega), n_rm12 hd30, n_add, n_inc, n_inc]
    refine ⟨(n_vp (by omega) (by omega)).mpr trivial, ?_⟩
    rw [n_c (by omega), g3 _ hT]
    refine j_neg hs9 ⟨(n_vp (by omega) (by omega)).mpr trivial, ?_⟩
    rw [n_c (by omega), w6, w1, w0]
    have skip : (¬ o_wt r q s j = true ∨ r (1140 + 15 * q + (1 + s)) = 0) → ev_E g m_X11_passes 5 0 120 [some (ev_o 11 a), none, some (ev_i (Int32.ofNat (2 * q + s))), some (ev_i (Int32.ofNat (j + 1)))] [] S Q := fun hw =>
      ih S r ρ (j + 1) k (by omega) hL hi hn hmad h (by
        rcases hw with hw | hw
        · rcases hb with hb | hb
          · left
            intro i hi9
            by_cases hij : i = j
            · rw [hij]; exact hw
            · exact hb i (by omega)
          · exact Or.inr hb
        · exact Or.inr hw) hk hsn Q hQ
    refine ⟨fun c1 => ⟨fun c2 => ⟨fun c3 => ⟨(n_vp (by omega) (by omega)).mpr trivial, ?_⟩, fun c3 => skip (Or.inl (fun z => ?_))⟩, fun c2 => skip (Or.inl (fun z => ?_))⟩, fun c1 => skip (Or.inl (fun z => ?_))⟩
    · rw [n_c (by omega), g2 s hs]
      refine ⟨fun c4 => skip (Or.inr c4), fun c4 => ?_⟩
      have hw : o_wt r q s j = true := by simp only [o_wt, decide_eq_true_eq]; exact ⟨c1, c2, c3⟩
      have hb' : ∀ i, i < j → ¬ o_wt r q s i = true := by
        rcases hb with hb | hb
        · exact hb
        · exact absurd hb c4
      obtain ⟨k, rfl⟩ : ∃ k', k = k' + 1 := ⟨k - 1, by omega⟩
      have hle : ¬ r (1140 + 15 * q + (1 + s)) ≤ 0 := by
        have h0 := hn q (by omega) s hs
        have e0 : (0 : Int32).toInt = 0 := rfl
        rw [z_eq, e0] at c4
        rw [z_le, e0]
        omega
      rw [o_lv_step hj hw hb' hle] at hQ
      obtain ⟨i1, i2⟩ := i_pst_lv1 hi hq hs hj hw hsn
      obtain ⟨v1, v2⟩ := o_wt_lv1 (d := d) (show q < 4 by omega) hs hw
      have hcd := cnt_drop hw v1 v2 L hj
      intro S1 x1 S2 x2 S3 x3 S4 x4
      have k4 : ∀ x, x ≠ a → x ≠ a + 17 → x ≠ a + 24 → x ≠ a + 26 → S4.1 x = S.1 x := fun x q1 q2 q3 q4 => by rw [x4, m_r q4, x3, m_r q3, x2, m_r q1, x1, m_r q2]
      have k4a : ∀ k, k ≠ 6 → S4.1 a k = S.1 a k := fun k hk => by rw [x4, m_r (by omega), x3, m_r (by omega), x2, m_k hk, x1, m_r (by omega)]
      refine ⟨(n_vp (by omega) (by omega)).mpr trivial, ?_⟩
      rw [k4a 2 (by omega), e2, n_dv30 (by omega), n_rm12 hd30, n_add]
      refine ⟨(n_vp (by omega) (by omega)).mpr trivial, ?_⟩
      rw [n_c (by omega), n_c (by omega), g1, g3 _ hT]
      intro S5 x5
      have k5 : ∀ x, x ≠ a → x ≠ a + 17 → x ≠ a + 24 → x ≠ a + 26 → x ≠ a + 27 → S5.1 x = S.1 x := fun x q1 q2 q3 q4 q5 => by rw [x5, m_r q5, k4 x q1 q2 q3 q4]
      have k5a : ∀ k, k ≠ 6 → S5.1 a k = S.1 a k := fun k hk => by rw [x5, m_r (by omega), k4a k hk]
      have kp : w_kp S S5 a := w_kp_mk (by rw [x5, x4, x3, x2, x1]; rfl) (fun q hq => k5 q (by omega) (by omega) (by omega) (by omega) (by omega)) (fun k hk => k5a k (by omega)) (fun q hq => k5 q (by omega) (by omega) (by omega) (by omega) (by omega))
      have hg : w_gm S5.1 a (o_lv1 r q s d j) L := by
        refine w_gm_lv1 hL hj (by omega) hs hmad k5 k5a ?_ ?_ ?_ ?_ ?_ h
        · rw [x5, m_r (by omega), x4, m_r (by omega), x3, m_r (by omega), x2, m_s]
        · rw [x5, m_r (by omega), x4, m_r (by omega), x3, m_r (by omega), x2, m_r (by omega), x1, m_u, r_s, g2 s hs]
        · rw [x5, m_r (by omega), x4, m_r (by omega), x3, m_u, r_s, x2, m_r (by omega), x1, m_r (by omega)]
        · rw [x5, m_r (by omega), x4, m_u, r_s, x3, m_r (by omega), x2, m_r (by omega), x1, m_r (by omega)]
        · rw [x5, m_u, r_s, x4, m_r (by omega), x3, m_r (by omega), x2, m_r (by omega), x1, m_r (by omega)]
      refine ih S5 _ _ (j + 1) k (by omega) hL i1 (w_nn_lv1 (by omega) hs c4 hn) (fun p hp => by unfold o_mad; rw [o_lv1_at (by omega) (by omega) (by omega) (by omega) (by omega)]; exact hmad p hp) hg (Or.inl (fun i hi9 => ?_)) (by omega) (by rw [o_lv1_at (by omega) (by omega) (by omega) (by omega) (by omega)]; exact hsn) Q (fun z ρ' z1 z2 z3 z4 z5 => hQ z ρ' (w_kp_tr kp z1) z2 z3 z4 z5)
      by_cases hij : i = j
      · rw [hij]; exact v1
      · rw [v2 i hij]; exact hb' i (by omega)
    · simp only [o_wt, decide_eq_true_eq] at z
      exact c3 z.2.2
    · simp only [o_wt, decide_eq_true_eq] at z
      exact c2 z.2.1
    · simp only [o_wt, decide_eq_true_eq] at z
      exact c1 z.1
theorem w_lvs {g : ev_G} {a np L d : Nat} (hL : L ≤ 81) : ∀ (m : Nat) (S : ev_S) (r : Nat → Int32) (ρ : List Nat) (q : Nat), q + m = np → i_pst r np L d ρ → w_nn r → (∀ p, p < 2 → o_mad r p ≤ 60) → w_gm S.1 a r L → ∀ Q : ev_O → ev_S → Prop,
    (∀ z ρ', w_kp S z a → i_pst (o_lvs np d L m r) np L d ρ' → w_nn (o_lvs np d L m r) → w_gm z.1 a (o_lvs np d L m r) L → Q (.inl none) z) →
    ev_E g m_X11_passes 5 0 108 [some (ev_o 11 a), none, some (ev_i (Int32.ofNat (2 * q))), none] [] S Q := by
  intro m
  induction m with
  | zero =>
    intro S r ρ q hqm hi hn hmad h Q hQ
    have hnp := hi.1.2.1
    have e3 : S.1 a 3 = Int32.ofNat np := (h.1 3 (by omega)).trans hi.1.1
    refine sg_X11_passes_108 a _ (j_pos (by rw [e3, lm_2, n_le (by omega) (by omega)]; omega) (hQ S ρ (w_kp_rf S a) hi hn h))
  | succ m ih =>
    intro S r ρ q hqm hi hn hmad h Q hQ
    have hnp := hi.1.2.1
    have hq : q < np := by omega
    have hd6 := hi.1.2.2.2.2.2.1
    have hT : d / 30 % 12 < 12 := Nat.mod_lt _ (by decide)
    have hd30 : d / 30 < 2147483648 := by omega
    rw [o_lvs, show np - (m + 1) = q by omega] at hQ
    -- the head of a side of this pass
    have hd : ∀ (T : ev_S) (s : Nat) (r' : Nat → Int32), s < 2 → i_ps r' np L d → w_gm T.1 a r' L → ev_E g m_X11_passes 5 0 120 [some (ev_o 11 a), none, some (ev_i (Int32.ofNat (2 * q + s))), some (ev_i (Int32.ofNat 0))] [] T Q → ev_E g m_X11_passes 5 0 108 [some (ev_o 11 a), none, some (ev_i (Int32.ofNat (2 * q + s))), none] [] T Q := fun T s r' hs i1 t1 k => by
      have e3 : T.1 a 3 = Int32.ofNat np := (t1.1 3 (by omega)).trans i1.1
      refine sg_X11_passes_108 a _ (j_neg (by rw [e3, lm_2, n_le (by omega) (by omega)]; omega) k)
    have nxt : ∀ (T : ev_S) (r' : Nat → Int32) (ρ' : List Nat), w_kp S T a → i_pst r' np L d ρ' → w_nn r' → (∀ p, p < 2 → o_mad r' p ≤ 60) → w_gm T.1 a r' L → o_lvp r q d L = r' → ev_E g m_X11_passes 5 0 108 [some (ev_o 11 a), none, some (ev_i (Int32.ofNat (2 * q + 1 + 1))), none] [] T Q := fun T r' ρ' t0 t1 t2 t3 t4 t5 => by
      rw [t5] at hQ
      rw [show 2 * q + 1 + 1 = 2 * (q + 1) by omega]
      exact ih T r' ρ' (q + 1) (by omega) t1 t2 t3 t4 Q (fun z ρ2 z1 z2 z3 z4 => hQ z ρ2 (w_kp_tr t0 z1) z2 z3 z4)
    have hd0 := hd S 0 r (by omega) hi.1 h
    rw [Nat.add_zero] at hd0
    refine hd0 ?_
    by_cases hs9 : r (1140 + 15 * q + (3 + d / 30 % 12)) = 9
    · -- snow: nobody leaves
      have e4 : S.1 a 4 = Int32.ofNat L := (h.1 4 (by omega)).trans hi.1.2.2.1
      have e2 : S.1 a 2 = Int32.ofNat d := (h.1 2 (by omega)).trans hi.1.2.2.2.2.1
      have shut : ∀ s, s < 2 → ev_E g m_X11_passes 5 0 108 [some (ev_o 11 a), none, some (ev_i (Int32.ofNat (2 * q + s + 1))), none] [] S Q → ev_E g m_X11_passes 5 0 120 [some (ev_o 11 a), none, some (ev_i (Int32.ofNat (2 * q + s))), some (ev_i (Int32.ofNat 0))] [] S Q := fun s hs k => by
        have hdv : Int32.ofNat (2 * q + s) / 2 = Int32.ofNat q := by
          have := n_divc (d := 2 * q + s) (c := 2) (by omega) (by decide) (by decide)
          rw [show (2 * q + s) / 2 = q by omega] at this
          exact this
        refine sg_X11_passes_120 a _ _ ?_
        rw [hdv, lm_12, e2, n_dv30 (by omega), n_rm12 hd30, n_add, n_inc]
        refine ⟨fun _ => k, fun _ => ⟨(n_vp (by omega) (by omega)).mpr trivial, ?_⟩⟩
        rw [n_c (by omega), (h.2.2.1 q (by omega)).2.2 _ hT, hs9]
        exact j_pos (Int32.le_refl _) k
      have s0 := shut 0 (by omega)
      rw [Nat.add_zero] at s0
      exact s0 (hd S 1 r (by omega) hi.1 h (shut 1 (by omega) (nxt S r ρ (w_kp_rf S a) hi hn hmad h (by unfold o_lvp; rw [if_pos hs9]))))
    · have c0 := cnt_le (o_wt r q 0) L
      have send0 := w_send (g := g) (a := a) hq (show 0 < 2 by omega) L S r ρ 0 (L + 1) (by omega) hL hi hn hmad h (Or.inl (fun i hi9 => by omega)) (by omega) hs9 Q
      rw [Nat.add_zero] at send0
      refine send0 (fun z ρ' z1 z2 z3 z4 z5 => hd z 1 _ (by omega) z2.1 z5 ?_)
      have c1 := cnt_le (o_wt (o_lv q 0 d L (L + 1) r) q 1) L
      refine w_send hq (show 1 < 2 by omega) L z _ ρ' 0 (L + 1) (by omega) hL z2 z3 z4 z5 (Or.inl (fun i hi9 => by omega)) (by omega) ?_ Q (fun y ρ2 y1 y2 y3 y4 y5 => nxt y _ ρ2 (w_kp_tr z1 y1) y2 y3 y4 y5 (by unfold o_lvp; rw [if_neg hs9]))
      rw [o_lv_at q 0 d L _ _ _ (by omega) (by omega) (fun l hl => by omega)]
      exact hs9
theorem w_gm_tick {M M' : Nat → Nat → Int32} {a L : Nat} {r : Nat → Int32} {v : Int32} (hmad : ∀ p, p < 2 → o_mad r p ≤ 60) (hv : 0 ≤ v.toInt) (f : ∀ q, q ≠ a → M' q = M q) (fa : ∀ k, k ≠ 2 → M' a k = M a k) (e : M' a 2 = v) (h : w_gm M a r L) : w_gm M' a (upd r 2 v) L := by
  obtain ⟨h1, h2, h3, h4, h5, ⟨⟨hd0, h6⟩, ⟨h7, h7'⟩, h8⟩⟩ := h
  have er : ∀ j, j ≠ 2 → upd r 2 v j = r j := fun j hj => u_k hj
  refine ⟨fun k hk => ?_, w_bds hmad (fun q q1 q2 => f q (by omega)) (fun j hj => er j (by omega)) h2, w_ps_row (fun j j1 j2 => er j (by omega)) (w_ps_fr (fun q q1 q2 => f q (by omega)) h3), fun l hl => w_lt_row (fun w hw => er _ (by omega)) (w_lt_fr (fun q q1 q2 => f q (by omega)) (h4 l hl)), fun k hk => w_pr_row (fun w hw => er _ (by omega)) (w_pr_fr (fun q q1 q2 => f q (by omega)) (h5 k hk)), ⟨⟨by rw [u_s]; exact hv, fun p hp => by rw [er _ (by omega)]; exact h6 p hp⟩, ⟨by rw [er 772 (by omega)]; exact h7, by rw [er 773 (by omega)]; exact h7'⟩, fun l hl => by rw [er _ (by omega), er (1200 + 11 * l + 3) (by omega)]; exact h8 l hl⟩⟩
  by_cases hk5 : k = 2
  · subst hk5
    rw [e, u_s]
  · rw [fa k hk5, er k hk5]
    exact h1 k hk
/-- the mules at the stables: none is owed, and there are not too many -/
def w_s2 (r : Nat → Int32) : Prop := ∀ q, q < 4 → ∀ s, s < 2 → 0 ≤ (r (1140 + 15 * q + (1 + s))).toInt ∧ (r (1140 + 15 * q + (1 + s))).toInt ≤ 10 + (r 8).toInt
theorem w_s2_nn {r : Nat → Int32} (h : w_s2 r) : w_nn r := fun q hq s hs => (h q hq s hs).1
theorem w_s2_same {r r' : Nat → Int32} (h : w_s2 r) (e : ∀ j, j = 8 ∨ (1140 ≤ j ∧ j < 1200) → r' j = r j) : w_s2 r' := by
  intro q hq s hs
  rw [e _ (by omega), e 8 (by omega)]
  exact h q hq s hs
theorem w_s2_gp {r : Nat → Int32} {np L d l : Nat} (h : i_ps r np L d) (hl : l < L) (hk : i_pk r np L) (w : w_s2 r) : w_s2 (o_gp r d l) := by
  obtain ⟨hb, hq, eb, eq, hs, hr⟩ := i_ps_bq h hl
  have hnp := h.2.1
  have hL := h.2.2.2.1
  have hc := cnt_le (o_st2 r) L
  have e8 : (r 8).toInt = cnt (o_st2 r) L := by rw [hk.2, n_i (by omega)]
  have e1 : (1 : Int32).toInt = 1 := rfl
  unfold o_gp
  split
  · exact w
  · split
    · generalize o_b r l = b at *
      generalize o_q r l = q at *
      intro q' hq' s' hs'
      have v8 : o_arr (upd r (1200 + 11 * l + 9) (r (1200 + 11 * l + 9) - 1)) l b q 8 = r 8 + 1 := by rw [o_arr, u_s, u_k (by omega)]
      have z8 : (r 8 + 1).toInt = (r 8).toInt + 1 := by rw [z_add (by rw [e1]; omega) (by rw [e1]; omega), e1]
      rw [v8, z8]
      have w0 := w q' hq' s' hs'
      by_cases hqs : 1140 + 15 * q' + (1 + s') = 1140 + 15 * q + (1 + (1 - b))
      · have vs : o_arr (upd r (1200 + 11 * l + 9) (r (1200 + 11 * l + 9) - 1)) l b q (1140 + 15 * q + (1 + (1 - b))) = r (1140 + 15 * q + (1 + (1 - b))) + 1 := by rw [o_arr, u_k (by omega), u_k (by omega), u_s, u_k (by omega)]
        rw [hqs, vs, ← hqs, z_add (by rw [e1]; omega) (by rw [e1]; omega), e1]
        omega
      · rw [o_arr_at (by omega) (by omega) hqs (by omega) (by omega), u_k (by omega)]
        omega
    · exact w_s2_same w (fun j hj => u_k (by omega))
theorem w_s2_tp {np L d : Nat} : ∀ (ρ : List Nat) (r : Nat → Int32), i_ps r np L d → ρ.Nodup → (∀ l, l ∈ ρ → l < L ∧ r (1200 + 11 * l + 6) = 1) → i_pk r np L → w_s2 r → w_s2 (o_tp d ρ r) := by
  intro ρ
  induction ρ with
  | nil => intro r _ _ _ _ w; rw [o_tp]; exact w
  | cons l ρ ih =>
    intro r h nd hin k w
    obtain ⟨hl, h1⟩ := hin l List.mem_cons_self
    obtain ⟨j1, j2, j3, j4⟩ := i_ps_gp h hl h1
    have nd' := List.nodup_cons.mp nd
    rw [o_tp]
    exact ih _ j1 nd'.2 (fun x hx => ⟨(hin x (List.mem_cons_of_mem _ hx)).1, by rw [j2 x (fun q => nd'.1 (q ▸ hx))]; exact (hin x (List.mem_cons_of_mem _ hx)).2⟩) (i_pk_gp h hl h1 k) (w_s2_gp h hl k w)
theorem w_s2_lv {q s d L : Nat} (hq : q < 4) (hs : s < 2) : ∀ (k : Nat) (r : Nat → Int32), w_s2 r → w_s2 (o_lv q s d L k r) := by
  intro k
  induction k with
  | zero => intro r h; rw [o_lv]; exact h
  | succ k ih =>
    intro r h
    rw [o_lv]
    split
    · next hf =>
      split
      · exact h
      · next hle =>
        refine ih _ (fun q' hq' s' hs' => ?_)
        have e8 : o_lv1 r q s d (fnd (o_wt r q s) L) 8 = r 8 := o_lv1_at (by omega) (by omega) (by omega) (by omega) (by omega)
        have w0 := h q' hq' s' hs'
        rw [e8]
        by_cases hqs : 1140 + 15 * q' + (1 + s') = 1140 + 15 * q + (1 + s)
        · have e1 : (1 : Int32).toInt = 1 := rfl
          have e0 : (0 : Int32).toInt = 0 := rfl
          have hhi := z_hi (r (1140 + 15 * q + (1 + s)))
          rw [z_le, e0] at hle
          have vs : o_lv1 r q s d (fnd (o_wt r q s) L) (1140 + 15 * q + (1 + s)) = r (1140 + 15 * q + (1 + s)) - 1 := by rw [o_lv1, u_k (by omega), u_k (by omega), u_k (by omega), u_k (by omega), u_s]
          rw [hqs] at w0
          rw [hqs, vs, z_sub (by rw [e1]; omega) (by rw [e1]; omega), e1]
          omega
        · rw [o_lv1_at hqs (by omega) (by omega) (by omega) (by omega)]
          exact w0
    · exact h
theorem w_s2_lvs {np d L : Nat} (hnp : np ≤ 4) : ∀ (k : Nat) (r : Nat → Int32), k ≤ np → w_s2 r → w_s2 (o_lvs np d L k r) := by
  intro k
  induction k with
  | zero => intro r _ h; rw [o_lvs]; exact h
  | succ k ih =>
    intro r hk h
    rw [o_lvs]
    refine ih _ (by omega) ?_
    unfold o_lvp
    split
    · exact h
    · exact w_s2_lv (by omega) (by omega) _ _ (w_s2_lv (by omega) (by omega) _ _ h)
/-- what the law's own game holds: the row, and the letter that nobody reads -/
def IW (r : Nat → Int32) (n lim np L d : Nat) (blk : Int32) (ρ : List Nat) : Prop := IR r n lim np L d blk ∧ i_pst r np L d ρ ∧ (∀ p, p < 2 → i_bd r p n) ∧ i_pk r np L ∧ w_s2 r
theorem i_bd_trv {n lim np L d : Nat} {blk : Int32} : ∀ (ρ : List Nat) (r : Nat → Int32) (dep : Int32), IR r n lim np L d blk → i_road r L dep ρ → (∀ p, p < 2 → i_bd r p n) → ∀ p, p < 2 → i_bd (o_trv n d blk ρ r) p n := by
  intro ρ
  induction ρ with
  | nil => intro r dep _ _ h; exact h
  | cons x ρ ih =>
    intro r dep h hr hb
    have hx := (hr.1 x List.mem_cons_self).1
    exact ih _ _ (IR_goes h hx).1 (i_road_next h hr) (i_bd_goes h hb hx)
/-- behind the letters that go on -/
theorem IW_trv {r : Nat → Int32} {n lim np L d : Nat} {blk : Int32} {ρ : List Nat} (h : IW r n lim np L d blk ρ) : ∃ ρ', IW (o_trv n d blk ρ r) n lim np L d blk ρ' := by
  obtain ⟨h1, h2, h3, h4, h5⟩ := h
  have hin : ∀ l, l ∈ ρ → l < L := fun l hl => (h2.2.2.1 l hl).1
  have hI := IR_trv ρ r 0 h1 h2.2.2
  have hb := i_bd_trv ρ r 0 h1 h2.2.2 h3
  have ht := i_pst_tp ρ [] r h2
  rw [List.nil_append] at ht
  have hsp := trv_split ρ r 0 h1 h2.2.2
  have hag := (rds_agP (o_ar d ρ r) _ (IR_tp ρ r h1 hin) (fun l hl => hin l (o_ar_sub _ _ _ hl))).1
  have hnd := i_road_nd h2.2.2
  have hst : ∀ l, l ∈ ρ → l < L ∧ r (1200 + 11 * l + 6) = 1 := fun l hl => ⟨(h2.2.2.1 l hl).1, (h2.2.2.1 l hl).2.1⟩
  rw [← hsp] at hag
  refine ⟨_, hI, i_pst_agP ht hag, hb, i_pk_same (i_pk_tp ρ r h2.1 hnd hst h4) (fun j hj => hag j (by omega)) (fun j j1 j2 => hag j (by omega)), w_s2_same (w_s2_tp ρ r h2.1 hnd hst h4 h5) (fun j hj => hag j (by omega))⟩
theorem IW_tick {r : Nat → Int32} {n lim np L d : Nat} {blk : Int32} {ρ : List Nat} (hd : d + 1 < 1000000) (h : IW r n lim np L d blk ρ) : IW (upd r 2 (Int32.ofNat (d + 1))) n lim np L (d + 1) blk ρ := by
  obtain ⟨h1, h2, h3, h4, h5⟩ := h
  exact ⟨IR_tick hd h1, i_pst_tick hd h2, fun p hp => i_bd_same h1.1.2.1 (IR_mad h1 p hp) hp (fun j hj => u_k (by omega)) (h3 p hp), i_pk_same h4 (fun j hj => u_k (by omega)) (fun j j1 j2 => u_k (by omega)), w_s2_same h5 (fun j hj => u_k (by omega))⟩
theorem IW_lvs {r : Nat → Int32} {n lim np L d : Nat} {blk : Int32} {ρ ρ' : List Nat} (h : IW r n lim np L d blk ρ) (hp : i_pst (o_lvs np d L np r) np L d ρ') : IW (o_lvs np d L np r) n lim np L d blk ρ' := by
  obtain ⟨h1, h2, h3, h4, h5⟩ := h
  have hnp := h1.2.2.2.1
  exact ⟨IR_lvs hnp np r (Nat.le_refl _) h1, hp, fun p hp => i_bd_same h1.1.2.1 (IR_mad h1 p hp) hp (fun j hj => o_lvs_at hnp np r j (Nat.le_refl _) (fun q s hq hs => by omega) (by omega) (fun l hl => by omega)) (h3 p hp), i_pk_lvs hnp np r (Nat.le_refl _) h4, w_s2_lvs hnp np r (Nat.le_refl _) h5⟩
/-- a day of the law's own game -/
theorem w_passes {g : ev_G} {S : ev_S} {a n lim np L d : Nat} {blk : Int32} {r : Nat → Int32} {ρ : List Nat} (hd : d + 1 < 1000000) (hI : IW r n lim np L d blk ρ) (h : w_gm S.1 a r L) (hs : S.1 a 32 = blk) {Q : ev_O → ev_S → Prop}
    (hQ : ∀ z ρ', w_kp S z a → IW (o_day r n np L d blk ρ) n lim np L (d + 1) blk ρ' → w_gm z.1 a (o_day r n np L d blk ρ) L → Q (.inl none) z) : ev_Cv g m_X11_passes 5 0 [ev_o 11 a] S Q := by
  have hIt := IW_tick hd hI
  obtain ⟨ρ1, hIv⟩ := IW_trv hIt
  have e2 : S.1 a 2 = Int32.ofNat d := (h.1 2 (by omega)).trans hI.1.2.2.2.2.2.2.1
  obtain ⟨dp, h6, hdp, hlv⟩ := hI.2.1.2.1
  have e6 : S.1 a 6 = Int32.ofNat dp := (h.1 6 (by omega)).trans h6
  have hL := hI.1.2.2.2.2.2.1
  have hmad := IR_mad hI.1
  refine sg_X11_passes_0 a ?_
  rw [e2, n_inc, e6]
  intro S1 x1
  have k1 : ∀ q, q ≠ a → S1.1 q = S.1 q := fun q hq => by rw [x1, m_r hq]
  have k1a : ∀ k, k ≠ 2 → S1.1 a k = S.1 a k := fun k hk => by rw [x1, m_k hk]
  have kp1 : w_kp S S1 a := w_kp_mk (by rw [x1]; rfl) (fun q hq => k1 q (by omega)) (fun k hk => k1a k (by omega)) (fun q hq => k1 q (by omega))
  have g1 : w_gm S1.1 a (upd r 2 (Int32.ofNat (d + 1))) L := w_gm_tick hmad (by rw [n_i (by omega)]; omega) k1 k1a (by rw [x1, m_s]) h
  have e1 : (1 : Int32) = Int32.ofNat 1 := rfl
  rw [e1]
  refine w_trv (by omega) dp 1 S1 _ ρ (by omega) (by omega) hIt.1 hIt.2.2.1 hIt.2.1.2.2 (fun l hl => ?_) g1 (by rw [k1a 32 (by omega)]; exact hs) Q (fun z z1 z2 => ?_)
  · rw [u_k (by omega)]
    exact (hlv l (hI.2.1.2.2.1 l hl).1 (hI.2.1.2.2.1 l hl).2.1).2
  · exact w_lvs hL np z _ ρ1 0 (by omega) hIv.2.1 (w_s2_nn hIv.2.2.2.2) (IR_mad hIv.1) z2 Q (fun y ρ' y1 y2 y3 y4 => hQ y ρ' (w_kp_tr kp1 (w_kp_tr z1 y1)) (IW_lvs hIv y2) y4)
