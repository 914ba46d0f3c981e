/-! ===== the class: the post; the letters under way travel ===== -/
theorem q_mid_days {M M' : Nat → Nat → Int32} {e L l : Nat} {r : Nat → Int32} {v : Int32} (hL : L ≤ 84) (h : q_mid M e r L)
    (f : ∀ q, q ≠ e + 11 → q ≠ e + 14 → M' q = M q) (g : ∀ k, M' (e + 11) k = if k = l then v else M (e + 11) k) : q_mid M' e (upd r (1200 + 11 * l + 9) v) L := by
  obtain ⟨⟨a1, a2, a3, a4, a5⟩, c, w⟩ := h
  refine ⟨⟨?_, ?_, ?_, ?_, ?_⟩, fun q hq9 => ⟨?_, fun s hs9 => ?_, fun t ht => ?_, fun s hs9 => ?_⟩, fun l' hl' => ?_⟩
  · rw [f _ (by omega) (by omega), u_k (by omega)]; exact a1
  · rw [f _ (by omega) (by omega), u_k (by omega)]; exact a2
  · rw [f _ (by omega) (by omega), u_k (by omega)]; exact a3
  · rw [f _ (by omega) (by omega), u_k (by omega)]; exact a4
  · rw [f _ (by omega) (by omega), u_k (by omega)]; exact a5
  · rw [f _ (by omega) (by omega), u_k (by omega)]; exact (c q hq9).1
  · rw [f _ (by omega) (by omega), u_k (by omega)]; exact (c q hq9).2.1 s hs9
  · rw [f _ (by omega) (by omega), u_k (by omega)]; exact (c q hq9).2.2.1 t ht
  · rw [f _ (by omega) (by omega), (c q hq9).2.2.2 s hs9]
    refine congrArg Int32.ofNat ?_
    refine cnt_congr L (fun j hj => ?_)
    exact (o_wt_same (u_k (by omega)) (u_k (by omega)) (by rw [u_k (by omega)])).symm
  · obtain ⟨w1, w2, w3, w4, w5, w6⟩ := w l' hl'
    rw [f (e + 5) (by omega) (by omega), f (e + 9) (by omega) (by omega), f (e + 10) (by omega) (by omega), f (e + 12) (by omega) (by omega), f (e + 13) (by omega) (by omega), g, u_k (show 1200 + 11 * l' ≠ 1200 + 11 * l + 9 by omega), u_k (show 1200 + 11 * l' + 1 ≠ 1200 + 11 * l + 9 by omega), u_k (show 1200 + 11 * l' + 6 ≠ 1200 + 11 * l + 9 by omega), u_k (show 1200 + 11 * l' + 7 ≠ 1200 + 11 * l + 9 by omega), u_k (show 1200 + 11 * l' + 10 ≠ 1200 + 11 * l + 9 by omega)]
    refine ⟨w1, w2, w3, w4, fun hh => ?_, w6⟩
    by_cases hll : l' = l
    · subst hll
      rw [if_pos rfl, u_s]
    · rw [if_neg hll, u_k (by omega)]
      exact w5 hh
theorem q_mid_frame {M M' : Nat → Nat → Int32} {e L : Nat} {r : Nat → Int32} (h : q_mid M e r L) (f : ∀ q, q = e + 1 ∨ q = e + 2 ∨ q = e + 3 ∨ q = e + 4 ∨ q = e + 5 ∨ q = e + 9 ∨ q = e + 10 ∨ q = e + 11 ∨ q = e + 12 ∨ q = e + 13 ∨ q = e + 16 → M' q = M q) (k : M' e 13 = M e 13 ∧ M' e 16 = M e 16 ∧ M' e 17 = M e 17) : q_mid M' e r L := by
  obtain ⟨⟨a1, a2, a3, a4, a5⟩, c, w⟩ := h
  obtain ⟨k1, k2, k3⟩ := k
  refine ⟨⟨?_, ?_, ?_, ?_, ?_⟩, fun q hq9 => ⟨?_, fun s hs9 => ?_, fun t ht => ?_, fun s hs9 => ?_⟩, fun l' hl' => ?_⟩
  · rw [f _ (by omega)]; exact a1
  · rw [f _ (by omega)]; exact a2
  · rw [k1]; exact a3
  · rw [k2]; exact a4
  · rw [k3]; exact a5
  · rw [f _ (by omega)]; exact (c q hq9).1
  · rw [f _ (by omega)]; exact (c q hq9).2.1 s hs9
  · rw [f _ (by omega)]; exact (c q hq9).2.2.1 t ht
  · rw [f _ (by omega)]; exact (c q hq9).2.2.2 s hs9
  · rw [f (e + 5) (by omega), f (e + 9) (by omega), f (e + 10) (by omega), f (e + 11) (by omega), f (e + 12) (by omega), f (e + 13) (by omega)]
    exact w l' hl'
theorem n_am (x : Int32) : x + -1 = x - 1 := (Int32.sub_eq_add_neg x 1).symm
theorem p_travel {g : ev_G} {e np L d : Nat} : ∀ (ρ : List Nat) (S : ev_S) (r : Nat → Int32) (σ α : List Nat) (i : Nat), i_ps r np L d → q_mid S.1 e r L → ρ.Nodup → (∀ l, l ∈ ρ → l < L ∧ r (1200 + 11 * l + 6) = 1) →
    q_arr (S.1 (e + 14)) 0 σ → q_arr (S.1 (e + 14)) i ρ → S.1 e 14 = Int32.ofNat (i + ρ.length) → i + ρ.length ≤ 84 → q_arr (S.1 (e + 15)) 0 α → S.1 e 15 = Int32.ofNat α.length → σ.length + α.length ≤ i → ∀ Q : ev_O → ev_S → Prop,
    (∀ z, p_fr S z e → q_mid z.1 e (o_tp d ρ r) L → i_ps (o_tp d ρ r) np L d → q_arr (z.1 (e + 14)) 0 (σ ++ o_sy d ρ r) → z.1 e 14 = Int32.ofNat (σ ++ o_sy d ρ r).length → q_arr (z.1 (e + 15)) 0 (α ++ o_ar d ρ r) → z.1 e 15 = Int32.ofNat (α ++ o_ar d ρ r).length →
      ev_E g m_X6_passDay 4 0 122 [some (ev_o 6 e), none, some (ev_i (Int32.ofNat (d / 30 % 12))), none, some (ev_i 0), none, none] [] z Q) →
    ev_E g m_X6_passDay 4 0 15 [some (ev_o 6 e), some (ev_i (r 2)), some (ev_i (Int32.ofNat (d / 30 % 12))), some (ev_i (Int32.ofNat σ.length)), some (ev_i (Int32.ofNat i)), none, none] [] S Q := by
  intro ρ
  induction ρ with
  | nil =>
    intro S r σ α i hi hm _ _ hσ _ h14 hle hα h15 hlen Q hQ
    rw [List.length_nil, Nat.add_zero] at h14
    refine sg_X6_passDay_15 e _ _ _ _ (j_pos (by rw [h14]; exact (n_le (by simp at hle; omega) (by simp at hle; omega)).mpr (Nat.le_refl _)) ?_)
    intro S1 e1
    have x : ∀ q, q ≠ e → S1.1 q = S.1 q := fun q hq => by rw [e1, m_r hq]
    have x0 : ∀ j, j ≠ 14 → S1.1 e j = S.1 e j := fun j hq => by rw [e1, m_k hq]
    refine hQ S1 ⟨by rw [e1]; rfl, fun q h0 _ _ _ _ _ _ _ => x q h0⟩ ?_ hi ?_ ?_ ?_ ?_
    · exact q_mid_frame hm (fun q hq => x q (by omega)) ⟨x0 _ (by omega), x0 _ (by omega), x0 _ (by omega)⟩
    · rw [x _ (by omega), o_sy, List.append_nil]; exact hσ
    · rw [o_sy, List.append_nil, e1, m_s]
    · rw [x _ (by omega), o_ar, List.append_nil]; exact hα
    · rw [o_ar, List.append_nil, x0 _ (by omega)]; exact h15
  | cons l ρ ih =>
    intro S r σ α i hi hm hnd hin hσ hρ h14 hle hα h15 hlen Q hQ
    rw [List.length_cons] at h14 hle
    obtain ⟨hlL, hst⟩ := hin l (List.mem_cons_self ..)
    obtain ⟨hb, hq, eb, eq, hs, hr⟩ := i_ps_bq hi hlL
    have hr1 := hr hst
    have hL := hi.2.2.2.1
    have hnp := hi.2.1
    have hd := hi.2.2.2.2.2.1
    obtain ⟨hn1, hn2⟩ := List.nodup_cons.mp hnd
    obtain ⟨j1, j2, j3, j4⟩ := i_ps_gp hi hlL hst
    have hin2 : ∀ l', l' ∈ ρ → l' < L ∧ o_gp r d l (1200 + 11 * l' + 6) = 1 := fun l' hl' => by
      have hne : l' ≠ l := fun h => hn1 (h ▸ hl')
      rw [j2 l' hne]
      exact hin l' (List.mem_cons_of_mem _ hl')
    have e2 : o_gp r d l 2 = r 2 := o_gp_at (by omega) (by omega) (by omega) (by omega) (by omega) (by omega)
    obtain ⟨w1, w2, w3, w4, w5, w6⟩ := hm.2.2 l hlL
    have w5 := w5 hst
    rw [eq] at w2
    have hT : d / 30 % 12 < 12 := Nat.mod_lt _ (by decide)
    have esn : S.1 (e + 3) (o_q r l * 12 + d / 30 % 12) = r (1140 + 15 * o_q r l + (3 + d / 30 % 12)) := (hm.2.1 (o_q r l) (by omega)).2.2.1 _ hT
    have hsn := (hi.2.2.2.2.2.2.1 (o_q r l) hq).2 _ hT
    simp only [o_tp, o_sy, o_ar] at hQ
    generalize hTT : d / 30 % 12 = T at *
    refine sg_X6_passDay_15 e _ _ _ _ (j_neg (by rw [h14, n_le (by omega) (by omega)]; omega) ?_)
    rw [a_in (by omega) (by omega), hρ.1, a_in (by omega) (by omega), w2, n_ln12 (by omega) (by omega), a_in (by omega) (by omega), a_in (by omega) (by omega), w5, esn, n_inc, n_inc]
    have keep : ∀ S' : ev_S, p_fr S S' e → q_mid S'.1 e (o_gp r d l) L → S'.1 (e + 14) = (fun j => if j = σ.length then Int32.ofNat l else S.1 (e + 14) j) → S'.1 (e + 15) = S.1 (e + 15) → S'.1 e = S.1 e → ¬ o_ari r d l = true → ev_E g m_X6_passDay 4 0 15 [some (ev_o 6 e), some (ev_i (r 2)), some (ev_i (Int32.ofNat T)), some (ev_i (Int32.ofNat (σ.length + 1))), some (ev_i (Int32.ofNat (i + 1))), none, none] [] S' Q := by
      intro S' p1 p2 p3 p4 p5 p6
      rw [if_neg p6, if_neg p6] at hQ
      have := ih S' (o_gp r d l) (σ ++ [l]) α (i + 1) j1 p2 hn2 hin2 ?_ ?_ ?_ (by omega) (by rw [p4]; exact hα) (by rw [p5]; exact h15) (by simp only [List.length_append, List.length_singleton]; omega) Q (fun z z1 z2 z3 z4 z5 z6 z7 => hQ z (p_fr_trans p1 z1) z2 z3 (by simpa using z4) (by simpa using z5) z6 z7)
      · rw [e2, List.length_append, List.length_singleton] at this
        exact this
      · refine q_arr_app σ [l] 0 (q_arr_congr σ 0 (fun j _ hj => ?_) hσ) ⟨?_, trivial⟩
        · rw [p3]; exact if_neg (by omega)
        · rw [p3]; exact if_pos (by omega)
      · refine q_arr_congr ρ (i + 1) (fun j hj _ => ?_) hρ.2
        rw [p3]; exact if_neg (by omega)
      · rw [p5, h14]; congr 1; omega
    have go : ∀ S' : ev_S, p_fr S S' e → q_mid S'.1 e (o_gp r d l) L → S'.1 (e + 14) = S.1 (e + 14) → S'.1 e 14 = S.1 e 14 → (∀ j, j ≠ α.length → S'.1 (e + 15) j = S.1 (e + 15) j) → S'.1 (e + 15) α.length = Int32.ofNat l → S'.1 e 15 = Int32.ofNat (α.length + 1) → o_ari r d l = true → ev_E g m_X6_passDay 4 0 15 [some (ev_o 6 e), some (ev_i (r 2)), some (ev_i (Int32.ofNat T)), some (ev_i (Int32.ofNat σ.length)), some (ev_i (Int32.ofNat (i + 1))), none, none] [] S' Q := by
      intro S' p1 p2 p3 p4 p5 p6 p7 p8
      rw [if_pos p8, if_pos p8] at hQ
      have := ih S' (o_gp r d l) σ (α ++ [l]) (i + 1) j1 p2 hn2 hin2 (by rw [p3]; exact hσ) (by rw [p3]; exact hρ.2) ?_ (by omega) ?_ (by rw [p7, List.length_append, List.length_singleton]) (by simp only [List.length_append, List.length_singleton]; omega) Q (fun z z1 z2 z3 z4 z5 z6 z7 => hQ z (p_fr_trans p1 z1) z2 z3 z4 z5 (by simpa using z6) (by simpa using z7))
      · rw [e2] at this
        exact this
      · rw [p4, h14]; congr 1; omega
      · refine q_arr_app α [l] 0 (q_arr_congr α 0 (fun j _ hj => ?_) hα) ⟨?_, trivial⟩
        · exact p5 j (by omega)
        · rw [Nat.zero_add]; exact p6
    by_cases h9 : r (1140 + 15 * o_q r l + (3 + T)) = 9
    · have ear : ¬ o_ari r d l = true := by
        simp only [o_ari, decide_eq_true_eq, ne_eq, hTT]; exact fun q => q.1 h9
      have egp : o_gp r d l = r := by unfold o_gp; rw [hTT, if_pos h9]
      refine j_neg (by rw [h9]; decide) (j_neg ?_ ?_)
      · intro q; rw [q] at hr1; exact absurd hr1 (by decide)
      · intro S5 e5
        rw [a_put (by omega) (by omega)] at e5
        refine keep S5 ⟨by rw [e5]; rfl, fun q _ _ _ _ _ h _ _ => by rw [e5, m_r h]⟩ ?_ ?_ (by rw [e5, m_r (by omega)]) (by rw [e5, m_r (by omega)]) ear
        · rw [egp]
          exact q_mid_frame hm (fun q hq => by rw [e5, m_r (by omega)]) ⟨by rw [e5, m_r (by omega)], by rw [e5, m_r (by omega)], by rw [e5, m_r (by omega)]⟩
        · funext j
          rw [e5]
          by_cases hj : j = σ.length
          · rw [if_pos hj, hj, m_s]
          · rw [if_neg hj, m_k hj]
    · have hlt : r (1140 + 15 * o_q r l + (3 + T)) < 9 := by
        have e9 : (9 : Int32).toInt = 9 := rfl
        rw [z_eq, e9] at h9
        rw [z_lt, e9]
        omega
      refine j_pos hlt ?_
      intro S2 h2
      rw [a_put (by omega) (by omega), n_am] at h2
      rw [n_am]
      have x2 : ∀ q, q ≠ e + 11 → S2.1 q = S.1 q := fun q hq => by rw [h2, m_r hq]
      have m2 : q_mid S2.1 e (upd r (1200 + 11 * l + 9) (r (1200 + 11 * l + 9) - 1)) L := by
        refine q_mid_days hL hm (fun q h11 _ => x2 q h11) (fun k => ?_)
        rw [h2]
        by_cases hk : k = l
        · rw [if_pos hk, hk, m_s]
        · rw [if_neg hk, m_k hk]
      refine ⟨fun h0 => ?_, fun h0 => ?_⟩
      · have ear : o_ari r d l = true := by
          simp only [o_ari, decide_eq_true_eq, ne_eq, hTT]; exact ⟨h9, h0⟩
        have egp : o_gp r d l = o_arr (upd r (1200 + 11 * l + 9) (r (1200 + 11 * l + 9) - 1)) l (o_b r l) (o_q r l) := by unfold o_gp; rw [hTT, if_neg h9, if_pos h0]
        have eob : o_b (upd r (1200 + 11 * l + 9) (r (1200 + 11 * l + 9) - 1)) l = o_b r l := by unfold o_b; rw [u_k (by omega)]
        have eoq : o_q (upd r (1200 + 11 * l + 9) (r (1200 + 11 * l + 9) - 1)) l = o_q r l := by unfold o_q; rw [u_k (by omega)]
        have er2 : upd r (1200 + 11 * l + 9) (r (1200 + 11 * l + 9) - 1) 2 = r 2 := u_k (by omega)
        rw [← er2]
        refine p_arrive hL (by rw [eob]; exact hb) (by rw [eoq]; omega) (by rw [eob, u_k (by omega)]; exact eb) (by rw [eoq, u_k (by omega)]; exact eq) hlL (by rw [u_k (by omega)]; exact hst) m2 (k := α.length) (by omega) (by rw [x2 _ (by omega)]; exact h15) ?_
        intro z z1 z2 z3 z4 z5 z6 z7
        refine ⟨rfl, ?_⟩
        rw [er2]
        refine go z (p_fr_trans ⟨by rw [h2]; rfl, fun q _ _ _ h _ _ _ _ => x2 q h⟩ z1) ?_ ?_ ?_ ?_ z6 z7 ear
        · rw [egp]; rw [eob, eoq] at z2; exact z2
        · rw [z3, x2 _ (by omega)]
        · rw [z4, x2 _ (by omega)]
        · intro j hj; rw [z5 j hj, x2 _ (by omega)]
      · have ear : ¬ o_ari r d l = true := by
          simp only [o_ari, decide_eq_true_eq, ne_eq, hTT]; exact fun q => h0 q.2
        have egp : o_gp r d l = upd r (1200 + 11 * l + 9) (r (1200 + 11 * l + 9) - 1) := by unfold o_gp; rw [hTT, if_neg h9, if_neg h0]
        intro S3 h3
        rw [a_put (by omega) (by omega)] at h3
        have x3 : ∀ q, q ≠ e + 11 → q ≠ e + 14 → S3.1 q = S.1 q := fun q h h' => by rw [h3, m_r h', x2 q h]
        refine keep S3 ⟨by rw [h3, h2]; rfl, fun q _ _ _ h _ h' _ _ => x3 q h h'⟩ ?_ ?_ (x3 _ (by omega) (by omega)) (x3 _ (by omega) (by omega)) ear
        · rw [egp]
          exact q_mid_frame m2 (fun q hq => by rw [h3, m_r (by omega)]) ⟨by rw [h3, m_r (by omega)], by rw [h3, m_r (by omega)], by rw [h3, m_r (by omega)]⟩
        · funext j
          rw [h3]
          by_cases hj : j = σ.length
          · rw [if_pos hj, hj, m_s]
          · rw [if_neg hj, m_k hj, x2 _ (by omega)]
