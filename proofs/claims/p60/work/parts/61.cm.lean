/-! ===== the class: the post; sendOff, a day ===== -/
theorem o_lv_stop {q s d L k : Nat} {r : Nat → Int32} (hk : 1 ≤ k) (h : (∀ i, i < L → ¬ o_wt r q s i = true) ∨ r (1140 + 15 * q + (1 + s)) ≤ 0) : o_lv q s d L k r = r := by
  cases k with
  | zero => omega
  | succ k =>
    rw [o_lv]
    rcases h with h | h
    · rw [fnd_none L h, if_neg (Nat.lt_irrefl L)]
    · rw [if_pos h]
      split <;> rfl
theorem o_lv_step {q s d L k j : Nat} {r : Nat → Int32} (hj : j < L) (hw : o_wt r q s j = true) (hb : ∀ i, i < j → ¬ o_wt r q s i = true) (h : ¬ r (1140 + 15 * q + (1 + s)) ≤ 0) : o_lv q s d L (k + 1) r = o_lv q s d L k (o_lv1 r q s d j) := by
  rw [o_lv, fnd_some hw hb L hj, if_pos hj, if_neg h]
theorem p_send {g : ev_G} {e np L d q s : Nat} (hq : q < np) (hs : s < 2) : ∀ (m : Nat) (S : ev_S) (r : Nat → Int32) (ρ : List Nat) (j k : Nat), j + m = L → i_pst r np L d ρ → q_pst S.1 e r L ρ → (∀ i, i < j → ¬ o_wt r q s i = true) → cnt (o_wt r q s) L < k → ¬ r (1140 + 15 * q + (3 + d / 30 % 12)) = 9 → ∀ Q : ev_O → ev_S → Prop,
    (∀ z ρ', p_fr S z e → z.1 (e + 15) = S.1 (e + 15) → z.1 e 15 = S.1 e 15 → i_pst (o_lv q s d L k r) np L d ρ' → q_pst z.1 e (o_lv q s d L k r) L ρ' → Q (.inl none) z) →
    ev_E g m_X6_sendOff 3 0 3 [some (ev_o 6 e), some (ev_i (Int32.ofNat q)), some (ev_i (Int32.ofNat s)), some (ev_i (r (1140 + 15 * q) + r (1140 + 15 * q + (3 + d / 30 % 12)))), some (ev_i (Int32.ofNat j))] [] S Q := by
  intro m
  induction m with
  | zero =>
    intro S r ρ j k hjm hi hp hb hk _ Q hQ
    have hL := hi.1.2.2.2.1
    have a3 := hp.1.1.2.2.1
    rw [hi.1.2.2.1] at a3
    refine sg_X6_sendOff_3 e _ _ _ _ (j_pos (by rw [a3, n_le (by omega) (by omega)]; omega) ?_)
    rw [o_lv_stop (by omega) (Or.inl (fun i hi9 => hb i (by omega)))] at hQ
    exact hQ S ρ ⟨rfl, fun _ _ _ _ _ _ _ _ _ => rfl⟩ rfl rfl hi hp
  | succ m ih =>
    intro S r ρ j k hjm hi hp hb hk hsn Q hQ
    have hL := hi.1.2.2.2.1
    have hnp := hi.1.2.1
    have a3 := hp.1.1.2.2.1
    rw [hi.1.2.2.1] at a3
    have hj : j < L := by omega
    obtain ⟨w1, w2, w3, w4, w5, w6⟩ := hp.1.2.2 j hj
    obtain ⟨c1, c2, c3, c4⟩ := hp.1.2.1 q (by omega)
    have same : ∀ i, i < L → ((∀ i, i < L → ¬ o_wt r q s i = true) ∨ r (1140 + 15 * q + (1 + s)) ≤ 0) → Q (.inl none) S := fun _ _ hst => by
      rw [o_lv_stop (by omega) hst] at hQ
      exact hQ S ρ ⟨rfl, fun _ _ _ _ _ _ _ _ _ => rfl⟩ rfl rfl hi hp
    refine sg_X6_sendOff_3 e _ _ _ _ (j_neg (by rw [a3, n_le (by omega) (by omega)]; omega) ?_)
    rw [n_ln2 (by omega) hs, a_in (by omega) (by omega), a_in (by omega) (by omega), a_in (by omega) (by omega), a_in (by omega) (by omega), a_in (by omega) (by omega), n_inc, c4 s hs, c2 s hs, w1, w2, w3]
    have hcl := cnt_le (o_wt r q s) L
    have ez : (0 : Int32) = Int32.ofNat 0 := rfl
    refine ⟨fun h0 => ?_, fun h0 => ?_⟩
    · rw [ez, n_le (by omega) (by omega)] at h0
      exact same j hj (Or.inl (cnt_none L (by omega)))
    · rw [ez, n_le (by omega) (by omega)] at h0
      refine ⟨fun hst => ?_, fun hst => same j hj (Or.inr ?_)⟩
      · have hst' : ¬ r (1140 + 15 * q + (1 + s)) ≤ 0 := by
          rw [z_le]
          rw [z_lt] at hst
          omega
        have skip : ¬ o_wt r q s j = true → ev_E g m_X6_sendOff 3 0 3 [some (ev_o 6 e), some (ev_i (Int32.ofNat q)), some (ev_i (Int32.ofNat s)), some (ev_i (r (1140 + 15 * q) + r (1140 + 15 * q + (3 + d / 30 % 12)))), some (ev_i (Int32.ofNat (j + 1)))] [] S Q := fun hw =>
          ih S r ρ (j + 1) k (by omega) hi hp (fun i hi9 => by
            by_cases hij : i = j
            · rw [hij]; exact hw
            · exact hb i (by omega)) hk hsn Q hQ
        refine ⟨fun h1 => ⟨fun h2 => ⟨fun h3 => ?_, fun h3 => skip ?_⟩, fun h2 => skip ?_⟩, fun h1 => skip ?_⟩
        · have hw : o_wt r q s j = true := by simp only [o_wt, decide_eq_true_eq]; exact ⟨h1, h2, h3⟩
          obtain ⟨i1, i2⟩ := i_pst_lv1 hi hq hs hj hw hsn
          have hlen : ρ.length + 1 ≤ L := by
            have := nd_le L (ρ ++ [j]) (i_road_nd i1.2.2) (fun x hx => (i1.2.2.1 x hx).1)
            rw [List.length_append, List.length_singleton] at this
            exact this
          intro S1 x1 S2 x2 S3 x3 S4 x4 S5 x5 S6 x6
          rw [a_put (by omega) (by omega)] at x1 x2 x5 x6
          have y2 : ∀ x, x ≠ e + 10 → x ≠ e + 11 → S2.1 x = S.1 x := fun x h h' => by rw [x2, m_r h', x1, m_r h]
          rw [y2 e (by omega) (by omega), hp.2.2, a_put (by omega) (by omega)] at x3
          have y3 : ∀ x, x ≠ e + 10 → x ≠ e + 11 → x ≠ e + 14 → S3.1 x = S.1 x := fun x h h' h'' => by rw [x3, m_r h'', y2 x h h']
          rw [y3 e (by omega) (by omega) (by omega), hp.2.2, n_inc] at x4
          have y4 : ∀ x, x ≠ e + 10 → x ≠ e + 11 → x ≠ e + 14 → x ≠ e → S4.1 x = S.1 x := fun x h h' h'' h3 => by rw [x4, m_r h3, y3 x h h' h'']
          rw [y4 (e + 16) (by omega) (by omega) (by omega) (by omega), a_in (by omega) (by omega)] at x5
          have y5 : ∀ x, x ≠ e + 10 → x ≠ e + 11 → x ≠ e + 14 → x ≠ e → x ≠ e + 16 → S5.1 x = S.1 x := fun x h h' h'' h3 h4 => by rw [x5, m_r h4, y4 x h h' h'' h3]
          rw [y5 (e + 4) (by omega) (by omega) (by omega) (by omega) (by omega), a_in (by omega) (by omega)] at x6
          have y6 : ∀ x, x ≠ e + 10 → x ≠ e + 11 → x ≠ e + 14 → x ≠ e → x ≠ e + 16 → x ≠ e + 4 → S6.1 x = S.1 x := fun x h h' h'' h3 h4 h5 => by rw [x6, m_r h5, y5 x h h' h'' h3 h4]
          have ye : ∀ i, i ≠ 14 → S6.1 e i = S.1 e i := fun i hi9 => by rw [x6, m_r (by omega), x5, m_r (by omega), x4, m_k hi9, y3 e (by omega) (by omega) (by omega)]
          have pf : p_fr S S6 e := ⟨by rw [x6, x5, x4, x3, x2, x1]; rfl, fun x h0 h4 h10 h11 _ h14 _ h16 => y6 x h10 h11 h14 h0 h16 h4⟩
          have pq : q_pst S6.1 e (o_lv1 r q s d j) L (ρ ++ [j]) := by
            refine ⟨q_mid_lv1 hi.1 hq hs hj hw hp.1 (fun x hx => y6 x (by omega) (by omega) (by omega) (by omega) (by omega) (by omega)) (fun i => ?_) (fun i => ?_) (fun i => ?_) (fun i => ?_) ⟨ye _ (by omega), ye _ (by omega), ye _ (by omega)⟩, ?_, ?_⟩
            · rw [x6, m_r (by omega), x5, m_r (by omega), x4, m_r (by omega), x3, m_r (by omega), x2, m_r (by omega), x1]
              by_cases hi9 : i = j
              · rw [if_pos hi9, hi9, m_s]
              · rw [if_neg hi9, m_k hi9]
            · rw [x6, m_r (by omega), x5, m_r (by omega), x4, m_r (by omega), x3, m_r (by omega), x2]
              by_cases hi9 : i = j
              · rw [if_pos hi9, hi9, m_s]
              · rw [if_neg hi9, m_k hi9, x1, m_r (by omega)]
            · rw [x6, m_r (by omega), x5]
              by_cases hi9 : i = q * 2 + s
              · rw [if_pos hi9, hi9, m_s]
              · rw [if_neg hi9, m_k hi9, y4 _ (by omega) (by omega) (by omega) (by omega)]
            · rw [x6]
              by_cases hi9 : i = q * 2 + s
              · rw [if_pos hi9, hi9, m_s]
              · rw [if_neg hi9, m_k hi9, y5 _ (by omega) (by omega) (by omega) (by omega) (by omega)]
            · have y14 : S6.1 (e + 14) = S3.1 (e + 14) := by rw [x6, m_r (by omega), x5, m_r (by omega), x4, m_r (by omega)]
              refine q_arr_app ρ [j] 0 (q_arr_congr ρ 0 (fun i _ hi9 => ?_) hp.2.1) ⟨?_, trivial⟩
              · rw [y14, x3, m_k (by omega), y2 _ (by omega) (by omega)]
              · rw [y14, x3, Nat.zero_add, m_s]
            · rw [x6, m_r (by omega), x5, m_r (by omega), x4, m_s, List.length_append, List.length_singleton]
          obtain ⟨v1, v2⟩ := o_wt_lv1 (d := d) (by omega : q < 4) hs hw
          have hcd := cnt_drop hw v1 v2 L hj
          have hT : d / 30 % 12 < 12 := Nat.mod_lt _ (by decide)
          have eb : o_lv1 r q s d j (1140 + 15 * q) = r (1140 + 15 * q) := o_lv1_at (by omega) (by omega) (by omega) (by omega) (by omega)
          have es : o_lv1 r q s d j (1140 + 15 * q + (3 + d / 30 % 12)) = r (1140 + 15 * q + (3 + d / 30 % 12)) := o_lv1_at (by omega) (by omega) (by omega) (by omega) (by omega)
          have := ih S6 (o_lv1 r q s d j) (ρ ++ [j]) (j + 1) (k - 1) (by omega) i1 pq (fun i hi9 => by
            by_cases hij : i = j
            · rw [hij]; exact v1
            · rw [v2 i hij]; exact hb i (by omega)) (by omega) (by rw [es]; exact hsn) Q (fun z ρ' z1 z2 z3 z4 z5 => by
              have ek : o_lv q s d L (k - 1) (o_lv1 r q s d j) = o_lv q s d L k r := by
                rw [← o_lv_step hj hw hb hst', show k - 1 + 1 = k by omega]
              rw [ek] at z4 z5
              exact hQ z ρ' (p_fr_trans pf z1) (by rw [z2, y6 _ (by omega) (by omega) (by omega) (by omega) (by omega) (by omega)]) (by rw [z3, ye _ (by omega)]) z4 z5)
          rw [eb, es] at this
          exact this
        · simp only [o_wt, decide_eq_true_eq]; exact fun hh => h3 hh.2.2
        · simp only [o_wt, decide_eq_true_eq]; exact fun hh => h2 hh.2.1
        · simp only [o_wt, decide_eq_true_eq]; exact fun hh => h1 hh.1
      · rw [z_le]
        rw [z_lt] at hst
        omega
