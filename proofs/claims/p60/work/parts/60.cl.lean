/-! ===== the class: the post; letters leave ===== -/
theorem cnt_none {f : Nat → Bool} : ∀ n, cnt f n = 0 → ∀ i, i < n → ¬ f i = true := by
  intro n
  induction n with
  | zero => intro _ i hi; omega
  | succ n ih =>
    intro h i hi hf
    by_cases hn : f n = true
    · rw [cnt_t hn] at h; omega
    · rw [cnt_f hn] at h
      by_cases hin : i = n
      · subst hin; exact hn hf
      · exact ih h i (by omega) hf
theorem nd_le : ∀ (L : Nat) (ρ : List Nat), ρ.Nodup → (∀ x, x ∈ ρ → x < L) → ρ.length ≤ L := by
  intro L
  induction L with
  | zero =>
    intro ρ _ h
    cases ρ with
    | nil => exact Nat.le_refl _
    | cons x ρ => exact absurd (h x (List.mem_cons_self ..)) (by omega)
  | succ L ih =>
    intro ρ hn h
    by_cases hm : L ∈ ρ
    · have h1 := List.length_erase_of_mem hm
      have h2 := ih (ρ.erase L) (hn.erase L) (fun x hx => by
        have h3 := (hn.mem_erase_iff).mp hx
        have h4 := h x h3.2
        omega)
      omega
    · have h2 := ih ρ hn (fun x hx => by
        have h4 := h x hx
        have h5 : x ≠ L := fun q => hm (q ▸ hx)
        omega)
      omega
/-- departures: their number and order -/
def i_dp (r : Nat → Int32) (L : Nat) : Prop :=
  ∃ dp, r 6 = Int32.ofNat dp ∧ dp + cnt (fun l => decide (r (1200 + 11 * l + 6) = 0)) L ≤ L ∧ ∀ l, l < L → r (1200 + 11 * l + 6) = 1 → 1 ≤ (r (1200 + 11 * l + 8)).toInt ∧ (r (1200 + 11 * l + 8)).toInt ≤ dp
theorem i_road_nd {r : Nat → Int32} {L : Nat} {dep : Int32} {ρ : List Nat} (h : i_road r L dep ρ) : ρ.Nodup := by
  refine h.2.1.imp (fun {x y} hxy hq => ?_)
  subst hq
  rw [z_lt] at hxy
  omega
/-- what holds of the post's part between two steps -/
def i_pst (r : Nat → Int32) (np L d : Nat) (ρ : List Nat) : Prop := i_ps r np L d ∧ i_dp r L ∧ i_road r L 0 ρ
/-- the post's picture whole -/
def q_pst (M : Nat → Nat → Int32) (e : Nat) (r : Nat → Int32) (L : Nat) (ρ : List Nat) : Prop := q_mid M e r L ∧ q_arr (M (e + 14)) 0 ρ ∧ M e 14 = Int32.ofNat ρ.length
theorem n_opm {c : Nat} (h : 1 ≤ c) : Int32.ofNat c + -1 = Int32.ofNat (c - 1) := by rw [n_am, n_dec _ h]
/-- one letter leaves: the row -/
theorem i_pst_lv1 {r : Nat → Int32} {np L d q s j : Nat} {ρ : List Nat} (h : i_pst r np L d ρ) (hq : q < np) (hs : s < 2) (hj : j < L) (hw : o_wt r q s j = true) (hsn : ¬ r (1140 + 15 * q + (3 + d / 30 % 12)) = 9) :
    i_pst (o_lv1 r q s d j) np L d (ρ ++ [j]) ∧ j ∉ ρ := by
  obtain ⟨hi, ⟨dp, h6, hdp, hlv⟩, hro⟩ := h
  have hall := hi
  obtain ⟨g1, g2, g3, g4, g5, g5', g6, g7⟩ := hi
  simp only [o_wt, decide_eq_true_eq] at hw
  obtain ⟨w0, w1, w2⟩ := hw
  have hT : d / 30 % 12 < 12 := Nat.mod_lt _ (by decide)
  have f1 : ∀ i, i ≠ 1140 + 15 * q + (1 + s) → i ≠ 6 → i ≠ 1200 + 11 * j + 6 → i ≠ 1200 + 11 * j + 8 → i ≠ 1200 + 11 * j + 9 → o_lv1 r q s d j i = r i := fun i a b c e f => o_lv1_at a b c e f
  have e6 : o_lv1 r q s d j 6 = Int32.ofNat (dp + 1) := by rw [o_lv1, u_k (by omega), u_k (by omega), u_k (by omega), u_s, h6, n_inc]
  have es : o_lv1 r q s d j (1200 + 11 * j + 6) = 1 := by rw [o_lv1, u_k (by omega), u_k (by omega), u_s]
  have e8 : o_lv1 r q s d j (1200 + 11 * j + 8) = Int32.ofNat (dp + 1) := by rw [o_lv1, u_k (by omega), u_s, h6, n_inc]
  have e9 : o_lv1 r q s d j (1200 + 11 * j + 9) = r (1140 + 15 * q) + r (1140 + 15 * q + (3 + d / 30 % 12)) := by rw [o_lv1, u_s]
  have ost : ∀ i, i ≠ j → o_lv1 r q s d j (1200 + 11 * i + 6) = r (1200 + 11 * i + 6) := fun i hi => f1 _ (by omega) (by omega) (by omega) (by omega) (by omega)
  have o8 : ∀ i, i ≠ j → o_lv1 r q s d j (1200 + 11 * i + 8) = r (1200 + 11 * i + 8) := fun i hi => f1 _ (by omega) (by omega) (by omega) (by omega) (by omega)
  have hcd := cnt_drop (f := fun l => decide (r (1200 + 11 * l + 6) = 0)) (h := fun l => decide (o_lv1 r q s d j (1200 + 11 * l + 6) = 0)) (l := j) (by simp only [decide_eq_true_eq]; exact w0) (by simp only [decide_eq_true_eq]; rw [es]; decide) (fun i hi => by simp only [ost i hi]) L hj
  have hjr : j ∉ ρ := fun hm => by
    have := (hro.1 j hm).2.1
    rw [w0] at this
    exact absurd this (by decide)
  have e0 : (0 : Int32).toInt = 0 := rfl
  refine ⟨⟨⟨?_, g2, ?_, g4, ?_, g5', fun q' hq' => ?_, fun l hl => ?_⟩, ⟨dp + 1, e6, by omega, fun l hl hst => ?_⟩, ⟨fun l hl => ?_, ?_, fun l hl hst h8 => ?_⟩⟩, hjr⟩
  · rw [f1 3 (by omega) (by omega) (by omega) (by omega) (by omega)]; exact g1
  · rw [f1 4 (by omega) (by omega) (by omega) (by omega) (by omega)]; exact g3
  · rw [f1 2 (by omega) (by omega) (by omega) (by omega) (by omega)]; exact g5
  · rw [f1 _ (by omega) (by omega) (by omega) (by omega) (by omega)]
    refine ⟨(g6 q' hq').1, fun t ht => ?_⟩
    rw [f1 _ (by omega) (by omega) (by omega) (by omega) (by omega)]
    exact (g6 q' hq').2 t ht
  · obtain ⟨b', q', c1, c2, c3, c4, c5, c6⟩ := g7 l hl
    refine ⟨b', q', c1, c2, by rw [f1 _ (by omega) (by omega) (by omega) (by omega) (by omega)]; exact c3, by rw [f1 _ (by omega) (by omega) (by omega) (by omega) (by omega)]; exact c4, ?_⟩
    by_cases hlj : l = j
    · subst hlj
      rw [es, e9]
      refine ⟨Or.inr (Or.inl rfl), fun _ => ?_⟩
      have a1 := (g6 q hq).1
      have a2 := (g6 q hq).2 _ hT
      rw [z_add (by omega) (by omega)]
      omega
    · rw [ost l hlj, f1 _ (by omega) (by omega) (by omega) (by omega) (by omega)]
      exact ⟨c5, c6⟩
  · by_cases hlj : l = j
    · subst hlj
      rw [e8, n_i (by omega)]
      omega
    · rw [ost l hlj] at hst
      rw [o8 l hlj]
      have := hlv l hl hst
      omega
  · rcases List.mem_append.mp hl with hm | hm
    · have := hro.1 l hm
      have hne : l ≠ j := fun q9 => hjr (q9 ▸ hm)
      rw [ost l hne, o8 l hne]
      exact this
    · have hlj := List.mem_singleton.mp hm
      subst hlj
      refine ⟨hj, es, ?_⟩
      rw [e8, z_le, n_i (by omega), e0]
      omega
  · refine List.pairwise_append.mpr ⟨?_, List.pairwise_singleton _ _, fun x hx y hy => ?_⟩
    · refine List.Pairwise.imp_of_mem (fun {x y} hx hy hxy => ?_) hro.2.1
      rw [o8 x (fun q9 => hjr (q9 ▸ hx)), o8 y (fun q9 => hjr (q9 ▸ hy))]
      exact hxy
    · have hyj := List.mem_singleton.mp hy
      subst hyj
      have hx1 := hro.1 x hx
      rw [o8 x (fun q9 => hjr (q9 ▸ hx)), e8, z_lt, n_i (by omega)]
      have := hlv x hx1.1 hx1.2.1
      omega
  · by_cases hlj : l = j
    · subst hlj; exact List.mem_append.mpr (Or.inr (List.mem_singleton.mpr rfl))
    · rw [ost l hlj] at hst
      rw [o8 l hlj] at h8
      exact List.mem_append.mpr (Or.inl (hro.2.2 l hl hst h8))
/-- one letter leaves: the picture -/
theorem q_mid_lv1 {M M' : Nat → Nat → Int32} {e np L d q s j : Nat} {r : Nat → Int32} (hi : i_ps r np L d) (hq : q < np) (hs : s < 2) (hj : j < L) (hw : o_wt r q s j = true) (h : q_mid M e r L)
    (f : ∀ x, x = e + 1 ∨ x = e + 2 ∨ x = e + 3 ∨ x = e + 5 ∨ x = e + 9 ∨ x = e + 12 ∨ x = e + 13 → M' x = M x)
    (g10 : ∀ k, M' (e + 10) k = if k = j then 1 else M (e + 10) k) (g11 : ∀ k, M' (e + 11) k = if k = j then r (1140 + 15 * q) + r (1140 + 15 * q + (3 + d / 30 % 12)) else M (e + 11) k)
    (g16 : ∀ k, M' (e + 16) k = if k = q * 2 + s then M (e + 16) k + -1 else M (e + 16) k) (g4 : ∀ k, M' (e + 4) k = if k = q * 2 + s then M (e + 4) k + -1 else M (e + 4) k)
    (k0 : M' e 13 = M e 13 ∧ M' e 16 = M e 16 ∧ M' e 17 = M e 17) : q_mid M' e (o_lv1 r q s d j) L := by
  obtain ⟨⟨a1, a2, a3, a4, a5⟩, c, w⟩ := h
  obtain ⟨k1, k2, k3⟩ := k0
  have hnp := hi.2.1
  have hL := hi.2.2.2.1
  have f1 : ∀ i, i ≠ 1140 + 15 * q + (1 + s) → i ≠ 6 → i ≠ 1200 + 11 * j + 6 → i ≠ 1200 + 11 * j + 8 → i ≠ 1200 + 11 * j + 9 → o_lv1 r q s d j i = r i := fun i a b c e f => o_lv1_at a b c e f
  have es : o_lv1 r q s d j (1200 + 11 * j + 6) = 1 := by rw [o_lv1, u_k (by omega), u_k (by omega), u_s]
  have e9 : o_lv1 r q s d j (1200 + 11 * j + 9) = r (1140 + 15 * q) + r (1140 + 15 * q + (3 + d / 30 % 12)) := by rw [o_lv1, u_s]
  have esb : o_lv1 r q s d j (1140 + 15 * q + (1 + s)) = r (1140 + 15 * q + (1 + s)) - 1 := by rw [o_lv1, u_k (by omega), u_k (by omega), u_k (by omega), u_k (by omega), u_s]
  obtain ⟨v1, v2⟩ := o_wt_lv1 (d := d) (by omega : q < 4) hs hw
  refine ⟨⟨?_, ?_, ?_, ?_, ?_⟩, fun q' hq9 => ⟨?_, fun s' hs9 => ?_, fun t ht => ?_, fun s' hs9 => ?_⟩, fun l' hl' => ?_⟩
  · rw [f _ (by omega), f1 3 (by omega) (by omega) (by omega) (by omega) (by omega)]; exact a1
  · rw [f _ (by omega), f1 11 (by omega) (by omega) (by omega) (by omega) (by omega)]; exact a2
  · rw [k1, f1 4 (by omega) (by omega) (by omega) (by omega) (by omega)]; exact a3
  · rw [k2, f1 8 (by omega) (by omega) (by omega) (by omega) (by omega)]; exact a4
  · rw [k3, f1 7 (by omega) (by omega) (by omega) (by omega) (by omega)]; exact a5
  · rw [f _ (by omega), f1 _ (by omega) (by omega) (by omega) (by omega) (by omega)]; exact (c q' hq9).1
  · rw [g4, (c q' hq9).2.1 s' hs9]
    by_cases hk : q' * 2 + s' = q * 2 + s
    · have hqq : q' = q := by omega
      have hss : s' = s := by omega
      rw [if_pos hk, hqq, hss, esb, n_am]
    · rw [if_neg hk, f1 _ (by omega) (by omega) (by omega) (by omega) (by omega)]
  · rw [f _ (by omega), f1 _ (by omega) (by omega) (by omega) (by omega) (by omega)]; exact (c q' hq9).2.2.1 t ht
  · rw [g16, (c q' hq9).2.2.2 s' hs9]
    by_cases hk : q' * 2 + s' = q * 2 + s
    · have hqq : q' = q := by omega
      have hss : s' = s := by omega
      have hc := cnt_drop hw v1 v2 L hj
      rw [if_pos hk, hqq, hss, n_opm (by omega)]
      refine congrArg Int32.ofNat ?_
      omega
    · rw [if_neg hk]
      refine congrArg Int32.ofNat ?_
      refine cnt_congr L (fun i hi9 => ?_)
      by_cases hij : i = j
      · subst hij
        have hl : ¬ o_wt r q' s' i = true := by
          simp only [o_wt, decide_eq_true_eq] at hw ⊢
          intro hh
          rw [hw.2.1] at hh
          rw [hw.2.2] at hh
          have h1 := hh.2.1
          have h2 := hh.2.2
          rw [n_eq (by omega) (by omega)] at h1 h2
          omega
        have hr : ¬ o_wt (o_lv1 r q s d i) q' s' i = true := by
          simp only [o_wt, decide_eq_true_eq]
          rw [es]
          intro hh
          exact absurd hh.1 (by decide)
        rw [Bool.not_eq_true] at hl hr
        rw [hl, hr]
      · exact (o_wt_same (f1 _ (by omega) (by omega) (by omega) (by omega) (by omega)) (f1 _ (by omega) (by omega) (by omega) (by omega) (by omega)) (by rw [f1 _ (by omega) (by omega) (by omega) (by omega) (by omega)])).symm
  · obtain ⟨w1, w2, w3, w4, w5, w6⟩ := w l' hl'
    rw [f (e + 5) (by omega), f (e + 9) (by omega), f (e + 12) (by omega), f (e + 13) (by omega), g10, g11, f1 (1200 + 11 * l') (by omega) (by omega) (by omega) (by omega) (by omega), f1 (1200 + 11 * l' + 1) (by omega) (by omega) (by omega) (by omega) (by omega), f1 (1200 + 11 * l' + 7) (by omega) (by omega) (by omega) (by omega) (by omega), f1 (1200 + 11 * l' + 10) (by omega) (by omega) (by omega) (by omega) (by omega)]
    by_cases hlj : l' = j
    · subst hlj
      rw [if_pos rfl, if_pos rfl, es, e9]
      exact ⟨w1, w2, rfl, w4, fun _ => rfl, fun q9 => absurd q9 (by decide)⟩
    · rw [if_neg hlj, if_neg hlj, f1 _ (by omega) (by omega) (by omega) (by omega) (by omega), f1 _ (by omega) (by omega) (by omega) (by omega) (by omega)]
      exact ⟨w1, w2, w3, w4, w5, w6⟩
