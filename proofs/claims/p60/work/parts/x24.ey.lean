/-! ===== two rows that agree on one pass: a day ===== -/
def pj_l (q : Nat) (x y : Nat → Int32) (i j : Nat) : Prop := y (1200 + 11 * j) = x (1200 + 11 * i) ∧ y (1200 + 11 * j + 1) = x (1200 + 11 * i + 1) ∧ (x (1200 + 11 * i + 1) = Int32.ofNat q → y (1200 + 11 * j + 6) = x (1200 + 11 * i + 6) ∧ (x (1200 + 11 * i + 6) = 1 → y (1200 + 11 * j + 9) = x (1200 + 11 * i + 9)))
def PJ (q L i j M N : Nat) (x y : Nat → Int32) : Prop := (∀ w, w < 15 → y (1140 + 15 * q + w) = x (1140 + 15 * q + w)) ∧ (∀ l, l < L → pj_l q x y l l) ∧ pj_l q x y i j ∧ x (1200 + 11 * i + 1) = Int32.ofNat q ∧ (L ≤ i ∧ i < M ∧ L ≤ j ∧ j < N) ∧
  (∀ l, L ≤ l → l < M → l ≠ i → ¬ x (1200 + 11 * l + 1) = Int32.ofNat q) ∧ ∀ l, L ≤ l → l < N → l ≠ j → ¬ y (1200 + 11 * l + 1) = Int32.ofNat q
theorem pj_lt {q L i j M N : Nat} {x y : Nat → Int32} (h : PJ q L i j M N x y) {f g : Nat → Bool} (hf : ∀ l, f l = true → x (1200 + 11 * l + 1) = Int32.ofNat q) (hg : ∀ l, g l = true → y (1200 + 11 * l + 1) = Int32.ofNat q) (hl : ∀ l, l < L → f l = g l) (hij : f i = g j) : cnt f M = cnt g N := by
  obtain ⟨-, -, -, -, ⟨h1, h2, h3, h4⟩, h5, h6⟩ := h
  rw [cnt_ex h1 M h2 (fun l a b c d => h5 l a b c (hf l d)), cnt_ex h3 N h4 (fun l a b c d => h6 l a b c (hg l d)), cnt_congr L hl, hij]
theorem pj_cm {q s i j : Nat} {x y : Nat → Int32} (h : pj_l q x y i j) : cm x q s i = cm y q s j := by
  unfold cm
  refine decide_eq_decide.mpr ?_
  obtain ⟨h0, h1, h2⟩ := h
  rw [h0, h1]
  exact ⟨fun h => ⟨h.1, h.2.1, by rw [(h2 h.1).1]; exact h.2.2⟩, fun h => ⟨h.1, h.2.1, by rw [← (h2 h.1).1]; exact h.2.2⟩⟩
theorem pj_wt {q s i j : Nat} {x y : Nat → Int32} (h : pj_l q x y i j) : o_wt x q s i = o_wt y q s j := by
  unfold o_wt
  refine decide_eq_decide.mpr ?_
  obtain ⟨h0, h1, h2⟩ := h
  rw [h0, h1]
  exact ⟨fun h => ⟨by rw [(h2 h.2.1).1]; exact h.1, h.2⟩, fun h => ⟨by rw [← (h2 h.2.1).1]; exact h.1, h.2⟩⟩
theorem i_ps_okl {r : Nat → Int32} {np L d : Nat} (h : i_ps r np L d) : okl r L := by
  intro l hl
  obtain ⟨b, q, h1, h2, h3, h4, -⟩ := h.2.2.2.2.2.2.2 l hl
  have := h.2.1
  exact ⟨b, q, h1, by omega, h3, h4⟩
/-- what all letters do when those on the road go on -/
def h6 (r : Nat → Int32) (d l : Nat) : Int32 := if r (1200 + 11 * l + 6) = 1 then g6 r d l else r (1200 + 11 * l + 6)
def h9 (r : Nat → Int32) (d l : Nat) : Int32 := if r (1200 + 11 * l + 6) = 1 then g9 r d l else r (1200 + 11 * l + 9)
theorem tp_all {r : Nat → Int32} {np L d : Nat} {ρ : List Nat} (h : i_pst r np L d ρ) :
    (∀ l, l < L → ∀ w, w < 6 → o_tp d ρ r (1200 + 11 * l + w) = r (1200 + 11 * l + w)) ∧ (∀ l, l < L → o_tp d ρ r (1200 + 11 * l + 6) = h6 r d l ∧ o_tp d ρ r (1200 + 11 * l + 9) = h9 r d l) ∧
    (∀ q w, q < 4 → w < 15 → w ≠ 1 → w ≠ 2 → o_tp d ρ r (1140 + 15 * q + w) = r (1140 + 15 * q + w)) ∧ ∀ q s, q < 4 → s < 2 → o_tp d ρ r (1140 + 15 * q + (1 + s)) - Int32.ofNat (cnt (cm (o_tp d ρ r) q s) L) = r (1140 + 15 * q + (1 + s)) - Int32.ofNat (cnt (cm r q s) L) := by
  obtain ⟨h1, ⟨dp, h2, h3, h4⟩, h5⟩ := h
  have hnd := i_road_nd h5
  obtain ⟨a1, a2, a3, a4, a5⟩ := tp_f (d := d) ρ r (i_ps_okl h1) hnd (fun l hl => ⟨(h5.1 l hl).1, (h5.1 l hl).2.1⟩)
  refine ⟨a2, fun l hl => ?_, a4, a5⟩
  unfold h6 h9
  by_cases hs : r (1200 + 11 * l + 6) = 1
  · rw [if_pos hs, if_pos hs]
    have hm : l ∈ ρ := h5.2.2 l hl hs (fun hle => by
      have i0 : (0 : Int32).toInt = 0 := rfl
      rw [z_le, i0] at hle
      have := (h4 l hl hs).1
      omega)
    exact a3 l hm
  · rw [if_neg hs, if_neg hs]
    have hm : l ∉ ρ := fun hm => hs (h5.1 l hm).2.1
    exact ⟨a1 l hl hm 6 (by omega), a1 l hl hm 9 (by omega)⟩
theorem pj_tp {q L i j M N np d : Nat} {x y : Nat → Int32} {ρ σ : List Nat} (hq : q < 4) (h : PJ q L i j M N x y) (hx : i_pst x np M d ρ) (hy : i_pst y np N d σ) : PJ q L i j M N (o_tp d ρ x) (o_tp d σ y) := by
  obtain ⟨a1, a2, a3, a4⟩ := tp_all hx
  obtain ⟨b1, b2, b3, b4⟩ := tp_all hy
  obtain ⟨p1, p2, p3, p4, p5, p6, p7⟩ := id h
  have hm : d / 30 % 12 < 12 := Nat.mod_lt _ (by omega)
  have hl : ∀ l l', l < M → l' < N → pj_l q x y l l' → pj_l q (o_tp d ρ x) (o_tp d σ y) l l' := by
    intro l l' hl hl' hp
    obtain ⟨c0, c1, c2⟩ := hp
    have e0 : o_tp d ρ x (1200 + 11 * l) = x (1200 + 11 * l) := a1 l hl 0 (by omega)
    have e0' : o_tp d σ y (1200 + 11 * l') = y (1200 + 11 * l') := b1 l' hl' 0 (by omega)
    unfold pj_l
    rw [e0, e0', a1 l hl 1 (by omega), b1 l' hl' 1 (by omega)]
    refine ⟨c0, c1, fun hq1 => ?_⟩
    obtain ⟨c6, c9⟩ := c2 hq1
    have q1 : o_q x l = q := by unfold o_q; rw [hq1, n_c (by omega)]
    have q2 : o_q y l' = q := by unfold o_q; rw [c1, hq1, n_c (by omega)]
    rw [(a2 l hl).1, (a2 l hl).2, (b2 l' hl').1, (b2 l' hl').2]
    unfold h6 h9 g6 g9
    rw [q1, q2, c6, p1 _ (by omega)]
    by_cases hs : x (1200 + 11 * l + 6) = 1
    · rw [if_pos hs, if_pos hs, if_pos hs, if_pos hs, c9 hs]
      exact ⟨rfl, fun _ => rfl⟩
    · rw [if_neg hs, if_neg hs]
      exact ⟨rfl, fun hh => absurd hh hs⟩
  have hP2 : ∀ l, l < L → pj_l q (o_tp d ρ x) (o_tp d σ y) l l := fun l hlL => hl l l (by omega) (by omega) (p2 l hlL)
  have hP3 := hl i j p5.2.1 p5.2.2.2 p3
  have hP6 : ∀ l, L ≤ l → l < M → l ≠ i → ¬ o_tp d ρ x (1200 + 11 * l + 1) = Int32.ofNat q := fun l h1 h2 h3 => by rw [a1 l h2 1 (by omega)]; exact p6 l h1 h2 h3
  have hP7 : ∀ l, L ≤ l → l < N → l ≠ j → ¬ o_tp d σ y (1200 + 11 * l + 1) = Int32.ofNat q := fun l h1 h2 h3 => by rw [b1 l h2 1 (by omega)]; exact p7 l h1 h2 h3
  have hP4 : o_tp d ρ x (1200 + 11 * i + 1) = Int32.ofNat q := by rw [a1 i p5.2.1 1 (by omega)]; exact p4
  refine ⟨fun w hw => ?_, hP2, hP3, hP4, p5, hP6, hP7⟩
  by_cases hw12 : w = 1 ∨ w = 2
  · have st : ∀ s, s < 2 → o_tp d σ y (1140 + 15 * q + (1 + s)) = o_tp d ρ x (1140 + 15 * q + (1 + s)) := by
      intro s hs
      have e1 := a4 q s hq hs
      have e2 := b4 q s hq hs
      have hmem : ∀ (r : Nat → Int32) (l : Nat), cm r q s l = true → r (1200 + 11 * l + 1) = Int32.ofNat q := fun r l hh => by unfold cm at hh; rw [decide_eq_true_eq] at hh; exact hh.1
      have k1 : cnt (cm x q s) M = cnt (cm y q s) N := pj_lt h (hmem x) (hmem y) (fun l hlL => pj_cm (p2 l hlL)) (pj_cm p3)
      have k2 : cnt (cm (o_tp d ρ x) q s) M = cnt (cm (o_tp d σ y) q s) N := by
        obtain ⟨h1, h2, h3, h4⟩ := p5
        rw [cnt_ex h1 M h2 (fun l a b c e => hP6 l a b c (hmem _ l e)), cnt_ex h3 N h4 (fun l a b c e => hP7 l a b c (hmem _ l e)), cnt_congr L (fun l hlL => pj_cm (s := s) (hP2 l hlL)), pj_cm (s := s) hP3]
      rw [← k1, ← k2, p1 _ (by omega)] at e2
      exact s_c (e2.trans e1.symm)
    rcases hw12 with rfl | rfl
    · exact st 0 (by omega)
    · exact st 1 (by omega)
  · rw [a3 q w hq hw (by omega) (by omega), b3 q w hq hw (by omega) (by omega)]
    exact p1 w hw
/-! those that wait leave -/
theorem lv1_f {r : Nat → Int32} {q s d l : Nat} (hq : q < 4) (hs : s < 2) : o_lv1 r q s d l (1200 + 11 * l + 6) = 1 ∧ o_lv1 r q s d l (1200 + 11 * l + 9) = r (1140 + 15 * q) + r (1140 + 15 * q + (3 + d / 30 % 12)) ∧ o_lv1 r q s d l (1140 + 15 * q + (1 + s)) = r (1140 + 15 * q + (1 + s)) - 1 ∧
    ∀ j, j ≠ 1200 + 11 * l + 6 → j ≠ 1200 + 11 * l + 8 → j ≠ 1200 + 11 * l + 9 → j ≠ 1140 + 15 * q + (1 + s) → j ≠ 6 → o_lv1 r q s d l j = r j := by
  have hm : d / 30 % 12 < 12 := Nat.mod_lt _ (by omega)
  unfold o_lv1
  refine ⟨?_, ?_, ?_, fun j j6 j8 j9 js j0 => ?_⟩
  · rw [u_k (by omega), u_k (by omega), u_s]
  · rw [u_s]
  · rw [u_k (by omega), u_k (by omega), u_k (by omega), u_k (by omega), u_s]
  · rw [u_k j9, u_k j8, u_k j6, u_k j0, u_k js]
theorem pj_lv1 {q s L i j M N d a b : Nat} {x y : Nat → Int32} (hq : q < 4) (hs : s < 2) (h : PJ q L i j M N x y) (hab : (a = b ∧ a < L) ∨ (a = i ∧ b = j)) : PJ q L i j M N (o_lv1 x q s d a) (o_lv1 y q s d b) := by
  obtain ⟨p1, p2, p3, p4, p5, p6, p7⟩ := h
  obtain ⟨a6, a9, as, ao⟩ := lv1_f (r := x) (d := d) (l := a) hq hs
  obtain ⟨b6, b9, bs, bo⟩ := lv1_f (r := y) (d := d) (l := b) hq hs
  have hm : d / 30 % 12 < 12 := Nat.mod_lt _ (by omega)
  have e0 : y (1140 + 15 * q) = x (1140 + 15 * q) := p1 0 (by omega)
  have hl : ∀ l l', (l = a ↔ l' = b) → pj_l q x y l l' → pj_l q (o_lv1 x q s d a) (o_lv1 y q s d b) l l' := by
    intro l l' hll hp
    obtain ⟨c0, c1, c2⟩ := hp
    unfold pj_l
    rw [ao _ (by omega) (by omega) (by omega) (by omega) (by omega), bo _ (by omega) (by omega) (by omega) (by omega) (by omega), ao _ (by omega) (by omega) (by omega) (by omega) (by omega), bo _ (by omega) (by omega) (by omega) (by omega) (by omega)]
    refine ⟨c0, c1, fun hq1 => ?_⟩
    by_cases hla : l = a
    · have hlb := hll.mp hla
      rw [hla, hlb, a6, b6, a9, b9, e0, p1 _ (by omega)]
      exact ⟨rfl, fun _ => rfl⟩
    · have hlb : l' ≠ b := fun hh => hla (hll.mpr hh)
      rw [ao _ (by omega) (by omega) (by omega) (by omega) (by omega), bo _ (by omega) (by omega) (by omega) (by omega) (by omega), ao _ (by omega) (by omega) (by omega) (by omega) (by omega), bo _ (by omega) (by omega) (by omega) (by omega) (by omega)]
      exact c2 hq1
  refine ⟨fun w hw => ?_, fun l hlL => hl l l ?_ (p2 l hlL), hl i j ?_ p3, ?_, p5, fun l h1 h2 h3 => ?_, fun l h1 h2 h3 => ?_⟩
  · by_cases hw1 : w = 1 + s
    · rw [hw1, as, bs, p1 _ (by omega)]
    · rw [ao _ (by omega) (by omega) (by omega) (by omega) (by omega), bo _ (by omega) (by omega) (by omega) (by omega) (by omega)]
      exact p1 w hw
  · rcases hab with ⟨e1, e2⟩ | ⟨e1, e2⟩
    · rw [e1]
    · constructor <;> intro hh <;> omega
  · rcases hab with ⟨e1, e2⟩ | ⟨e1, e2⟩
    · constructor <;> intro hh <;> omega
    · exact ⟨fun _ => e2.symm, fun _ => e1.symm⟩
  · rw [ao _ (by omega) (by omega) (by omega) (by omega) (by omega)]; exact p4
  · rw [ao _ (by omega) (by omega) (by omega) (by omega) (by omega)]; exact p6 l h1 h2 h3
  · rw [bo _ (by omega) (by omega) (by omega) (by omega) (by omega)]; exact p7 l h1 h2 h3
theorem pj_lv {q s L i j M N d : Nat} (hq : q < 4) (hs : s < 2) : ∀ (kx ky : Nat) (x y : Nat → Int32), cnt (o_wt x q s) M < kx → cnt (o_wt y q s) N < ky → PJ q L i j M N x y → PJ q L i j M N (o_lv q s d M kx x) (o_lv q s d N ky y) := by
  intro kx
  induction kx with
  | zero => intro ky x y h1; omega
  | succ kx ih =>
    intro ky x y h1 h2 h
    have hk : ∃ k, ky = k + 1 := ⟨ky - 1, by omega⟩
    obtain ⟨k, rfl⟩ := hk
    obtain ⟨p1, p2, p3, p4, p5, p6, p7⟩ := id h
    have hx : ∀ l, L ≤ l → l < M → l ≠ i → ¬ o_wt x q s l = true := fun l a b c e => by unfold o_wt at e; rw [decide_eq_true_eq] at e; exact p6 l a b c e.2.1
    have hy : ∀ l, L ≤ l → l < N → l ≠ j → ¬ o_wt y q s l = true := fun l a b c e => by unfold o_wt at e; rw [decide_eq_true_eq] at e; exact p7 l a b c e.2.1
    have hst : y (1140 + 15 * q + (1 + s)) = x (1140 + 15 * q + (1 + s)) := p1 _ (by omega)
    have go : ∀ a b, (a = b ∧ a < L) ∨ (a = i ∧ b = j) → a < M → b < N → o_wt x q s a = true → (∀ l, l < a → ¬ o_wt x q s l = true) → (∀ l, l < b → ¬ o_wt y q s l = true) → PJ q L i j M N (o_lv q s d M (kx + 1) x) (o_lv q s d N (k + 1) y) := by
      intro a b hab ha hb hw hxa hyb
      have hwy : o_wt y q s b = true := by
        rcases hab with ⟨e1, e2⟩ | ⟨e1, e2⟩
        · rw [← e1, ← pj_wt (p2 a e2)]; exact hw
        · rw [e2, ← pj_wt p3, ← e1]; exact hw
      by_cases h0 : x (1140 + 15 * q + (1 + s)) ≤ 0
      · rw [o_lv_stop (by omega) (Or.inr h0), o_lv_stop (by omega) (Or.inr (by rw [hst]; exact h0))]
        exact h
      · rw [o_lv_step ha hw hxa h0, o_lv_step hb hwy hyb (by rw [hst]; exact h0)]
        obtain ⟨w1, w2⟩ := o_wt_lv1 (d := d) hq hs hw
        obtain ⟨w3, w4⟩ := o_wt_lv1 (d := d) hq hs hwy
        have c1 := cnt_drop hw w1 w2 M ha
        have c2 := cnt_drop hwy w3 w4 N hb
        exact ih k _ _ (by omega) (by omega) (pj_lv1 hq hs h hab)
    obtain ⟨f1, f2⟩ := fnd_spec (o_wt x q s) L
    have fle := fnd_le (o_wt x q s) L
    by_cases hf : fnd (o_wt x q s) L < L
    · exact go _ _ (Or.inl ⟨rfl, hf⟩) (by omega) (by omega) (f1 hf) f2 (fun l hl => by rw [← pj_wt (p2 l (by omega))]; exact f2 l hl)
    · have hnx : ∀ l, l < L → ¬ o_wt x q s l = true := fun l hl => f2 l (by omega)
      have hny : ∀ l, l < L → ¬ o_wt y q s l = true := fun l hl => by rw [← pj_wt (p2 l hl)]; exact hnx l hl
      by_cases hi : o_wt x q s i = true
      · refine go i j (Or.inr ⟨rfl, rfl⟩) p5.2.1 p5.2.2.2 hi (fun l hl => ?_) (fun l hl => ?_)
        · by_cases hlL : l < L
          · exact hnx l hlL
          · exact hx l (by omega) (by omega) (by omega)
        · by_cases hlL : l < L
          · exact hny l hlL
          · exact hy l (by omega) (by omega) (by omega)
      · have hj : ¬ o_wt y q s j = true := by rw [← pj_wt p3]; exact hi
        rw [o_lv_stop (by omega) (Or.inl (fun l hl => ?_)), o_lv_stop (by omega) (Or.inl (fun l hl => ?_))]
        · exact h
        · by_cases hlj : l = j
          · rw [hlj]; exact hj
          · by_cases hlL : l < L
            · exact hny l hlL
            · exact hy l (by omega) hl hlj
        · by_cases hli : l = i
          · rw [hli]; exact hi
          · by_cases hlL : l < L
            · exact hnx l hlL
            · exact hx l (by omega) hl hli
theorem pj_lvp {q L i j M N d : Nat} {x y : Nat → Int32} (hq : q < 4) (h : PJ q L i j M N x y) : PJ q L i j M N (o_lvp x q d M) (o_lvp y q d N) := by
  have hm : d / 30 % 12 < 12 := Nat.mod_lt _ (by omega)
  unfold o_lvp
  rw [h.1 _ (by omega)]
  by_cases h9 : x (1140 + 15 * q + (3 + d / 30 % 12)) = 9
  · rw [if_pos h9, if_pos h9]; exact h
  · rw [if_neg h9, if_neg h9]
    have k : ∀ (f : Nat → Bool) (n : Nat), cnt f n < n + 1 := fun f n => by have := cnt_le f n; omega
    exact pj_lv hq (by omega) _ _ _ _ (k _ _) (k _ _) (pj_lv hq (by omega) _ _ _ _ (k _ _) (k _ _) h)
/-! another pass's letters leave -/
theorem lv_keep {q q' s d M l : Nat} (hq : q < 4) (hs : s < 2) (hq' : q' < 4) (hne : q' ≠ q) : ∀ (k : Nat) (r : Nat → Int32), r (1200 + 11 * l + 1) = Int32.ofNat q → ∀ w, w < 11 → o_lv q' s d M k r (1200 + 11 * l + w) = r (1200 + 11 * l + w) := by
  intro k
  induction k with
  | zero => intro r _ w _; rfl
  | succ k ih =>
    intro r hr w hw
    rw [o_lv]
    by_cases hf : fnd (o_wt r q' s) M < M
    · rw [if_pos hf]
      by_cases h0 : r (1140 + 15 * q' + (1 + s)) ≤ 0
      · rw [if_pos h0]
      · rw [if_neg h0]
        have hw1 := (fnd_spec (o_wt r q' s) M).1 hf
        have hw2 : r (1200 + 11 * fnd (o_wt r q' s) M + 1) = Int32.ofNat q' := by unfold o_wt at hw1; rw [decide_eq_true_eq] at hw1; exact hw1.2.1
        have hnl : fnd (o_wt r q' s) M ≠ l := fun e => by
          rw [e, hr, n_eq (by omega) (by omega)] at hw2
          omega
        obtain ⟨-, -, -, ao⟩ := lv1_f (r := r) (d := d) (l := fnd (o_wt r q' s) M) hq' hs
        rw [ih _ (by rw [ao _ (by omega) (by omega) (by omega) (by omega) (by omega)]; exact hr) w hw]
        exact ao _ (by omega) (by omega) (by omega) (by omega) (by omega)
    · rw [if_neg hf]
theorem lvp_keep {q q' d M : Nat} (hq : q < 4) (hq' : q' < 4) (hne : q' ≠ q) (r : Nat → Int32) : (∀ w, w < 15 → o_lvp r q' d M (1140 + 15 * q + w) = r (1140 + 15 * q + w)) ∧ (∀ l, o_lvp r q' d M (1200 + 11 * l) = r (1200 + 11 * l) ∧ o_lvp r q' d M (1200 + 11 * l + 1) = r (1200 + 11 * l + 1)) ∧ ∀ l, r (1200 + 11 * l + 1) = Int32.ofNat q → ∀ w, w < 11 → o_lvp r q' d M (1200 + 11 * l + w) = r (1200 + 11 * l + w) := by
  unfold o_lvp
  by_cases h9 : r (1140 + 15 * q' + (3 + d / 30 % 12)) = 9
  · rw [if_pos h9]; exact ⟨fun _ _ => rfl, fun _ => ⟨rfl, rfl⟩, fun _ _ _ _ => rfl⟩
  · rw [if_neg h9]
    refine ⟨fun w hw => ?_, fun l => ⟨?_, ?_⟩, fun l hl w hw => ?_⟩
    · rw [o_lv_at _ _ _ _ _ _ _ (by omega) (by omega) (fun l _ => by omega), o_lv_at _ _ _ _ _ _ _ (by omega) (by omega) (fun l _ => by omega)]
    · rw [o_lv_at _ _ _ _ _ _ _ (by omega) (by omega) (fun l _ => by omega), o_lv_at _ _ _ _ _ _ _ (by omega) (by omega) (fun l _ => by omega)]
    · rw [o_lv_at _ _ _ _ _ _ _ (by omega) (by omega) (fun l _ => by omega), o_lv_at _ _ _ _ _ _ _ (by omega) (by omega) (fun l _ => by omega)]
    · rw [lv_keep hq (by omega) hq' hne _ _ (by rw [o_lv_at _ _ _ _ _ _ _ (by omega) (by omega) (fun l _ => by omega)]; exact hl) w hw, lv_keep hq (by omega) hq' hne _ _ hl w hw]
theorem pj_same {q L i j M N : Nat} {x y x' y' : Nat → Int32} (h : PJ q L i j M N x y)
    (hx : (∀ w, w < 15 → x' (1140 + 15 * q + w) = x (1140 + 15 * q + w)) ∧ (∀ l, x' (1200 + 11 * l) = x (1200 + 11 * l) ∧ x' (1200 + 11 * l + 1) = x (1200 + 11 * l + 1)) ∧ ∀ l, x (1200 + 11 * l + 1) = Int32.ofNat q → ∀ w, w < 11 → x' (1200 + 11 * l + w) = x (1200 + 11 * l + w))
    (hy : (∀ w, w < 15 → y' (1140 + 15 * q + w) = y (1140 + 15 * q + w)) ∧ (∀ l, y' (1200 + 11 * l) = y (1200 + 11 * l) ∧ y' (1200 + 11 * l + 1) = y (1200 + 11 * l + 1)) ∧ ∀ l, y (1200 + 11 * l + 1) = Int32.ofNat q → ∀ w, w < 11 → y' (1200 + 11 * l + w) = y (1200 + 11 * l + w)) : PJ q L i j M N x' y' := by
  obtain ⟨p1, p2, p3, p4, p5, p6, p7⟩ := h
  have hl : ∀ l l', pj_l q x y l l' → pj_l q x' y' l l' := by
    intro l l' hp
    obtain ⟨c0, c1, c2⟩ := hp
    unfold pj_l
    rw [(hx.2.1 l).1, (hx.2.1 l).2, (hy.2.1 l').1, (hy.2.1 l').2]
    refine ⟨c0, c1, fun hq1 => ?_⟩
    have hq2 : y (1200 + 11 * l' + 1) = Int32.ofNat q := by rw [c1]; exact hq1
    rw [hx.2.2 l hq1 6 (by omega), hx.2.2 l hq1 9 (by omega), hy.2.2 l' hq2 6 (by omega), hy.2.2 l' hq2 9 (by omega)]
    exact c2 hq1
  exact ⟨fun w hw => by rw [hx.1 w hw, hy.1 w hw]; exact p1 w hw, fun l hlL => hl l l (p2 l hlL), hl i j p3, by rw [(hx.2.1 i).2]; exact p4, p5, fun l h1 h2 h3 => by rw [(hx.2.1 l).2]; exact p6 l h1 h2 h3, fun l h1 h2 h3 => by rw [(hy.2.1 l).2]; exact p7 l h1 h2 h3⟩
theorem pj_lvs {q L i j M N np d : Nat} (hq : q < 4) (hnp : np ≤ 4) : ∀ (k : Nat) (x y : Nat → Int32), k ≤ np → PJ q L i j M N x y → PJ q L i j M N (o_lvs np d M k x) (o_lvs np d N k y) := by
  intro k
  induction k with
  | zero => intro x y _ h; exact h
  | succ k ih =>
    intro x y hk h
    rw [o_lvs, o_lvs]
    refine ih _ _ (by omega) ?_
    by_cases hh : np - (k + 1) = q
    · rw [hh]; exact pj_lvp hq h
    · exact pj_same h (lvp_keep hq (by omega) hh x) (lvp_keep hq (by omega) hh y)
theorem pj_dp {q L i j M N np d : Nat} {x y : Nat → Int32} {ρ σ : List Nat} (hq : q < 4) (hd : d + 1 < 1000000) (h : PJ q L i j M N x y) (hx : i_pst x np M d ρ) (hy : i_pst y np N d σ) : PJ q L i j M N (o_dp x np M d) (o_dp y np N d) := by
  unfold o_dp o_dayP
  rw [pst_rl hx, pst_rl hy]
  refine pj_lvs hq hx.1.2.1 np _ _ (Nat.le_refl _) (pj_tp hq ?_ (i_pst_tick hd hx) (i_pst_tick hd hy))
  exact pj_same h ⟨fun w hw => u_k (by omega), fun l => ⟨u_k (by omega), u_k (by omega)⟩, fun l _ w hw => u_k (by omega)⟩ ⟨fun w hw => u_k (by omega), fun l => ⟨u_k (by omega), u_k (by omega)⟩, fun l _ w hw => u_k (by omega)⟩
