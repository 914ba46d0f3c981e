/-! ===== no contradictions: what acts and days keep ===== -/
theorem sts_up {r : Nat → Int32} {q s : Nat} {x : Int32} (hs : s < 2) : ∀ np, q < np → sts (upd r (1140 + 15 * q + (1 + s)) (r (1140 + 15 * q + (1 + s)) + x)) np = sts r np + x := by
  have low : ∀ np, np ≤ q → sts (upd r (1140 + 15 * q + (1 + s)) (r (1140 + 15 * q + (1 + s)) + x)) np = sts r np := by
    intro np
    induction np with
    | zero => intro _; rfl
    | succ np ih =>
      intro h
      rw [sts, sts, ih (by omega), u_k (by omega), u_k (by omega)]
  intro np
  induction np with
  | zero => intro h; omega
  | succ np ih =>
    intro h
    rw [sts, sts]
    by_cases hq : np = q
    · subst hq
      rw [low np (Nat.le_refl _)]
      have hs2 : s = 0 ∨ s = 1 := by omega
      rcases hs2 with rfl | rfl
      · have e1 : upd r (1140 + 15 * np + (1 + 0)) (r (1140 + 15 * np + (1 + 0)) + x) (1140 + 15 * np + 1) = r (1140 + 15 * np + 1) + x := u_s _ _ _
        rw [e1, u_k (by omega)]
        simp only [Int32.add_assoc, Int32.add_comm, i_alc]
      · have e1 : upd r (1140 + 15 * np + (1 + 1)) (r (1140 + 15 * np + (1 + 1)) + x) (1140 + 15 * np + 2) = r (1140 + 15 * np + 2) + x := u_s _ _ _
        rw [e1, u_k (by omega)]
        simp only [Int32.add_assoc, Int32.add_comm, i_alc]
    · rw [ih (by omega), u_k (by omega), u_k (by omega)]
      simp only [Int32.add_assoc, Int32.add_comm, i_alc]
theorem sts_same {r r' : Nat → Int32} : ∀ np, (∀ q, q < np → ∀ s, s < 2 → r' (1140 + 15 * q + (1 + s)) = r (1140 + 15 * q + (1 + s))) → sts r' np = sts r np := by
  intro np
  induction np with
  | zero => intro _; rfl
  | succ np ih =>
    intro h
    have a0 : r' (1140 + 15 * np + 1) = r (1140 + 15 * np + 1) := h np (by omega) 0 (by omega)
    have a1 : r' (1140 + 15 * np + 2) = r (1140 + 15 * np + 2) := h np (by omega) 1 (by omega)
    rw [sts, sts, ih (fun q hq => h q (by omega)), a0, a1]
def o_s1 (r : Nat → Int32) (l : Nat) : Bool := decide (r (1200 + 11 * l + 6) = 1)
/-- each mule is at a stable or under way -/
def CM (r : Nat → Int32) (np L : Nat) : Prop := r 11 = sts r np + Int32.ofNat (cnt (o_s1 r) L)
theorem CM_same {r r' : Nat → Int32} {np L : Nat} (hnp : np ≤ 4) (h : CM r np L) (e : ∀ j, (j = 11 ∨ (1140 ≤ j ∧ j < 1200) ∨ ∃ l, l < L ∧ j = 1200 + 11 * l + 6) → r' j = r j) : CM r' np L := by
  unfold CM at *
  rw [e 11 (Or.inl rfl), sts_same np (fun q hq s hs => e _ (Or.inr (Or.inl (by omega)))), cnt_congr (h := o_s1 r) L (fun i hi => by unfold o_s1; rw [e _ (Or.inr (Or.inr ⟨i, hi, rfl⟩))])]
  exact h
theorem CM_arr {r : Nat → Int32} {np L l b q : Nat} (hnp : np ≤ 4) (hb : b < 2) (hq : q < np) (hl : l < L) (h1 : r (1200 + 11 * l + 6) = 1) (h : CM r np L) : CM (o_arr r l b q) np L := by
  unfold CM at *
  have e11 : o_arr r l b q 11 = r 11 := o_arr_at (by omega) (by omega) (by omega) (by omega) (by omega)
  have es : sts (o_arr r l b q) np = sts r np + 1 := by
    rw [← sts_up (r := r) (q := q) (s := 1 - b) (x := 1) (by omega) np hq]
    refine sts_same np (fun q' hq' s hs => ?_)
    unfold o_arr
    rw [u_k (by omega), u_k (by omega)]
    by_cases hqs : 1140 + 15 * q' + (1 + s) = 1140 + 15 * q + (1 + (1 - b))
    · rw [hqs, u_s, u_s]
    · rw [u_k hqs, u_k hqs, u_k (by omega), u_k (by omega)]
  have hc := cnt_drop (f := o_s1 r) (h := o_s1 (o_arr r l b q)) (l := l) (by unfold o_s1; rw [h1]; rfl) (by
    unfold o_s1 o_arr
    rw [u_k (by omega), u_k (by omega), u_k (by omega), u_k (by omega), u_s]
    decide) (fun j hj => by
    unfold o_s1
    rw [o_arr_at (by omega) (by omega) (by omega) (by omega) (by omega)]) L hl
  rw [e11, h, es, ← hc, ← n_inc]
  simp only [Int32.add_assoc, Int32.add_comm, i_alc]
theorem CM_lv1 {r : Nat → Int32} {np L q s d j : Nat} (hnp : np ≤ 4) (hs : s < 2) (hq : q < np) (hj : j < L) (hw : o_wt r q s j = true) (h : CM r np L) : CM (o_lv1 r q s d j) np L := by
  unfold CM at *
  have e11 : o_lv1 r q s d j 11 = r 11 := o_lv1_at (by omega) (by omega) (by omega) (by omega) (by omega)
  have es : sts (o_lv1 r q s d j) np = sts r np + (-1) := by
    rw [← sts_up (r := r) (q := q) (s := s) (x := -1) hs np hq]
    refine sts_same np (fun q' hq' s' hs' => ?_)
    unfold o_lv1
    rw [u_k (by omega), u_k (by omega), u_k (by omega), u_k (by omega)]
    by_cases hqs : 1140 + 15 * q' + (1 + s') = 1140 + 15 * q + (1 + s)
    · rw [hqs, u_s, u_s, Int32.sub_eq_add_neg]
    · rw [u_k hqs, u_k hqs]
  simp only [o_wt, decide_eq_true_eq] at hw
  have hc := cnt_drop (f := o_s1 (o_lv1 r q s d j)) (h := o_s1 r) (l := j) (by
    unfold o_s1 o_lv1
    rw [u_k (by omega), u_k (by omega), u_s]
    rfl) (by unfold o_s1; rw [hw.1]; decide) (fun i hi => by
    unfold o_s1
    rw [o_lv1_at (by omega) (by omega) (by omega) (by omega) (by omega)]) L hj
  have z : (-1 : Int32) + 1 = 0 := by decide
  rw [e11, h, es, ← hc, ← n_inc, Int32.add_assoc, Int32.add_comm (Int32.ofNat _) 1, ← Int32.add_assoc (-1) 1, z, Int32.zero_add]
/-- no contradictions -/
def CX (r : Nat → Int32) (n np L : Nat) : Prop := CP r n L ∧ CM r np L
theorem CX_goes {r : Nat → Int32} {n lim np L d l : Nat} (hI : IR r n lim np L d (-1)) (hbd : ∀ p, p < 2 → i_bd r p n) (hl : l < L) (h1 : r (1200 + 11 * l + 6) = 1) (h : CX r n np L) : CX (o_goes r n d l (o_b r l) (o_q r l) (-1)) n np L := by
  have hmad := IR_mad hI
  have h8 := hI.1.2.1
  have hL := hI.2.2.2.2.2.1
  obtain ⟨b, q, hb, hq, eb, eq, hk⟩ := hI.2.2.2.2.2.2.2.2 l hl
  have hnp := hI.2.2.2.1
  have eob : o_b r l = b := by unfold o_b; rw [eb, n_c (by omega)]
  have eoq : o_q r l = q := by unfold o_q; rw [eq, n_c (by omega)]
  rw [eob, eoq]
  obtain ⟨hP, hM⟩ := h
  have h9 : IR (upd r (1200 + 11 * l + 9) (r (1200 + 11 * l + 9) - 1)) n lim np L d (-1) := IR_same hI (fun j hj => u_k (by rcases hj with hj | hj | ⟨l', w, h1, h2, h3⟩ <;> omega))
  have ha : IR (o_arr (upd r (1200 + 11 * l + 9) (r (1200 + 11 * l + 9) - 1)) l b q) n lim np L d (-1) := IR_arr hb (by omega) h9
  have p9 : CP (upd r (1200 + 11 * l + 9) (r (1200 + 11 * l + 9) - 1)) n L := CP_same h8 (by omega) hmad hP (fun j hj => u_k (by rcases hj with hj | hj | ⟨l', w, h1, h2, rfl⟩ <;> omega))
  have m9 : CM (upd r (1200 + 11 * l + 9) (r (1200 + 11 * l + 9) - 1)) np L := CM_same hnp hM (fun j hj => u_k (by rcases hj with hj | hj | ⟨l', h1, rfl⟩ <;> omega))
  have era : ∀ j, 9 ≤ j → j < 1140 → o_arr (upd r (1200 + 11 * l + 9) (r (1200 + 11 * l + 9) - 1)) l b q j = r j := fun j j1 j2 => by rw [o_arr_at (by omega) (by omega) (by omega) (by omega) (by omega), u_k (by omega)]
  have pa : CP (o_arr (upd r (1200 + 11 * l + 9) (r (1200 + 11 * l + 9) - 1)) l b q) n L := CP_same h8 (by omega) (IR_mad h9) p9 (fun j hj => o_arr_at (by rcases hj with hj | hj | ⟨l', w, h1, h2, rfl⟩ <;> omega) (by rcases hj with hj | hj | ⟨l', w, h1, h2, rfl⟩ <;> omega) (by rcases hj with hj | hj | ⟨l', w, h1, h2, rfl⟩ <;> omega) (by rcases hj with hj | hj | ⟨l', w, h1, h2, rfl⟩ <;> omega) (by rcases hj with hj | hj | ⟨l', w, h1, h2, rfl⟩ <;> omega))
  have ma : CM (o_arr (upd r (1200 + 11 * l + 9) (r (1200 + 11 * l + 9) - 1)) l b q) np L := CM_arr hnp hb hq hl (by rw [u_k (by omega)]; exact h1) m9
  have hba : ∀ p, p < 2 → i_bd (o_arr (upd r (1200 + 11 * l + 9) (r (1200 + 11 * l + 9) - 1)) l b q) p n := fun p hp => i_bd_same h8 (hmad p hp) hp (fun j hj => era j (by omega) (by omega)) (hbd p hp)
  have hm1 : ¬ Int32.ofNat l = -1 := by rw [n_m1 (by omega)]; exact id
  obtain ⟨k, hk'⟩ := hk hm1
  have hk2 : i_let (o_arr (upd r (1200 + 11 * l + 9) (r (1200 + 11 * l + 9) - 1)) l b q) n l b q k := i_let_same hk' (fun j hj => by rw [o_arr_at (by omega) (by omega) (by omega) (by omega) (by omega), u_k (by omega)])
  unfold o_goes
  split
  · exact ⟨hP, hM⟩
  · split
    · unfold o_come
      rw [if_neg hm1]
      refine ⟨CP_read ha hba hl hk2 pa, CM_same hnp ma (fun j hj => (IR_read ha hk2).2 j (by unfold o_own; rcases hj with hj | hj | ⟨l', h1, rfl⟩ <;> omega) (by rcases hj with hj | hj | ⟨l', h1, rfl⟩ <;> omega) (by rcases hj with hj | hj | ⟨l', h1, rfl⟩ <;> omega))⟩
    · exact ⟨p9, m9⟩
theorem CX_trv {n lim np L d : Nat} : ∀ (ρ : List Nat) (r : Nat → Int32) (dep : Int32), IR r n lim np L d (-1) → i_road r L dep ρ → (∀ p, p < 2 → i_bd r p n) → CX r n np L → CX (o_trv n d (-1) ρ r) n np L := by
  intro ρ
  induction ρ with
  | nil => intro r dep _ _ _ h; exact h
  | cons x ρ ih =>
    intro r dep h hr hb hc
    obtain ⟨hx, h1, -⟩ := hr.1 x List.mem_cons_self
    exact ih _ _ (IR_goes h hx).1 (i_road_next h hr) (i_bd_goes h hb hx) (CX_goes h hb hx h1 hc)
theorem CX_lv {n lim np L d q s : Nat} (hq : q < np) (hs : s < 2) : ∀ (k : Nat) (r : Nat → Int32), IR r n lim np L d (-1) → CX r n np L → CX (o_lv q s d L k r) n np L := by
  intro k
  induction k with
  | zero => intro r _ h; rw [o_lv]; exact h
  | succ k ih =>
    intro r hI h
    have hnp := hI.2.2.2.1
    have hL := hI.2.2.2.2.2.1
    rw [o_lv]
    split
    · next hf =>
      split
      · exact h
      · have hI1 : IR (o_lv1 r q s d (fnd (o_wt r q s) L)) n lim np L d (-1) := IR_same hI (fun j hj => o_lv1_at (by rcases hj with hj | hj | ⟨l, w, h1, h2, rfl⟩ <;> omega) (by rcases hj with hj | hj | ⟨l, w, h1, h2, rfl⟩ <;> omega) (by rcases hj with hj | hj | ⟨l, w, h1, h2, rfl⟩ <;> omega) (by rcases hj with hj | hj | ⟨l, w, h1, h2, rfl⟩ <;> omega) (by rcases hj with hj | hj | ⟨l, w, h1, h2, rfl⟩ <;> omega))
        refine ih _ hI1 ⟨CP_same hI.1.2.1 (by omega) (IR_mad hI) h.1 (fun j hj => o_lv1_at (by rcases hj with hj | hj | ⟨l, w, h1, h2, rfl⟩ <;> omega) (by rcases hj with hj | hj | ⟨l, w, h1, h2, rfl⟩ <;> omega) (by rcases hj with hj | hj | ⟨l, w, h1, h2, rfl⟩ <;> omega) (by rcases hj with hj | hj | ⟨l, w, h1, h2, rfl⟩ <;> omega) (by rcases hj with hj | hj | ⟨l, w, h1, h2, rfl⟩ <;> omega)), CM_lv1 hnp hs hq hf ((fnd_spec _ L).1 hf) h.2⟩
    · exact h
theorem CX_lvs {n lim np L d : Nat} : ∀ (k : Nat) (r : Nat → Int32), k ≤ np → IR r n lim np L d (-1) → CX r n np L → CX (o_lvs np d L k r) n np L := by
  intro k
  induction k with
  | zero => intro r _ _ h; rw [o_lvs]; exact h
  | succ k ih =>
    intro r hk hI h
    have hnp := hI.2.2.2.1
    rw [o_lvs]
    refine ih _ (by omega) (IR_lvp (by omega) hI) ?_
    unfold o_lvp
    split
    · exact h
    · exact CX_lv (by omega) (by omega) _ _ (IR_lv (by omega) (by omega) _ hI) (CX_lv (by omega) (by omega) _ _ hI h)
theorem CX_day {r : Nat → Int32} {n lim np L d : Nat} {ρ : List Nat} (hd : d + 1 < 1000000) (hI : IG r n lim np L d ρ) (h : CX r n np L) : CX (o_dayf r n np L d) n np L := by
  unfold o_dayf
  rw [IG_rl hI]
  have ht := IG_tick hd hI
  have hL := hI.1.2.2.2.2.2.1
  have ct : CX (upd r 2 (Int32.ofNat (d + 1))) n np L := ⟨⟨CI_same (by omega) (IR_mad hI.1) h.1.1 (fun j hj => u_k (by rcases hj with hj | ⟨_, _, _, _, rfl⟩ | ⟨_, _, _, _, rfl⟩ <;> omega)), fun p hp => CB_same hp hI.1.1.2.1 (h.1.2.1 p hp) (fun j hj => u_k (by omega)), fun p hp => CR_same hp hI.1.1.2.1 (IR_mad hI.1 p hp) (h.1.2.2 p hp) (fun j hj => u_k (by unfold o_own at hj; omega)) (fun w hw => u_k (by omega)) (u_k (by split <;> omega))⟩, CM_same hI.1.2.2.2.1 h.2 (fun j hj => u_k (by rcases hj with hj | hj | ⟨l', h1, rfl⟩ <;> omega))⟩
  unfold o_day
  exact CX_lvs np _ (Nat.le_refl _) (IR_trv ρ _ 0 ht.1 ht.2.1.2.2) (CX_trv ρ _ 0 ht.1 ht.2.1.2.2 ht.2.2 ct)
theorem CX_days {n lim np L : Nat} : ∀ (k d : Nat) (r : Nat → Int32) (ρ : List Nat), d + k < 1000000 → IG r n lim np L d ρ → CX r n np L → CX (o_days n np L k d r) n np L := by
  intro k
  induction k with
  | zero => intro d r ρ _ _ h; exact h
  | succ k ih =>
    intro d r ρ hd hI h
    obtain ⟨⟨ρ', h1⟩, -⟩ := IG_day (by omega) hI
    exact ih (d + 1) _ ρ' (by omega) h1 (CX_day (by omega) hI h)
theorem CX_snow {r : Nat → Int32} {n lim np L d q t : Nat} {v : Int32} {ρ : List Nat} (hI : IG r n lim np L d ρ) (hq : q < np) (ht : t < 12) (h : CX r n np L) : CX (o_snow r q t v) n np L := by
  have hL := hI.1.2.2.2.2.2.1
  have hnp := hI.1.2.2.2.1
  refine ⟨CP_same hI.1.1.2.1 (by omega) (IR_mad hI.1) h.1 (fun j hj => u_k (by rcases hj with hj | hj | ⟨l, w, h1, h2, rfl⟩ <;> omega)), ?_⟩
  obtain ⟨-, hM⟩ := h
  unfold CM at *
  unfold o_snow
  rw [u_k (by omega), sts_same np (fun q' hq' s hs => u_k (by omega)), cnt_congr (h := o_s1 r) L (fun i hi => by unfold o_s1; rw [u_k (by omega)])]
  exact hM
theorem CX_mule {r : Nat → Int32} {n lim np L d q s : Nat} {ρ : List Nat} (hI : IG r n lim np L d ρ) (hq : q < np) (hs : s < 2) (h : CX r n np L) : CX (o_mule r q s) n np L := by
  have hL := hI.1.2.2.2.2.2.1
  have hnp := hI.1.2.2.2.1
  have er : ∀ j, j ≠ 1140 + 15 * q + (1 + s) → j ≠ 11 → o_mule r q s j = r j := fun j j1 j2 => by unfold o_mule; rw [u_k j2, u_k j1]
  refine ⟨CP_same hI.1.1.2.1 (by omega) (IR_mad hI.1) h.1 (fun j hj => er j (by rcases hj with hj | hj | ⟨l, w, h1, h2, rfl⟩ <;> omega) (by rcases hj with hj | hj | ⟨l, w, h1, h2, rfl⟩ <;> omega)), ?_⟩
  obtain ⟨-, hM⟩ := h
  unfold CM at *
  have e11 : o_mule r q s 11 = r 11 + 1 := by unfold o_mule; rw [u_s]
  have es : sts (o_mule r q s) np = sts r np + 1 := by
    rw [← sts_up (r := r) (q := q) (s := s) (x := 1) hs np hq]
    refine sts_same np (fun q' hq' s' hs' => ?_)
    unfold o_mule
    rw [u_k (by omega)]
  have hcn : cnt (o_s1 (o_mule r q s)) L = cnt (o_s1 r) L := cnt_congr L (fun i hi => by unfold o_s1; rw [er _ (by omega) (by omega)])
  rw [e11, hM, es, hcn]
  simp only [Int32.add_assoc, Int32.add_comm, i_alc]
/-- a letter is posted -/
theorem CI_post {r : Nat → Int32} {L : Nat} {x0 x1 x2 x3 x4 x5 : Int32} (hL : L ≤ 80) (hmad : ∀ p, p < 2 → o_mad r p ≤ 60) (h : CI r L)
    (hx : x2 = 0 → ∃ b k, b < 2 ∧ x0 = Int32.ofNat b ∧ x3 = Int32.ofNat k ∧ 1 ≤ k ∧ k ≤ o_mad r b ∧ o_maker k = b ∧ x4 = MV r b k 0 ∧ x5 = MV r b k 1) : CI (o_post r L x0 x1 x2 x3 x4 x5) (L + 1) := by
  obtain ⟨f4, f0, f1, f2, f3, f5, f6, f7, f8⟩ := o_post_f (r := r) (l := L) (x0 := x0) (x1 := x1) (x2 := x2) (x3 := x3) (x4 := x4) (x5 := x5)
  have er : ∀ j, (j < 1200 + 11 * L ∨ 1200 + 11 * L + 7 < j) → j ≠ 4 → o_post r L x0 x1 x2 x3 x4 x5 j = r j := fun j h1 h2 => o_post_at h1 h2
  obtain ⟨c1, c2, c3, c4, c6⟩ := CI_same (r' := o_post r L x0 x1 x2 x3 x4 x5) (by omega) hmad h (fun j hj => er j (by rcases hj with hj | ⟨_, _, _, _, rfl⟩ | ⟨_, _, _, _, rfl⟩ <;> omega) (by rcases hj with hj | ⟨_, _, _, _, rfl⟩ | ⟨_, _, _, _, rfl⟩ <;> omega))
  refine ⟨c1, c2, c3, fun l hl h0 => ?_, c6⟩
  by_cases hlL : l = L
  · subst hlL
    rw [f2] at h0
    obtain ⟨b, k, a1, a2, a3, a4, a5, a6, a7, a8⟩ := hx h0
    have := hmad b a1
    have em : o_mad (o_post r l x0 x1 x2 x3 x4 x5) b = o_mad r b := by unfold o_mad; rw [er _ (by omega) (by omega)]
    refine ⟨b, k, a1, by rw [f0, a2], by rw [f3, a3], a4, by rw [em]; exact a5, a6, fun w hw => ?_⟩
    have ev : MV (o_post r l x0 x1 x2 x3 x4 x5) b k w = MV r b k w := by unfold MV; rw [er _ (by omega) (by omega)]
    rw [ev]
    have : w = 0 ∨ w = 1 := by omega
    rcases this with rfl | rfl
    · exact f5.trans a7
    · exact f6.trans a8
  · exact c4 l (by omega) h0
theorem CM_post {r : Nat → Int32} {np L : Nat} {x0 x1 x2 x3 x4 x5 : Int32} (hnp : np ≤ 4) (h : CM r np L) : CM (o_post r L x0 x1 x2 x3 x4 x5) np (L + 1) := by
  obtain ⟨f4, f0, f1, f2, f3, f5, f6, f7, f8⟩ := o_post_f (r := r) (l := L) (x0 := x0) (x1 := x1) (x2 := x2) (x3 := x3) (x4 := x4) (x5 := x5)
  have er : ∀ j, (j < 1200 + 11 * L ∨ 1200 + 11 * L + 7 < j) → j ≠ 4 → o_post r L x0 x1 x2 x3 x4 x5 j = r j := fun j h1 h2 => o_post_at h1 h2
  unfold CM at *
  rw [er 11 (by omega) (by omega), sts_same np (fun q hq s hs => er _ (by omega) (by omega)), cnt_f (by unfold o_s1; rw [f7]; decide), cnt_congr (h := o_s1 r) L (fun i hi => by unfold o_s1; rw [er _ (by omega) (by omega)])]
  exact h
theorem CX_post {r : Nat → Int32} {n lim np L d : Nat} {ρ : List Nat} {x0 x1 x2 x3 x4 x5 : Int32} (hI : IG r n lim np L d ρ) (hL : L ≤ 80) (h : CX r n np L)
    (hx : x2 = 0 → ∃ b k, b < 2 ∧ x0 = Int32.ofNat b ∧ x3 = Int32.ofNat k ∧ 1 ≤ k ∧ k ≤ o_mad r b ∧ o_maker k = b ∧ x4 = MV r b k 0 ∧ x5 = MV r b k 1) : CX (o_post r L x0 x1 x2 x3 x4 x5) n np (L + 1) := by
  have hmad := IR_mad hI.1
  have er : ∀ j, (j < 1200 + 11 * L ∨ 1200 + 11 * L + 7 < j) → j ≠ 4 → o_post r L x0 x1 x2 x3 x4 x5 j = r j := fun j h1 h2 => o_post_at h1 h2
  exact ⟨⟨CI_post hL hmad h.1.1 hx, fun p hp => CB_same hp hI.1.1.2.1 (h.1.2.1 p hp) (fun j hj => er j (by omega) (by omega)), fun p hp => CR_same hp hI.1.1.2.1 (hmad p hp) (h.1.2.2 p hp) (fun j hj => er j (by unfold o_own at hj; omega) (by unfold o_own at hj; omega)) (fun w hw => er _ (by have := hmad p hp; omega) (by omega)) (er _ (by have := hmad p hp; split <;> omega) (by split <;> omega))⟩, CM_post hI.1.2.2.2.1 h.2⟩
theorem CX_res {r : Nat → Int32} {n lim np L d l q : Nat} {ρ : List Nat} (hI : IG r n lim np L d ρ) (hL : L ≤ 80) (hl : l < L) (h : CX r n np L) : CX (o_res r l q L) n np (L + 1) := by
  refine CX_post hI hL h (fun h0 => ?_)
  obtain ⟨b, k, a1, a2, a3, a4, a5, a6, a7⟩ := h.1.1.2.2.2.1 l hl h0
  exact ⟨b, k, a1, a2, a3, a4, a5, a6, a7 0 (by omega), a7 1 (by omega)⟩
theorem CX_move {r : Nat → Int32} {n lim np L d p m f t q : Nat} {ρ : List Nat} (hp : p < 2) (hm : r (12 + 7 * p) = Int32.ofNat m) (hml : m < lim) (hf : f < n * n) (ht : t < n * n) (hft : f ≠ t) (hq : q < np) (hL : L < 80) (hI : IG r n lim np L d ρ) (hturn : o_turn r p n m = true) (h : CX r n np L) : CX (o_move r n p m f t q L) n np (L + 1) := by
  have hmad := IR_mad hI.1
  have hdk := i_dk_p hI.1 hp
  have h8 := hdk.2.1
  have hn9 := sq_le h8
  have hl60 := hdk.2.2.2.1
  have hmd : o_mad r p = m := by unfold o_mad; rw [hm, n_c (by omega)]
  simp only [o_turn, Bool.and_eq_true, decide_eq_true_eq, Bool.not_eq_true'] at hturn
  obtain ⟨hov, hmk⟩ := hturn
  have hrest := h.1.2.2 p hp (by rw [hov]; decide)
  rw [hmd] at hrest
  have hmkq := o_maker_lt (m + 1)
  obtain ⟨c1, c2, c3, c4, c6⟩ := h.1.1
  obtain ⟨v1, v2, -, -⟩ := o_apply_mv (r := r) (m := m) (f := f) (t := t) (by omega) hp (by omega) (by omega)
  have fr : ∀ j, ¬ o_own p j → o_apply r p m f t j = r j := fun j hj => o_apply_own (by omega) (by omega) (by omega) hj
  -- a promise that is due would have been applied
  have nodue : r (762 + 6 * (m + 1) + 4) = 1 → 1 ≤ m → (∀ w, w < 2 → MV r p m w = r (762 + 6 * (m + 1) + w)) → False := fun h4 h1 hw => by
    refine hrest.2 ?_
    simp only [o_due, decide_eq_true_eq]
    rw [if_pos hmk, h4]
    exact ⟨by decide, h1, hw 0 (by omega), hw 1 (by omega)⟩
  have hc : CI (o_apply r p m f t) L := by
    refine CI_step (f := Int32.ofNat f) (t := Int32.ofNat t) hp hm (by omega) hmad h.1.1 o_apply_made v1 v2 (fun j hj => o_apply_at (by unfold o_own at hj; omega) (by unfold o_own at hj; omega) (by unfold o_own at hj; omega) (by unfold o_own at hj; omega)) (fun k1 => ?_) (fun k1 k2 => by omega) (fun _ k2 k3 k4 => absurd (nodue k3 k2 k4) id)
    exfalso
    obtain ⟨a1, a2, a3⟩ := c2 p hp (m + 1) (by omega) k1 hmk
    refine nodue a2 (by omega) (fun w hw => ?_)
    rw [c1 p hp m (by omega) (by omega) (by omega) w hw, ← (a3 w hw).2, Nat.add_sub_cancel]
  have hIa := IG_apply (t := t) hp hm hml hf ht hft hI
  have hIp := IG_post hIa (show L < 80 by omega) hp hq (show 1 ≤ m + 1 by omega) (show m + 1 ≤ 60 by omega) hf ht hft (isp := 0) (Or.inl rfl)
  have hmy : o_mad (o_apply r p m f t) p = m + 1 := by unfold o_mad; rw [o_apply_made, n_c (by omega)]
  have hq1 : 1 - p < 2 := by omega
  have er : ∀ j, (j < 1200 + 11 * L ∨ 1200 + 11 * L + 7 < j) → j ≠ 4 → o_post (o_apply r p m f t) L (Int32.ofNat p) (Int32.ofNat q) 0 (Int32.ofNat (m + 1)) (Int32.ofNat f) (Int32.ofNat t) j = o_apply r p m f t j := fun j h1 h2 => o_post_at h1 h2
  have hci := CI_post (x0 := Int32.ofNat p) (x1 := Int32.ofNat q) (x2 := 0) (x3 := Int32.ofNat (m + 1)) (x4 := Int32.ofNat f) (x5 := Int32.ofNat t) (by omega) (IR_mad hIa.1) hc (fun _ => ⟨p, m + 1, hp, rfl, rfl, by omega, by omega, hmk, v1.symm, v2.symm⟩)
  have cb : ∀ p', p' < 2 → CB (o_apply r p m f t) n p' := fun p' hp' => by
    by_cases hpp : p' = p
    · rw [hpp]
      exact CB_apply (by omega) hp h8 hf ht hft (hI.2.2 p hp).1 (h.1.2.1 p hp)
    · exact CB_same hp' h8 (h.1.2.1 p' hp') (fun j hj => fr j (by unfold o_own; omega))
  have hq60 := hmad (1 - p) hq1
  have emq : o_mad (o_apply r p m f t) (1 - p) = o_mad r (1 - p) := by unfold o_mad; rw [fr _ (by unfold o_own; omega)]
  have cr : CR (o_apply r p m f t) n (1 - p) := CR_same hq1 h8 hq60 (h.1.2.2 _ hq1) (fun j hj => fr j (by unfold o_own at *; omega)) (fun w hw => fr _ (by unfold o_own; omega)) (fr _ (by unfold o_own; split <;> omega))
  unfold o_move
  refine ⟨CP_all hp (i_dk_p hIp.1 hp) (hIp.2.2 p hp) (IR_mad hIp.1) hci (fun p' hp' => CB_same hp' h8 (cb p' hp') (fun j hj => er j (by omega) (by omega))) (CR_same hq1 h8 (by rw [emq]; exact hq60) cr (fun j hj => er j (by unfold o_own at hj; omega) (by unfold o_own at hj; omega)) (fun w hw => er _ (by rw [emq]; omega) (by omega)) (er _ (by rw [emq]; split <;> omega) (by split <;> omega))), ?_⟩
  have hM : CM (o_apply r p m f t) np L := CM_same hI.1.2.2.2.1 h.2 (fun j hj => fr j (by unfold o_own; rcases hj with hj | hj | ⟨l', h1, rfl⟩ <;> omega))
  exact CM_same hI.1.2.2.2.1 (CM_post hI.1.2.2.2.1 hM) (fun j hj => (o_all_own hp 61 _ (i_dk_p hIp.1 hp)).2 j (by unfold o_own; rcases hj with hj | hj | ⟨l', h1, rfl⟩ <;> omega))
theorem CX_prom {r : Nat → Int32} {n lim np L d p m q f t rf rt : Nat} {ρ : List Nat} (hp : p < 2) (hm : r (12 + 7 * p) = Int32.ofNat m) (hml : m ≤ lim) (hk60 : m + 2 ≤ 60) (hL : L < 80) (hI : IG r n lim np L d ρ) (hIq : IG (o_prm r (m + 2) (Int32.ofNat f) (Int32.ofNat t) (Int32.ofNat rf) (Int32.ofNat rt)) n lim np L d ρ) (hmay : o_mayp r p n m L) (h : CX r n np L) : CX (o_prom r p q (m + 2) f t rf rt L) n np (L + 1) := by
  have hmad := IR_mad hI.1
  have hdk := i_dk_p hI.1 hp
  have h8 := hdk.2.1
  have hmd : o_mad r p = m := by unfold o_mad; rw [hm, n_c (by omega)]
  obtain ⟨hov, htu, hwr, -⟩ := hmay
  have hmk : ¬ o_maker (m + 1) = p := fun h9 => by
    refine htu ?_
    unfold o_turn
    rw [Bool.eq_false_iff.mpr hov, h9]
    simp
  have hmk2 : o_maker (m + 2) = p := by
    have := o_maker_lt (m + 1)
    unfold o_maker at *
    split at hmk <;> split <;> omega
  have hkn : r (762 + 6 * (m + 2) + 5) = 0 := by
    rcases hdk.2.2.2.2.2.2 (m + 2) (by omega) with h9 | h9
    · exact h9.2
    · obtain ⟨_, _, _, _, -, -, -, -, -, -, -, -, -, -, h10, -⟩ := h9
      rw [hwr] at h10
      exact absurd h10 (by decide)
  have er : ∀ j, (j < 762 + 6 * (m + 2) ∨ 762 + 6 * (m + 2) + 4 < j) → o_prm r (m + 2) (Int32.ofNat f) (Int32.ofNat t) (Int32.ofNat rf) (Int32.ofNat rt) j = r j := fun j hj => by
    unfold o_prm
    rw [u_k (by omega), u_k (by omega), u_k (by omega), u_k (by omega), u_k (by omega)]
  have ep : ∀ k w, k ≠ m + 2 → w < 6 → o_prm r (m + 2) (Int32.ofNat f) (Int32.ofNat t) (Int32.ofNat rf) (Int32.ofNat rt) (762 + 6 * k + w) = r (762 + 6 * k + w) := fun k w hk hw => er _ (by omega)
  have em : ∀ p, p < 2 → o_mad (o_prm r (m + 2) (Int32.ofNat f) (Int32.ofNat t) (Int32.ofNat rf) (Int32.ofNat rt)) p = o_mad r p := fun p hp => by unfold o_mad; rw [er _ (by omega)]
  have ev : ∀ p k w, p < 2 → 1 ≤ k → k ≤ 60 → w < 2 → MV (o_prm r (m + 2) (Int32.ofNat f) (Int32.ofNat t) (Int32.ofNat rf) (Int32.ofNat rt)) p k w = MV r p k w := fun p k w hp hk1 hk hw => by unfold MV; rw [er _ (by omega)]
  obtain ⟨c1, c2, c3, c4, c6⟩ := h.1.1
  have hz1 : ¬ (0 : Int32) = 1 := by decide
  have hci : CI (o_prm r (m + 2) (Int32.ofNat f) (Int32.ofNat t) (Int32.ofNat rf) (Int32.ofNat rt)) L := by
    refine ⟨fun p' hp' k k1 k2 k3 w hw => ?_, fun p' hp' k k1 k2 hk => ?_, fun p' hp' k k60 k1 hst => ?_, fun l hl h0 => ?_, fun p' hp' k k2 k3 hk hwr' hex w hw => ?_⟩
    · have := hmad p' hp'
      rw [em p' hp'] at k2
      rw [em (1 - p') (by omega)] at k3
      rw [ev p' k w hp' k1 (by omega) hw, ev (1 - p') k w (by omega) k1 (by omega) hw]
      exact c1 p' hp' k k1 k2 k3 w hw
    · have := hmad (1 - p') (by omega)
      rw [em p' hp'] at k1
      rw [em (1 - p') (by omega)] at k2
      obtain ⟨a1, a2, a3⟩ := c2 p' hp' k k1 k2 hk
      have hkm : k ≠ m + 2 := fun h9 => by rw [h9, hwr] at a2; exact hz1 a2
      refine ⟨a1, by rw [ep k 4 hkm (by omega)]; exact a2, fun w hw => ?_⟩
      rw [ev (1 - p') k w (by omega) (by omega) (by omega) hw, ev (1 - p') (k - 1) w (by omega) (by omega) (by omega) hw, ep k (2 + w) hkm (by omega), ep k w hkm (by omega)]
      exact a3 w hw
    · have := hmad (1 - p') (by omega)
      rw [em p' hp'] at k1
      rw [er _ (by omega)] at hst
      obtain ⟨a1, a2, a3⟩ := c3 p' hp' k k60 k1 hst
      refine ⟨a1, by rw [em (1 - p') (by omega)]; exact a2, fun w hw => ?_⟩
      rw [ev (1 - p') k w (by omega) (by omega) (by omega) hw, er _ (by omega)]
      exact a3 w hw
    · rw [er _ (by omega)] at h0
      obtain ⟨b, k, a1, a2, a3, a4, a5, a6, a7⟩ := c4 l hl h0
      have := hmad b a1
      refine ⟨b, k, a1, by rw [er _ (by omega)]; exact a2, by rw [er _ (by omega)]; exact a3, a4, by rw [em b a1]; exact a5, a6, fun w hw => ?_⟩
      rw [ev b k w a1 a4 (by omega) hw, er _ (by omega)]
      exact a7 w hw
    · have := hmad p' hp'
      rw [em p' hp'] at k3
      have hkm : k ≠ m + 2 := fun h9 => by
        rw [h9, hmk2] at hk
        rw [← hk, hmd] at k3
        omega
      rw [ep k 4 hkm (by omega)] at hwr'
      rw [ev p' k w hp' (by omega) (by omega) hw, ep k (2 + w) hkm (by omega)]
      refine c6 p' hp' k k2 k3 hk hwr' (fun w hw => ?_) w hw
      have h9 := hex w hw
      rw [ev p' (k - 1) w hp' (by omega) (by omega) hw, ep k w hkm (by omega)] at h9
      exact h9
  have hx : CX (o_prm r (m + 2) (Int32.ofNat f) (Int32.ofNat t) (Int32.ofNat rf) (Int32.ofNat rt)) n np L := by
    refine ⟨⟨hci, fun p' hp' => CB_same hp' h8 (h.1.2.1 p' hp') (fun j hj => er j (by omega)), fun p' hp' => ?_⟩, CM_same hI.1.2.2.2.1 h.2 (fun j hj => er j (by rcases hj with hj | hj | ⟨l', h1, rfl⟩ <;> omega))⟩
    have hp60 := hmad p' hp'
    by_cases hkm : o_mad r p' + 1 = m + 2
    · -- the promise is not known yet
      intro ho
      rw [o_over_same hp' h8 (fun j hj => er j (by omega))] at ho
      obtain ⟨a1, a2⟩ := h.1.2.2 p' hp' ho
      rw [em p' hp', er _ (by omega)]
      refine ⟨a1, fun hd => ?_⟩
      have hpp : ¬ o_maker (o_mad r p' + 1) = p' := fun h9 => by
        rw [hkm, hmk2] at h9
        rw [← h9, hmd] at hkm
        omega
      simp only [o_due, decide_eq_true_eq] at hd
      rw [if_neg hpp, hkm, er _ (by omega), hkn] at hd
      exact hd.1 rfl
    · exact CR_same hp' h8 hp60 (h.1.2.2 p' hp') (fun j hj => er j (by unfold o_own at hj; omega)) (fun w hw => er _ (by omega)) (er _ (by split <;> omega))
  exact CX_post hIq (by omega) hx (fun h9 => absurd h9 (by decide))
