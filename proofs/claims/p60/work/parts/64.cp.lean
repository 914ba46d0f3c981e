/-! ===== the reference's day: the post's part first, then what is read ===== -/
theorem o_lvs_at {np d L : Nat} (hnp : np ≤ 4) : ∀ (k : Nat) (r : Nat → Int32) (j : Nat), k ≤ np → (∀ q s, q < 4 → s < 2 → j ≠ 1140 + 15 * q + (1 + s)) → j ≠ 6 → (∀ l, l < L → j ≠ 1200 + 11 * l + 6 ∧ j ≠ 1200 + 11 * l + 8 ∧ j ≠ 1200 + 11 * l + 9) → o_lvs np d L k r j = r j := by
  intro k
  induction k with
  | zero => intro r j _ _ _ _; rfl
  | succ k ih =>
    intro r j hk h1 h2 h3
    rw [o_lvs, ih _ j (by omega) h1 h2 h3, o_lvp]
    split
    · rfl
    · rw [o_lv_at _ _ _ _ _ _ _ (h1 _ 1 (by omega) (by decide)) h2 h3, o_lv_at _ _ _ _ _ _ _ (h1 _ 0 (by omega) (by decide)) h2 h3]
theorem agP_wt {x y : Nat → Int32} {q s : Nat} (h : agP x y) : o_wt y q s = o_wt x q s := by
  funext l
  exact o_wt_same (h _ (by omega)) (h _ (by omega)) (by rw [h _ (by omega)])
theorem agP_lv {q s d L : Nat} : ∀ (k : Nat) (x y : Nat → Int32), agP x y → agP (o_lv q s d L k x) (o_lv q s d L k y) := by
  intro k
  induction k with
  | zero => intro x y h; exact h
  | succ k ih =>
    intro x y h
    rw [o_lv, o_lv, agP_wt h, h (1140 + 15 * q + (1 + s)) (by omega)]
    split
    · split
      · exact h
      · refine ih _ _ ?_
        unfold o_lv1
        rw [h (1140 + 15 * q + (1 + s)) (by omega), h 6 (by omega), h (1140 + 15 * q) (by omega), h (1140 + 15 * q + (3 + d / 30 % 12)) (by omega)]
        exact agP_upd (agP_upd (agP_upd (agP_upd (agP_upd h rfl) rfl) rfl) rfl) rfl
    · exact h
theorem agP_lvs {np d L : Nat} : ∀ (k : Nat) (x y : Nat → Int32), agP x y → agP (o_lvs np d L k x) (o_lvs np d L k y) := by
  intro k
  induction k with
  | zero => intro x y h; exact h
  | succ k ih =>
    intro x y h
    rw [o_lvs, o_lvs]
    refine ih _ _ ?_
    unfold o_lvp
    rw [h _ (by omega)]
    split
    · exact h
    · exact agP_lv _ _ _ (agP_lv _ _ _ h)
theorem agP_ari {x y : Nat → Int32} {d l : Nat} (h : agP x y) : o_ari y d l = o_ari x d l := by
  have hq : o_q y l = o_q x l := by unfold o_q; rw [h _ (by omega)]
  unfold o_ari
  rw [hq, h _ (by omega), h _ (by omega)]
theorem agP_gp {x y : Nat → Int32} {d l : Nat} (h : agP x y) : agP (o_gp x d l) (o_gp y d l) := by
  have hq : o_q y l = o_q x l := by unfold o_q; rw [h _ (by omega)]
  have hb : o_b y l = o_b x l := by unfold o_b; rw [h _ (by omega)]
  unfold o_gp
  rw [hq, hb, h (1140 + 15 * o_q x l + (3 + d / 30 % 12)) (by omega), h (1200 + 11 * l + 9) (by omega)]
  split
  · exact h
  · split
    · have b := agP_upd (k := 1200 + 11 * l + 9) (v := x (1200 + 11 * l + 9) - 1) h rfl
      unfold o_arr
      rw [b 2 (by omega), b (1140 + 15 * o_q x l + (1 + (1 - o_b x l))) (by omega), b 7 (by omega), b 8 (by omega), b (1200 + 11 * l + 7) (by omega)]
      exact agP_upd (agP_upd (agP_upd (agP_upd (agP_upd b rfl) rfl) rfl) rfl) rfl
    · exact agP_upd h rfl
theorem agP_ar {d : Nat} : ∀ (ρ : List Nat) (x y : Nat → Int32), agP x y → o_ar d ρ y = o_ar d ρ x := by
  intro ρ
  induction ρ with
  | nil => intro x y _; rfl
  | cons l ρ ih =>
    intro x y h
    rw [o_ar, o_ar, agP_ari h, ih _ _ (agP_gp h)]
/-- reading in turn -/
def rds (n : Nat) (blk : Int32) : List Nat → (Nat → Int32) → (Nat → Int32)
  | [], r => r
  | l :: α, r => rds n blk α (if Int32.ofNat l = blk then r else o_read r n l)
theorem gp_F1 {r : Nat → Int32} {d l j : Nat} (hq : o_q r l < 4) (hj : j < 3 ∨ j = 5 ∨ (12 ≤ j ∧ j < 1140) ∨ ∃ l' w, w ≤ 5 ∧ j = 1200 + 11 * l' + w) : o_gp r d l j = r j := by
  have e : j ≠ 1200 + 11 * l + 6 ∧ j ≠ 1200 + 11 * l + 9 ∧ j ≠ 1200 + 11 * l + 10 ∧ j ≠ 1140 + 15 * o_q r l + (1 + (1 - o_b r l)) ∧ j ≠ 7 ∧ j ≠ 8 := by
    rcases hj with hj | hj | hj | ⟨l', w, hw, hj⟩ <;> omega
  exact o_gp_at e.1 e.2.1 e.2.2.1 e.2.2.2.1 e.2.2.2.2.1 e.2.2.2.2.2
theorem fld_w {l j : Nat} (h1 : 1200 + 11 * l ≤ j) (h2 : j ≤ 1200 + 11 * l + 5) : ∃ l' w, w ≤ 5 ∧ j = 1200 + 11 * l' + w := ⟨l, j - (1200 + 11 * l), by omega, by omega⟩
theorem cls_f {l j : Nat} (h : j < 3 ∨ j = 5 ∨ (12 ≤ j ∧ j < 1140) ∨ (1200 + 11 * l ≤ j ∧ j ≤ 1200 + 11 * l + 5)) : j < 3 ∨ j = 5 ∨ (12 ≤ j ∧ j < 1140) ∨ ∃ l' w, w ≤ 5 ∧ j = 1200 + 11 * l' + w :=
  h.imp id (Or.imp id (Or.imp id (fun h => fld_w h.1 h.2)))
theorem cls_d {j : Nat} (h : j = 5 ∨ (12 ≤ j ∧ j < 1140)) : j < 3 ∨ j = 5 ∨ (12 ≤ j ∧ j < 1140) ∨ ∃ l' w, w ≤ 5 ∧ j = 1200 + 11 * l' + w := Or.inr (h.imp id Or.inl)
theorem cls_l {l j : Nat} (h : (1200 + 11 * l ≤ j ∧ j ≤ 1200 + 11 * l + 5) ∨ (762 ≤ j ∧ j < 1140)) : j < 3 ∨ j = 5 ∨ (12 ≤ j ∧ j < 1140) ∨ ∃ l' w, w ≤ 5 ∧ j = 1200 + 11 * l' + w :=
  h.elim (fun h => Or.inr (Or.inr (Or.inr (fld_w h.1 h.2)))) (fun h => Or.inr (Or.inr (Or.inl ⟨Nat.le_trans (by decide) h.1, h.2⟩)))
theorem cls_k {j : Nat} (h : j < 2 ∨ (12 ≤ j ∧ j < 1140)) : j < 3 ∨ j = 5 ∨ (12 ≤ j ∧ j < 1140) ∨ ∃ l' w, w ≤ 5 ∧ j = 1200 + 11 * l' + w :=
  h.elim (fun h => Or.inl (Nat.lt_succ_of_lt h)) (fun h => Or.inr (Or.inr (Or.inl h)))
theorem tp_comm {n lim l b q k d L : Nat} : ∀ (ρ : List Nat) (r : Nat → Int32), i_let r n l b q k → i_dk r 0 n lim → i_dk r 1 n lim → (∀ l', l' < L → o_q r l' < 4) → (∀ l', l' ∈ ρ → l' < L) → o_tp d ρ (o_read r n l) = o_read (o_tp d ρ r) n l := by
  intro ρ
  induction ρ with
  | nil => intro r _ _ _ _ _; rw [o_tp, o_tp]
  | cons x ρ ih =>
    intro r hL h0 h1 hq hin
    have hx := hq x (hin x (List.mem_cons_self ..))
    have o1 := (o_read_ok hL h0 h1).2
    have hxr : o_q (o_read r n l) x < 4 := by
      unfold o_q
      rw [o1 _ (fun hh => by unfold o_own at hh; have := hL.1; omega) (by omega) (by omega)]
      exact hx
    rw [o_tp, o_tp, rd_comm (F := fun z => o_gp z d x) hL h0 h1 (fun j hj => gp_F1 hx (cls_f hj)) (fun j hj => gp_F1 hxr (cls_d hj)) (fun x y hh => agP_gp hh)]
    refine ih _ (i_let_same hL (fun j hj => gp_F1 hx (cls_l hj))) (i_dk_same (by omega) h0 (fun j hj => gp_F1 hx (cls_k hj))) (i_dk_same (by omega) h1 (fun j hj => gp_F1 hx (cls_k hj))) (fun l' hl' => ?_) (fun l' hl' => hin l' (List.mem_cons_of_mem _ hl'))
    unfold o_q
    rw [gp_F1 hx (Or.inr (Or.inr (Or.inr ⟨l', 1, by decide, rfl⟩)))]
    exact hq l' hl'
theorem IR_q {r : Nat → Int32} {n lim np L d l : Nat} {blk : Int32} (h : IR r n lim np L d blk) (hl : l < L) : o_b r l < 2 ∧ o_q r l < np := by
  obtain ⟨b, q, hb, hq, eb, eq, -⟩ := h.2.2.2.2.2.2.2.2 l hl
  have hnp := h.2.2.2.1
  unfold o_b o_q
  rw [eb, eq, n_c (by omega), n_c (by omega)]
  exact ⟨hb, hq⟩
theorem IR_gp {r : Nat → Int32} {n lim np L d l : Nat} {blk : Int32} (h : IR r n lim np L d blk) (hl : l < L) : IR (o_gp r d l) n lim np L d blk := by
  have hq := IR_q h hl
  have hnp := h.2.2.2.1
  refine IR_same h (fun j hj => ?_)
  have e : j ≠ 1200 + 11 * l + 6 ∧ j ≠ 1200 + 11 * l + 9 ∧ j ≠ 1200 + 11 * l + 10 ∧ j ≠ 1140 + 15 * o_q r l + (1 + (1 - o_b r l)) ∧ j ≠ 7 ∧ j ≠ 8 := by
    rcases hj with hj | hj | ⟨l', w, hw, hw2, hj⟩ <;> omega
  exact o_gp_at e.1 e.2.1 e.2.2.1 e.2.2.2.1 e.2.2.2.2.1 e.2.2.2.2.2
theorem trv_split {n lim np L d : Nat} {blk : Int32} : ∀ (ρ : List Nat) (r : Nat → Int32) (dep : Int32), IR r n lim np L d blk → i_road r L dep ρ → o_trv n d blk ρ r = rds n blk (o_ar d ρ r) (o_tp d ρ r) := by
  intro ρ
  induction ρ with
  | nil => intro r dep _ _; rw [o_trv, o_ar, o_tp, rds]
  | cons l ρ ih =>
    intro r dep h hr
    have hl := (hr.1 l List.mem_cons_self).1
    have hq := IR_q h hl
    have hnp := h.2.2.2.1
    have h1 := (IR_goes h hl).1
    have h2 := i_road_next h hr
    have hI := ih _ _ h1 h2
    rw [o_trv, hI]
    simp only [o_ar, o_tp]
    have hg := IR_gp h hl
    by_cases h9 : r (1140 + 15 * o_q r l + (3 + d / 30 % 12)) = 9
    · have ear : ¬ o_ari r d l = true := by
        simp only [o_ari, decide_eq_true_eq, ne_eq]; exact fun q => q.1 h9
      have egp : o_gp r d l = r := by unfold o_gp; rw [if_pos h9]
      have ego : o_goes r n d l (o_b r l) (o_q r l) blk = r := by unfold o_goes; rw [if_pos h9]
      rw [if_neg ear, egp, ego]
    · by_cases h0 : r (1200 + 11 * l + 9) - 1 = 0
      · have ear : o_ari r d l = true := by
          simp only [o_ari, decide_eq_true_eq, ne_eq]; exact ⟨h9, h0⟩
        have egp : o_gp r d l = o_arr (upd r (1200 + 11 * l + 9) (r (1200 + 11 * l + 9) - 1)) l (o_b r l) (o_q r l) := by unfold o_gp; rw [if_neg h9, if_pos h0]
        have ego : o_goes r n d l (o_b r l) (o_q r l) blk = if Int32.ofNat l = blk then o_gp r d l else o_read (o_gp r d l) n l := by
          unfold o_goes; rw [if_neg h9, if_pos h0, o_come, egp]
        rw [if_pos ear, ego, rds]
        by_cases hb : Int32.ofNat l = blk
        · rw [if_pos hb, if_pos hb]
        · rw [if_neg hb, if_neg hb]
          obtain ⟨b, q, hb', hq', eb, eq, hk⟩ := hg.2.2.2.2.2.2.2.2 l hl
          obtain ⟨k, hL⟩ := hk hb
          have o1 := (o_read_ok hL hg.1 hg.2.1).2
          rw [agP_ar (d := d) ρ (o_gp r d l) (o_read (o_gp r d l) n l) (fun i hi => o1 i (fun hh => by unfold o_own at hh; omega) (by omega) (by omega)), tp_comm (L := L) ρ (o_gp r d l) hL hg.1 hg.2.1 (fun l' hl' => Nat.lt_of_lt_of_le (IR_q hg hl').2 hnp) (fun l' hl' => (hr.1 l' (List.mem_cons_of_mem _ hl')).1)]
      · have ear : ¬ o_ari r d l = true := by
          simp only [o_ari, decide_eq_true_eq, ne_eq]; exact fun q => h0 q.2
        have egp : o_gp r d l = upd r (1200 + 11 * l + 9) (r (1200 + 11 * l + 9) - 1) := by unfold o_gp; rw [if_neg h9, if_neg h0]
        have ego : o_goes r n d l (o_b r l) (o_q r l) blk = o_gp r d l := by
          unfold o_goes; rw [if_neg h9, if_neg h0, egp]
        rw [if_neg ear, ego]
theorem rds_comm {n lim np L d : Nat} {blk : Int32} (hnp : np ≤ 4) : ∀ (α : List Nat) (r : Nat → Int32), IR r n lim np L d blk → (∀ l, l ∈ α → l < L) → o_lvs np d L np (rds n blk α r) = rds n blk α (o_lvs np d L np r) := by
  intro α
  have F1 : ∀ (r : Nat → Int32) (j : Nat), (j < 3 ∨ j = 5 ∨ (12 ≤ j ∧ j < 1140) ∨ ∃ l' w, w ≤ 5 ∧ j = 1200 + 11 * l' + w) → o_lvs np d L np r j = r j := fun r j hj => by
    refine o_lvs_at hnp np r j (Nat.le_refl _) (fun q s hq hs => ?_) ?_ (fun l hl => ?_) <;> rcases hj with hj | hj | hj | ⟨l', w, hw, hj⟩ <;> omega
  induction α with
  | nil => intro r _ _; rw [rds, rds]
  | cons l α ih =>
    intro r h hin
    have hl := hin l List.mem_cons_self
    rw [rds, rds]
    by_cases hb : Int32.ofNat l = blk
    · rw [if_pos hb, if_pos hb]
      exact ih r h (fun l' hl' => hin l' (List.mem_cons_of_mem _ hl'))
    · rw [if_neg hb, if_neg hb]
      obtain ⟨b, q, hb', hq', eb, eq, hk⟩ := h.2.2.2.2.2.2.2.2 l hl
      obtain ⟨k, hL⟩ := hk hb
      rw [ih _ (IR_read h hL).1 (fun l' hl' => hin l' (List.mem_cons_of_mem _ hl')), rd_comm (F := o_lvs np d L np) hL h.1 h.2.1 (fun j hj => F1 r j (cls_f hj)) (fun j hj => F1 _ j (cls_d hj)) (fun x y hh => agP_lvs np x y hh)]
theorem IR_tp {n lim np L d : Nat} {blk : Int32} : ∀ (ρ : List Nat) (r : Nat → Int32), IR r n lim np L d blk → (∀ l, l ∈ ρ → l < L) → IR (o_tp d ρ r) n lim np L d blk := by
  intro ρ
  induction ρ with
  | nil => intro r h _; exact h
  | cons l ρ ih => intro r h hin; exact ih _ (IR_gp h (hin l List.mem_cons_self)) (fun l' hl' => hin l' (List.mem_cons_of_mem _ hl'))
theorem o_ar_sub {d : Nat} : ∀ (ρ : List Nat) (r : Nat → Int32) (l : Nat), l ∈ o_ar d ρ r → l ∈ ρ := by
  intro ρ
  induction ρ with
  | nil => intro r l h; exact h
  | cons x ρ ih =>
    intro r l h
    rw [o_ar] at h
    split at h
    · rcases List.mem_cons.mp h with h | h
      · rw [h]; exact List.mem_cons_self
      · exact List.mem_cons_of_mem _ (ih _ _ h)
    · exact List.mem_cons_of_mem _ (ih _ _ h)
/-- the reference's day in two parts -/
theorem day_split {r : Nat → Int32} {n lim np L d : Nat} {blk : Int32} {ρ : List Nat} (hd : d + 1 < 1000000) (h : IR r n lim np L d blk) (hr : i_road r L 0 ρ) :
    o_day r n np L d blk ρ = rds n blk (o_ar (d + 1) ρ (upd r 2 (Int32.ofNat (d + 1)))) (o_dayP (upd r 2 (Int32.ofNat (d + 1))) np L (d + 1) ρ) := by
  have ht := IR_tick hd h
  have hr' := i_road_tick (v := Int32.ofNat (d + 1)) hr
  unfold o_day o_dayP
  rw [trv_split ρ _ 0 ht hr', rds_comm h.2.2.2.1 _ _ (IR_tp ρ _ ht (fun l hl => (hr'.1 l hl).1)) (fun l hl => (hr'.1 l (o_ar_sub _ _ _ hl)).1)]
