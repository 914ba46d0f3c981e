/-! ===== the reference: letters leave; the day ===== -/
def o_lv1 (r : Nat → Int32) (q s d l : Nat) : Nat → Int32 :=
  upd (upd (upd (upd (upd r (1140 + 15 * q + (1 + s)) (r (1140 + 15 * q + (1 + s)) - 1)) 6 (r 6 + 1)) (1200 + 11 * l + 6) 1) (1200 + 11 * l + 8) (r 6 + 1)) (1200 + 11 * l + 9) (r (1140 + 15 * q) + r (1140 + 15 * q + (3 + d / 30 % 12)))
def o_lv (q s d L : Nat) : Nat → (Nat → Int32) → (Nat → Int32)
  | 0, r => r
  | k + 1, r =>
    if fnd (o_wt r q s) L < L then
      if r (1140 + 15 * q + (1 + s)) ≤ 0 then r else o_lv q s d L k (o_lv1 r q s d (fnd (o_wt r q s) L))
    else r
theorem cnt_drop {f h : Nat → Bool} {l : Nat} (hf : f l = true) (hh : ¬ h l = true) (he : ∀ j, j ≠ l → h j = f j) : ∀ n, l < n → cnt h n + 1 = cnt f n := by
  intro n
  induction n with
  | zero => intro q; omega
  | succ n ih =>
    intro q
    simp only [cnt]
    by_cases hl : l = n
    · subst hl
      rw [if_neg hh, if_pos hf, cnt_congr l (fun i hi => he i (by omega))]
    · rw [he n (fun q9 => hl q9.symm), ← ih (by omega)]
      omega
theorem o_lv1_at {r : Nat → Int32} {q s d l j : Nat} (h1 : j ≠ 1140 + 15 * q + (1 + s)) (h2 : j ≠ 6) (h3 : j ≠ 1200 + 11 * l + 6) (h4 : j ≠ 1200 + 11 * l + 8) (h5 : j ≠ 1200 + 11 * l + 9) : o_lv1 r q s d l j = r j := by
  rw [o_lv1, u_k h5, u_k h4, u_k h3, u_k h2, u_k h1]
theorem o_wt_lv1 {r : Nat → Int32} {q s d l : Nat} (hq : q < 4) (hs : s < 2) (h : o_wt r q s l = true) : (¬ o_wt (o_lv1 r q s d l) q s l = true) ∧ ∀ j, j ≠ l → o_wt (o_lv1 r q s d l) q s j = o_wt r q s j := by
  constructor
  · unfold o_wt o_lv1
    rw [u_k (by omega), u_k (by omega), u_s]
    simp
  · intro j hj
    unfold o_wt
    rw [o_lv1_at (by omega) (by omega) (by omega) (by omega) (by omega), o_lv1_at (by omega) (by omega) (by omega) (by omega) (by omega), o_lv1_at (by omega) (by omega) (by omega) (by omega) (by omega)]
/-- what leaving touches -/
theorem o_lv_at (q s d L : Nat) : ∀ (k : Nat) (r : Nat → Int32) (j : Nat), j ≠ 1140 + 15 * q + (1 + s) → j ≠ 6 → (∀ l, l < L → j ≠ 1200 + 11 * l + 6 ∧ j ≠ 1200 + 11 * l + 8 ∧ j ≠ 1200 + 11 * l + 9) → o_lv q s d L k r j = r j := by
  intro k
  induction k with
  | zero => intro r j _ _ _; rfl
  | succ k ih =>
    intro r j h1 h2 h3
    rw [o_lv]
    split
    · next hf =>
      split
      · rfl
      · rw [ih _ j h1 h2 h3, o_lv1_at h1 h2 (h3 _ hf).1 (h3 _ hf).2.1 (h3 _ hf).2.2]
    · rfl
def o_lvp (r : Nat → Int32) (q d L : Nat) : Nat → Int32 := if r (1140 + 15 * q + (3 + d / 30 % 12)) = 9 then r else o_lv q 1 d L (L + 1) (o_lv q 0 d L (L + 1) r)
/-- the passes from i on -/
def o_lvs (np d L : Nat) : Nat → (Nat → Int32) → (Nat → Int32)
  | 0, r => r
  | k + 1, r => o_lvs np d L k (o_lvp r (np - (k + 1)) d L)
theorem IR_lv {r : Nat → Int32} {n lim np L d q s : Nat} {blk : Int32} (hq : q < 4) (hs : s < 2) (k : Nat) (h : IR r n lim np L d blk) : IR (o_lv q s d L k r) n lim np L d blk := by
  refine IR_same h (fun j hj => o_lv_at q s d L k r j ?_ ?_ ?_)
  · rcases hj with hj | hj | ⟨l, w, h1, h2, h3⟩ <;> omega
  · rcases hj with hj | hj | ⟨l, w, h1, h2, h3⟩ <;> omega
  · intro l hl
    have := h.2.2.2.2.2.1
    rcases hj with hj | hj | ⟨l', w, h1, h2, h3⟩ <;> omega
theorem IR_lvp {r : Nat → Int32} {n lim np L d q : Nat} {blk : Int32} (hq : q < 4) (h : IR r n lim np L d blk) : IR (o_lvp r q d L) n lim np L d blk := by
  unfold o_lvp
  split
  · exact h
  · exact IR_lv hq (by omega) _ (IR_lv hq (by omega) _ h)
theorem IR_lvs {n lim np L d : Nat} {blk : Int32} (hnp : np ≤ 4) : ∀ (k : Nat) (r : Nat → Int32), k ≤ np → IR r n lim np L d blk → IR (o_lvs np d L k r) n lim np L d blk := by
  intro k
  induction k with
  | zero => intro r _ h; exact h
  | succ k ih => intro r hk h; exact ih _ (by omega) (IR_lvp (by omega) h)