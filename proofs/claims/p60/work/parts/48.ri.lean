/-! ===== the reference: the letters under way in their order; a day whole ===== -/
def i_road (r : Nat → Int32) (L : Nat) (dep : Int32) (ρ : List Nat) : Prop :=
  (∀ l ∈ ρ, l < L ∧ r (1200 + 11 * l + 6) = 1 ∧ ¬ r (1200 + 11 * l + 8) ≤ dep) ∧ ρ.Pairwise (fun x y => r (1200 + 11 * x + 8) < r (1200 + 11 * y + 8)) ∧
  ∀ l, l < L → r (1200 + 11 * l + 6) = 1 → ¬ r (1200 + 11 * l + 8) ≤ dep → l ∈ ρ
theorem o_nu_spec (r : Nat → Int32) (dep : Int32) : ∀ n, n ≤ 81 → (o_nu r dep n = -1 ∧ ∀ l, l < n → ¬ (r (1200 + 11 * l + 6) = 1 ∧ ¬ r (1200 + 11 * l + 8) ≤ dep)) ∨
    ∃ j, j < n ∧ o_nu r dep n = Int32.ofNat j ∧ r (1200 + 11 * j + 6) = 1 ∧ ¬ r (1200 + 11 * j + 8) ≤ dep ∧ ∀ l, l < n → r (1200 + 11 * l + 6) = 1 → ¬ r (1200 + 11 * l + 8) ≤ dep → r (1200 + 11 * j + 8) ≤ r (1200 + 11 * l + 8) := by
  intro n
  induction n with
  | zero => intro _; exact Or.inl ⟨rfl, fun l h => absurd h (Nat.not_lt_zero _)⟩
  | succ n ih =>
    intro hn
    simp only [o_nu]
    rcases ih (by omega) with ⟨h1, h2⟩ | ⟨j, hj, h1, h2, h3, h4⟩
    · rw [h1]
      by_cases hc : r (1200 + 11 * n + 6) = 1
      · rw [if_pos hc]
        by_cases hd : r (1200 + 11 * n + 8) ≤ dep
        · rw [if_pos hd]
          refine Or.inl ⟨rfl, fun l hl q => ?_⟩
          by_cases hln : l = n
          · subst hln; exact q.2 hd
          · exact h2 l (by omega) q
        · rw [if_neg hd, if_pos rfl]
          refine Or.inr ⟨n, by omega, rfl, hc, hd, fun l hl q1 q2 => ?_⟩
          by_cases hln : l = n
          · subst hln; exact Int32.le_refl _
          · exact absurd ⟨q1, q2⟩ (h2 l (by omega))
      · rw [if_neg hc]
        refine Or.inl ⟨rfl, fun l hl q => ?_⟩
        by_cases hln : l = n
        · subst hln; exact hc q.1
        · exact h2 l (by omega) q
    · rw [h1, n_c (by omega)]
      by_cases hc : r (1200 + 11 * n + 6) = 1
      · rw [if_pos hc]
        by_cases hd : r (1200 + 11 * n + 8) ≤ dep
        · rw [if_pos hd]
          refine Or.inr ⟨j, by omega, rfl, h2, h3, fun l hl q1 q2 => ?_⟩
          by_cases hln : l = n
          · subst hln; exact absurd hd q2
          · exact h4 l (by omega) q1 q2
        · rw [if_neg hd, if_neg (by rw [n_m1 (by omega)]; exact id)]
          by_cases hle : r (1200 + 11 * j + 8) ≤ r (1200 + 11 * n + 8)
          · rw [if_pos hle]
            refine Or.inr ⟨j, by omega, rfl, h2, h3, fun l hl q1 q2 => ?_⟩
            by_cases hln : l = n
            · subst hln; exact hle
            · exact h4 l (by omega) q1 q2
          · rw [if_neg hle]
            refine Or.inr ⟨n, by omega, rfl, hc, hd, fun l hl q1 q2 => ?_⟩
            by_cases hln : l = n
            · subst hln; exact Int32.le_refl _
            · have := h4 l (by omega) q1 q2
              rw [z_le] at this hle ⊢
              omega
      · rw [if_neg hc]
        refine Or.inr ⟨j, by omega, rfl, h2, h3, fun l hl q1 q2 => ?_⟩
        by_cases hln : l = n
        · subst hln; exact absurd q1 hc
        · exact h4 l (by omega) q1 q2
theorem o_nu_nil {r : Nat → Int32} {L : Nat} {dep : Int32} (hL : L ≤ 81) (h : i_road r L dep []) : o_nu r dep L = -1 := by
  rcases o_nu_spec r dep L hL with ⟨h1, -⟩ | ⟨j, hj, -, h2, h3, -⟩
  · exact h1
  · exact absurd (h.2.2 j hj h2 h3) (by simp)
theorem o_nu_cons {r : Nat → Int32} {L x : Nat} {ρ : List Nat} {dep : Int32} (hL : L ≤ 81) (h : i_road r L dep (x :: ρ)) : o_nu r dep L = Int32.ofNat x := by
  obtain ⟨a1, a2, a3⟩ := h
  obtain ⟨b1, b2, b3⟩ := a1 x List.mem_cons_self
  rcases o_nu_spec r dep L hL with ⟨-, h2⟩ | ⟨j, hj, h1, h2, h3, h4⟩
  · exact absurd ⟨b2, b3⟩ (h2 x b1)
  · have hj2 := a3 j hj h2 h3
    rcases List.mem_cons.mp hj2 with rfl | hj3
    · exact h1
    · have e1 := (List.pairwise_cons.mp a2).1 j hj3
      have e2 := h4 x b1 b2 b3
      rw [z_le] at e2
      rw [z_lt] at e1
      omega
def o_b (r : Nat → Int32) (l : Nat) : Nat := (r (1200 + 11 * l)).toNatClampNeg
def o_q (r : Nat → Int32) (l : Nat) : Nat := (r (1200 + 11 * l + 1)).toNatClampNeg
def o_trv (n d : Nat) (blk : Int32) : List Nat → (Nat → Int32) → (Nat → Int32)
  | [], r => r
  | l :: ρ, r => o_trv n d blk ρ (o_goes r n d l (o_b r l) (o_q r l) blk)
theorem IR_arr {r : Nat → Int32} {n lim np L d l b q : Nat} {blk : Int32} (hb : b < 2) (hq : q < 4) (h : IR r n lim np L d blk) : IR (o_arr r l b q) n lim np L d blk := by
  refine IR_same h (fun j hj => o_arr_at ?_ ?_ ?_ ?_ ?_) <;> rcases hj with hj | hj | ⟨l', w, h1, h2, h3⟩ <;> omega
/-- a letter goes on: what holds behind it, and what stays -/
theorem IR_goes {r : Nat → Int32} {n lim np L d l : Nat} {blk : Int32} (h : IR r n lim np L d blk) (hl : l < L) :
    IR (o_goes r n d l (o_b r l) (o_q r l) blk) n lim np L d blk ∧ (∀ j, 1200 ≤ j → j ≠ 1200 + 11 * l + 6 → j ≠ 1200 + 11 * l + 9 → j ≠ 1200 + 11 * l + 10 → o_goes r n d l (o_b r l) (o_q r l) blk j = r j) := by
  have hi := h
  obtain ⟨b, q, hb, hq, eb, eq, hk⟩ := h.2.2.2.2.2.2.2.2 l hl
  have hnp := h.2.2.2.1
  have eob : o_b r l = b := by unfold o_b; rw [eb, n_c (by omega)]
  have eoq : o_q r l = q := by unfold o_q; rw [eq, n_c (by omega)]
  rw [eob, eoq]
  have h9 : IR (upd r (1200 + 11 * l + 9) (r (1200 + 11 * l + 9) - 1)) n lim np L d blk := IR_same h (fun j hj => u_k (by rcases hj with hj | hj | ⟨l', w, h1, h2, h3⟩ <;> omega))
  unfold o_goes
  split
  · exact ⟨hi, fun j _ _ _ _ => rfl⟩
  · split
    · unfold o_come
      have ha := IR_arr (l := l) hb (show q < 4 by omega) h9
      split
      · refine ⟨ha, fun j h1 h2 h3 h4 => ?_⟩
        rw [o_arr_at (by omega) (by omega) (by omega) (by omega) (by omega), u_k (by omega)]
      · next hbl =>
        obtain ⟨k, hk'⟩ := hk hbl
        have hk2 : i_let (o_arr (upd r (1200 + 11 * l + 9) (r (1200 + 11 * l + 9) - 1)) l b q) n l b q k := i_let_same hk' (fun j hj => by rw [o_arr_at (by omega) (by omega) (by omega) (by omega) (by omega), u_k (by omega)])
        obtain ⟨c1, c2⟩ := IR_read ha hk2
        refine ⟨c1, fun j h1 h2 h3 h4 => ?_⟩
        rw [c2 j (by unfold o_own; omega) (by omega) (by omega), o_arr_at (by omega) (by omega) (by omega) (by omega) (by omega), u_k (by omega)]
    · exact ⟨h9, fun j h1 h2 h3 h4 => u_k (by omega)⟩
theorem o_goes_st {r : Nat → Int32} {n lim np L d l : Nat} {blk : Int32} (h : IR r n lim np L d blk) (hl : l < L) (h1 : r (1200 + 11 * l + 6) = 1) : o_goes r n d l (o_b r l) (o_q r l) blk (1200 + 11 * l + 6) = 1 ∨ o_goes r n d l (o_b r l) (o_q r l) blk (1200 + 11 * l + 6) = 2 := by
  have hi := h
  obtain ⟨b, q, hb, hq, eb, eq, hk⟩ := h.2.2.2.2.2.2.2.2 l hl
  have hnp := h.2.2.2.1
  have eob : o_b r l = b := by unfold o_b; rw [eb, n_c (by omega)]
  have eoq : o_q r l = q := by unfold o_q; rw [eq, n_c (by omega)]
  rw [eob, eoq]
  have h9 : IR (upd r (1200 + 11 * l + 9) (r (1200 + 11 * l + 9) - 1)) n lim np L d blk := IR_same h (fun j hj => u_k (by rcases hj with hj | hj | ⟨l', w, h1, h2, h3⟩ <;> omega))
  have hst : o_arr (upd r (1200 + 11 * l + 9) (r (1200 + 11 * l + 9) - 1)) l b q (1200 + 11 * l + 6) = 2 := by
    rw [o_arr, u_k (by omega), u_k (by omega), u_k (by omega), u_k (by omega), u_s]
  unfold o_goes
  split
  · exact Or.inl h1
  · split
    · right
      unfold o_come
      split
      · exact hst
      · next hbl =>
        obtain ⟨k, hk'⟩ := hk hbl
        have ha := IR_arr (l := l) hb (show q < 4 by omega) h9
        have hk2 : i_let (o_arr (upd r (1200 + 11 * l + 9) (r (1200 + 11 * l + 9) - 1)) l b q) n l b q k := i_let_same hk' (fun j hj => by rw [o_arr_at (by omega) (by omega) (by omega) (by omega) (by omega), u_k (by omega)])
        obtain ⟨c1, c2⟩ := IR_read ha hk2
        rw [c2 _ (by unfold o_own; omega) (by omega) (by omega)]
        exact hst
    · left
      rw [u_k (by omega)]; exact h1
theorem i_road_next {r : Nat → Int32} {n lim np L d x : Nat} {ρ : List Nat} {dep blk : Int32} (h : IR r n lim np L d blk) (hr : i_road r L dep (x :: ρ)) :
    i_road (o_goes r n d x (o_b r x) (o_q r x) blk) L (o_goes r n d x (o_b r x) (o_q r x) blk (1200 + 11 * x + 8)) ρ := by
  obtain ⟨a1, a2, a3⟩ := hr
  obtain ⟨b1, b2, b3⟩ := a1 x List.mem_cons_self
  obtain ⟨c1, c2⟩ := IR_goes h b1
  obtain ⟨d1, d2⟩ := List.pairwise_cons.mp a2
  have e8 : ∀ l, o_goes r n d x (o_b r x) (o_q r x) blk (1200 + 11 * l + 8) = r (1200 + 11 * l + 8) := fun l => c2 _ (by omega) (by omega) (by omega) (by omega)
  have e6 : ∀ l, l ≠ x → o_goes r n d x (o_b r x) (o_q r x) blk (1200 + 11 * l + 6) = r (1200 + 11 * l + 6) := fun l hl => c2 _ (by omega) (by omega) (by omega) (by omega)
  have hxn : ∀ l ∈ ρ, l ≠ x := by
    rintro l hl rfl
    have := d1 l hl
    rw [z_lt] at this
    omega
  refine ⟨fun l hl => ?_, ?_, fun l hl h1 h2 => ?_⟩
  · obtain ⟨f1, f2, f3⟩ := a1 l (List.mem_cons_of_mem _ hl)
    refine ⟨f1, by rw [e6 l (hxn l hl)]; exact f2, ?_⟩
    rw [e8, e8]
    have := d1 l hl
    rw [z_lt] at this
    rw [z_le]
    omega
  · refine d2.imp (fun {u v} huv => ?_)
    rw [e8, e8]
    exact huv
  · rw [e8, e8] at h2
    by_cases hlx : l = x
    · subst hlx
      exact absurd (Int32.le_refl _) h2
    · rw [e6 l hlx] at h1
      have h3 : ¬ r (1200 + 11 * l + 8) ≤ dep := by
        rw [z_le] at b3 h2 ⊢
        omega
      rcases List.mem_cons.mp (a3 l hl h1 h3) with h9 | h9
      · exact absurd h9 hlx
      · exact h9
theorem IR_trv {n lim np L d : Nat} {blk : Int32} : ∀ (ρ : List Nat) (r : Nat → Int32) (dep : Int32), IR r n lim np L d blk → i_road r L dep ρ → IR (o_trv n d blk ρ r) n lim np L d blk := by
  intro ρ
  induction ρ with
  | nil => intro r dep h _; exact h
  | cons x ρ ih =>
    intro r dep h hr
    exact ih _ _ (IR_goes h (hr.1 x List.mem_cons_self).1).1 (i_road_next h hr)
/-- a day, the letters ρ under way -/
def o_day (r : Nat → Int32) (n np L d : Nat) (blk : Int32) (ρ : List Nat) : Nat → Int32 := o_lvs np (d + 1) L np (o_trv n (d + 1) blk ρ (upd r 2 (Int32.ofNat (d + 1))))
theorem IR_tick {r : Nat → Int32} {n lim np L d : Nat} {blk : Int32} (hd : d + 1 < 1000000) (h : IR r n lim np L d blk) : IR (upd r 2 (Int32.ofNat (d + 1))) n lim np L (d + 1) blk := by
  obtain ⟨h0, h1, h3, h3', h4, h4', h2, h2', hl⟩ := h
  refine ⟨i_dk_same (by omega) h0 (fun j hj => u_k (by omega)), i_dk_same (by omega) h1 (fun j hj => u_k (by omega)), by rw [u_k (by omega)]; exact h3, h3', by rw [u_k (by omega)]; exact h4, h4', u_s _ _ _, hd, ?_⟩
  intro l hlL
  obtain ⟨b, q, hb, hq, eb, eq, hk⟩ := hl l hlL
  refine ⟨b, q, hb, hq, by rw [u_k (by omega)]; exact eb, by rw [u_k (by omega)]; exact eq, fun hn => ?_⟩
  obtain ⟨k, hk'⟩ := hk hn
  exact ⟨k, i_let_same hk' (fun j hj => u_k (by omega))⟩
theorem i_road_tick {r : Nat → Int32} {L : Nat} {dep v : Int32} {ρ : List Nat} (h : i_road r L dep ρ) : i_road (upd r 2 v) L dep ρ := by
  obtain ⟨a1, a2, a3⟩ := h
  refine ⟨fun l hl => ?_, ?_, fun l hl h1 h2 => ?_⟩
  · rw [u_k (by omega), u_k (by omega)]; exact a1 l hl
  · refine a2.imp (fun {u v} huv => ?_)
    rw [u_k (by omega), u_k (by omega)]
    exact huv
  · rw [u_k (by omega)] at h1 h2
    exact a3 l hl h1 h2