/-! ===== days, one after another ===== -/
/-- the letters under way, in the order of their departures -/
def o_rl (r : Nat → Int32) (L : Nat) : Nat → Int32 → List Nat
  | 0, _ => []
  | k + 1, dep => if o_nu r dep L = -1 then [] else (o_nu r dep L).toNatClampNeg :: o_rl r L k (r (1200 + 11 * (o_nu r dep L).toNatClampNeg + 8))
theorem i_road_tail {r : Nat → Int32} {L x : Nat} {ρ : List Nat} {dep : Int32} (h : i_road r L dep (x :: ρ)) : i_road r L (r (1200 + 11 * x + 8)) ρ := by
  obtain ⟨a1, a2, a3⟩ := h
  obtain ⟨b1, b2, b3⟩ := a1 x List.mem_cons_self
  obtain ⟨p1, p2⟩ := List.pairwise_cons.mp a2
  refine ⟨fun l hl => ?_, p2, fun l hl h1 h2 => ?_⟩
  · have := a1 l (List.mem_cons_of_mem _ hl)
    refine ⟨this.1, this.2.1, ?_⟩
    have h9 := p1 l hl
    rw [z_lt] at h9
    rw [z_le]
    omega
  · have hd : ¬ r (1200 + 11 * l + 8) ≤ dep := by
      rw [z_le] at h2 b3 ⊢
      omega
    rcases List.mem_cons.mp (a3 l hl h1 hd) with q | q
    · subst q
      exact absurd (by rw [z_le]; exact Int.le_refl _) h2
    · exact q
theorem o_rl_eq {r : Nat → Int32} {L : Nat} (hL : L ≤ 81) : ∀ (ρ : List Nat) (k : Nat) (dep : Int32), i_road r L dep ρ → ρ.length ≤ k → o_rl r L k dep = ρ := by
  intro ρ
  induction ρ with
  | nil =>
    intro k dep h _
    cases k with
    | zero => rfl
    | succ k => rw [o_rl, o_nu_nil hL h, if_pos rfl]
  | cons x ρ ih =>
    intro k dep h hk
    cases k with
    | zero => simp at hk
    | succ k =>
      have hx := (h.1 x List.mem_cons_self).1
      rw [List.length_cons] at hk
      rw [o_rl, o_nu_cons hL h, if_neg (n_m1' (by omega)), n_c (by omega), ih k _ (i_road_tail h) (by omega)]
/-- a day of a row -/
def o_dayf (r : Nat → Int32) (n np L d : Nat) : Nat → Int32 := o_day r n np L d (-1) (o_rl r L 82 0)
def o_days (n np L : Nat) : Nat → Nat → (Nat → Int32) → (Nat → Int32)
  | 0, _, r => r
  | k + 1, d, r => o_days n np L k (d + 1) (o_dayf r n np L d)
theorem IG_rl {r : Nat → Int32} {n lim np L d : Nat} {ρ : List Nat} (h : IG r n lim np L d ρ) : o_rl r L 82 0 = ρ := by
  have hL := h.1.2.2.2.2.2.1
  have := nd_le L ρ (i_road_nd h.2.1.2.2) (fun x hx => (h.2.1.2.2.1 x hx).1)
  exact o_rl_eq hL ρ 82 0 h.2.1.2.2 (by omega)
/-- how the count of the arrived grows -/
theorem gp_8 {r : Nat → Int32} {d l : Nat} : o_gp r d l 8 = if o_ari r d l = true then r 8 + 1 else r 8 := by
  unfold o_gp
  by_cases h9 : r (1140 + 15 * o_q r l + (3 + d / 30 % 12)) = 9
  · rw [if_pos h9, if_neg (by simp only [o_ari, decide_eq_true_eq, ne_eq]; exact fun q => q.1 h9)]
  · rw [if_neg h9]
    by_cases h0 : r (1200 + 11 * l + 9) - 1 = 0
    · rw [if_pos h0, if_pos (by simp only [o_ari, decide_eq_true_eq, ne_eq]; exact ⟨h9, h0⟩), o_arr, u_s, u_k (by omega)]
    · rw [if_neg h0, if_neg (by simp only [o_ari, decide_eq_true_eq, ne_eq]; exact fun q => h0 q.2), u_k (by omega)]
theorem n_a1 (x : Int32) (k : Nat) : x + 1 + Int32.ofNat k = x + Int32.ofNat (k + 1) := by
  rw [← n_inc k, Int32.add_assoc, Int32.add_comm 1]
theorem tp_8 {d : Nat} : ∀ (ρ : List Nat) (r : Nat → Int32), o_tp d ρ r 8 = r 8 + Int32.ofNat (o_ar d ρ r).length := by
  intro ρ
  induction ρ with
  | nil => intro r; rw [o_tp, o_ar]; exact (Int32.add_zero _).symm
  | cons l ρ ih =>
    intro r
    rw [o_tp, o_ar, ih, gp_8]
    split
    · rw [List.length_cons, n_a1]
    · rfl
theorem rds_8 {n lim np L d : Nat} {ρ : List Nat} : ∀ (α : List Nat) (r : Nat → Int32), IG r n lim np L d ρ → (∀ l, l ∈ α → l < L) → rds n (-1) α r 8 = r 8 := by
  intro α
  induction α with
  | nil => intro r _ _; rw [rds]
  | cons l α ih =>
    intro r h hin
    have hl := hin l List.mem_cons_self
    have hL := h.1.2.2.2.2.2.1
    obtain ⟨k, hk⟩ := IR_let h.1 hl
    rw [rds, if_neg (n_m1' (by omega)), ih _ (IG_read h hl) (fun l' hl' => hin l' (List.mem_cons_of_mem _ hl')), (rd_facts hk h.1.1 h.1.2.1).1 8 (by omega)]
theorem dayP_8 {r : Nat → Int32} {np L d : Nat} {ρ : List Nat} (hnp : np ≤ 4) : o_dayP r np L d ρ 8 = r 8 + Int32.ofNat (o_ar d ρ r).length := by
  unfold o_dayP
  rw [o_lvs_at hnp np _ 8 (Nat.le_refl _) (fun q s hq hs => by omega) (by omega) (fun l hl => by omega), tp_8]
theorem i_pst_dayP {r : Nat → Int32} {np L d : Nat} {ρ : List Nat} (h : i_pst r np L d ρ) : ∃ ρ', i_pst (o_dayP r np L d ρ) np L d ρ' := by
  have h1 := i_pst_tp ρ [] r h
  rw [List.nil_append] at h1
  have lv : ∀ (q s : Nat), q < np → s < 2 → ∀ (k : Nat) (x : Nat → Int32) (σ : List Nat), i_pst x np L d σ → ¬ x (1140 + 15 * q + (3 + d / 30 % 12)) = 9 → ∃ σ', i_pst (o_lv q s d L k x) np L d σ' := by
    intro q s hq hs k
    induction k with
    | zero => intro x σ hx _; exact ⟨σ, hx⟩
    | succ k ih =>
      intro x σ hx h9
      have hnp := hx.1.2.1
      rw [o_lv]
      by_cases hf : fnd (o_wt x q s) L < L
      · rw [if_pos hf]
        by_cases h0 : x (1140 + 15 * q + (1 + s)) ≤ 0
        · rw [if_pos h0]; exact ⟨σ, hx⟩
        · rw [if_neg h0]
          have hT : d / 30 % 12 < 12 := Nat.mod_lt _ (by decide)
          have hw := (fnd_spec (o_wt x q s) L).1 hf
          refine ih _ _ (i_pst_lv1 hx hq hs hf hw h9).1 ?_
          rw [o_lv1_at (by omega) (by omega) (by omega) (by omega) (by omega)]
          exact h9
      · rw [if_neg hf]; exact ⟨σ, hx⟩
  have lvs : ∀ (k : Nat) (x : Nat → Int32) (σ : List Nat), k ≤ np → i_pst x np L d σ → ∃ σ', i_pst (o_lvs np d L k x) np L d σ' := by
    intro k
    induction k with
    | zero => intro x σ _ hx; exact ⟨σ, hx⟩
    | succ k ih =>
      intro x σ hk hx
      have hnp := hx.1.2.1
      rw [o_lvs]
      have : ∃ σ', i_pst (o_lvp x (np - (k + 1)) d L) np L d σ' := by
        unfold o_lvp
        by_cases h9 : x (1140 + 15 * (np - (k + 1)) + (3 + d / 30 % 12)) = 9
        · rw [if_pos h9]; exact ⟨σ, hx⟩
        · rw [if_neg h9]
          obtain ⟨σ1, x1⟩ := lv (np - (k + 1)) 0 (by omega) (by decide) (L + 1) x σ hx h9
          refine lv (np - (k + 1)) 1 (by omega) (by decide) (L + 1) _ σ1 x1 ?_
          rw [o_lv_at _ _ _ _ _ _ _ (by omega) (by omega) (fun l _ => by omega)]
          exact h9
      obtain ⟨σ1, x1⟩ := this
      exact ih _ σ1 (by omega) x1
  exact lvs np _ _ (Nat.le_refl _) h1
theorem IG_rds {n lim np L d : Nat} {ρ : List Nat} : ∀ (α : List Nat) (r : Nat → Int32), IG r n lim np L d ρ → (∀ l, l ∈ α → l < L) → IG (rds n (-1) α r) n lim np L d ρ := by
  intro α
  induction α with
  | nil => intro r h _; rw [rds]; exact h
  | cons l α ih =>
    intro r h hin
    have hl := hin l List.mem_cons_self
    have hL := h.1.2.2.2.2.2.1
    rw [rds, if_neg (n_m1' (by omega))]
    exact ih _ (IG_read h hl) (fun l' hl' => hin l' (List.mem_cons_of_mem _ hl'))
theorem IG_day {r : Nat → Int32} {n lim np L d : Nat} {ρ : List Nat} (hd : d + 1 < 1000000) (h : IG r n lim np L d ρ) : (∃ ρ', IG (o_dayf r n np L d) n lim np L (d + 1) ρ') ∧ o_dayf r n np L d 8 = r 8 + Int32.ofNat (o_ar (d + 1) ρ (upd r 2 (Int32.ofNat (d + 1)))).length := by
  have ht := IG_tick hd h
  have hin : ∀ l, l ∈ ρ → l < L := fun l hl => (h.2.1.2.2.1 l hl).1
  unfold o_dayf
  rw [IG_rl h, day_split hd h.1 h.2.1.2.2]
  obtain ⟨ρ', hp⟩ := i_pst_dayP ht.2.1
  have hI := IG_dayP ht hp
  have hia : ∀ l, l ∈ o_ar (d + 1) ρ (upd r 2 (Int32.ofNat (d + 1))) → l < L := fun l hl => hin l (o_ar_sub _ _ _ hl)
  refine ⟨⟨ρ', IG_rds _ _ hI hia⟩, ?_⟩
  rw [rds_8 _ _ hI hia, dayP_8 h.1.2.2.2.1, u_k (by omega)]
theorem g_days {g : ev_G} {e n lim np L D : Nat} : ∀ (k : Nat) (S : ev_S) (r : Nat → Int32) (ρ : List Nat) (d : Nat) (acc : Int32), d + k < 1000000 → k ≤ D → D < 1000000 → IG r n lim np L d ρ → q_gm S.1 e r n L ρ → ∀ Q : ev_O → ev_S → Prop,
    (∀ z ρ', q_fr S z e 36 → IG (o_days n np L k d r) n lim np L (d + k) ρ' → q_gm z.1 e (o_days n np L k d r) n L ρ' → Q (.inl (some (ev_i (acc + (o_days n np L k d r 8 - r 8))))) z) →
    ev_E g m_X2_letDaysPass 6 0 4 [some (ev_o 2 e), some (ev_i (Int32.ofNat D)), some (ev_i acc), some (ev_i (Int32.ofNat (D - k)))] [] S Q := by
  intro k
  induction k with
  | zero =>
    intro S r ρ d acc hd hk hD h hg Q hQ
    rw [o_days, Int32.sub_self, Int32.add_zero] at hQ
    exact sg_X2_letDaysPass_4 e _ _ _ (j_pos (by rw [n_le (by omega) (by omega)]; omega) (hQ S ρ ⟨rfl, fun q _ => rfl⟩ h hg))
  | succ k ih =>
    intro S r ρ d acc hd hk hD h hg Q hQ
    obtain ⟨-, h8⟩ := IG_day (by omega) h
    refine sg_X2_letDaysPass_4 e _ _ _ (j_neg (by rw [n_le (by omega) (by omega)]; omega) ?_)
    refine g_day (by omega) h hg (fun z ρ' z1 z2 z3 => ⟨_, rfl, ?_⟩)
    rw [n_inc, show D - (k + 1) + 1 = D - k by omega]
    have er : o_day r n np L d (-1) ρ = o_dayf r n np L d := by unfold o_dayf; rw [IG_rl h]
    rw [er] at z2 z3
    refine ih z (o_dayf r n np L d) ρ' (d + 1) _ (by omega) (by omega) hD z2 z3 Q (fun y ρ'' y1 y2 y3 => ?_)
    have := hQ y ρ'' (q_fr_trans z1 y1) (by rw [o_days, show d + (k + 1) = d + 1 + k by omega]; exact y2) (by rw [o_days]; exact y3)
    rw [o_days] at this
    rw [h8]
    have ee : acc + Int32.ofNat (o_ar (d + 1) ρ (upd r 2 (Int32.ofNat (d + 1)))).length + (o_days n np L k (d + 1) (o_dayf r n np L d) 8 - (r 8 + Int32.ofNat (o_ar (d + 1) ρ (upd r 2 (Int32.ofNat (d + 1)))).length)) = acc + (o_days n np L k (d + 1) (o_dayf r n np L d) 8 - r 8) := by
      rw [Int32.sub_eq_add_neg, Int32.sub_eq_add_neg, Int32.neg_add, Int32.add_assoc]
      congr 1
      rw [Int32.sub_eq_add_neg, ← Int32.add_assoc, Int32.add_comm (Int32.ofNat _), Int32.add_assoc]
      congr 1
      rw [Int32.add_comm, Int32.add_assoc, Int32.add_comm (-Int32.ofNat _), Int32.add_right_neg, Int32.add_zero]
    rw [ee]
    exact this
