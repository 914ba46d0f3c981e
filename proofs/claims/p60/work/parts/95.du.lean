/-! ===== the post alone, day by day ===== -/
theorem o_nu_spec4 (r : Nat → Int32) (dep : Int32) : ∀ n, n ≤ 84 → (o_nu r dep n = -1 ∧ ∀ l, l < n → ¬ (r (1200 + 11 * l + 6) = 1 ∧ ¬ r (1200 + 11 * l + 8) ≤ dep)) ∨
    ∃ j, j < n ∧ o_nu r dep n = Int32.ofNat j ∧ r (1200 + 11 * j + 6) = 1 ∧ ¬ r (1200 + 11 * j + 8) ≤ dep ∧ ∀ l, l < n → r (1200 + 11 * l + 6) = 1 → ¬ r (1200 + 11 * l + 8) ≤ dep → r (1200 + 11 * j + 8) ≤ r (1200 + 11 * l + 8) := by
  intro n
  induction n with
  | zero => intro _; exact Or.inl ⟨rfl, fun l h => absurd h (Nat.not_lt_zero _)⟩
  | succ n ih =>
    intro hn
    simp only [o_nu]
    rcases ih (by omega) with ⟨h1, h2⟩ | ⟨j, hj, h1, h2, h3, h4⟩
    · rw [h1]
      by_cases hc : r (1200 + 11 * n + 6) = 1
      · rw [if_pos hc]
        by_cases hd : r (1200 + 11 * n + 8) ≤ dep
        · rw [if_pos hd]
          refine Or.inl ⟨rfl, fun l hl q => ?_⟩
          by_cases hln : l = n
          · subst hln; exact q.2 hd
          · exact h2 l (by omega) q
        · rw [if_neg hd, if_pos rfl]
          refine Or.inr ⟨n, by omega, rfl, hc, hd, fun l hl q1 q2 => ?_⟩
          by_cases hln : l = n
          · subst hln; exact Int32.le_refl _
          · exact absurd ⟨q1, q2⟩ (h2 l (by omega))
      · rw [if_neg hc]
        refine Or.inl ⟨rfl, fun l hl q => ?_⟩
        by_cases hln : l = n
        · subst hln; exact hc q.1
        · exact h2 l (by omega) q
    · rw [h1, n_c (by omega)]
      by_cases hc : r (1200 + 11 * n + 6) = 1
      · rw [if_pos hc]
        by_cases hd : r (1200 + 11 * n + 8) ≤ dep
        · rw [if_pos hd]
          refine Or.inr ⟨j, by omega, rfl, h2, h3, fun l hl q1 q2 => ?_⟩
          by_cases hln : l = n
          · subst hln; exact absurd hd q2
          · exact h4 l (by omega) q1 q2
        · rw [if_neg hd, if_neg (by rw [n_m1 (by omega)]; exact id)]
          by_cases hle : r (1200 + 11 * j + 8) ≤ r (1200 + 11 * n + 8)
          · rw [if_pos hle]
            refine Or.inr ⟨j, by omega, rfl, h2, h3, fun l hl q1 q2 => ?_⟩
            by_cases hln : l = n
            · subst hln; exact hle
            · exact h4 l (by omega) q1 q2
          · rw [if_neg hle]
            refine Or.inr ⟨n, by omega, rfl, hc, hd, fun l hl q1 q2 => ?_⟩
            by_cases hln : l = n
            · subst hln; exact Int32.le_refl _
            · have := h4 l (by omega) q1 q2
              rw [z_le] at this hle ⊢
              omega
      · rw [if_neg hc]
        refine Or.inr ⟨j, by omega, rfl, h2, h3, fun l hl q1 q2 => ?_⟩
        by_cases hln : l = n
        · subst hln; exact absurd q1 hc
        · exact h4 l (by omega) q1 q2
theorem o_nu_nil4 {r : Nat → Int32} {L : Nat} {dep : Int32} (hL : L ≤ 84) (h : i_road r L dep []) : o_nu r dep L = -1 := by
  rcases o_nu_spec4 r dep L hL with ⟨h1, -⟩ | ⟨j, hj, -, h2, h3, -⟩
  · exact h1
  · exact absurd (h.2.2 j hj h2 h3) (by simp)
theorem o_nu_cons4 {r : Nat → Int32} {L x : Nat} {ρ : List Nat} {dep : Int32} (hL : L ≤ 84) (h : i_road r L dep (x :: ρ)) : o_nu r dep L = Int32.ofNat x := by
  obtain ⟨a1, a2, a3⟩ := h
  obtain ⟨b1, b2, b3⟩ := a1 x List.mem_cons_self
  rcases o_nu_spec4 r dep L hL with ⟨-, h2⟩ | ⟨j, hj, h1, h2, h3, h4⟩
  · exact absurd ⟨b2, b3⟩ (h2 x b1)
  · have hj2 := a3 j hj h2 h3
    rcases List.mem_cons.mp hj2 with rfl | hj3
    · exact h1
    · have e1 := (List.pairwise_cons.mp a2).1 j hj3
      have e2 := h4 x b1 b2 b3
      rw [z_le] at e2
      rw [z_lt] at e1
      omega
theorem o_rl_eq4 {r : Nat → Int32} {L : Nat} (hL : L ≤ 84) : ∀ (ρ : List Nat) (k : Nat) (dep : Int32), i_road r L dep ρ → ρ.length ≤ k → o_rl r L k dep = ρ := by
  intro ρ
  induction ρ with
  | nil =>
    intro k dep h _
    cases k with
    | zero => rfl
    | succ k => rw [o_rl, o_nu_nil4 hL h, if_pos rfl]
  | cons x ρ ih =>
    intro k dep h hk
    cases k with
    | zero => simp at hk
    | succ k =>
      have hx := (h.1 x List.mem_cons_self).1
      rw [List.length_cons] at hk
      rw [o_rl, o_nu_cons4 hL h, if_neg (n_m1' (by omega)), n_c (by omega), ih k _ (i_road_tail h) (by omega)]
theorem pst_rl {r : Nat → Int32} {np L d : Nat} {ρ : List Nat} (h : i_pst r np L d ρ) : o_rl r L 85 0 = ρ := by
  have hL := h.1.2.2.2.1
  have := nd_le L ρ (i_road_nd h.2.2) (fun x hx => (h.2.2.1 x hx).1)
  exact o_rl_eq4 hL ρ 85 0 h.2.2 (by omega)
/-- the post's part of a day, of a row -/
def o_dp (r : Nat → Int32) (np L d : Nat) : Nat → Int32 := o_dayP (upd r 2 (Int32.ofNat (d + 1))) np L (d + 1) (o_rl r L 85 0)
theorem i_pst_dp {r : Nat → Int32} {np L d : Nat} {ρ : List Nat} (hd : d + 1 < 1000000) (h : i_pst r np L d ρ) : ∃ ρ', i_pst (o_dp r np L d) np L (d + 1) ρ' := by
  unfold o_dp
  rw [pst_rl h]
  exact i_pst_dayP (i_pst_tick hd h)
theorem agP_tp {d : Nat} : ∀ (ρ : List Nat) (x y : Nat → Int32), agP x y → agP (o_tp d ρ x) (o_tp d ρ y) := by
  intro ρ
  induction ρ with
  | nil => intro x y h; exact h
  | cons l ρ ih =>
    intro x y h
    rw [o_tp, o_tp]
    exact ih _ _ (agP_gp h)
theorem agP_refl (r : Nat → Int32) : agP r r := fun _ _ => rfl
theorem agP_trans {x y z : Nat → Int32} (h1 : agP x y) (h2 : agP y z) : agP x z := fun j hj => (h2 j hj).trans (h1 j hj)
theorem agP_dayP {r r' : Nat → Int32} {np L d : Nat} {ρ : List Nat} (h : agP r r') : agP (o_dayP r np L d ρ) (o_dayP r' np L d ρ) := by
  unfold o_dayP
  exact agP_lvs _ _ _ (agP_tp _ _ _ h)
/-- reading does not reach the post -/
theorem rds_agP {n lim np L d : Nat} {blk : Int32} : ∀ (α : List Nat) (r : Nat → Int32), IR r n lim np L d blk → (∀ l, l ∈ α → l < L) → agP r (rds n blk α r) ∧ IR (rds n blk α r) n lim np L d blk := by
  intro α
  induction α with
  | nil => intro r h _; rw [rds]; exact ⟨agP_refl r, h⟩
  | cons l α ih =>
    intro r h hin
    have hl := hin l List.mem_cons_self
    rw [rds]
    by_cases hb : Int32.ofNat l = blk
    · rw [if_pos hb]
      exact ih r h (fun l' hl' => hin l' (List.mem_cons_of_mem _ hl'))
    · rw [if_neg hb]
      obtain ⟨b, q, c1, c2, c3, c4, c5⟩ := h.2.2.2.2.2.2.2.2 l hl
      obtain ⟨k, hk⟩ := c5 hb
      have h1 := (IR_read h hk).1
      obtain ⟨i1, i2⟩ := ih _ h1 (fun l' hl' => hin l' (List.mem_cons_of_mem _ hl'))
      exact ⟨agP_trans (rd_facts hk h.1 h.2.1).1 i1, i2⟩
/-- the reference's day: the post's part is o_dp -/
theorem IR_dayb {r rp : Nat → Int32} {n lim np L d : Nat} {blk : Int32} {ρ : List Nat} (hd : d + 1 < 1000000) (h : IR r n lim np L d blk) (hp : i_pst r np L d ρ) (ha : agP rp r) :
    IR (o_day r n np L d blk ρ) n lim np L (d + 1) blk ∧ (∃ ρ', i_pst (o_day r n np L d blk ρ) np L (d + 1) ρ') ∧ agP (o_dp rp np L d) (o_day r n np L d blk ρ) := by
  have ht := IR_tick hd h
  have htp := i_pst_tick hd hp
  have hin : ∀ l, l ∈ ρ → l < L := fun l hl => (hp.2.2.1 l hl).1
  have hia : ∀ l, l ∈ o_ar (d + 1) ρ (upd r 2 (Int32.ofNat (d + 1))) → l < L := fun l hl => hin l (o_ar_sub _ _ _ hl)
  rw [day_split hd h hp.2.2]
  have h2 : IR (o_dayP (upd r 2 (Int32.ofNat (d + 1))) np L (d + 1) ρ) n lim np L (d + 1) blk := by
    unfold o_dayP
    exact IR_lvs h.2.2.2.1 np _ (Nat.le_refl _) (IR_tp ρ _ ht hin)
  obtain ⟨ρ', hp2⟩ := i_pst_dayP htp
  obtain ⟨a1, a2⟩ := rds_agP _ _ h2 hia
  refine ⟨a2, ⟨ρ', i_pst_agP hp2 a1⟩, ?_⟩
  have hrp : o_rl rp L 85 0 = ρ := pst_rl (i_pst_agP hp (fun j hj => (ha j hj).symm))
  unfold o_dp
  rw [hrp]
  exact agP_trans (agP_dayP (agP_upd ha rfl)) a1
/-- a letter's arrival, as days pass -/
def o_pa (l np L : Nat) : Nat → Nat → (Nat → Int32) → Int32
  | 0, _, r => if r (1200 + 11 * l + 6) = 2 then r (1200 + 11 * l + 10) else -1
  | k + 1, d, r => if r (1200 + 11 * l + 6) = 2 then r (1200 + 11 * l + 10) else o_pa l np L k (d + 1) (o_dp r np L d)
theorem o_pa_2 {l np L k d : Nat} {r : Nat → Int32} (h : r (1200 + 11 * l + 6) = 2) : o_pa l np L k d r = r (1200 + 11 * l + 10) := by
  cases k <;> rw [o_pa, if_pos h]
theorem o_pa_s {l np L k d : Nat} {r : Nat → Int32} (h : ¬ r (1200 + 11 * l + 6) = 2) : o_pa l np L (k + 1) d r = o_pa l np L k (d + 1) (o_dp r np L d) := by
  rw [o_pa, if_neg h]
theorem o_pa_0 {l np L d : Nat} {r : Nat → Int32} (h : ¬ r (1200 + 11 * l + 6) = 2) : o_pa l np L 0 d r = -1 := by
  rw [o_pa, if_neg h]
/-- who arrives, arrives today -/
theorem tp_came {np L d l : Nat} : ∀ (ρ : List Nat) (r : Nat → Int32), i_ps r np L d → ρ.Nodup → (∀ x, x ∈ ρ → x < L ∧ r (1200 + 11 * x + 6) = 1) → l < L → (¬ r (1200 + 11 * l + 6) = 2 ∨ r (1200 + 11 * l + 10) = r 2) → o_tp d ρ r (1200 + 11 * l + 6) = 2 → o_tp d ρ r (1200 + 11 * l + 10) = r 2 := by
  intro ρ
  induction ρ with
  | nil =>
    intro r _ _ _ _ h1 h2
    rw [o_tp] at h2 ⊢
    rcases h1 with h1 | h1
    · exact absurd h2 h1
    · exact h1
  | cons x ρ ih =>
    intro r h nd hin hl h1 h2
    obtain ⟨hx, hx1⟩ := hin x List.mem_cons_self
    obtain ⟨hb, hq, eb, eq, hs, hr⟩ := i_ps_bq h hx
    obtain ⟨j1, j2, j3, j4⟩ := i_ps_gp h hx hx1
    have hnp := h.2.1
    have nd' := List.nodup_cons.mp nd
    have e2 : o_gp r d x 2 = r 2 := o_gp_at (by omega) (by omega) (by omega) (by omega) (by omega) (by omega)
    rw [o_tp] at h2 ⊢
    rw [← e2]
    refine ih _ j1 nd'.2 (fun y hy => ⟨(hin y (List.mem_cons_of_mem _ hy)).1, by rw [j2 y (fun q => nd'.1 (q ▸ hy))]; exact (hin y (List.mem_cons_of_mem _ hy)).2⟩) hl ?_ h2
    rw [e2]
    by_cases hlx : l = x
    · subst hlx
      by_cases ha : o_ari r d l = true
      · right
        simp only [o_ari, decide_eq_true_eq, ne_eq] at ha
        unfold o_gp
        rw [if_neg ha.1, if_pos ha.2, o_arr, u_k (by omega), u_k (by omega), u_k (by omega), u_s, u_k (by omega)]
      · left
        rw [j4 ha]
        decide
    · rw [j2 l hlx, o_gp_at (by omega) (by omega) (by omega) (by omega) (by omega) (by omega)]
      exact h1
theorem lv_10 {q s d L : Nat} (hq : q < 4) (hs : s < 2) : ∀ (k : Nat) (r : Nat → Int32) (l : Nat), o_lv q s d L k r (1200 + 11 * l + 10) = r (1200 + 11 * l + 10) ∧ (o_lv q s d L k r (1200 + 11 * l + 6) = 2 → r (1200 + 11 * l + 6) = 2) := by
  intro k
  induction k with
  | zero => intro r l; rw [o_lv]; exact ⟨rfl, id⟩
  | succ k ih =>
    intro r l
    rw [o_lv]
    split
    · split
      · exact ⟨rfl, id⟩
      · obtain ⟨h1, h2⟩ := ih (o_lv1 r q s d (fnd (o_wt r q s) L)) l
        refine ⟨h1.trans (o_lv1_at (by omega) (by omega) (by omega) (by omega) (by omega)), fun h => ?_⟩
        have h3 := h2 h
        by_cases hl : l = fnd (o_wt r q s) L
        · rw [← hl] at h3
          have e : o_lv1 r q s d l (1200 + 11 * l + 6) = 1 := by unfold o_lv1; rw [u_k (by omega), u_k (by omega), u_s]
          rw [e] at h3
          exact absurd h3 (by decide)
        · rw [o_lv1_at (by omega) (by omega) (by omega) (by omega) (by omega)] at h3
          exact h3
    · exact ⟨rfl, id⟩
theorem lvs_10 {np d L : Nat} (hnp : np ≤ 4) : ∀ (k : Nat) (r : Nat → Int32) (l : Nat), k ≤ np → o_lvs np d L k r (1200 + 11 * l + 10) = r (1200 + 11 * l + 10) ∧ (o_lvs np d L k r (1200 + 11 * l + 6) = 2 → r (1200 + 11 * l + 6) = 2) := by
  intro k
  induction k with
  | zero => intro r l _; rw [o_lvs]; exact ⟨rfl, id⟩
  | succ k ih =>
    intro r l hk
    rw [o_lvs]
    obtain ⟨h1, h2⟩ := ih (o_lvp r (np - (k + 1)) d L) l (by omega)
    have hp : o_lvp r (np - (k + 1)) d L (1200 + 11 * l + 10) = r (1200 + 11 * l + 10) ∧ (o_lvp r (np - (k + 1)) d L (1200 + 11 * l + 6) = 2 → r (1200 + 11 * l + 6) = 2) := by
      unfold o_lvp
      split
      · exact ⟨rfl, id⟩
      · obtain ⟨a1, a2⟩ := lv_10 (q := np - (k + 1)) (s := 1) (d := d) (L := L) (by omega) (by omega) (L + 1) (o_lv (np - (k + 1)) 0 d L (L + 1) r) l
        obtain ⟨b1, b2⟩ := lv_10 (q := np - (k + 1)) (s := 0) (d := d) (L := L) (by omega) (by omega) (L + 1) r l
        exact ⟨a1.trans b1, fun h => b2 (a2 h)⟩
    exact ⟨h1.trans hp.1, fun h => hp.2 (h2 h)⟩
theorem o_dp_came {r : Nat → Int32} {np L d l : Nat} {ρ : List Nat} (hd : d + 1 < 1000000) (h : i_pst r np L d ρ) (hl : l < L) (h1 : ¬ r (1200 + 11 * l + 6) = 2) (h2 : o_dp r np L d (1200 + 11 * l + 6) = 2) : o_dp r np L d (1200 + 11 * l + 10) = Int32.ofNat (d + 1) := by
  have ht := i_pst_tick hd h
  unfold o_dp at h2 ⊢
  rw [pst_rl h] at h2 ⊢
  unfold o_dayP at h2 ⊢
  obtain ⟨a1, a2⟩ := lvs_10 (d := d + 1) (L := L) h.1.2.1 np (o_tp (d + 1) ρ (upd r 2 (Int32.ofNat (d + 1)))) l (Nat.le_refl _)
  rw [a1, tp_came ρ _ ht.1 (i_road_nd h.2.2) (fun x hx => ⟨(ht.2.2.1 x hx).1, (ht.2.2.1 x hx).2.1⟩) hl (Or.inl (by rw [u_k (by omega)]; exact h1)) (a2 h2), u_s]
theorem q_pst_2 {M : Nat → Nat → Int32} {e L : Nat} {r : Nat → Int32} {v : Int32} {ρ : List Nat} (h : q_pst M e r L ρ) : q_pst M e (upd r 2 v) L ρ := by
  have er : ∀ j, j ≠ 2 → upd r 2 v j = r j := fun j hj => u_k hj
  refine ⟨?_, h.2.1, h.2.2⟩
  obtain ⟨⟨a1, a2, a3, a4, a5⟩, c, w⟩ := h.1
  refine ⟨⟨by rw [er _ (by omega)]; exact a1, by rw [er _ (by omega)]; exact a2, by rw [er _ (by omega)]; exact a3, by rw [er _ (by omega)]; exact a4, by rw [er _ (by omega)]; exact a5⟩, fun q hq => ?_, fun l hl => ?_⟩
  · obtain ⟨c1, c2, c3, c4⟩ := c q hq
    refine ⟨by rw [er _ (by omega)]; exact c1, fun s hs => by rw [er _ (by omega)]; exact c2 s hs, fun t ht => by rw [er _ (by omega)]; exact c3 t ht, fun s hs => ?_⟩
    rw [c4 s hs]
    refine congrArg Int32.ofNat ?_
    exact cnt_congr L (fun j _ => (o_wt_same (er _ (by omega)) (er _ (by omega)) (by rw [er _ (by omega)])).symm)
  · rw [er _ (by omega), er _ (by omega), er _ (by omega), er _ (by omega), er _ (by omega), er _ (by omega)]
    exact w l hl
/-- the class's post, a day on -/
theorem p_dp {g : ev_G} {S : ev_S} {e np L d : Nat} {r : Nat → Int32} {ρ : List Nat} (hd : d + 1 < 1000000) (hi : i_pst r np L d ρ) (hp : q_pst S.1 e r L ρ) {Q : ev_O → ev_S → Prop}
    (hQ : ∀ v z ρ', q_fr S z e 17 → i_pst (o_dp r np L d) np L (d + 1) ρ' → q_pst z.1 e (o_dp r np L d) L ρ' → Q (.inl (some (ev_i v))) z) :
    ev_Cv g m_X6_passDay 4 0 [ev_o 6 e, ev_i (Int32.ofNat (d + 1))] S Q := by
  have := p_day (g := g) (S := S) (e := e) (i_pst_tick hd hi) (q_pst_2 (v := Int32.ofNat (d + 1)) hp) (Q := Q) (fun z ρ' z1 z2 z3 z4 z5 => by
    have er : o_dayP (upd r 2 (Int32.ofNat (d + 1))) np L (d + 1) ρ = o_dp r np L d := by unfold o_dp; rw [pst_rl hi]
    rw [er] at z2 z3
    exact hQ _ z ρ' ⟨z1.1, fun q hq => z1.2 q (by omega) (by omega) (by omega) (by omega) (by omega) (by omega) (by omega) (by omega)⟩ z2 z3)
  rw [u_s] at this
  exact this
