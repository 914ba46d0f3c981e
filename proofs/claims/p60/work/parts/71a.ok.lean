/-! ===== what a row holds besides: mules of passes that are not there, how many have arrived, a promise that nobody makes ===== -/
def o_st2 (r : Nat → Int32) (l : Nat) : Bool := decide (r (1200 + 11 * l + 6) = 2)
def i_pk (r : Nat → Int32) (np L : Nat) : Prop := (∀ q, np ≤ q → q < 4 → ∀ s, s < 2 → r (1140 + 15 * q + (1 + s)) = 0) ∧ r 8 = Int32.ofNat (cnt (o_st2 r) L)
def i_ok (r : Nat → Int32) (n np L : Nat) : Prop := 4 ≤ n ∧ r 1132 = 0 ∧ i_pk r np L
theorem i_pk_same {r r' : Nat → Int32} {np L : Nat} (h : i_pk r np L) (e : ∀ j, j = 8 ∨ (1140 ≤ j ∧ j < 1200 + 11 * L) → r' j = r j) (e0 : ∀ j, 1140 ≤ j → j < 1200 → r' j = r j) : i_pk r' np L := by
  refine ⟨fun q h1 h2 s hs => by rw [e0 _ (by omega) (by omega)]; exact h.1 q h1 h2 s hs, ?_⟩
  rw [e 8 (by omega), h.2]
  refine congrArg Int32.ofNat (cnt_congr L (fun i hi => ?_))
  unfold o_st2
  rw [e _ (by omega)]
theorem i_ok_same {r r' : Nat → Int32} {n np L : Nat} (h : i_ok r n np L) (e : ∀ j, j = 8 ∨ j = 1132 ∨ 1140 ≤ j → r' j = r j) : i_ok r' n np L :=
  ⟨h.1, by rw [e 1132 (by omega)]; exact h.2.1, i_pk_same h.2.2 (fun j hj => e j (by omega)) (fun j h1 h2 => e j (by omega))⟩
theorem i_ok_lt {r r' : Nat → Int32} {n np L : Nat} (hL : L ≤ 80) (h : i_ok r n np L) (e : ∀ j, j < 2091 → r' j = r j) : i_ok r' n np L :=
  ⟨h.1, by rw [e 1132 (by omega)]; exact h.2.1, i_pk_same h.2.2 (fun j hj => e j (by omega)) (fun j h1 h2 => e j (by omega))⟩
theorem i_pk_gp {r : Nat → Int32} {np L d l : Nat} (h : i_ps r np L d) (hl : l < L) (h1 : r (1200 + 11 * l + 6) = 1) (k : i_pk r np L) : i_pk (o_gp r d l) np L := by
  obtain ⟨hb, hq, eb, eq, hs, hr⟩ := i_ps_bq h hl
  obtain ⟨j1, j2, j3, j4⟩ := i_ps_gp h hl h1
  have hnp := h.2.1
  refine ⟨fun q q1 q2 s hs => ?_, ?_⟩
  · rw [o_gp_at (by omega) (by omega) (by omega) (by omega) (by omega) (by omega)]
    exact k.1 q q1 q2 s hs
  · rw [gp_8]
    have hc := cnt_one (f := o_st2 r) (h := o_st2 (o_gp r d l)) (l := l) (fun j hj => by unfold o_st2; rw [j2 j hj]) L hl
    have hf : ¬ o_st2 r l = true := by unfold o_st2; rw [h1]; decide
    rw [if_neg hf] at hc
    by_cases ha : o_ari r d l = true
    · have hh : o_st2 (o_gp r d l) l = true := by unfold o_st2; rw [j3 ha]; decide
      rw [if_pos hh] at hc
      rw [if_pos ha, k.2, n_inc, show cnt (o_st2 r) L + 1 = cnt (o_st2 (o_gp r d l)) L by omega]
    · have hh : ¬ o_st2 (o_gp r d l) l = true := by unfold o_st2; rw [j4 ha]; decide
      rw [if_neg hh] at hc
      rw [if_neg ha, k.2, show cnt (o_st2 r) L = cnt (o_st2 (o_gp r d l)) L by omega]
theorem i_pk_tp {np L d : Nat} : ∀ (ρ : List Nat) (r : Nat → Int32), i_ps r np L d → ρ.Nodup → (∀ l, l ∈ ρ → l < L ∧ r (1200 + 11 * l + 6) = 1) → i_pk r np L → i_pk (o_tp d ρ r) np L := by
  intro ρ
  induction ρ with
  | nil => intro r _ _ _ k; rw [o_tp]; exact k
  | cons l ρ ih =>
    intro r h nd hin k
    obtain ⟨hl, h1⟩ := hin l List.mem_cons_self
    obtain ⟨j1, j2, j3, j4⟩ := i_ps_gp h hl h1
    have nd' := List.nodup_cons.mp nd
    rw [o_tp]
    exact ih _ j1 nd'.2 (fun x hx => ⟨(hin x (List.mem_cons_of_mem _ hx)).1, by rw [j2 x (fun q => nd'.1 (q ▸ hx))]; exact (hin x (List.mem_cons_of_mem _ hx)).2⟩) (i_pk_gp h hl h1 k)
theorem i_pk_lv1 {r : Nat → Int32} {np L q s d j : Nat} (hq : q < np) (hnp : np ≤ 4) (hs : s < 2) (hw : o_wt r q s j = true) (k : i_pk r np L) : i_pk (o_lv1 r q s d j) np L := by
  simp only [o_wt, decide_eq_true_eq] at hw
  refine ⟨fun q' q1 q2 s' hs' => ?_, ?_⟩
  · rw [o_lv1_at (by omega) (by omega) (by omega) (by omega) (by omega)]
    exact k.1 q' q1 q2 s' hs'
  · rw [o_lv1_at (by omega) (by omega) (by omega) (by omega) (by omega), k.2]
    refine congrArg Int32.ofNat (cnt_congr L (fun i hi => ?_))
    unfold o_st2
    by_cases hij : i = j
    · subst hij
      have e : o_lv1 r q s d i (1200 + 11 * i + 6) = 1 := by unfold o_lv1; rw [u_k (by omega), u_k (by omega), u_s]
      rw [e, hw.1]
      decide
    · rw [o_lv1_at (by omega) (by omega) (by omega) (by omega) (by omega)]
theorem i_pk_lv {np L d q s : Nat} (hq : q < np) (hnp : np ≤ 4) (hs : s < 2) : ∀ (k : Nat) (r : Nat → Int32), i_pk r np L → i_pk (o_lv q s d L k r) np L := by
  intro k
  induction k with
  | zero => intro r h; rw [o_lv]; exact h
  | succ k ih =>
    intro r h
    rw [o_lv]
    split
    · next hf =>
      split
      · exact h
      · exact ih _ (i_pk_lv1 hq hnp hs ((fnd_spec _ L).1 hf) h)
    · exact h
theorem i_pk_lvs {np L d : Nat} (hnp : np ≤ 4) : ∀ (k : Nat) (r : Nat → Int32), k ≤ np → i_pk r np L → i_pk (o_lvs np d L k r) np L := by
  intro k
  induction k with
  | zero => intro r _ h; rw [o_lvs]; exact h
  | succ k ih =>
    intro r hk h
    rw [o_lvs]
    refine ih _ (by omega) ?_
    unfold o_lvp
    split
    · exact h
    · exact i_pk_lv (by omega) hnp (by omega) _ _ (i_pk_lv (by omega) hnp (by omega) _ _ h)
theorem i_pk_dayP {r : Nat → Int32} {np L d : Nat} {ρ : List Nat} (h : i_pst r np L d ρ) (k : i_pk r np L) : i_pk (o_dayP r np L d ρ) np L := by
  unfold o_dayP
  exact i_pk_lvs h.1.2.1 np _ (Nat.le_refl _) (i_pk_tp ρ r h.1 (i_road_nd h.2.2) (fun l hl => ⟨(h.2.2.1 l hl).1, (h.2.2.1 l hl).2.1⟩) k)
theorem o_read_keep {r : Nat → Int32} {n lim l b q k j : Nat} (hL : i_let r n l b q k) (h0 : i_dk r 0 n lim) (h1 : i_dk r 1 n lim) (hj : j = 8 ∨ j = 1132 ∨ 1140 ≤ j) : o_read r n l j = r j := by
  have hall := hL
  by_cases hj2 : j = 1132
  · subst hj2
    obtain ⟨hb, hq, hk1, hk, eb, eq, ek, f, t, hf, ht, hft, ef, et, hi⟩ := hL
    have hdb : i_dk r (1 - b) n lim := by
      have : b = 0 ∨ b = 1 := by omega
      rcases this with rfl | rfl
      · exact h1
      · exact h0
    have hi1 : r (1200 + 11 * l + 2) = 1 → i_pr r n k := fun h1 => by
      rcases hi with hi | hi
      · rw [hi] at h1; exact absurd h1 (by decide)
      · exact hi.2.1
    have htk := i_dk_take (p := 1 - b) (k := k) (f := f) (t := t) (isp := r (1200 + 11 * l + 2)) (by omega) hk1 hk hf ht hft hi1 hdb
    have oa := (o_all_own (by omega : 1 - b < 2) 61 _ htk).2
    rw [← ef, ← et] at oa
    rw [rd_eq hall, oa _ (fun hh => by unfold o_own at hh; omega)]
    unfold o_take
    split
    · split
      · rw [u_k (by omega)]
      · rw [u_k (by omega)]
    · split
      · rw [u_k (by omega)]
      · split
        · rw [u_k (by omega), u_k (by omega)]
        · rw [u_k (by omega)]
  · have hb := hL.1
    exact (o_read_ok hL h0 h1).2 j (fun hh => by unfold o_own at hh; omega) (by omega) (by omega)
theorem rds_keep {n lim np L d : Nat} {ρ : List Nat} : ∀ (α : List Nat) (r : Nat → Int32), IG r n lim np L d ρ → (∀ l, l ∈ α → l < L) → ∀ j, j = 8 ∨ j = 1132 ∨ 1140 ≤ j → rds n (-1) α r j = r j := by
  intro α
  induction α with
  | nil => intro r _ _ j _; rw [rds]
  | cons l α ih =>
    intro r h hin j hj
    have hl := hin l List.mem_cons_self
    have hL := h.1.2.2.2.2.2.1
    obtain ⟨k, hk⟩ := IR_let h.1 hl
    rw [rds, if_neg (n_m1' (by omega)), ih _ (IG_read h hl) (fun l' hl' => hin l' (List.mem_cons_of_mem _ hl')) j hj]
    exact o_read_keep hk h.1.1 h.1.2.1 hj
theorem i_ok_day {r : Nat → Int32} {n lim np L d : Nat} {ρ : List Nat} (hd : d + 1 < 1000000) (h : IG r n lim np L d ρ) (k : i_ok r n np L) : i_ok (o_dayf r n np L d) n np L := by
  have ht := IG_tick hd h
  have hin : ∀ l, l ∈ ρ → l < L := fun l hl => (h.2.1.2.2.1 l hl).1
  unfold o_dayf
  rw [IG_rl h, day_split hd h.1 h.2.1.2.2]
  obtain ⟨ρ', hp⟩ := i_pst_dayP ht.2.1
  have hI := IG_dayP ht hp
  have hia : ∀ l, l ∈ o_ar (d + 1) ρ (upd r 2 (Int32.ofNat (d + 1))) → l < L := fun l hl => hin l (o_ar_sub _ _ _ hl)
  have rk := rds_keep _ _ hI hia
  have kt : i_pk (upd r 2 (Int32.ofNat (d + 1))) np L := i_pk_same k.2.2 (fun j hj => u_k (by omega)) (fun j h1 h2 => u_k (by omega))
  have kd := i_pk_dayP ht.2.1 kt
  refine ⟨k.1, ?_, i_pk_same kd (fun j hj => rk j (by omega)) (fun j h1 h2 => rk j (by omega))⟩
  rw [rk 1132 (by omega), dayP_at ht.1 hin (Or.inr (Or.inl ⟨by omega, by omega⟩)), u_k (by omega)]
  exact k.2.1
theorem i_ok_days {n lim np L : Nat} : ∀ (k d : Nat) (r : Nat → Int32) (ρ : List Nat), d + k < 1000000 → IG r n lim np L d ρ → i_ok r n np L → i_ok (o_days n np L k d r) n np L := by
  intro k
  induction k with
  | zero => intro d r ρ _ _ h; rw [o_days]; exact h
  | succ k ih =>
    intro d r ρ hd hi h
    obtain ⟨⟨ρ', h1⟩, -⟩ := IG_day (by omega) hi
    rw [o_days]
    exact ih (d + 1) _ ρ' (by omega) h1 (i_ok_day (by omega) hi h)
