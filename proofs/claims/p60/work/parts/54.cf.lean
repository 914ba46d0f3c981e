/-! ===== the class: settle, whole ===== -/
def i_bd (r : Nat → Int32) (p n : Nat) : Prop := i_sq r p n ∧ i_mv r p n (o_mad r p)
theorem i_bd_step {r : Nat → Int32} {p n lim m f t : Nat} (hp : p < 2) (hm : r (12 + 7 * p) = Int32.ofNat m) (hml : m < lim) (hf : f < n * n) (ht : t < n * n) (hft : f ≠ t) (hd : i_dk r p n lim) (h : i_bd r p n) : i_bd (o_apply (o_clr r p (m + 1)) p m f t) p n := by
  have h8 := hd.2.1
  have h60 := hd.2.2.2.1
  obtain ⟨h1, h2⟩ := h
  have hmd : o_mad r p = m := by unfold o_mad; rw [hm, n_c (by omega)]
  rw [hmd] at h2
  have fc : ∀ j, j < 514 + 124 * p + 2 * (m + 1) ∨ 514 + 124 * p + 2 * (m + 1) + 1 < j → o_clr r p (m + 1) j = r j := fun j hj => by rw [o_clr, u_k (by omega), u_k (by omega)]
  have q1 : i_sq (o_clr r p (m + 1)) p n := fun s hs => by rw [fc _ (by omega)]; exact h1 s hs
  have q2 : i_mv (o_clr r p (m + 1)) p n m := fun k hk => by rw [fc _ (by omega), fc _ (by omega), fc _ (by omega)]; exact h2 k hk
  refine ⟨i_sq_apply (by omega) hp h8 hf ht hft q1, ?_⟩
  have e : o_mad (o_apply (o_clr r p (m + 1)) p m f t) p = m + 1 := by unfold o_mad; rw [o_apply_made, n_c (by omega)]
  rw [e]
  exact i_mv_apply (by omega) hp h8 hf ht q2
theorem i_bd_keep {r : Nat → Int32} {p n m : Nat} (hp : p < 2) (hm : o_mad r p ≤ 60) (h : i_bd r p n) : i_bd (o_keep r p m) p n := by
  obtain ⟨h1, h2⟩ := h
  have e : o_mad (o_keep r p m) p = o_mad r p := by unfold o_mad; rw [o_keep_at (by omega)]
  refine ⟨fun s hs => by rw [o_keep_at (by omega)]; exact h1 s hs, ?_⟩
  rw [e]
  intro k hk
  rw [o_keep_at (by omega), o_keep_at (by omega), o_keep_at (by omega)]
  exact h2 k hk
theorem i_bd_all {p n lim : Nat} (hp : p < 2) : ∀ (k : Nat) (r : Nat → Int32), i_dk r p n lim → i_bd r p n → i_bd (o_all p n k r) p n := by
  intro k
  induction k with
  | zero => intro r _ h; exact h
  | succ k ih =>
    intro r h hb
    have hall := h
    obtain ⟨h0, h8, h1, h60, ⟨m, hm, hml⟩, hs, hpr⟩ := h
    have hmd : o_mad r p = m := by unfold o_mad; rw [hm, n_c (by omega)]
    rw [o_all, hmd]
    by_cases ho : o_over r p n = true
    · rw [if_pos ho]; exact hb
    · rw [if_neg ho]
      have hlt : m < lim := by
        have := o_over_not ho
        rw [hm, h1, Ne, n_eq (by omega) (by omega)] at this
        omega
      have hn9 := sq_le h8
      by_cases hst : r (514 + 124 * p + 2 * (m + 1)) = -1
      · rw [if_pos hst]
        by_cases hd : o_due r p m = true
        · rw [if_pos hd]
          obtain ⟨ef, et, rf, rt, -, -, -, hrf, hrt, hne, -, -, e2, e3, -⟩ := o_due_pr (by omega) hpr hd
          rw [e2, e3, n_c (by omega), n_c (by omega)]
          have hb1 := i_bd_step hp hm hlt hrf hrt hne hall hb
          have hd1 := i_dk_step (f := rf) (t := rt) hp hm hlt (by omega) (by omega) hall
          have e : o_mad (o_apply (o_clr r p (m + 1)) p m rf rt) p = m + 1 := by unfold o_mad; rw [o_apply_made, n_c (by omega)]
          exact ih _ (i_dk_keep hp hd1) (i_bd_keep hp (by omega) hb1)
        · rw [if_neg hd]; exact hb
      · rw [if_neg hst]
        rcases hs (m + 1) (by omega) with h9 | ⟨f, t, hf, ht, hft, ef, et⟩
        · exact absurd h9 hst
        · rw [ef, et, n_c (by omega), n_c (by omega)]
          exact ih _ (i_dk_step (f := f) (t := t) hp hm hlt (by omega) (by omega) hall) (i_bd_step hp hm hlt hf ht hft hall hb)
def q_dk (M : Nat → Nat → Int32) (e : Nat) (r : Nat → Int32) (p n : Nat) : Prop := q_desk M e r p n (o_mad r p)
theorem q_fr_trans {S z y : ev_S} {b w : Nat} (h1 : q_fr S z b w) (h2 : q_fr z y b w) : q_fr S y b w := ⟨h2.1.trans h1.1, fun q hq => (h2.2 q hq).trans (h1.2 q hq)⟩
theorem n_m1' {a : Nat} (ha : a < 2147483648) : ¬ Int32.ofNat a = -1 := by rw [n_m1 ha]; exact id
theorem d_note {g : ev_G} {S : ev_S} {e : Nat} {day : Int32} {Q : ev_O → ev_S → Prop} (hQ : ∀ z, q_fr S z e 1 → (∀ j, j ≠ 8 → j ≠ 9 → j ≠ 10 → z.1 e j = S.1 e j) → z.1 e 8 = (if S.1 e 7 = -1 then S.1 e 8 else S.1 e 8 + 1) → z.1 e 9 = (if S.1 e 7 = -1 then S.1 e 9 else S.1 e 9 + (day - S.1 e 7)) → z.1 e 10 = (if S.1 e 7 = -1 then S.1 e 10 else ev_max (S.1 e 10) (day - S.1 e 7)) → Q (.inl none) z) :
    ev_Cv g m_X1_noteWait 1 0 [ev_o 1 e, ev_i day] S Q := by
  refine sg_X1_noteWait_0 e _ ?_
  by_cases h : S.1 e 7 = -1
  · refine j_pos h (hQ S ⟨rfl, fun q _ => rfl⟩ (fun j _ _ _ => rfl) ?_ ?_ ?_) <;> rw [if_pos h]
  · refine j_neg h ?_
    intro S1 h1 S2 h2 S3 h3
    subst h1 h2 h3
    refine hQ _ ⟨rfl, fun q hq => ?_⟩ (fun j h8 h9 h10 => ?_) ?_ ?_ ?_
    · simp (disch := omega) only [forall_eq, m_u, r_s, r_rr, r_2, u_k, u_s, r_r]
    · simp (disch := omega) only [forall_eq, m_u, r_s, r_rr, r_2, u_k, u_s, r_r]
    · rw [if_neg h]; simp (disch := omega) only [forall_eq, m_u, r_s, r_rr, r_2, u_k, u_s, r_r]
    · rw [if_neg h]; simp (disch := omega) only [forall_eq, m_u, r_s, r_rr, r_2, u_k, u_s, r_r]
    · rw [if_neg h]; simp (disch := omega) only [forall_eq, m_u, r_s, r_rr, r_2, u_k, u_s, r_r]
/-- what the class asks of a promise is what the reference asks -/
theorem q_due {M : Nat → Nat → Int32} {e p n m : Nat} {r : Nat → Int32} (hm : m < 60) (h8 : n ≤ 8) (hpr : i_pro r n) (hmv : i_mv r p n m) (h : q_desk M e r p n m) :
    (M (e + 8) (m + 1) = -1 ↔ r (762 + 6 * (m + 1) + o_fl p (m + 1)) = 0) ∧ (¬ r (762 + 6 * (m + 1) + o_fl p (m + 1)) = 0 → (M (e + 7) (m + 1) = (if m = 0 then -1 else M (e + 4) m) ↔ o_due r p m = true) ∧ ∃ rf rt, rf < n * n ∧ rt < n * n ∧ rf ≠ rt ∧ M (e + 8) (m + 1) = Int32.ofNat (rf * 64 + rt) ∧ r (762 + 6 * (m + 1) + 2) = Int32.ofNat rf ∧ r (762 + 6 * (m + 1) + 3) = Int32.ofNat rt) := by
  have hn9 := sq_le h8
  obtain ⟨a0, a1, a2, a3, -⟩ := h
  obtain ⟨c1, c2⟩ := a3 (m + 1) (by omega)
  have hpos : ¬ r (762 + 6 * (m + 1) + o_fl p (m + 1)) = 0 → i_pr r n (m + 1) := by
    intro h
    rcases hpr (m + 1) (by omega) with ⟨h4, h5⟩ | h9
    · rcases o_fl_or p (m + 1) with h6 | h6 <;> rw [h6] at h
      · exact absurd h4 h
      · exact absurd h5 h
    · exact h9
  by_cases hz : r (762 + 6 * (m + 1) + o_fl p (m + 1)) = 0
  · exact ⟨⟨fun _ => hz, fun _ => (c1 hz).2⟩, fun q => absurd hz q⟩
  · obtain ⟨ef, et, rf, rt, b1, b2, b3, b4, b5, b6, b7, b8, b9, b10, b11, b12⟩ := hpos hz
    obtain ⟨d1, d2⟩ := c2 hz
    rw [b7, b8, n_mvn] at d1
    rw [b9, b10, n_mvn] at d2
    refine ⟨⟨fun q => ?_, fun q => absurd q hz⟩, fun _ => ⟨?_, rf, rt, b4, b5, b6, d2, b9, b10⟩⟩
    · rw [d2] at q; exact absurd q (n_m1' (by omega))
    · rw [d1]
      unfold o_due
      rw [show (if o_maker (m + 1) = p then 4 else 5) = o_fl p (m + 1) from rfl]
      simp only [decide_eq_true_eq]
      rcases m with _ | j
      · rw [if_pos rfl]
        exact ⟨fun q => absurd q (n_m1' (by omega)), fun q => absurd q.2.1 (by omega)⟩
      · rw [if_neg (by omega)]
        obtain ⟨f, t, hf, ht, e1, e2, -⟩ := hmv j (by omega)
        have e9 : M (e + 4) (j + 1) = Int32.ofNat (f * 64 + t) := by
          have := (a1.2.2.2.2.2.2.2.2 j (by omega)).1
          rw [show e + 1 + 3 = e + 4 by omega, e1, e2, n_mvn] at this
          exact this
        rw [e9, n_eq (by omega) (by omega), Nat.add_sub_cancel, e1, e2, b7, b8, n_eq (by omega) (by omega), n_eq (by omega) (by omega)]
        exact ⟨fun q => ⟨hz, by omega, by omega, by omega⟩, fun q => by omega⟩
