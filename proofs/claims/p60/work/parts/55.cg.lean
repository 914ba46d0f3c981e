/-! ===== the class: settle, its loop ===== -/
def q_pre (S S5 : ev_S) (e p m : Nat) (pr : Bool) : Prop :=
  q_fr S S5 e 9 ∧ (∀ q, e + 1 ≤ q → q < e + 6 → S5.1 q = S.1 q) ∧ (∀ k, k ≤ 60 → S5.1 (e + 6) k = if k = m + 1 then -1 else S.1 (e + 6) k) ∧ S5.1 (e + 7) = S.1 (e + 7) ∧ S5.1 (e + 8) = S.1 (e + 8) ∧
  S5.1 e 0 = S.1 e 0 ∧ S5.1 e 5 = (if pr = true then S.1 e 5 else S.1 e 5 - 1) ∧ S5.1 e 6 = (if pr = true ∧ o_maker (m + 1) = p then S.1 e 6 + 1 else S.1 e 6) ∧ ∀ j, 7 ≤ j → S5.1 e j = S.1 e j
theorem d_half {g : ev_G} {S S5 : ev_S} {e p n lim m f t : Nat} {r : Nat → Int32} (pr : Bool) (hp : p < 2) (hd : i_dk r p n lim) (hb : i_bd r p n) (hm : r (12 + 7 * p) = Int32.ofNat m) (hml : m < lim) (hf : f < n * n) (ht : t < n * n) (hft : f ≠ t)
    (hpr : pr = true ↔ r (514 + 124 * p + 2 * (m + 1)) = -1) (h : q_desk S.1 e r p n m) (h5 : q_pre S S5 e p m pr) {E : ev_S → Prop}
    (hE : ∀ z, q_fr S z e 9 → q_desk z.1 e (if pr = true then o_keep (o_apply (o_clr r p (m + 1)) p m f t) p m else o_apply (o_clr r p (m + 1)) p m f t) p n (m + 1) → E z) :
    (o_maker (m + 1) = p → ev_Cv g m_X0_play 3 0 [ev_o 0 (e + 1), ev_i (Int32.ofNat (f * 64 + t))] S5 (fun o S9 => o = .inl none ∧ ∀ S10 : ev_S, S10 = ev_up S9 e 7 (r 2) → E S10)) ∧
    (¬ o_maker (m + 1) = p → ev_Cv g m_X0_play 3 0 [ev_o 0 (e + 1), ev_i (Int32.ofNat (f * 64 + t))] S5 (fun o S6 => o = .inl none ∧ ev_Cv g m_X1_noteWait 1 0 [ev_o 1 e, ev_i (r 2)] S6 (fun o S7 => o = .inl none ∧ E S7))) := by
  have h8 := hd.2.1
  have h60 := hd.2.2.2.1
  have hn9 := sq_le h8
  have hmd : o_mad r p = m := by unfold o_mad; rw [hm, n_c (by omega)]
  obtain ⟨hsq, hmv⟩ := hb
  have hh := h
  obtain ⟨a0, a1, a2, a3, a4, a5, a6, a7, a8, a9⟩ := h
  obtain ⟨b0, b1, b2, b3, b4, b5, b6, b7, b8⟩ := h5
  have fc : ∀ j, j < 514 + 124 * p + 2 * (m + 1) ∨ 514 + 124 * p + 2 * (m + 1) + 1 < j → o_clr r p (m + 1) j = r j := fun j hj => by rw [o_clr, u_k (by omega), u_k (by omega)]
  have q1 : i_sq (o_clr r p (m + 1)) p n := fun s hs => by rw [fc _ (by omega)]; exact hsq s hs
  have hbd : q_board S5.1 (e + 1) (o_clr r p (m + 1)) p n m := by
    refine b_row h8 (by omega) (fun j hj => fc j (by omega)) (b_frame (M := S.1) (fun q h1 h2 => b1 q (by omega) (by omega)) a1)
  have hcm : o_clr r p (m + 1) (12 + 7 * p) = Int32.ofNat m := by rw [fc _ (by omega)]; exact hm
  constructor
  · intro ho
    refine b_play (by omega) hp h8 hf ht hft q1 hcm hbd (fun z hz1 hz2 => ⟨rfl, fun y hy => ?_⟩)
    have ey : ∀ q, q ≠ e → y.1 q = z.1 q := fun q hq => by rw [hy, m_r hq]
    have ez : ∀ q, q < e + 1 ∨ e + 6 ≤ q → z.1 q = S5.1 q := fun q hq => hz1.2 q (by omega)
    have e0 : ∀ j, j ≠ 7 → y.1 e j = S5.1 e j := fun j hj => by rw [hy, m_k hj, ez e (by omega)]
    refine hE y ⟨?_, fun q hq => ?_⟩ ?_
    · rw [hy]; exact hz1.1.trans b0.1
    · rw [ey q (by omega), ez q (by omega), b0.2 q (by omega)]
    · refine q_desk_step (M := S.1) (by omega) hp (by omega) (by omega) hh pr hpr ?_ ?_ ?_ ?_ ?_ ?_ ?_ ?_ ?_ ?_ ?_
      · rw [e0 0 (by omega), b5]
      · exact b_frame (M := z.1) (fun q h1 h2 => ey q (by omega)) hz2
      · intro k hk; rw [ey _ (by omega), ez _ (by omega), b2 k hk]
      · rw [ey _ (by omega), ez _ (by omega), b3]
      · rw [ey _ (by omega), ez _ (by omega), b4]
      · rw [e0 5 (by omega), b6]
      · rw [e0 6 (by omega), b7]
      · rw [if_pos ho, hy, m_s]
      · rw [if_pos ho, e0 8 (by omega), b8 8 (by omega)]
      · rw [if_pos ho, e0 9 (by omega), b8 9 (by omega)]
      · rw [if_pos ho, e0 10 (by omega), b8 10 (by omega)]
  · intro ho
    refine b_play (by omega) hp h8 hf ht hft q1 hcm hbd (fun z hz1 hz2 => ⟨rfl, d_note (fun y hy1 hy2 hy3 hy4 hy5 => ⟨rfl, ?_⟩)⟩)
    have ez : ∀ q, q < e + 1 ∨ e + 6 ≤ q → z.1 q = S5.1 q := fun q hq => hz1.2 q (by omega)
    have ey : ∀ q, q ≠ e → y.1 q = z.1 q := fun q hq => hy1.2 q (by omega)
    have e7 : z.1 e 7 = S.1 e 7 := by rw [ez e (by omega), b8 7 (by omega)]
    rw [e7] at hy3 hy4 hy5
    rw [ez e (by omega), b8 8 (by omega)] at hy3
    rw [ez e (by omega), b8 9 (by omega)] at hy4
    rw [ez e (by omega), b8 10 (by omega)] at hy5
    have e0 : ∀ j, j ≠ 8 → j ≠ 9 → j ≠ 10 → y.1 e j = S5.1 e j := fun j h1 h2 h3 => by rw [hy2 j h1 h2 h3, ez e (by omega)]
    refine hE y ⟨hy1.1.trans (hz1.1.trans b0.1), fun q hq => ?_⟩ ?_
    · rw [ey q (by omega), ez q (by omega), b0.2 q (by omega)]
    · refine q_desk_step (M := S.1) (by omega) hp (by omega) (by omega) hh pr hpr ?_ ?_ ?_ ?_ ?_ ?_ ?_ ?_ ?_ ?_ ?_
      · rw [e0 0 (by omega) (by omega) (by omega), b5]
      · exact b_frame (M := z.1) (fun q h1 h2 => ey q (by omega)) hz2
      · intro k hk; rw [ey _ (by omega), ez _ (by omega), b2 k hk]
      · rw [ey _ (by omega), ez _ (by omega), b3]
      · rw [ey _ (by omega), ez _ (by omega), b4]
      · rw [e0 5 (by omega) (by omega) (by omega), b6]
      · rw [e0 6 (by omega) (by omega) (by omega), b7]
      · rw [if_neg ho, e0 7 (by omega) (by omega) (by omega), b8 7 (by omega)]
      · rw [if_neg ho, hy3]
      · rw [if_neg ho, hy4]
      · rw [if_neg ho, hy5]
theorem d_settle2 {g : ev_G} {e p n lim : Nat} (hp : p < 2) : ∀ (k : Nat) (S : ev_S) (r : Nat → Int32), k ≤ 61 → i_dk r p n lim → i_bd r p n → q_dk S.1 e r p n → ∀ Q : ev_O → ev_S → Prop, (∀ z, q_fr S z e 9 → q_dk z.1 e (o_all p n k r) p n → Q (.inl none) z) →
    ev_E g m_X1_settle 4 0 2 [some (ev_o 1 e), some (ev_i (r 2)), some (ev_i (Int32.ofNat (61 - k))), none, none, none] [] S Q := by
  intro k
  induction k with
  | zero =>
    intro S r _ _ _ h Q hQ
    exact sg_X1_settle_2 e _ _ (j_pos (by decide) (hQ S ⟨rfl, fun q _ => rfl⟩ h))
  | succ k ih =>
    intro S r hk hd hb h Q hQ
    have hall := hd
    obtain ⟨h0, h8, h1, h60, ⟨m, hm, hml⟩, hs, hpr⟩ := hd
    have hn9 := sq_le h8
    have hmd : o_mad r p = m := by unfold o_mad; rw [hm, n_c (by omega)]
    have hmv := hb.2
    unfold q_dk at h
    rw [hmd] at h hmv
    rw [o_all, hmd] at hQ
    have hh := h
    obtain ⟨a0, a1, a2, a3, a4, a5, a6, a7, a8, a9⟩ := h
    have e6 : S.1 (e + 1) 6 = Int32.ofNat m := by rw [a1.2.2.2.2.2.1]; exact hm
    have hfin := b_fin h8 a1
    have e60 : (60 : Int32) = Int32.ofNat 60 := rfl
    refine sg_X1_settle_2 e _ _ (j_neg (by rw [e60, n_lt (by omega) (by omega)]; omega) ?_)
    have same : q_dk S.1 e r p n := by unfold q_dk; rw [hmd]; exact hh
    by_cases ho : o_over r p n = true
    · rw [if_pos ho] at hQ
      exact j_pos (by rw [hfin]; exact ho) (hQ S ⟨rfl, fun q _ => rfl⟩ same)
    · rw [if_neg ho] at hQ
      refine j_neg (by rw [hfin]; exact ho) ?_
      have hlt : m < lim := by
        have := o_over_not ho
        rw [hm, h1, Ne, n_eq (by omega) (by omega)] at this
        omega
      have hmk := o_maker_lt (m + 1)
      rw [e6, n_inc, n_d1, c_mover (by omega), a0, a_in (show m + 1 < 61 by omega) (by omega), a_in (show m + 1 < 61 by omega) (by omega), a_in (show m + 1 < 61 by omega) (by omega), n_inc]
      have hnx : 61 - (k + 1) + 1 = 61 - k := by omega
      rw [hnx]
      have emv : f_X0_moveAt S (e + 1) (Int32.ofNat m) = if m = 0 then -1 else S.1 (e + 4) m := by
        unfold f_X0_moveAt
        have e1 : (1 : Int32) = Int32.ofNat 1 := rfl
        by_cases hm0 : m = 0
        · rw [if_pos hm0, if_pos (by rw [e1, n_lt (by omega) (by omega)]; omega)]
        · rw [if_neg hm0, if_neg (by rw [e1, n_lt (by omega) (by omega)]; omega), e6, if_neg (by rw [n_lt (by omega) (by omega)]; omega), a_in (by omega) (by omega)]
      rw [emv]
      obtain ⟨du1, du2⟩ := q_due (by omega) h8 hpr hmv hh
      have hst := a2 (m + 1) (by omega)
      by_cases hsm : r (514 + 124 * p + 2 * (m + 1)) = -1
      · -- a promise, or nothing
        rw [if_pos hsm] at hst hQ
        by_cases hz : r (762 + 6 * (m + 1) + o_fl p (m + 1)) = 0
        · have hnd : ¬ o_due r p m = true := by
            intro q
            simp only [o_due, decide_eq_true_eq] at q
            exact q.1 hz
          rw [if_neg hnd] at hQ
          have fin := hQ S ⟨rfl, fun q _ => rfl⟩ same
          exact ⟨fun _ => j_pos hst (j_pos (du1.mpr hz) fin), fun _ => j_pos hst (j_pos (du1.mpr hz) fin)⟩
        · obtain ⟨du3, rf, rt, hrf, hrt, hrne, e8, er1, er2⟩ := du2 hz
          have hn8 : ¬ S.1 (e + 8) (m + 1) = -1 := fun q => hz (du1.mp q)
          by_cases hdu : o_due r p m = true
          · rw [if_pos hdu, er1, er2, n_c (by omega), n_c (by omega)] at hQ
            have hd1 := i_dk_step (f := rf) (t := rt) hp hm hlt (by omega) (by omega) hall
            have hb1 := i_bd_step hp hm hlt hrf hrt hrne hall hb
            have e2 : o_keep (o_apply (o_clr r p (m + 1)) p m rf rt) p m 2 = r 2 := by rw [o_keep_at (by omega), o_apply_at (by omega) (by omega) (by omega) (by omega), o_clr, u_k (by omega), u_k (by omega)]
            have em : o_mad (o_apply (o_clr r p (m + 1)) p m rf rt) p = m + 1 := by unfold o_mad; rw [o_apply_made, n_c (by omega)]
            have em2 : o_mad (o_keep (o_apply (o_clr r p (m + 1)) p m rf rt) p m) p = m + 1 := by unfold o_mad; rw [o_keep_at (by omega), o_apply_made, n_c (by omega)]
            have hE : ∀ S5, q_pre S S5 e p m true → _ := fun S5 h5 => d_half (g := g) (S := S) (S5 := S5) true hp hall hb hm hlt hrf hrt hrne ⟨fun _ => hsm, fun _ => rfl⟩ hh h5 (E := fun z => ev_E g m_X1_settle 4 0 2 [some (ev_o 1 e), some (ev_i (r 2)), some (ev_i (Int32.ofNat (61 - k))), none, none, none] [] z Q) (fun z hz1 hz2 => by
              rw [if_pos rfl] at hz2
              have := ih z (o_keep (o_apply (o_clr r p (m + 1)) p m rf rt) p m) (by omega) (i_dk_keep hp hd1) (i_bd_keep hp (by omega) hb1) (by unfold q_dk; rw [em2]; exact hz2) Q (fun y hy1 hy2 => hQ y (q_fr_trans hz1 hy1) hy2)
              rw [e2] at this
              exact this)
            have hst6 : ∀ k, k ≤ 60 → S.1 (e + 6) k = if k = m + 1 then -1 else S.1 (e + 6) k := by
              intro k hk
              by_cases hkm : k = m + 1
              · rw [if_pos hkm, hkm]; exact hst
              · rw [if_neg hkm]
            rw [e8]
            refine ⟨fun hown => ?_, fun hown => ?_⟩
            · rw [n_eq (by omega) (by omega)] at hown
              refine j_pos hst (j_neg (n_m1' (by omega)) (j_pos (du3.mpr hdu) ?_))
              intro S8 hS8
              refine (hE S8 ⟨?_, ?_, ?_, ?_, ?_, ?_, ?_, ?_, ?_⟩).1 hown
              · exact ⟨by rw [hS8]; rfl, fun q hq => by rw [hS8, m_r (by omega)]⟩
              · intro q h1 h2; rw [hS8, m_r (by omega)]
              · intro k hk; rw [hS8, m_r (by omega)]; exact hst6 k hk
              · rw [hS8, m_r (by omega)]
              · rw [hS8, m_r (by omega)]
              · rw [hS8, m_k (by omega)]
              · rw [if_pos rfl, hS8, m_k (by omega)]
              · rw [if_pos ⟨rfl, hown⟩, hS8, m_s]
              · intro j hj; rw [hS8, m_k (by omega)]
            · rw [n_eq (by omega) (by omega)] at hown
              refine j_pos hst (j_neg (n_m1' (by omega)) (j_pos (du3.mpr hdu) ?_))
              intro S8 hS8
              rw [Int32.add_zero] at hS8
              refine (hE S8 ⟨?_, ?_, ?_, ?_, ?_, ?_, ?_, ?_, ?_⟩).2 hown
              · exact ⟨by rw [hS8]; rfl, fun q hq => by rw [hS8, m_r (by omega)]⟩
              · intro q h1 h2; rw [hS8, m_r (by omega)]
              · intro k hk; rw [hS8, m_r (by omega)]; exact hst6 k hk
              · rw [hS8, m_r (by omega)]
              · rw [hS8, m_r (by omega)]
              · rw [hS8, m_k (by omega)]
              · rw [if_pos rfl, hS8, m_k (by omega)]
              · rw [if_neg (fun q => hown q.2), hS8, m_s]
              · intro j hj; rw [hS8, m_k (by omega)]
          · rw [if_neg hdu] at hQ
            have fin := hQ S ⟨rfl, fun q _ => rfl⟩ same
            exact ⟨fun _ => j_pos hst (j_neg hn8 (j_neg (fun q => hdu (du3.mp q)) fin)), fun _ => j_pos hst (j_neg hn8 (j_neg (fun q => hdu (du3.mp q)) fin))⟩
      · rw [if_neg hsm] at hst hQ
        rcases hs (m + 1) (by omega) with h9 | ⟨f, t, hf, ht, hft, ef, et⟩
        · exact absurd h9 hsm
        · rw [ef, et, n_c (by omega), n_c (by omega)] at hQ
          rw [ef, et, n_mvn] at hst
          have hd1 := i_dk_step (f := f) (t := t) hp hm hlt (by omega) (by omega) hall
          have hb1 := i_bd_step hp hm hlt hf ht hft hall hb
          have e2 : o_apply (o_clr r p (m + 1)) p m f t 2 = r 2 := by rw [o_apply_at (by omega) (by omega) (by omega) (by omega), o_clr, u_k (by omega), u_k (by omega)]
          have em : o_mad (o_apply (o_clr r p (m + 1)) p m f t) p = m + 1 := by unfold o_mad; rw [o_apply_made, n_c (by omega)]
          have hE : ∀ S5, q_pre S S5 e p m false → _ := fun S5 h5 => d_half (g := g) (S := S) (S5 := S5) false hp hall hb hm hlt hf ht hft ⟨fun q => absurd q (by decide), fun q => absurd q hsm⟩ hh h5 (E := fun z => ev_E g m_X1_settle 4 0 2 [some (ev_o 1 e), some (ev_i (r 2)), some (ev_i (Int32.ofNat (61 - k))), none, none, none] [] z Q) (fun z hz1 hz2 => by
            rw [if_neg (by decide)] at hz2
            have := ih z (o_apply (o_clr r p (m + 1)) p m f t) (by omega) hd1 hb1 (by unfold q_dk; rw [em]; exact hz2) Q (fun y hy1 hy2 => hQ y (q_fr_trans hz1 hy1) hy2)
            rw [e2] at this
            exact this)
          have hpre : ∀ S12, S12 = ev_up (j_put S (e + 6) 61 (Int32.ofNat (m + 1)) (-1)) e 5 ((j_put S (e + 6) 61 (Int32.ofNat (m + 1)) (-1)).1 e 5 - 1) → q_pre S S12 e p m false := by
            intro S12 hS
            rw [a_put (by omega) (by omega), m_r (by omega)] at hS
            refine ⟨⟨by rw [hS]; rfl, fun q hq => by rw [hS, m_r (by omega), m_r (by omega)]⟩, fun q h1 h2 => by rw [hS, m_r (by omega), m_r (by omega)], fun k hk => ?_, by rw [hS, m_r (by omega), m_r (by omega)], by rw [hS, m_r (by omega), m_r (by omega)], by rw [hS, m_k (by omega), m_r (by omega)], by rw [if_neg (by decide), hS, m_s], by rw [if_neg (fun q => absurd q.1 (by decide)), hS, m_k (by omega), m_r (by omega)], fun j hj => by rw [hS, m_k (by omega), m_r (by omega)]⟩
            rw [hS, m_r (by omega)]
            by_cases hkm : k = m + 1
            · rw [if_pos hkm, hkm, m_s]
            · rw [if_neg hkm, m_k hkm]
          rw [hst]
          refine ⟨fun hown => ?_, fun hown => ?_⟩
          · rw [n_eq (by omega) (by omega)] at hown
            refine j_neg (n_m1' (by omega)) ?_
            intro S11 h11 S12 h12
            subst h11
            exact (hE S12 (hpre S12 h12)).1 hown
          · rw [n_eq (by omega) (by omega)] at hown
            refine j_neg (n_m1' (by omega)) ?_
            intro S11 h11 S12 h12
            subst h11
            exact (hE S12 (hpre S12 h12)).2 hown
theorem d_settle {g : ev_G} {S : ev_S} {e p n lim : Nat} {r : Nat → Int32} (hp : p < 2) (hd : i_dk r p n lim) (hb : i_bd r p n) (h : q_dk S.1 e r p n) {Q : ev_O → ev_S → Prop} (hQ : ∀ z, q_fr S z e 9 → q_dk z.1 e (o_all p n 61 r) p n → Q (.inl none) z) :
    ev_Cv g m_X1_settle 4 0 [ev_o 1 e, ev_i (r 2)] S Q := sg_X1_settle_0 e _ (d_settle2 hp 61 S r (Nat.le_refl _) hd hb h Q hQ)
