/-! ===== the class: the post; a day ===== -/
theorem i_dp_gp {r : Nat → Int32} {np L d l : Nat} (h : i_ps r np L d) (hl : l < L) (h1 : r (1200 + 11 * l + 6) = 1) (hd : i_dp r L) : i_dp (o_gp r d l) L := by
  obtain ⟨hb, hq, eb, eq, hs, hr⟩ := i_ps_bq h hl
  obtain ⟨j1, j2, j3, j4⟩ := i_ps_gp h hl h1
  have hnp := h.2.1
  obtain ⟨dp, h6, hdp, hlv⟩ := hd
  have ost : (o_gp r d l (1200 + 11 * l + 6) = 1) ∨ o_gp r d l (1200 + 11 * l + 6) = 2 := by
    by_cases ha : o_ari r d l = true
    · exact Or.inr (j3 ha)
    · exact Or.inl (j4 ha)
  refine ⟨dp, by rw [o_gp_at (by omega) (by omega) (by omega) (by omega) (by omega) (by omega)]; exact h6, ?_, fun l' hl' hst => ?_⟩
  · rw [cnt_congr (h := fun l => decide (r (1200 + 11 * l + 6) = 0)) L (fun i hi => ?_)]
    · exact hdp
    · by_cases hil : i = l
      · subst hil
        have h0 : ¬ (1 : Int32) = 0 := by decide
        have h20 : ¬ (2 : Int32) = 0 := by decide
        rcases ost with q | q
        · simp only [q, h1]
        · simp only [q, h1, h0, h20]
      · simp only [j2 i hil]
  · rw [o_gp_at (by omega) (by omega) (by omega) (by omega) (by omega) (by omega)]
    refine hlv l' hl' ?_
    by_cases hil : l' = l
    · subst hil; exact h1
    · rw [j2 l' hil] at hst; exact hst
theorem i_pst_tp {np L d : Nat} : ∀ (ρ σ : List Nat) (r : Nat → Int32), i_pst r np L d (σ ++ ρ) → i_pst (o_tp d ρ r) np L d (σ ++ o_sy d ρ r) := by
  intro ρ
  induction ρ with
  | nil => intro σ r h; simpa [o_tp, o_sy] using h
  | cons l ρ ih =>
    intro σ r h
    obtain ⟨hi, hd, hr⟩ := h
    have hm : l ∈ σ ++ l :: ρ := List.mem_append.mpr (Or.inr (List.mem_cons_self ..))
    obtain ⟨hl, h1, h8⟩ := hr.1 l hm
    obtain ⟨hb, hq, eb, eq, hs, hrr⟩ := i_ps_bq hi hl
    have hnp := hi.2.1
    obtain ⟨j1, j2, j3, j4⟩ := i_ps_gp hi hl h1
    have jd := i_dp_gp hi hl h1 hd
    have nd := i_road_nd hr
    have e8 : ∀ x, o_gp r d l (1200 + 11 * x + 8) = r (1200 + 11 * x + 8) := fun x => o_gp_at (by omega) (by omega) (by omega) (by omega) (by omega) (by omega)
    simp only [o_tp, o_sy]
    by_cases ha : o_ari r d l = true
    · rw [if_pos ha]
      have hsub : (σ ++ ρ).Sublist (σ ++ l :: ρ) := List.Sublist.append_left (List.sublist_cons_self l ρ) σ
      have hnl : l ∉ σ ++ ρ := by
        have := nd
        rw [List.nodup_append] at this
        obtain ⟨n1, n2, n3⟩ := this
        intro hx
        rcases List.mem_append.mp hx with hx | hx
        · exact n3 l hx l (List.mem_cons_self ..) rfl
        · exact (List.nodup_cons.mp n2).1 hx
      refine ih σ (o_gp r d l) ⟨j1, jd, fun x hx => ?_, ?_, fun x hx hst h9 => ?_⟩
      · have hne : x ≠ l := fun q => hnl (q ▸ hx)
        rw [j2 x hne, e8]
        exact hr.1 x (hsub.subset hx)
      · simp only [e8]
        exact hr.2.1.sublist hsub
      · have hne : x ≠ l := fun q => by
          rw [q, j3 ha] at hst
          exact absurd hst (by decide)
        rw [j2 x hne] at hst
        rw [e8] at h9
        have := hr.2.2 x hx hst h9
        rcases List.mem_append.mp this with h | h
        · exact List.mem_append.mpr (Or.inl h)
        · rcases List.mem_cons.mp h with h | h
          · exact absurd h hne
          · exact List.mem_append.mpr (Or.inr h)
    · rw [if_neg ha]
      have e1 : ∀ x, o_gp r d l (1200 + 11 * x + 6) = r (1200 + 11 * x + 6) := fun x => by
        by_cases hne : x = l
        · rw [hne, j4 ha, h1]
        · exact j2 x hne
      have := ih (σ ++ [l]) (o_gp r d l) ⟨j1, jd, by
        unfold i_road
        simp only [e1, e8, List.append_assoc, List.singleton_append]
        exact hr⟩
      simpa using this
/-- the letters of the routes from np - k on leave -/
theorem p_routes {g : ev_G} {e np L d : Nat} : ∀ (k : Nat) (S : ev_S) (r : Nat → Int32) (ρ : List Nat), k ≤ np → i_pst r np L d ρ → q_pst S.1 e r L ρ → ∀ Q : ev_O → ev_S → Prop,
    (∀ z ρ', p_fr S z e → z.1 (e + 15) = S.1 (e + 15) → z.1 e 15 = S.1 e 15 → i_pst (o_lvs np d L k r) np L d ρ' → q_pst z.1 e (o_lvs np d L k r) L ρ' → Q (.inl (some (ev_i (z.1 e 15)))) z) →
    ev_E g m_X6_passDay 4 0 122 [some (ev_o 6 e), none, some (ev_i (Int32.ofNat (d / 30 % 12))), none, some (ev_i (Int32.ofNat (np - k))), none, none] [] S Q := by
  intro k
  induction k with
  | zero =>
    intro S r ρ hk hi hp Q hQ
    have hnp := hi.1.2.1
    refine sg_X6_passDay_122 e _ _ (j_pos ?_ (hQ S ρ ⟨rfl, fun _ _ _ _ _ _ _ _ _ => rfl⟩ rfl rfl hi hp))
    rw [hp.1.1.1, hi.1.1, n_le (by omega) (by omega)]; omega
  | succ k ih =>
    intro S r ρ hk hi hp Q hQ
    have hnp := hi.1.2.1
    have hqn : np - (k + 1) < np := by omega
    have enx : np - k = np - (k + 1) + 1 := by omega
    rw [o_lvs] at hQ
    rw [enx] at ih
    generalize np - (k + 1) = q at *
    have hT : d / 30 % 12 < 12 := Nat.mod_lt _ (by decide)
    obtain ⟨c1, c2, c3, c4⟩ := hp.1.2.1 q (by omega)
    have c3 := c3 _ hT
    obtain ⟨g1, g2⟩ := hi.1.2.2.2.2.2.2.1 q hqn
    have g2 := g2 _ hT
    refine sg_X6_passDay_122 e _ _ (j_neg (by rw [hp.1.1.1, hi.1.1, n_le (by omega) (by omega)]; omega) ?_)
    have ef : f_X5_daysOver S (e + 1) (Int32.ofNat q) (Int32.ofNat (d / 30 % 12)) = if r (1140 + 15 * q + (3 + d / 30 % 12)) < 9 then r (1140 + 15 * q) + r (1140 + 15 * q + (3 + d / 30 % 12)) else -1 := by
      unfold f_X5_daysOver
      rw [show e + 1 + 1 = e + 2 from rfl, show e + 1 + 2 = e + 3 from rfl, n_ln12 (by omega) hT, a_in (by omega) (by omega), a_in (by omega) (by omega), c1, c3]
    have hdv : d / 30 % 12 = d / 30 % 12 := rfl
    have e9 : (9 : Int32).toInt = 9 := rfl
    have e2 : (2 : Int32) = Int32.ofNat 2 := rfl
    have e00 : (0 : Int32) = Int32.ofNat 0 := rfl
    rw [ef]
    by_cases h9 : r (1140 + 15 * q + (3 + d / 30 % 12)) = 9
    · have eo : o_lvp r q d L = r := by rw [o_lvp, if_pos h9]
      rw [eo] at hQ
      rw [if_neg (by rw [h9]; decide)]
      refine sg_X6_passDay_149 e _ _ _ _ (j_neg (by decide) (j_pos rfl ?_))
      rw [n_inc]
      exact ih S r ρ (by omega) hi hp Q hQ
    · have eo : o_lvp r q d L = o_lv q 1 d L (L + 1) (o_lv q 0 d L (L + 1) r) := by rw [o_lvp, if_neg h9]
      rw [eo] at hQ
      have hlt : r (1140 + 15 * q + (3 + d / 30 % 12)) < 9 := by
        rw [z_eq, e9] at h9
        rw [z_lt, e9]
        omega
      rw [if_pos hlt]
      have hne : ¬ r (1140 + 15 * q) + r (1140 + 15 * q + (3 + d / 30 % 12)) = -1 := by
        rw [z_eq, z_add (by omega) (by omega)]
        have : (-1 : Int32).toInt = -1 := rfl
        omega
      have hc0 := cnt_le (o_wt r q 0) L
      refine sg_X6_passDay_149 e _ _ _ _ (j_neg (by decide) (j_neg hne ?_))
      rw [e00]
      refine sg_X6_sendOff_0 e _ _ _ (p_send hqn (by decide) L S r ρ 0 (L + 1) (by omega) hi hp (fun i hi9 => by omega) (by omega) h9 _ (fun z ρ' z1 z2 z3 z4 z5 => ?_))
      refine ⟨rfl, ?_⟩
      have hb1 : o_lv q 0 d L (L + 1) r (1140 + 15 * q) = r (1140 + 15 * q) := o_lv_at q 0 d L (L + 1) r _ (by omega) (by omega) (fun l _ => by omega)
      have hb2 : o_lv q 0 d L (L + 1) r (1140 + 15 * q + (3 + d / 30 % 12)) = r (1140 + 15 * q + (3 + d / 30 % 12)) := o_lv_at q 0 d L (L + 1) r _ (by omega) (by omega) (fun l _ => by omega)
      have hc1 := cnt_le (o_wt (o_lv q 0 d L (L + 1) r) q 1) L
      refine sg_X6_passDay_149 e _ _ _ _ (j_neg (by decide) (j_neg hne ?_))
      rw [show Int32.ofNat 0 + 1 = Int32.ofNat 1 from rfl]
      refine sg_X6_sendOff_0 e _ _ _ ?_
      rw [e00]
      have hsend := fun Q' hQ' => p_send (g := g) hqn (by decide : 1 < 2) L z _ ρ' 0 (L + 1) (by omega) z4 z5 (fun i hi9 => by omega) (by omega) (by rw [hb2]; exact h9) Q' hQ'
      rw [hb1, hb2] at hsend
      refine hsend _ (fun y ρ'' y1 y2 y3 y4 y5 => ?_)
      refine ⟨rfl, ?_⟩
      refine sg_X6_passDay_149 e _ _ _ _ (j_pos (by decide) ?_)
      rw [n_inc]
      exact ih y _ ρ'' (by omega) y4 y5 Q (fun x ρx x1 x2 x3 x4 x5 => hQ x ρx (p_fr_trans (p_fr_trans z1 y1) x1) (by rw [x2, y2, z2]) (by rw [x3, y3, z3]) x4 x5)
/-- the post's part of a day -/
def o_dayP (r : Nat → Int32) (np L d : Nat) (ρ : List Nat) : Nat → Int32 := o_lvs np d L np (o_tp d ρ r)
theorem p_day {g : ev_G} {S : ev_S} {e np L d : Nat} {r : Nat → Int32} {ρ : List Nat} (hi : i_pst r np L d ρ) (hp : q_pst S.1 e r L ρ) {Q : ev_O → ev_S → Prop}
    (hQ : ∀ z ρ', p_fr S z e → i_pst (o_dayP r np L d ρ) np L d ρ' → q_pst z.1 e (o_dayP r np L d ρ) L ρ' → q_arr (z.1 (e + 15)) 0 (o_ar d ρ r) → (o_ar d ρ r).length ≤ 84 → Q (.inl (some (ev_i (Int32.ofNat (o_ar d ρ r).length)))) z) :
    ev_Cv g m_X6_passDay 4 0 [ev_o 6 e, ev_i (r 2)] S Q := by
  have hL := hi.1.2.2.2.1
  have nd := i_road_nd hi.2.2
  have hlen := nd_le L ρ nd (fun x hx => (hi.2.2.1 x hx).1)
  have hd := hi.1.2.2.2.2.2.1
  have e2 := hi.1.2.2.2.2.1
  refine sg_X6_passDay_0 e _ ?_
  intro S1 e1
  have x1 : ∀ q, q ≠ e → S1.1 q = S.1 q := fun q hq => by rw [e1, m_r hq]
  have k1 : ∀ j, j ≠ 15 → S1.1 e j = S.1 e j := fun j hj => by rw [e1, m_k hj]
  have hsy := o_ar_sy d ρ r
  have ht : ev_rem (r 2 / 30) 12 = Int32.ofNat (d / 30 % 12) := by rw [e2, n_dv30 (by omega), n_rm12 (by omega)]
  rw [ht]
  have hpr : ∀ z : ev_S, p_fr S1 z e → p_fr S z e := fun z hz => ⟨hz.1.trans (by rw [e1]; rfl), fun q a b c d9 e9 f g h => (hz.2 q a b c d9 e9 f g h).trans (x1 q a)⟩
  have := p_travel (g := g) (e := e) ρ S1 r [] [] 0 hi.1 (q_mid_frame hp.1 (fun q hq => x1 q (by omega)) ⟨k1 _ (by omega), k1 _ (by omega), k1 _ (by omega)⟩) nd (fun l hl => ⟨(hi.2.2.1 l hl).1, (hi.2.2.1 l hl).2.1⟩) trivial (by rw [x1 _ (by omega)]; exact hp.2.1) (by rw [k1 _ (by omega), hp.2.2, Nat.zero_add]) (by omega) trivial (by rw [e1, m_s]; rfl) (Nat.le_refl _) Q
  refine this (fun z z1 z2 z3 z4 z5 z6 z7 => ?_)
  simp only [List.nil_append] at z4 z5 z6 z7
  have := i_pst_tp ρ [] r hi
  have hgo := p_routes (g := g) np z (o_tp d ρ r) (o_sy d ρ r) (Nat.le_refl _) this ⟨z2, z4, z5⟩ Q (fun y ρ' y1 y2 y3 y4 y5 => by
    rw [y3, z7]
    exact hQ y ρ' (hpr y (p_fr_trans z1 y1)) y4 y5 (by rw [y2]; exact z6) (by omega))
  rw [Nat.sub_self] at hgo
  exact hgo
