/-! ===== the law: all is as in the own game ===== -/
theorem w_eq_o {r : Nat → Int32} {n : Nat} (h8 : n ≤ 8) (h0 : i_sq r 0 n) (h1 : i_sq r 1 n) : (o_eq r n = true) = (w_eq r 64 = true) := by
  have hn9 := sq_le h8
  apply propext
  constructor
  · intro h
    simp only [o_eq, Bool.and_eq_true, decide_eq_true_eq] at h
    obtain ⟨h2, h3⟩ := h
    simp only [w_eq, decide_eq_true_eq]
    refine ⟨h2, fun s hs => ?_⟩
    by_cases hsn : s < n * n
    · have := cnt_none (n * n) h3 s hsn
      unfold o_df at this
      by_cases he : r (26 + s) = r (90 + s)
      · exact he
      · exact absurd (by rw [decide_eq_false he]; rfl) this
    · have a0 : r (26 + s) = -1 := by
        rcases h0 s hs with h9 | h9
        · exact h9
        · omega
      have a1 : r (90 + s) = -1 := by
        rcases h1 s hs with h9 | h9
        · exact h9
        · omega
      rw [a0, a1]
  · intro h
    simp only [w_eq, decide_eq_true_eq] at h
    exact o_eq_t h.1 (fun s hs => h.2 s (by omega))
theorem k_meanT {g : ev_G} {S : ev_S} {b n lim np L d : Nat} {r : Nat → Int32} {ρ : List Nat} {Q : ev_O → ev_S → Prop} (c : CF S.1 b r n lim np L d ρ) (q0 : r 8 = 0 → Q (.inl (some (ev_f 0))) S) (q1 : ¬ r 8 = 0 → Q (.inl (some (ev_f (FP.fdiv (FP.i2f (r 7)) (FP.i2f (r 8)))))) S) : ev_Cv g m_X9_meanTravel 2 0 [ev_o 9 b] S Q := by
  obtain ⟨⟨hI, hL, hd, hg, hk⟩, hx⟩ := c
  have e16 : S.1 (b + 30) 16 = r 8 := hg.2.1.1.1.2.2.2.1
  have e17 : S.1 (b + 30) 17 = r 7 := hg.2.1.1.1.2.2.2.2
  refine sg_X9_meanTravel_0 b ?_
  rw [e16, e17]
  refine ⟨q0, fun h => ⟨?_, q1 h⟩⟩
  obtain ⟨dd, h1, h2⟩ := mean32 (x := r 7) h
  rw [h2]
  exact ok32 h1
theorem w_isAs {g : ev_G} {S : ev_S} {a n lim np L d : Nat} {r : Nat → Int32} {ρ : List Nat} (c : CF S.1 (ev_b g) r n lim np L d ρ) (hw : w_gm S.1 a r L) {Q : ev_O → ev_S → Prop} (hQ : Q (.inl (some (ev_i 1))) S) : ev_Cv g m_L_isAs 7 1300 [ev_o 9 (ev_b g), ev_o 11 a] S Q := by
  have hI := c.1.1
  have h8 := hI.1.1.2.1
  have hL := c.1.2.1
  have hnp := hI.1.2.2.2.1
  have e4 : S.1 a 4 = Int32.ofNat L := (hw.1 4 (by omega)).trans hI.1.2.2.2.2.1
  have e3 : S.1 a 3 = Int32.ofNat np := (hw.1 3 (by omega)).trans hI.1.2.2.1
  have e2 : S.1 a 2 = Int32.ofNat d := (hw.1 2 (by omega)).trans hI.1.2.2.2.2.2.2.1
  have hd := c.1.2.2.1
  have hg := c.1.2.2.2.1
  have hT : d / 30 % 12 < 12 := Nat.mod_lt _ (by decide)
  have hd30 : d / 30 < 2147483648 := by omega
  have z0 : (0 : Int32) = Int32.ofNat 0 := rfl
  have z2 : (2 : Int32) = Int32.ofNat 2 := rfl
  have z12 : (12 : Int32) = Int32.ofNat 12 := rfl
  -- the last comparisons
  have fin : ∀ E : Nat, ev_E g m_L_isAs 7 E 325 [some (ev_o 9 (ev_b g)), some (ev_o 11 a), some (ev_i 1), none] [] S Q := fun E => by
    refine sg_L_isAs_325 (ev_b g) a _ (j_neg (by decide) ?_)
    refine k_contra c ⟨_, rfl, j_pos rfl ?_⟩
    have e8 : S.1 a 8 = r 8 := hw.1 8 (by omega)
    have e7 : S.1 a 7 = r 7 := hw.1 7 (by omega)
    refine k_meanT c (fun hz => ⟨_, rfl, ?_⟩) (fun hz => ⟨_, rfl, ?_⟩)
    · rw [e8]
      exact j_pos hz (j_pos rfl hQ)
    · rw [e8, e7]
      obtain ⟨dd, h1, h2⟩ := mean32 (x := r 7) hz
      exact j_neg hz ⟨by rw [h2]; exact ok32 h1, j_pos rfl hQ⟩
  have lts := dn (n := L) (P := fun l => ev_E g m_L_isAs 7 (4 * (L - l) + 4) 159 [some (ev_o 9 (ev_b g)), some (ev_o 11 a), some (ev_i (Int32.ofNat l)), none] [] S Q) ?_ ?_ 0 (Nat.zero_le _)
  · have pss := dn (n := np) (P := fun q => ev_E g m_L_isAs 7 (4 * (L - 0) + 4 + 17 * (np - q)) 22 [some (ev_o 9 (ev_b g)), some (ev_o 11 a), some (ev_i (Int32.ofNat q)), none] [] S Q) ?_ ?_ 0 (Nat.zero_le _)
    · rw [show (1300 : Nat) = 500 + 800 by omega]
      refine sg_L_isAs_0 (ev_b g) a ?_
      refine w_isBoard (k := 0) c hw (by omega) ⟨true, rfl, fun _ => ?_, fun h => absurd rfl h⟩
      refine w_isBoard (k := 1) c hw (by omega) ⟨true, rfl, fun _ => ?_, fun h => absurd rfl h⟩
      rw [z0]
      exact ev_E.more (by omega) pss
    · refine sg_L_isAs_22 (ev_b g) a _ ?_
      rw [e3, n_le (by omega) (by omega), Nat.sub_self, Nat.mul_zero, Nat.add_zero]
      exact j_pos (Nat.le_refl _) lts
    · intro q hq ih
      obtain ⟨g1, g2, g3⟩ := hw.2.2.1 q (by omega)
      refine sg_L_isAs_22 (ev_b g) a _ ?_
      rw [e3, n_le (by omega) (by omega)]
      refine j_neg (by omega) ?_
      rw [show 4 * (L - 0) + 4 + 17 * (np - q) = (4 * (L - 0) + 4 + 17 * (np - (q + 1))) + 4 + 1 + 12 by omega]
      have hE2 : 2 ≤ 4 * (L - 0) + 4 + 17 * (np - (q + 1)) := by omega
      generalize 4 * (L - 0) + 4 + 17 * (np - (q + 1)) = E at ih hE2 ⊢
      -- the two sides
      have sds := dn (n := 2) (P := fun s => ∀ G, G + 2 = E → ev_E g m_L_isAs 7 (G + 2 + 2 * (2 - s)) 104 [some (ev_o 9 (ev_b g)), some (ev_o 11 a), some (ev_i (Int32.ofNat q)), some (ev_i (Int32.ofNat s))] [] S Q) ?_ ?_ 0 (Nat.zero_le _)
      · have mns := dn (n := 12) (P := fun t => ev_E g m_L_isAs 7 (E + 4 + 1 + (12 - t)) 32 [some (ev_o 9 (ev_b g)), some (ev_o 11 a), some (ev_i (Int32.ofNat q)), some (ev_i (Int32.ofNat t))] [] S Q) ?_ ?_ 0 (Nat.zero_le _)
        · exact mns
        · rw [Nat.sub_self, Nat.add_zero]
          refine sg_L_isAs_32 (ev_b g) a _ _ ?_
          refine j_pos (by rw [z12]; exact Int32.le_refl _) ?_
          refine k_travel c hq ⟨_, rfl, ?_⟩
          rw [e2, n_dv30 (by omega), n_rm12 hd30, lm_12, n_add, n_c (by omega), g3 _ hT, n_c (by omega), g1]
          refine ⟨(n_vp (by omega) (by omega)).mpr trivial, fun h9 => ?_, fun h9 => ⟨(n_vp (by omega) (by omega)).mpr trivial, ?_⟩⟩
          · rw [if_pos h9]
            have := sds (E - 2) (by omega)
            rw [show E - 2 + 2 + 2 * (2 - 0) = E + 4 by omega] at this
            exact j_pos rfl this
          · rw [if_neg h9]
            have := sds (E - 2) (by omega)
            rw [show E - 2 + 2 + 2 * (2 - 0) = E + 4 by omega] at this
            exact j_pos rfl this
        · intro t ht ih2
          rw [show E + 4 + 1 + (12 - t) = (E + 4 + (12 - t)) + 1 by omega]
          refine sg_L_isAs_32 (ev_b g) a _ _ ?_
          rw [z12, n_le (by omega) (by omega), ← z12, lm_12, n_add, n_c (by omega), n_inc]
          refine j_neg (by omega) (k_snow c hq ht ⟨_, rfl, (n_vp (by omega) (by omega)).mpr trivial, ?_⟩)
          rw [n_c (by omega), g3 t ht]
          rw [show E + 4 + (12 - t) = E + 4 + 1 + (12 - (t + 1)) by omega]
          exact j_pos rfl ih2
      · intro G hG
        rw [Nat.sub_self, Nat.mul_zero, Nat.add_zero]
        refine sg_L_isAs_104 (ev_b g) a _ _ ?_
        rw [n_inc, hG]
        exact j_pos (by rw [z2]; exact Int32.le_refl _) ih
      · intro s hs ih2 G hG
        rw [show G + 2 + 2 * (2 - s) = (G + 2 + 2 * (2 - (s + 1))) + 2 by omega]
        refine sg_L_isAs_104 (ev_b g) a _ _ ?_
        rw [z2, n_le (by omega) (by omega), ← z2, lm_2, n_add, n_c (by omega), n_inc, n_inc]
        refine j_neg (by omega) (k_mules c hq hs ⟨_, rfl, (n_vp (by omega) (by omega)).mpr trivial, ?_⟩)
        rw [g2 s hs]
        refine j_pos rfl (k_queue c hq hs ⟨_, rfl, ?_⟩)
        exact w_queue (by omega) hI.1.2.2.2.2.1 hw _ ⟨_, rfl, j_pos rfl (ih2 G hG)⟩
  · -- behind the last letter
    rw [Nat.sub_self, Nat.mul_zero, Nat.zero_add]
    refine sg_L_isAs_159 (B := 0) (ev_b g) a _ ?_
    rw [e4, n_le (by omega) (by omega)]
    refine j_pos (Nat.le_refl _) ?_
    have a0 : a_X2_deskOf (ev_b g + 11) 0 = ev_b g + 11 + 1 := a_desk (e := ev_b g + 11) (p := 0) (by omega)
    have h40 : S.1 (ev_b g + 11 + 1 + 1) 4 = r 0 := (hg.1 0 (by omega)).2.1.2.2.2.1
    have h50 : S.1 (ev_b g + 11 + 1 + 1) 5 = r 1 := (hg.1 0 (by omega)).2.1.2.2.2.2.1
    have h42 : S.1 (ev_b g + 11) 4 = r 2 := hg.2.2.2.1
    have h31 : S.1 (ev_b g + 31) 3 = r 3 := hg.2.1.1.1.1
    have h30 : S.1 (ev_b g + 30) 13 = r 4 := hg.2.1.1.1.2.2.1
    have h55 : S.1 (ev_b g + 11) 5 = r 5 := hg.2.2.2.2
    rw [a0, h40, h50, h42, h31, h30, ← e4, hw.1 0 (by omega), hw.1 1 (by omega), hw.1 2 (by omega), hw.1 3 (by omega), hw.1 4 (by omega)]
    refine j_pos rfl (j_pos rfl (j_pos rfl (j_pos rfl (j_pos rfl (j_pos rfl ?_)))))
    refine k_equal c ⟨o_eq r n, rfl, ?_⟩
    have hoe := w_eq_o h8 (hI.2.2 0 (by omega)).1 (hI.2.2 1 (by omega)).1
    have dup : S.1 (ev_b g + 11) 5 = S.1 a 5 := h55.trans (hw.1 5 (by omega)).symm
    by_cases he : o_eq r n = true
    · refine j_pos he (w_areEqual hw _ ⟨w_eq r 64, rfl, j_pos (by rw [← hoe]; exact he) (j_pos dup (fin _))⟩)
    · refine j_neg he (w_areEqual hw _ ⟨w_eq r 64, rfl, j_neg (by rw [← hoe]; exact he) (j_pos dup (fin _))⟩)
  · intro l hl ih
    obtain ⟨w0, w1, w2, w3, w4, w5, w6, w7, w8, w9⟩ := hw.2.2.2.1 l hl
    rw [show 4 * (L - l) + 4 = (4 * (L - (l + 1)) + 4) + 4 by omega]
    refine sg_L_isAs_159 (ev_b g) a _ ?_
    rw [e4, n_le (by omega) (by omega), n_inc]
    refine j_neg (by omega) (k_writer c hl ⟨_, rfl, (n_vp (by omega) (by omega)).mpr trivial, ?_⟩)
    rw [n_c (by omega), w0]
    refine j_pos rfl (k_number c hl ⟨_, rfl, ?_⟩)
    rw [w3]
    refine j_pos rfl (k_isPrm c hl (fun h0 => ⟨false, rfl, fun h => absurd h (by decide), fun _ => ?_⟩) (fun h1 => ⟨true, rfl, fun _ => ?_, fun h => absurd rfl h⟩))
    · rw [w2, h0]
      refine j_pos rfl (k_state c hl ⟨_, rfl, ?_⟩)
      rw [w6]
      exact j_pos rfl ih
    · rw [w2, h1]
      refine j_pos rfl (k_state c hl ⟨_, rfl, ?_⟩)
      rw [w6]
      exact j_pos rfl ih
