/-! ===== both: how many days until it is a player's turn; until the boards are equal ===== -/
def o_tT (p n : Nat) (r : Nat → Int32) : Bool := o_turn r p n (o_mad r p)
def o_eT (n : Nat) (r : Nat → Int32) : Bool := o_eq r n
theorem o_tT_2 {p n : Nat} : ∀ (r : Nat → Int32) (v : Int32), o_tT p n (upd r 2 v) = o_tT p n r := by
  intro r v
  have e : ∀ j, j ≠ 2 → upd r 2 v j = r j := fun j hj => u_k hj
  have eb : ∀ q, o_bish (upd r 2 v) p n q = o_bish r p n q := fun q => cnt_congr _ (fun s _ => by rw [e _ (by omega)])
  unfold o_tT o_turn o_over o_mad
  rw [eb, eb, e _ (by omega), e 1 (by omega)]
theorem o_eT_2 {n : Nat} : ∀ (r : Nat → Int32) (v : Int32), o_eT n (upd r 2 v) = o_eT n r := by
  intro r v
  have e : ∀ j, j ≠ 2 → upd r 2 v j = r j := fun j hj => u_k hj
  have eb : cnt (o_df (upd r 2 v)) (n * n) = cnt (o_df r) (n * n) := cnt_congr _ (fun s _ => by unfold o_df; rw [e _ (by omega), e _ (by omega)])
  unfold o_eT o_eq
  rw [eb, e _ (by omega), e _ (by omega)]
/-! the class -/
theorem q_sh_gm {M : Nat → Nat → Int32} {e n L : Nat} {r : Nat → Int32} {ρ : List Nat} (h : q_gm M e r n L ρ) : q_sh M e := by
  have h0 := (h.1 0 (by omega)).1
  have h1 := (h.1 1 (by omega)).1
  rw [show e + 1 + 9 * 0 = e + 1 by omega] at h0
  rw [show e + 1 + 9 * 1 = e + 10 by omega] at h1
  exact ⟨h0, h1⟩
theorem q_fr_w {S z : ev_S} {b w w' : Nat} (h : q_fr S z b w) (hw : w ≤ w') : q_fr S z b w' := ⟨h.1, fun q hq => h.2 q (by omega)⟩
theorem x_dut {g : ev_G} {S : ev_S} {b n lim np L d : Nat} {x : Int32} {r : Nat → Int32} {ρ : List Nat} (hi : IG r n lim np L d ρ) (hL : L ≤ 80) (hd : d < 10000) (hg : q_gm S.1 (b + 11) r n L ρ) (hk : i_ok r n np L) (hs : q_sh S.1 (b + 52)) {Q : ev_O → ev_S → Prop}
    (q1 : ¬ (∃ p, x = Int32.ofNat p ∧ p < 2) → Q (.inr 0) S)
    (q2 : ∀ p, x = Int32.ofNat p → p < 2 → ∀ z, q_fr S z (b + 52) 36 → q_sh z.1 (b + 52) → Q (.inl (some (ev_i (o_fw (o_tT p n) n np L 401 0 d r)))) z) :
    ev_Cv g m_X9_daysUntilTurn 6 1 [ev_o 9 b, ev_i x] S Q := by
  have e40 : (400 : Int32) = Int32.ofNat 400 := rfl
  have h8 := hi.1.1.2.1
  refine sg_X9_daysUntilTurn_0 b x ?_
  rw [t_pl]
  refine ⟨fun h => ?_, q1⟩
  obtain ⟨p, hx, hp⟩ := h
  have q2 := q2 p hx hp
  have key : ∀ (k i : Nat) (r : Nat → Int32) (d : Nat) (ρ : List Nat) (z : ev_S), 1 ≤ i → i + k = 401 → d + 1 + k < 1000000 → IG r n lim np L d ρ → i_ok r n np L → q_gm z.1 (b + 52) r n L ρ → ¬ o_tT p n r = true → q_fr S z (b + 52) 36 →
      (∀ z, q_fr S z (b + 52) 36 → q_sh z.1 (b + 52) → Q (.inl (some (ev_i (o_fw (o_tT p n) n np L k i (d + 1) (o_dayf r n np L d))))) z) →
      ev_E g m_X9_daysUntilTurn 6 0 36 [some (ev_o 9 b), some (ev_i (Int32.ofNat p)), some (ev_i (Int32.ofNat i))] [] z Q := by
    intro k
    induction k with
    | zero =>
      intro i r d ρ z hi1 hik hd h hk hg hT hf hq
      exact sg_X9_daysUntilTurn_36 b _ _ (j_pos (by rw [e40, n_lt (by omega) (by omega)]; omega) (hq z hf (q_sh_gm hg)))
    | succ k ih =>
      intro i r d ρ z hi1 hik hd h hk hg hT hf hq
      obtain ⟨⟨ρ', hI⟩, -⟩ := IG_day (by omega) h
      have e16 : z.1 (b + 71) 16 = r 8 := hg.2.1.1.1.2.2.2.1
      have e13 : z.1 (b + 71) 13 = r 4 := hg.2.1.1.1.2.2.1
      refine sg_X9_daysUntilTurn_36 b _ _ (j_neg (by rw [e40, n_lt (by omega) (by omega)]; omega) ?_)
      rw [e16, e13]
      refine ⟨fun hid => ?_, fun hid => ?_⟩
      · have hz := i_idle hk.2.2 h.1.2.2.2.2.1 (by omega) hid
        have e := o_dayf_idle (by omega) h hz
        rw [e] at hI
        rw [e, o_fw_idle o_tT_2 (k + 1) i (d + 1) _ ρ' (by omega) hI (fun l hl => by rw [u_k (by omega)]; exact hz l hl) (by rw [o_tT_2]; exact hT)] at hq
        exact hq z hf (q_sh_gm hg)
      · refine g_day (e := b + 52) (by omega) h hg (fun y ρ2 y1 y2 y3 => ⟨_, rfl, ?_⟩)
        have er : o_day r n np L d (-1) ρ = o_dayf r n np L d := by unfold o_dayf; rw [IG_rl h]
        rw [er] at y2 y3
        obtain ⟨hm, hml, h60⟩ := n_mad (i_dk_of y2.1 hp)
        rw [a_desk hp, t_may hp h8 hm (by omega) (y3.1 p hp), n_inc]
        rw [o_fw] at hq
        have fy := q_fr_trans hf y1
        refine ⟨fun hT2 => ?_, fun hT2 => ?_⟩
        · rw [if_pos (show o_tT p n (o_dayf r n np L d) = true from hT2)] at hq
          exact hq y fy (q_sh_gm y3)
        · rw [if_neg (show ¬ o_tT p n (o_dayf r n np L d) = true from hT2)] at hq
          exact ih (i + 1) _ (d + 1) ρ2 y (by omega) (by omega) (by omega) y2 (i_ok_day (by omega) h hk) y3 hT2 fy hq
  obtain ⟨hm, hml, h60⟩ := n_mad (i_dk_of hi.1 hp)
  rw [hx, a_desk hp, t_may hp h8 hm (by omega) (hg.1 p hp)]
  rw [o_fw] at q2
  refine ⟨fun hT => ?_, fun hT => ?_⟩
  · rw [if_pos (show o_tT p n r = true from hT)] at q2
    exact q2 S ⟨rfl, fun _ _ => rfl⟩ hs
  · rw [if_neg (show ¬ o_tT p n r = true from hT)] at q2
    refine g_copied (a := b + 52) (b := b + 11) (by omega) hi hs.1 hs.2 hg (fun z z1 z2 z3 z4 => ⟨rfl, ?_⟩)
    exact key 400 1 r d ρ z (by omega) rfl (by omega) hi hk z4 hT z1 q2
theorem x_due {g : ev_G} {S : ev_S} {b n lim np L d : Nat} {r : Nat → Int32} {ρ : List Nat} (hi : IG r n lim np L d ρ) (hL : L ≤ 80) (hd : d < 10000) (hg : q_gm S.1 (b + 11) r n L ρ) (hk : i_ok r n np L) (hs : q_sh S.1 (b + 52)) {Q : ev_O → ev_S → Prop}
    (q2 : ∀ z, q_fr S z (b + 52) 36 → q_sh z.1 (b + 52) → Q (.inl (some (ev_i (o_fw (o_eT n) n np L 401 0 d r)))) z) :
    ev_Cv g m_X9_daysUntilEqual 6 0 [ev_o 9 b] S Q := by
  have e40 : (400 : Int32) = Int32.ofNat 400 := rfl
  have h8 := hi.1.1.2.1
  refine sg_X9_daysUntilEqual_0 b ?_
  have key : ∀ (k i : Nat) (r : Nat → Int32) (d : Nat) (ρ : List Nat) (z : ev_S), 1 ≤ i → i + k = 401 → d + 1 + k < 1000000 → IG r n lim np L d ρ → i_ok r n np L → q_gm z.1 (b + 52) r n L ρ → ¬ o_eT n r = true → q_fr S z (b + 52) 36 →
      (∀ z, q_fr S z (b + 52) 36 → q_sh z.1 (b + 52) → Q (.inl (some (ev_i (o_fw (o_eT n) n np L k i (d + 1) (o_dayf r n np L d))))) z) →
      ev_E g m_X9_daysUntilEqual 6 0 25 [some (ev_o 9 b), some (ev_i (Int32.ofNat i))] [] z Q := by
    intro k
    induction k with
    | zero =>
      intro i r d ρ z hi1 hik hd h hk hg hT hf hq
      exact sg_X9_daysUntilEqual_25 b _ (j_pos (by rw [e40, n_lt (by omega) (by omega)]; omega) (hq z hf (q_sh_gm hg)))
    | succ k ih =>
      intro i r d ρ z hi1 hik hd h hk hg hT hf hq
      obtain ⟨⟨ρ', hI⟩, -⟩ := IG_day (by omega) h
      have e16 : z.1 (b + 71) 16 = r 8 := hg.2.1.1.1.2.2.2.1
      have e13 : z.1 (b + 71) 13 = r 4 := hg.2.1.1.1.2.2.1
      refine sg_X9_daysUntilEqual_25 b _ (j_neg (by rw [e40, n_lt (by omega) (by omega)]; omega) ?_)
      rw [e16, e13]
      refine ⟨fun hid => ?_, fun hid => ?_⟩
      · have hz := i_idle hk.2.2 h.1.2.2.2.2.1 (by omega) hid
        have e := o_dayf_idle (by omega) h hz
        rw [e] at hI
        rw [e, o_fw_idle o_eT_2 (k + 1) i (d + 1) _ ρ' (by omega) hI (fun l hl => by rw [u_k (by omega)]; exact hz l hl) (by rw [o_eT_2]; exact hT)] at hq
        exact hq z hf (q_sh_gm hg)
      · refine g_day (e := b + 52) (by omega) h hg (fun y ρ2 y1 y2 y3 => ⟨_, rfl, ?_⟩)
        have er : o_day r n np L d (-1) ρ = o_dayf r n np L d := by unfold o_dayf; rw [IG_rl h]
        rw [er] at y2 y3
        rw [n_inc]
        rw [o_fw] at hq
        have fy := q_fr_trans hf y1
        refine g_agree y2 y3 _ ⟨o_eT n (o_dayf r n np L d), rfl, fun hT2 => ?_, fun hT2 => ?_⟩
        · rw [if_pos hT2] at hq
          exact hq y fy (q_sh_gm y3)
        · rw [if_neg hT2] at hq
          exact ih (i + 1) _ (d + 1) ρ2 y (by omega) (by omega) (by omega) y2 (i_ok_day (by omega) h hk) y3 hT2 fy hq
  rw [o_fw] at q2
  refine g_agree hi hg _ ⟨o_eT n r, rfl, fun hT => ?_, fun hT => ?_⟩
  · rw [if_pos hT] at q2
    exact q2 S ⟨rfl, fun _ _ => rfl⟩ hs
  · rw [if_neg hT] at q2
    refine g_copied (a := b + 52) (b := b + 11) (by omega) hi hs.1 hs.2 hg (fun z z1 z2 z3 z4 => ⟨rfl, ?_⟩)
    exact key 400 1 r d ρ z (by omega) rfl (by omega) hi hk z4 hT z1 q2
