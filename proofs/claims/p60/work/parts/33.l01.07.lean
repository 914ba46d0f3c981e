set_option maxHeartbeats 4000000 in
set_option maxRecDepth 100000 in
theorem sp_L_cell {g : ev_G} {S : ev_S} (k0 : Nat) (x1 : Int32) (q0 : ¬ ((Int32.ofNat (ev_sl g)) = 0) → ¬ (Int32.ofNat (ev_sl g)) = 0) (q1 : ¬ ((Int32.ofNat (ev_sl g)) = 0) → vp_in (ev_rem x1 (Int32.ofNat (ev_sl g))) (ev_sl g)) : ev_Fn g m_L_cell 1 [ev_x 0 k0, ev_i x1] S (some (ev_i (f_L_cell g k0 x1))) S := by
  intro Q hQ
  refine sg_L_cell_0 k0 x1 ?_
  unfold f_L_cell at hQ
  refine ⟨fun c1 => ?_, fun c1 => ?_⟩
  · rw [if_pos c1] at hQ
    exact hQ
  · rw [if_neg c1] at hQ
    refine ⟨(q0 c1), ?_⟩
    refine ⟨(q1 c1), ?_⟩
    exact hQ
set_option maxHeartbeats 4000000 in
set_option maxRecDepth 100000 in
theorem sg_L_pick_0 {g : ev_G} {S : ev_S} {Q : ev_O → ev_S → Prop} (k0 : Nat) (x1 : Int32) (x2 : Int32) (hQ : (¬ ((Int32.ofNat (ev_sl g)) = 0) → ¬ (Int32.ofNat (ev_sl g)) = 0) ∧ (
    (¬ ((Int32.ofNat (ev_sl g)) = 0) → vp_in (ev_rem x1 (Int32.ofNat (ev_sl g))) (ev_sl g)) ∧ (
      (¬ x2 = 0) ∧ (
        Q (.inl (some (ev_i (ev_rem ((f_L_cell g k0 x1) &&& 65535) x2)))) S)))) : ev_Cv g m_L_pick 2 0 [ev_x 0 k0, ev_i x1, ev_i x2] S Q := by
  refine ev_enter (by decide) rfl rfl (Nat.le_of_ble_eq_true rfl) ?_
  show ev_E g m_L_pick 2 0 0 [some (ev_x 0 k0), some (ev_i x1), some (ev_i x2)] [] S Q
  refine ev_aload_n (ev_x 0 k0) dL_pick_0 rfl rfl ?_
  refine ev_iload_n (x1) dL_pick_1 rfl ?_
  obtain ⟨h1, hQ⟩ := hQ
  obtain ⟨h2, hQ⟩ := hQ
  refine ev_fS ms_L_cell 1 [ev_x 0 k0, ev_i x1] [] dL_pick_2 kw_939 rfl (by decide) (Nat.le_of_ble_eq_true rfl) (sp_L_cell k0 x1 h1 h2) ?_ rfl
  refine ev_ldci (65535) dL_pick_5 kw_943 ?_
  refine ev_iand dL_pick_7 ?_
  refine ev_iload_n (x2) dL_pick_8 rfl ?_
  obtain ⟨h3, hQ⟩ := hQ
  refine ev_irem dL_pick_9 h3 ?_
  exact ev_ireturn .int dL_pick_10 rfl rfl hQ
set_option maxHeartbeats 4000000 in
set_option maxRecDepth 100000 in
theorem sp_L_pick {g : ev_G} {S : ev_S} (k0 : Nat) (x1 : Int32) (x2 : Int32) (q0 : ¬ ((Int32.ofNat (ev_sl g)) = 0) → ¬ (Int32.ofNat (ev_sl g)) = 0) (q1 : ¬ ((Int32.ofNat (ev_sl g)) = 0) → vp_in (ev_rem x1 (Int32.ofNat (ev_sl g))) (ev_sl g)) (q2 : ¬ x2 = 0) : ev_Fn g m_L_pick 2 [ev_x 0 k0, ev_i x1, ev_i x2] S (some (ev_i (ev_rem ((f_L_cell g k0 x1) &&& 65535) x2))) S := by
  intro Q hQ
  refine sg_L_pick_0 k0 x1 x2 ?_
  refine ⟨(q0), ?_⟩
  refine ⟨(q1), ?_⟩
  refine ⟨(q2), ?_⟩
  exact hQ
set_option maxHeartbeats 4000000 in
set_option maxRecDepth 100000 in
theorem sg_L_some_0 {g : ev_G} {S : ev_S} {Q : ev_O → ev_S → Prop} (b0 : Nat) (b1 : Nat) (x2 : Int32) (x3 : Int32) (hQ : ev_E g m_L_some 2 0 6 [some (ev_o 11 b0), some (ev_o 10 b1), some (ev_i x2), some (ev_i x3), some (ev_i 0), some (ev_i 0), none, none] [] S Q) : ev_Cv g m_L_some 2 0 [ev_o 11 b0, ev_o 10 b1, ev_i x2, ev_i x3] S Q := by
  refine ev_enter (by decide) rfl rfl (Nat.le_of_ble_eq_true rfl) ?_
  show ev_E g m_L_some 2 0 0 [some (ev_o 11 b0), some (ev_o 10 b1), some (ev_i x2), some (ev_i x3), none, none, none, none] [] S Q
  refine ev_iconst (0) dL_some_0 rfl ?_
  refine ev_istore dL_some_1 (Nat.le_of_ble_eq_true rfl) (ev_hw rfl) ?_
  show ev_E g m_L_some 2 0 3 [some (ev_o 11 b0), some (ev_o 10 b1), some (ev_i x2), some (ev_i x3), some (ev_i 0), none, none, none] [] S Q
  refine ev_iconst (0) dL_some_3 rfl ?_
  refine ev_istore dL_some_4 (Nat.le_of_ble_eq_true rfl) (ev_hw rfl) ?_
  show ev_E g m_L_some 2 0 6 [some (ev_o 11 b0), some (ev_o 10 b1), some (ev_i x2), some (ev_i x3), some (ev_i 0), some (ev_i 0), none, none] [] S Q
  exact hQ
