def f_Jxf58ca_floatToIntBits_5c35a (x0 : UInt32) : Int32 := if (j_fcmpl x0 x0) = 0 then (x0.toInt32) else (2143289344)
set_option maxHeartbeats 4000000 in
set_option maxRecDepth 100000 in
theorem sp_Jxf58ca_floatToIntBits_5c35a {g : ev_G} {S : ev_S} (x0 : UInt32)  : ev_Fn g m_Jxf58ca_floatToIntBits_5c35a 2 [ev_f x0] S (some (ev_i (f_Jxf58ca_floatToIntBits_5c35a x0))) S := by
  intro Q hQ
  refine sg_Jxf58ca_floatToIntBits_5c35a_0 x0 ?_
  unfold f_Jxf58ca_floatToIntBits_5c35a at hQ
  refine ⟨fun c1 => ?_, fun c1 => ?_⟩
  · rw [if_pos c1] at hQ
    exact hQ
  · rw [if_neg c1] at hQ
    exact hQ
set_option maxHeartbeats 4000000 in
set_option maxRecDepth 100000 in
theorem sg_L_cell_0 {g : ev_G} {S : ev_S} {Q : ev_O → ev_S → Prop} (k0 : Nat) (x1 : Int32) (hQ : ((Int32.ofNat (ev_sl g)) = 0 → (
    Q (.inl (some (ev_i 0))) S)) ∧
  (¬ ((Int32.ofNat (ev_sl g)) = 0) → (
    (¬ (Int32.ofNat (ev_sl g)) = 0) ∧ (
      (vp_in (ev_rem x1 (Int32.ofNat (ev_sl g))) (ev_sl g)) ∧ (
        Q (.inl (some (ev_i ((ev_sx g (ev_rem x1 (Int32.ofNat (ev_sl g))).toNatClampNeg) ^^^ (40503 * (x1 / (Int32.ofNat (ev_sl g)))))))) S))))) : ev_Cv g m_L_cell 1 0 [ev_x 0 k0, ev_i x1] S Q := by
  refine ev_enter (by decide) rfl rfl (Nat.le_of_ble_eq_true rfl) ?_
  show ev_E g m_L_cell 1 0 0 [some (ev_x 0 k0), some (ev_i x1)] [] S Q
  refine ev_aload_n (ev_x 0 k0) dL_cell_0 rfl rfl ?_
  refine ev_slen dL_cell_1 ?_
  refine ev_if_ne 9 dL_cell_2 (by decide) (fun c1 => ?_) (fun c1 => ?_)
  · replace hQ := hQ.2 c1
    refine ev_aload_n (ev_x 0 k0) dL_cell_9 rfl rfl ?_
    refine ev_iload_n (x1) dL_cell_10 rfl ?_
    refine ev_aload_n (ev_x 0 k0) dL_cell_11 rfl rfl ?_
    refine ev_slen dL_cell_12 ?_
    obtain ⟨h1, hQ⟩ := hQ
    refine ev_irem dL_cell_13 h1 ?_
    obtain ⟨h2, hQ⟩ := hQ
    refine ev_sld dL_cell_14 h2 ?_
    refine ev_ldci (40503) dL_cell_15 kw_942 ?_
    refine ev_iload_n (x1) dL_cell_17 rfl ?_
    refine ev_aload_n (ev_x 0 k0) dL_cell_18 rfl rfl ?_
    refine ev_slen dL_cell_19 ?_
    refine ev_idiv dL_cell_20 h1 ?_
    refine ev_imul dL_cell_21 ?_
    refine ev_ixor dL_cell_22 ?_
    exact ev_ireturn .int dL_cell_23 rfl rfl hQ
  · replace hQ := hQ.1 c1
    refine ev_iconst (0) dL_cell_5 rfl ?_
    refine ev_goto 23 dL_cell_6 (by decide) ?_
    exact ev_ireturn .int dL_cell_23 rfl rfl hQ
def f_L_cell (g : ev_G) (k0 : Nat) (x1 : Int32) : Int32 := if (Int32.ofNat (ev_sl g)) = 0 then (0) else (((ev_sx g (ev_rem x1 (Int32.ofNat (ev_sl g))).toNatClampNeg) ^^^ (40503 * (x1 / (Int32.ofNat (ev_sl g))))))
