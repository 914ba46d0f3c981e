theorem at_X9_92 : ∀ w ∈ vx_atS RX9 92 (ev_ex 1) ev_nm, w ∈ ev_gw ∨ w ∈ ev_ow := by decide +kernel
theorem at_X9_102 : ∀ w ∈ vx_atS RX9 102 (ev_ex 2) ev_nm, w ∈ ev_gw ∨ w ∈ ev_ow := by decide +kernel
theorem at_X9_381 : ∀ w ∈ vx_atS RX9 381 (ev_ex 0) ev_nm, w ∈ ev_gw ∨ w ∈ ev_ow := by decide +kernel
