/-! ===== constructors: a whole game ===== -/
theorem c_ct2 {g : ev_G} (a : Nat) : ct_Met g m_X2_init 2 a 2 40 1994 (fun _ => True) ct_f2 [] (ct_Qc g (ct_t2) a) (fun q => a ≤ q) := by
  refine ct_enter (L := [(0, .ref a)]) (by decide) rfl rfl rfl rfl rfl (Nat.le_of_ble_eq_true rfl) (fun q h => h) ?_
  refine ct_aload0 dX2_init_0 ?_
  refine ct_super dX2_init_1 kz_137 kz_55 kz_56 ?_
  refine ct_aload0 dX2_init_4 ?_
  refine ct_child1 ci_1 (0) 1 1 8 380 1 ct_f1 (ct_t1 0) tyX1 dX2_init_5 dX2_init_8 dX2_init_9 dX2_init_10 (by decide) rfl in_1 tyX1_ok ct_d1 kz_138 kz_139 kz_22 (Or.inr kz_140) (fun q => c_ct1 q (0)) (by simp only [List.length_append, List.length_cons, List.length_nil, ct_l0, ct_l1, ct_l5, ct_l6, ct_l2, ct_l7, ct_l4, ct_l8, ct_l3, ct_l10]) (Nat.le_of_ble_eq_true rfl) (Nat.le_of_ble_eq_true rfl) (ct_l1 _) (Nat.le_of_ble_eq_true rfl) (Nat.le_of_ble_eq_true rfl) ?_
  refine ct_putF 0 tyX2 [.ref (a + 1), .null, .null, .null, .int 0, .int 0] dX2_init_13 rfl in_2 tyX2_ok nmX2 (by decide) kz_297 rfl rfl rfl rfl (Nat.le_of_ble_eq_true rfl) rfl ?_
  refine ct_aload0 dX2_init_16 ?_
  refine ct_child1 ci_1 (1) 1 1 8 380 10 ct_f1 (ct_t1 1) tyX1 dX2_init_17 dX2_init_20 dX2_init_21 dX2_init_22 (by decide) rfl in_1 tyX1_ok ct_d1 kz_138 kz_139 kz_22 (Or.inr kz_140) (fun q => c_ct1 q (1)) (by simp only [List.length_append, List.length_cons, List.length_nil, ct_l0, ct_l1, ct_l5, ct_l6, ct_l2, ct_l7, ct_l4, ct_l8, ct_l3, ct_l10]) (Nat.le_of_ble_eq_true rfl) (Nat.le_of_ble_eq_true rfl) (ct_l1 _) (Nat.le_of_ble_eq_true rfl) (Nat.le_of_ble_eq_true rfl) ?_
  refine ct_putF 1 tyX2 [.ref (a + 1), .ref (a + 10), .null, .null, .int 0, .int 0] dX2_init_25 rfl in_2 tyX2_ok nmX2 (by decide) kz_298 rfl rfl rfl rfl (Nat.le_of_ble_eq_true rfl) rfl ?_
  refine ct_aload0 dX2_init_28 ?_
  refine ct_child0 ci_6 6 1 16 997 19 ct_f6 ct_t6 tyX6 dX2_init_29 dX2_init_32 dX2_init_33 rfl in_6 tyX6_ok ct_d6 kz_212 kz_213 kz_24 (Or.inl ⟨"MulePostBishops", List.mem_of_getElem? (i := 5) (by decide +kernel)⟩) c_ct6 (by simp only [List.length_append, List.length_cons, List.length_nil, ct_l0, ct_l1, ct_l5, ct_l6, ct_l2, ct_l7, ct_l4, ct_l8, ct_l3, ct_l10]) (Nat.le_of_ble_eq_true rfl) (Nat.le_of_ble_eq_true rfl) ct_l6 (Nat.le_of_ble_eq_true rfl) (Nat.le_of_ble_eq_true rfl) ?_
  refine ct_putF 2 tyX2 [.ref (a + 1), .ref (a + 10), .ref (a + 19), .null, .int 0, .int 0] dX2_init_36 rfl in_2 tyX2_ok nmX2 (by decide) kz_299 rfl rfl rfl rfl (Nat.le_of_ble_eq_true rfl) rfl ?_
  refine ct_aload0 dX2_init_39 ?_
  refine ct_child0 ci_0 0 0 4 188 36 ct_f0 ct_t0 tyX0 dX2_init_40 dX2_init_43 dX2_init_44 rfl in_0 tyX0_ok ct_d0 kz_295 kz_145 kz_23 (Or.inl ⟨"MulePostBishops", List.mem_of_getElem? (i := 7) (by decide +kernel)⟩) c_ct0 (by simp only [List.length_append, List.length_cons, List.length_nil, ct_l0, ct_l1, ct_l5, ct_l6, ct_l2, ct_l7, ct_l4, ct_l8, ct_l3, ct_l10]) (Nat.le_of_ble_eq_true rfl) (Nat.le_of_ble_eq_true rfl) ct_l0 (Nat.le_of_ble_eq_true rfl) (Nat.le_of_ble_eq_true rfl) ?_
  refine ct_putF 3 tyX2 [.ref (a + 1), .ref (a + 10), .ref (a + 19), .ref (a + 36), .int 0, .int 0] dX2_init_47 rfl in_2 tyX2_ok nmX2 (by decide) kz_300 rfl rfl rfl rfl (Nat.le_of_ble_eq_true rfl) rfl ?_
  exact ct_ret [] _ dX2_init_50 rfl (by decide) (Nat.le_of_ble_eq_true rfl) (Nat.le_of_ble_eq_true rfl) rfl
