/-! ===== constructors: their contracts ===== -/
theorem c_ct0 {g : ev_G} (a : Nat) : ct_Met g m_X0_init 0 a 0 4 188 (fun _ => True) ct_f0 [] (ct_Qc g (ct_t0) a) (fun q => a ≤ q) := by
  refine ct_enter (L := [(0, .ref a)]) (by decide) rfl rfl rfl rfl rfl (Nat.le_of_ble_eq_true rfl) (fun q h => h) ?_
  refine ct_aload0 dX0_init_0 ?_
  refine ct_super dX0_init_1 kz_149 kz_55 kz_56 ?_
  refine ct_aload0 dX0_init_4 ?_
  refine ct_bipush (64) dX0_init_5 (by decide) ?_
  refine ct_newarr 64 1 dX0_init_7 kz_91 (by decide) (by decide) (by decide) (by simp only [List.length_append, List.length_cons, List.length_nil, ct_l0, ct_l1, ct_l5, ct_l6, ct_l2, ct_l7, ct_l4, ct_l8, ct_l3, ct_l10]) (Nat.le_of_ble_eq_true rfl) (Nat.le_of_ble_eq_true rfl) ?_
  refine ct_putF 0 tyX0 [.ref (a + 1), .null, .null, .null, .int 0, .int 0, .int 0, .int 0, .int 0] dX0_init_9 rfl in_0 tyX0_ok nmX0 (by decide) kz_150 rfl rfl rfl rfl (Nat.le_of_ble_eq_true rfl) rfl ?_
  refine ct_aload0 dX0_init_12 ?_
  refine ct_iconst (2) dX0_init_13 (by decide) ?_
  refine ct_newarr 2 2 dX0_init_14 kz_91 (by decide) (by decide) (by decide) (by simp only [List.length_append, List.length_cons, List.length_nil, ct_l0, ct_l1, ct_l5, ct_l6, ct_l2, ct_l7, ct_l4, ct_l8, ct_l3, ct_l10]) (Nat.le_of_ble_eq_true rfl) (Nat.le_of_ble_eq_true rfl) ?_
  refine ct_putF 1 tyX0 [.ref (a + 1), .ref (a + 2), .null, .null, .int 0, .int 0, .int 0, .int 0, .int 0] dX0_init_16 rfl in_0 tyX0_ok nmX0 (by decide) kz_151 rfl rfl rfl rfl (Nat.le_of_ble_eq_true rfl) rfl ?_
  refine ct_aload0 dX0_init_19 ?_
  refine ct_bipush (61) dX0_init_20 (by decide) ?_
  refine ct_newarr 61 3 dX0_init_22 kz_91 (by decide) (by decide) (by decide) (by simp only [List.length_append, List.length_cons, List.length_nil, ct_l0, ct_l1, ct_l5, ct_l6, ct_l2, ct_l7, ct_l4, ct_l8, ct_l3, ct_l10]) (Nat.le_of_ble_eq_true rfl) (Nat.le_of_ble_eq_true rfl) ?_
  refine ct_putF 2 tyX0 [.ref (a + 1), .ref (a + 2), .ref (a + 3), .null, .int 0, .int 0, .int 0, .int 0, .int 0] dX0_init_24 rfl in_0 tyX0_ok nmX0 (by decide) kz_152 rfl rfl rfl rfl (Nat.le_of_ble_eq_true rfl) rfl ?_
  refine ct_aload0 dX0_init_27 ?_
  refine ct_bipush (61) dX0_init_28 (by decide) ?_
  refine ct_newarr 61 4 dX0_init_30 kz_91 (by decide) (by decide) (by decide) (by simp only [List.length_append, List.length_cons, List.length_nil, ct_l0, ct_l1, ct_l5, ct_l6, ct_l2, ct_l7, ct_l4, ct_l8, ct_l3, ct_l10]) (Nat.le_of_ble_eq_true rfl) (Nat.le_of_ble_eq_true rfl) ?_
  refine ct_putF 3 tyX0 [.ref (a + 1), .ref (a + 2), .ref (a + 3), .ref (a + 4), .int 0, .int 0, .int 0, .int 0, .int 0] dX0_init_32 rfl in_0 tyX0_ok nmX0 (by decide) kz_153 rfl rfl rfl rfl (Nat.le_of_ble_eq_true rfl) rfl ?_
  exact ct_ret [] _ dX0_init_35 rfl (by decide) (Nat.le_of_ble_eq_true rfl) (Nat.le_of_ble_eq_true rfl) rfl
theorem c_ct5 {g : ev_G} (a : Nat) : ct_Met g m_X5_init 5 a 0 3 60 (fun _ => True) ct_f5 [] (ct_Qc g (ct_t5) a) (fun q => a ≤ q) := by
  refine ct_enter (L := [(0, .ref a)]) (by decide) rfl rfl rfl rfl rfl (Nat.le_of_ble_eq_true rfl) (fun q h => h) ?_
  refine ct_aload0 dX5_init_0 ?_
  refine ct_super dX5_init_1 kz_223 kz_55 kz_56 ?_
  refine ct_aload0 dX5_init_4 ?_
  refine ct_iconst (4) dX5_init_5 (by decide) ?_
  refine ct_newarr 4 1 dX5_init_6 kz_91 (by decide) (by decide) (by decide) (by simp only [List.length_append, List.length_cons, List.length_nil, ct_l0, ct_l1, ct_l5, ct_l6, ct_l2, ct_l7, ct_l4, ct_l8, ct_l3, ct_l10]) (Nat.le_of_ble_eq_true rfl) (Nat.le_of_ble_eq_true rfl) ?_
  refine ct_putF 0 tyX5 [.ref (a + 1), .null, .null, .int 0, .int 0] dX5_init_8 rfl in_5 tyX5_ok nmX5 (by decide) kz_224 rfl rfl rfl rfl (Nat.le_of_ble_eq_true rfl) rfl ?_
  refine ct_aload0 dX5_init_11 ?_
  refine ct_bipush (48) dX5_init_12 (by decide) ?_
  refine ct_newarr 48 2 dX5_init_14 kz_91 (by decide) (by decide) (by decide) (by simp only [List.length_append, List.length_cons, List.length_nil, ct_l0, ct_l1, ct_l5, ct_l6, ct_l2, ct_l7, ct_l4, ct_l8, ct_l3, ct_l10]) (Nat.le_of_ble_eq_true rfl) (Nat.le_of_ble_eq_true rfl) ?_
  refine ct_putF 1 tyX5 [.ref (a + 1), .ref (a + 2), .null, .int 0, .int 0] dX5_init_16 rfl in_5 tyX5_ok nmX5 (by decide) kz_225 rfl rfl rfl rfl (Nat.le_of_ble_eq_true rfl) rfl ?_
  refine ct_aload0 dX5_init_19 ?_
  refine ct_bipush (8) dX5_init_20 (by decide) ?_
  refine ct_newarr 8 3 dX5_init_22 kz_91 (by decide) (by decide) (by decide) (by simp only [List.length_append, List.length_cons, List.length_nil, ct_l0, ct_l1, ct_l5, ct_l6, ct_l2, ct_l7, ct_l4, ct_l8, ct_l3, ct_l10]) (Nat.le_of_ble_eq_true rfl) (Nat.le_of_ble_eq_true rfl) ?_
  refine ct_putF 2 tyX5 [.ref (a + 1), .ref (a + 2), .ref (a + 3), .int 0, .int 0] dX5_init_24 rfl in_5 tyX5_ok nmX5 (by decide) kz_226 rfl rfl rfl rfl (Nat.le_of_ble_eq_true rfl) rfl ?_
  exact ct_ret [] _ dX5_init_27 rfl (by decide) (Nat.le_of_ble_eq_true rfl) (Nat.le_of_ble_eq_true rfl) rfl
theorem c_ct7 {g : ev_G} (a : Nat) : ct_Met g m_X7_init 7 a 0 5 542 (fun _ => True) ct_f7 [] (ct_Qc g (ct_t7) a) (fun q => a ≤ q) := by
  refine ct_enter (L := [(0, .ref a)]) (by decide) rfl rfl rfl rfl rfl (Nat.le_of_ble_eq_true rfl) (fun q h => h) ?_
  refine ct_aload0 dX7_init_0 ?_
  refine ct_super dX7_init_1 kz_97 kz_55 kz_56 ?_
  refine ct_aload0 dX7_init_4 ?_
  refine ct_bipush (60) dX7_init_5 (by decide) ?_
  refine ct_newarr 60 1 dX7_init_7 kz_91 (by decide) (by decide) (by decide) (by simp only [List.length_append, List.length_cons, List.length_nil, ct_l0, ct_l1, ct_l5, ct_l6, ct_l2, ct_l7, ct_l4, ct_l8, ct_l3, ct_l10]) (Nat.le_of_ble_eq_true rfl) (Nat.le_of_ble_eq_true rfl) ?_
  refine ct_putF 0 tyX7 [.ref (a + 1), .null, .null, .null, .null, .int 0, .int 0, .int 0] dX7_init_9 rfl in_7 tyX7_ok nmX7 (by decide) kz_98 rfl rfl rfl rfl (Nat.le_of_ble_eq_true rfl) rfl ?_
  refine ct_aload0 dX7_init_12 ?_
  refine ct_sipush (360) dX7_init_13 (by decide) ?_
  refine ct_newarr 360 2 dX7_init_16 kz_91 (by decide) (by decide) (by decide) (by simp only [List.length_append, List.length_cons, List.length_nil, ct_l0, ct_l1, ct_l5, ct_l6, ct_l2, ct_l7, ct_l4, ct_l8, ct_l3, ct_l10]) (Nat.le_of_ble_eq_true rfl) (Nat.le_of_ble_eq_true rfl) ?_
  refine ct_putF 1 tyX7 [.ref (a + 1), .ref (a + 2), .null, .null, .null, .int 0, .int 0, .int 0] dX7_init_18 rfl in_7 tyX7_ok nmX7 (by decide) kz_99 rfl rfl rfl rfl (Nat.le_of_ble_eq_true rfl) rfl ?_
  refine ct_aload0 dX7_init_21 ?_
  refine ct_bipush (60) dX7_init_22 (by decide) ?_
  refine ct_newarr 60 3 dX7_init_24 kz_91 (by decide) (by decide) (by decide) (by simp only [List.length_append, List.length_cons, List.length_nil, ct_l0, ct_l1, ct_l5, ct_l6, ct_l2, ct_l7, ct_l4, ct_l8, ct_l3, ct_l10]) (Nat.le_of_ble_eq_true rfl) (Nat.le_of_ble_eq_true rfl) ?_
  refine ct_putF 2 tyX7 [.ref (a + 1), .ref (a + 2), .ref (a + 3), .null, .null, .int 0, .int 0, .int 0] dX7_init_26 rfl in_7 tyX7_ok nmX7 (by decide) kz_100 rfl rfl rfl rfl (Nat.le_of_ble_eq_true rfl) rfl ?_
  refine ct_aload0 dX7_init_29 ?_
  refine ct_bipush (60) dX7_init_30 (by decide) ?_
  refine ct_newarr 60 4 dX7_init_32 kz_91 (by decide) (by decide) (by decide) (by simp only [List.length_append, List.length_cons, List.length_nil, ct_l0, ct_l1, ct_l5, ct_l6, ct_l2, ct_l7, ct_l4, ct_l8, ct_l3, ct_l10]) (Nat.le_of_ble_eq_true rfl) (Nat.le_of_ble_eq_true rfl) ?_
  refine ct_putF 3 tyX7 [.ref (a + 1), .ref (a + 2), .ref (a + 3), .ref (a + 4), .null, .int 0, .int 0, .int 0] dX7_init_34 rfl in_7 tyX7_ok nmX7 (by decide) kz_101 rfl rfl rfl rfl (Nat.le_of_ble_eq_true rfl) rfl ?_
  refine ct_aload0 dX7_init_37 ?_
  refine ct_iconst (2) dX7_init_38 (by decide) ?_
  refine ct_newarr 2 5 dX7_init_39 kz_91 (by decide) (by decide) (by decide) (by simp only [List.length_append, List.length_cons, List.length_nil, ct_l0, ct_l1, ct_l5, ct_l6, ct_l2, ct_l7, ct_l4, ct_l8, ct_l3, ct_l10]) (Nat.le_of_ble_eq_true rfl) (Nat.le_of_ble_eq_true rfl) ?_
  refine ct_putF 4 tyX7 [.ref (a + 1), .ref (a + 2), .ref (a + 3), .ref (a + 4), .ref (a + 5), .int 0, .int 0, .int 0] dX7_init_41 rfl in_7 tyX7_ok nmX7 (by decide) kz_102 rfl rfl rfl rfl (Nat.le_of_ble_eq_true rfl) rfl ?_
  exact ct_ret [] _ dX7_init_44 rfl (by decide) (Nat.le_of_ble_eq_true rfl) (Nat.le_of_ble_eq_true rfl) rfl
theorem c_ct4 {g : ev_G} (a : Nat) : ct_Met g m_X4_init 4 a 0 1 400 (fun _ => True) ct_f4 [] (ct_Qc g (ct_t4) a) (fun q => a ≤ q) := by
  refine ct_enter (L := [(0, .ref a)]) (by decide) rfl rfl rfl rfl rfl (Nat.le_of_ble_eq_true rfl) (fun q h => h) ?_
  refine ct_aload0 dX4_init_0 ?_
  refine ct_super dX4_init_1 kz_125 kz_55 kz_56 ?_
  refine ct_aload0 dX4_init_4 ?_
  refine ct_sipush (400) dX4_init_5 (by decide) ?_
  refine ct_newarr 400 1 dX4_init_8 kz_91 (by decide) (by decide) (by decide) (by simp only [List.length_append, List.length_cons, List.length_nil, ct_l0, ct_l1, ct_l5, ct_l6, ct_l2, ct_l7, ct_l4, ct_l8, ct_l3, ct_l10]) (Nat.le_of_ble_eq_true rfl) (Nat.le_of_ble_eq_true rfl) ?_
  refine ct_putF 0 tyX4 [.ref (a + 1), .int 0] dX4_init_10 rfl in_4 tyX4_ok nmX4 (by decide) kz_126 rfl rfl rfl rfl (Nat.le_of_ble_eq_true rfl) rfl ?_
  exact ct_ret [] _ dX4_init_13 rfl (by decide) (Nat.le_of_ble_eq_true rfl) (Nat.le_of_ble_eq_true rfl) rfl
theorem c_ct8 {g : ev_G} (a : Nat) : ct_Met g m_X8_init 8 a 0 1 800 (fun _ => True) ct_f8 [] (ct_Qc g (ct_t8) a) (fun q => a ≤ q) := by
  refine ct_enter (L := [(0, .ref a)]) (by decide) rfl rfl rfl rfl rfl (Nat.le_of_ble_eq_true rfl) (fun q h => h) ?_
  refine ct_aload0 dX8_init_0 ?_
  refine ct_super dX8_init_1 kz_62 kz_55 kz_56 ?_
  refine ct_aload0 dX8_init_4 ?_
  refine ct_sipush (800) dX8_init_5 (by decide) ?_
  refine ct_newarr 800 1 dX8_init_8 kz_91 (by decide) (by decide) (by decide) (by simp only [List.length_append, List.length_cons, List.length_nil, ct_l0, ct_l1, ct_l5, ct_l6, ct_l2, ct_l7, ct_l4, ct_l8, ct_l3, ct_l10]) (Nat.le_of_ble_eq_true rfl) (Nat.le_of_ble_eq_true rfl) ?_
  refine ct_putF 0 tyX8 [.ref (a + 1), .int 0, .int 0, .int 0, .int 0, .int 0, .int 0, .int 0, .int 0] dX8_init_10 rfl in_8 tyX8_ok nmX8 (by decide) kz_63 rfl rfl rfl rfl (Nat.le_of_ble_eq_true rfl) rfl ?_
  refine ct_aload0 dX8_init_13 ?_
  refine ct_iconst (-1) dX8_init_14 (by decide) ?_
  refine ct_putI 8 tyX8 [.ref (a + 1), .int 0, .int 0, .int 0, .int 0, .int 0, .int 0, .int 0, .int (-1)] dX8_init_15 rfl in_8 tyX8_ok nmX8 (by decide) kz_71 rfl rfl rfl (Nat.le_of_ble_eq_true rfl) rfl ?_
  exact ct_ret [0, 0, 0, 0, 0, 0, 0, 0, -1] _ dX8_init_18 rfl (by decide) (Nat.le_of_ble_eq_true rfl) (Nat.le_of_ble_eq_true rfl) rfl
theorem c_ct1 {g : ev_G} (a : Nat) (p : Int32) : ct_Met g m_X1_init 1 a 1 8 380 (fun _ => True) ct_f1 [.int p] (ct_Qc g (ct_t1 p) a) (fun q => a ≤ q) := by
  refine ct_enter (L := [(0, .ref a), (1, .int p)]) (by decide) rfl rfl rfl rfl rfl (Nat.le_of_ble_eq_true rfl) (fun q h => h) ?_
  refine ct_aload0 dX1_init_0 ?_
  refine ct_super dX1_init_1 kz_143 kz_55 kz_56 ?_
  refine ct_aload0 dX1_init_4 ?_
  refine ct_child0 ci_0 0 0 4 188 1 ct_f0 ct_t0 tyX0 dX1_init_5 dX1_init_8 dX1_init_9 rfl in_0 tyX0_ok ct_d0 kz_144 kz_145 kz_23 (Or.inl ⟨"MulePostBishops", List.mem_of_getElem? (i := 4) (by decide +kernel)⟩) c_ct0 (by simp only [List.length_append, List.length_cons, List.length_nil, ct_l0, ct_l1, ct_l5, ct_l6, ct_l2, ct_l7, ct_l4, ct_l8, ct_l3, ct_l10]) (Nat.le_of_ble_eq_true rfl) (Nat.le_of_ble_eq_true rfl) ct_l0 (Nat.le_of_ble_eq_true rfl) (Nat.le_of_ble_eq_true rfl) ?_
  refine ct_putF 1 tyX1 [.int 0, .ref (a + 1), .null, .null, .null, .int 0, .int 0, .int 0, .int 0, .int 0, .int 0] dX1_init_12 rfl in_1 tyX1_ok nmX1 (by decide) kz_179 rfl rfl rfl rfl (Nat.le_of_ble_eq_true rfl) rfl ?_
  refine ct_aload0 dX1_init_15 ?_
  refine ct_bipush (61) dX1_init_16 (by decide) ?_
  refine ct_newarr 61 6 dX1_init_18 kz_91 (by decide) (by decide) (by decide) (by simp only [List.length_append, List.length_cons, List.length_nil, ct_l0, ct_l1, ct_l5, ct_l6, ct_l2, ct_l7, ct_l4, ct_l8, ct_l3, ct_l10]) (Nat.le_of_ble_eq_true rfl) (Nat.le_of_ble_eq_true rfl) ?_
  refine ct_putF 2 tyX1 [.int 0, .ref (a + 1), .ref (a + 6), .null, .null, .int 0, .int 0, .int 0, .int 0, .int 0, .int 0] dX1_init_20 rfl in_1 tyX1_ok nmX1 (by decide) kz_180 rfl rfl rfl rfl (Nat.le_of_ble_eq_true rfl) rfl ?_
  refine ct_aload0 dX1_init_23 ?_
  refine ct_bipush (61) dX1_init_24 (by decide) ?_
  refine ct_newarr 61 7 dX1_init_26 kz_91 (by decide) (by decide) (by decide) (by simp only [List.length_append, List.length_cons, List.length_nil, ct_l0, ct_l1, ct_l5, ct_l6, ct_l2, ct_l7, ct_l4, ct_l8, ct_l3, ct_l10]) (Nat.le_of_ble_eq_true rfl) (Nat.le_of_ble_eq_true rfl) ?_
  refine ct_putF 3 tyX1 [.int 0, .ref (a + 1), .ref (a + 6), .ref (a + 7), .null, .int 0, .int 0, .int 0, .int 0, .int 0, .int 0] dX1_init_28 rfl in_1 tyX1_ok nmX1 (by decide) kz_181 rfl rfl rfl rfl (Nat.le_of_ble_eq_true rfl) rfl ?_
  refine ct_aload0 dX1_init_31 ?_
  refine ct_bipush (61) dX1_init_32 (by decide) ?_
  refine ct_newarr 61 8 dX1_init_34 kz_91 (by decide) (by decide) (by decide) (by simp only [List.length_append, List.length_cons, List.length_nil, ct_l0, ct_l1, ct_l5, ct_l6, ct_l2, ct_l7, ct_l4, ct_l8, ct_l3, ct_l10]) (Nat.le_of_ble_eq_true rfl) (Nat.le_of_ble_eq_true rfl) ?_
  refine ct_putF 4 tyX1 [.int 0, .ref (a + 1), .ref (a + 6), .ref (a + 7), .ref (a + 8), .int 0, .int 0, .int 0, .int 0, .int 0, .int 0] dX1_init_36 rfl in_1 tyX1_ok nmX1 (by decide) kz_182 rfl rfl rfl rfl (Nat.le_of_ble_eq_true rfl) rfl ?_
  refine ct_aload0 dX1_init_39 ?_
  refine ct_iload1 dX1_init_40 ?_
  refine ct_putF 0 tyX1 [.int p, .ref (a + 1), .ref (a + 6), .ref (a + 7), .ref (a + 8), .int 0, .int 0, .int 0, .int 0, .int 0, .int 0] dX1_init_41 rfl in_1 tyX1_ok nmX1 (by decide) kz_178 rfl rfl rfl rfl (Nat.le_of_ble_eq_true rfl) rfl ?_
  exact ct_ret [p] _ dX1_init_44 rfl (by decide) (Nat.le_of_ble_eq_true rfl) (Nat.le_of_ble_eq_true rfl) rfl
theorem c_ct6 {g : ev_G} (a : Nat) : ct_Met g m_X6_init 6 a 1 16 997 (fun _ => True) ct_f6 [] (ct_Qc g (ct_t6) a) (fun q => a ≤ q) := by
  refine ct_enter (L := [(0, .ref a)]) (by decide) rfl rfl rfl rfl rfl (Nat.le_of_ble_eq_true rfl) (fun q h => h) ?_
  refine ct_aload0 dX6_init_0 ?_
  refine ct_super dX6_init_1 kz_217 kz_55 kz_56 ?_
  refine ct_aload0 dX6_init_4 ?_
  refine ct_child0 ci_5 5 0 3 60 1 ct_f5 ct_t5 tyX5 dX6_init_5 dX6_init_8 dX6_init_9 rfl in_5 tyX5_ok ct_d5 kz_218 kz_219 kz_25 (Or.inl ⟨"MulePostBishops", List.mem_of_getElem? (i := 6) (by decide +kernel)⟩) c_ct5 (by simp only [List.length_append, List.length_cons, List.length_nil, ct_l0, ct_l1, ct_l5, ct_l6, ct_l2, ct_l7, ct_l4, ct_l8, ct_l3, ct_l10]) (Nat.le_of_ble_eq_true rfl) (Nat.le_of_ble_eq_true rfl) ct_l5 (Nat.le_of_ble_eq_true rfl) (Nat.le_of_ble_eq_true rfl) ?_
  refine ct_putF 0 tyX6 [.ref (a + 1), .null, .null, .null, .null, .null, .null, .null, .null, .null, .null, .null, .null, .int 0, .int 0, .int 0, .int 0, .int 0] dX6_init_12 rfl in_6 tyX6_ok nmX6 (by decide) kz_240 rfl rfl rfl rfl (Nat.le_of_ble_eq_true rfl) rfl ?_
  refine ct_aload0 dX6_init_15 ?_
  refine ct_bipush (84) dX6_init_16 (by decide) ?_
  refine ct_newarr 84 5 dX6_init_18 kz_91 (by decide) (by decide) (by decide) (by simp only [List.length_append, List.length_cons, List.length_nil, ct_l0, ct_l1, ct_l5, ct_l6, ct_l2, ct_l7, ct_l4, ct_l8, ct_l3, ct_l10]) (Nat.le_of_ble_eq_true rfl) (Nat.le_of_ble_eq_true rfl) ?_
  refine ct_putF 1 tyX6 [.ref (a + 1), .ref (a + 5), .null, .null, .null, .null, .null, .null, .null, .null, .null, .null, .null, .int 0, .int 0, .int 0, .int 0, .int 0] dX6_init_20 rfl in_6 tyX6_ok nmX6 (by decide) kz_241 rfl rfl rfl rfl (Nat.le_of_ble_eq_true rfl) rfl ?_
  refine ct_aload0 dX6_init_23 ?_
  refine ct_bipush (84) dX6_init_24 (by decide) ?_
  refine ct_newarr 84 6 dX6_init_26 kz_91 (by decide) (by decide) (by decide) (by simp only [List.length_append, List.length_cons, List.length_nil, ct_l0, ct_l1, ct_l5, ct_l6, ct_l2, ct_l7, ct_l4, ct_l8, ct_l3, ct_l10]) (Nat.le_of_ble_eq_true rfl) (Nat.le_of_ble_eq_true rfl) ?_
  refine ct_putF 2 tyX6 [.ref (a + 1), .ref (a + 5), .ref (a + 6), .null, .null, .null, .null, .null, .null, .null, .null, .null, .null, .int 0, .int 0, .int 0, .int 0, .int 0] dX6_init_28 rfl in_6 tyX6_ok nmX6 (by decide) kz_242 rfl rfl rfl rfl (Nat.le_of_ble_eq_true rfl) rfl ?_
  refine ct_aload0 dX6_init_31 ?_
  refine ct_bipush (84) dX6_init_32 (by decide) ?_
  refine ct_newarr 84 7 dX6_init_34 kz_91 (by decide) (by decide) (by decide) (by simp only [List.length_append, List.length_cons, List.length_nil, ct_l0, ct_l1, ct_l5, ct_l6, ct_l2, ct_l7, ct_l4, ct_l8, ct_l3, ct_l10]) (Nat.le_of_ble_eq_true rfl) (Nat.le_of_ble_eq_true rfl) ?_
  refine ct_putF 3 tyX6 [.ref (a + 1), .ref (a + 5), .ref (a + 6), .ref (a + 7), .null, .null, .null, .null, .null, .null, .null, .null, .null, .int 0, .int 0, .int 0, .int 0, .int 0] dX6_init_36 rfl in_6 tyX6_ok nmX6 (by decide) kz_243 rfl rfl rfl rfl (Nat.le_of_ble_eq_true rfl) rfl ?_
  refine ct_aload0 dX6_init_39 ?_
  refine ct_bipush (84) dX6_init_40 (by decide) ?_
  refine ct_newarr 84 8 dX6_init_42 kz_91 (by decide) (by decide) (by decide) (by simp only [List.length_append, List.length_cons, List.length_nil, ct_l0, ct_l1, ct_l5, ct_l6, ct_l2, ct_l7, ct_l4, ct_l8, ct_l3, ct_l10]) (Nat.le_of_ble_eq_true rfl) (Nat.le_of_ble_eq_true rfl) ?_
  refine ct_putF 4 tyX6 [.ref (a + 1), .ref (a + 5), .ref (a + 6), .ref (a + 7), .ref (a + 8), .null, .null, .null, .null, .null, .null, .null, .null, .int 0, .int 0, .int 0, .int 0, .int 0] dX6_init_44 rfl in_6 tyX6_ok nmX6 (by decide) kz_244 rfl rfl rfl rfl (Nat.le_of_ble_eq_true rfl) rfl ?_
  refine ct_aload0 dX6_init_47 ?_
  refine ct_bipush (84) dX6_init_48 (by decide) ?_
  refine ct_newarr 84 9 dX6_init_50 kz_91 (by decide) (by decide) (by decide) (by simp only [List.length_append, List.length_cons, List.length_nil, ct_l0, ct_l1, ct_l5, ct_l6, ct_l2, ct_l7, ct_l4, ct_l8, ct_l3, ct_l10]) (Nat.le_of_ble_eq_true rfl) (Nat.le_of_ble_eq_true rfl) ?_
  refine ct_putF 5 tyX6 [.ref (a + 1), .ref (a + 5), .ref (a + 6), .ref (a + 7), .ref (a + 8), .ref (a + 9), .null, .null, .null, .null, .null, .null, .null, .int 0, .int 0, .int 0, .int 0, .int 0] dX6_init_52 rfl in_6 tyX6_ok nmX6 (by decide) kz_245 rfl rfl rfl rfl (Nat.le_of_ble_eq_true rfl) rfl ?_
  refine ct_aload0 dX6_init_55 ?_
  refine ct_bipush (84) dX6_init_56 (by decide) ?_
  refine ct_newarr 84 10 dX6_init_58 kz_91 (by decide) (by decide) (by decide) (by simp only [List.length_append, List.length_cons, List.length_nil, ct_l0, ct_l1, ct_l5, ct_l6, ct_l2, ct_l7, ct_l4, ct_l8, ct_l3, ct_l10]) (Nat.le_of_ble_eq_true rfl) (Nat.le_of_ble_eq_true rfl) ?_
  refine ct_putF 6 tyX6 [.ref (a + 1), .ref (a + 5), .ref (a + 6), .ref (a + 7), .ref (a + 8), .ref (a + 9), .ref (a + 10), .null, .null, .null, .null, .null, .null, .int 0, .int 0, .int 0, .int 0, .int 0] dX6_init_60 rfl in_6 tyX6_ok nmX6 (by decide) kz_246 rfl rfl rfl rfl (Nat.le_of_ble_eq_true rfl) rfl ?_
  refine ct_aload0 dX6_init_63 ?_
  refine ct_bipush (84) dX6_init_64 (by decide) ?_
  refine ct_newarr 84 11 dX6_init_66 kz_91 (by decide) (by decide) (by decide) (by simp only [List.length_append, List.length_cons, List.length_nil, ct_l0, ct_l1, ct_l5, ct_l6, ct_l2, ct_l7, ct_l4, ct_l8, ct_l3, ct_l10]) (Nat.le_of_ble_eq_true rfl) (Nat.le_of_ble_eq_true rfl) ?_
  refine ct_putF 7 tyX6 [.ref (a + 1), .ref (a + 5), .ref (a + 6), .ref (a + 7), .ref (a + 8), .ref (a + 9), .ref (a + 10), .ref (a + 11), .null, .null, .null, .null, .null, .int 0, .int 0, .int 0, .int 0, .int 0] dX6_init_68 rfl in_6 tyX6_ok nmX6 (by decide) kz_247 rfl rfl rfl rfl (Nat.le_of_ble_eq_true rfl) rfl ?_
  refine ct_aload0 dX6_init_71 ?_
  refine ct_bipush (84) dX6_init_72 (by decide) ?_
  refine ct_newarr 84 12 dX6_init_74 kz_91 (by decide) (by decide) (by decide) (by simp only [List.length_append, List.length_cons, List.length_nil, ct_l0, ct_l1, ct_l5, ct_l6, ct_l2, ct_l7, ct_l4, ct_l8, ct_l3, ct_l10]) (Nat.le_of_ble_eq_true rfl) (Nat.le_of_ble_eq_true rfl) ?_
  refine ct_putF 8 tyX6 [.ref (a + 1), .ref (a + 5), .ref (a + 6), .ref (a + 7), .ref (a + 8), .ref (a + 9), .ref (a + 10), .ref (a + 11), .ref (a + 12), .null, .null, .null, .null, .int 0, .int 0, .int 0, .int 0, .int 0] dX6_init_76 rfl in_6 tyX6_ok nmX6 (by decide) kz_248 rfl rfl rfl rfl (Nat.le_of_ble_eq_true rfl) rfl ?_
  refine ct_aload0 dX6_init_79 ?_
  refine ct_bipush (84) dX6_init_80 (by decide) ?_
  refine ct_newarr 84 13 dX6_init_82 kz_91 (by decide) (by decide) (by decide) (by simp only [List.length_append, List.length_cons, List.length_nil, ct_l0, ct_l1, ct_l5, ct_l6, ct_l2, ct_l7, ct_l4, ct_l8, ct_l3, ct_l10]) (Nat.le_of_ble_eq_true rfl) (Nat.le_of_ble_eq_true rfl) ?_
  refine ct_putF 9 tyX6 [.ref (a + 1), .ref (a + 5), .ref (a + 6), .ref (a + 7), .ref (a + 8), .ref (a + 9), .ref (a + 10), .ref (a + 11), .ref (a + 12), .ref (a + 13), .null, .null, .null, .int 0, .int 0, .int 0, .int 0, .int 0] dX6_init_84 rfl in_6 tyX6_ok nmX6 (by decide) kz_249 rfl rfl rfl rfl (Nat.le_of_ble_eq_true rfl) rfl ?_
  refine ct_aload0 dX6_init_87 ?_
  refine ct_bipush (84) dX6_init_88 (by decide) ?_
  refine ct_newarr 84 14 dX6_init_90 kz_91 (by decide) (by decide) (by decide) (by simp only [List.length_append, List.length_cons, List.length_nil, ct_l0, ct_l1, ct_l5, ct_l6, ct_l2, ct_l7, ct_l4, ct_l8, ct_l3, ct_l10]) (Nat.le_of_ble_eq_true rfl) (Nat.le_of_ble_eq_true rfl) ?_
  refine ct_putF 10 tyX6 [.ref (a + 1), .ref (a + 5), .ref (a + 6), .ref (a + 7), .ref (a + 8), .ref (a + 9), .ref (a + 10), .ref (a + 11), .ref (a + 12), .ref (a + 13), .ref (a + 14), .null, .null, .int 0, .int 0, .int 0, .int 0, .int 0] dX6_init_92 rfl in_6 tyX6_ok nmX6 (by decide) kz_250 rfl rfl rfl rfl (Nat.le_of_ble_eq_true rfl) rfl ?_
  refine ct_aload0 dX6_init_95 ?_
  refine ct_bipush (84) dX6_init_96 (by decide) ?_
  refine ct_newarr 84 15 dX6_init_98 kz_91 (by decide) (by decide) (by decide) (by simp only [List.length_append, List.length_cons, List.length_nil, ct_l0, ct_l1, ct_l5, ct_l6, ct_l2, ct_l7, ct_l4, ct_l8, ct_l3, ct_l10]) (Nat.le_of_ble_eq_true rfl) (Nat.le_of_ble_eq_true rfl) ?_
  refine ct_putF 11 tyX6 [.ref (a + 1), .ref (a + 5), .ref (a + 6), .ref (a + 7), .ref (a + 8), .ref (a + 9), .ref (a + 10), .ref (a + 11), .ref (a + 12), .ref (a + 13), .ref (a + 14), .ref (a + 15), .null, .int 0, .int 0, .int 0, .int 0, .int 0] dX6_init_100 rfl in_6 tyX6_ok nmX6 (by decide) kz_251 rfl rfl rfl rfl (Nat.le_of_ble_eq_true rfl) rfl ?_
  refine ct_aload0 dX6_init_103 ?_
  refine ct_bipush (8) dX6_init_104 (by decide) ?_
  refine ct_newarr 8 16 dX6_init_106 kz_91 (by decide) (by decide) (by decide) (by simp only [List.length_append, List.length_cons, List.length_nil, ct_l0, ct_l1, ct_l5, ct_l6, ct_l2, ct_l7, ct_l4, ct_l8, ct_l3, ct_l10]) (Nat.le_of_ble_eq_true rfl) (Nat.le_of_ble_eq_true rfl) ?_
  refine ct_putF 12 tyX6 [.ref (a + 1), .ref (a + 5), .ref (a + 6), .ref (a + 7), .ref (a + 8), .ref (a + 9), .ref (a + 10), .ref (a + 11), .ref (a + 12), .ref (a + 13), .ref (a + 14), .ref (a + 15), .ref (a + 16), .int 0, .int 0, .int 0, .int 0, .int 0] dX6_init_108 rfl in_6 tyX6_ok nmX6 (by decide) kz_252 rfl rfl rfl rfl (Nat.le_of_ble_eq_true rfl) rfl ?_
  exact ct_ret [] _ dX6_init_111 rfl (by decide) (Nat.le_of_ble_eq_true rfl) (Nat.le_of_ble_eq_true rfl) rfl
theorem c_ct10 {g : ev_G} (a : Nat) : ct_Met g m_X10_init 10 a 0 6 369 (fun _ => True) ct_f10 [] (ct_Qc g (ct_t10) a) (fun q => a ≤ q) := by
  refine ct_enter (L := [(0, .ref a)]) (by decide) rfl rfl rfl rfl rfl (Nat.le_of_ble_eq_true rfl) (fun q h => h) ?_
  refine ct_aload0 dX10_init_0 ?_
  refine ct_super dX10_init_1 kz_737 kz_55 kz_56 ?_
  refine ct_aload0 dX10_init_4 ?_
  refine ct_bipush (64) dX10_init_5 (by decide) ?_
  refine ct_newarr 64 1 dX10_init_7 kz_91 (by decide) (by decide) (by decide) (by simp only [List.length_append, List.length_cons, List.length_nil, ct_l0, ct_l1, ct_l5, ct_l6, ct_l2, ct_l7, ct_l4, ct_l8, ct_l3, ct_l10]) (Nat.le_of_ble_eq_true rfl) (Nat.le_of_ble_eq_true rfl) ?_
  refine ct_putF 0 tyX10 [.ref (a + 1), .null, .null, .null, .null, .null, .int 0, .int 0, .int 0, .int 0, .int 0, .int 0] dX10_init_9 rfl in_10 tyX10_ok nmX10 (by decide) kz_738 rfl rfl rfl rfl (Nat.le_of_ble_eq_true rfl) rfl ?_
  refine ct_aload0 dX10_init_12 ?_
  refine ct_bipush (61) dX10_init_13 (by decide) ?_
  refine ct_newarr 61 2 dX10_init_15 kz_91 (by decide) (by decide) (by decide) (by simp only [List.length_append, List.length_cons, List.length_nil, ct_l0, ct_l1, ct_l5, ct_l6, ct_l2, ct_l7, ct_l4, ct_l8, ct_l3, ct_l10]) (Nat.le_of_ble_eq_true rfl) (Nat.le_of_ble_eq_true rfl) ?_
  refine ct_putF 1 tyX10 [.ref (a + 1), .ref (a + 2), .null, .null, .null, .null, .int 0, .int 0, .int 0, .int 0, .int 0, .int 0] dX10_init_17 rfl in_10 tyX10_ok nmX10 (by decide) kz_741 rfl rfl rfl rfl (Nat.le_of_ble_eq_true rfl) rfl ?_
  refine ct_aload0 dX10_init_20 ?_
  refine ct_bipush (61) dX10_init_21 (by decide) ?_
  refine ct_newarr 61 3 dX10_init_23 kz_91 (by decide) (by decide) (by decide) (by simp only [List.length_append, List.length_cons, List.length_nil, ct_l0, ct_l1, ct_l5, ct_l6, ct_l2, ct_l7, ct_l4, ct_l8, ct_l3, ct_l10]) (Nat.le_of_ble_eq_true rfl) (Nat.le_of_ble_eq_true rfl) ?_
  refine ct_putF 2 tyX10 [.ref (a + 1), .ref (a + 2), .ref (a + 3), .null, .null, .null, .int 0, .int 0, .int 0, .int 0, .int 0, .int 0] dX10_init_25 rfl in_10 tyX10_ok nmX10 (by decide) kz_744 rfl rfl rfl rfl (Nat.le_of_ble_eq_true rfl) rfl ?_
  refine ct_aload0 dX10_init_28 ?_
  refine ct_bipush (61) dX10_init_29 (by decide) ?_
  refine ct_newarr 61 4 dX10_init_31 kz_91 (by decide) (by decide) (by decide) (by simp only [List.length_append, List.length_cons, List.length_nil, ct_l0, ct_l1, ct_l5, ct_l6, ct_l2, ct_l7, ct_l4, ct_l8, ct_l3, ct_l10]) (Nat.le_of_ble_eq_true rfl) (Nat.le_of_ble_eq_true rfl) ?_
  refine ct_putF 3 tyX10 [.ref (a + 1), .ref (a + 2), .ref (a + 3), .ref (a + 4), .null, .null, .int 0, .int 0, .int 0, .int 0, .int 0, .int 0] dX10_init_33 rfl in_10 tyX10_ok nmX10 (by decide) kz_747 rfl rfl rfl rfl (Nat.le_of_ble_eq_true rfl) rfl ?_
  refine ct_aload0 dX10_init_36 ?_
  refine ct_bipush (61) dX10_init_37 (by decide) ?_
  refine ct_newarr 61 5 dX10_init_39 kz_91 (by decide) (by decide) (by decide) (by simp only [List.length_append, List.length_cons, List.length_nil, ct_l0, ct_l1, ct_l5, ct_l6, ct_l2, ct_l7, ct_l4, ct_l8, ct_l3, ct_l10]) (Nat.le_of_ble_eq_true rfl) (Nat.le_of_ble_eq_true rfl) ?_
  refine ct_putF 4 tyX10 [.ref (a + 1), .ref (a + 2), .ref (a + 3), .ref (a + 4), .ref (a + 5), .null, .int 0, .int 0, .int 0, .int 0, .int 0, .int 0] dX10_init_41 rfl in_10 tyX10_ok nmX10 (by decide) kz_750 rfl rfl rfl rfl (Nat.le_of_ble_eq_true rfl) rfl ?_
  refine ct_aload0 dX10_init_44 ?_
  refine ct_bipush (61) dX10_init_45 (by decide) ?_
  refine ct_newarrZ 61 6 dX10_init_47 kz_796 (by decide) (by decide) (by decide) (by simp only [List.length_append, List.length_cons, List.length_nil, ct_l0, ct_l1, ct_l5, ct_l6, ct_l2, ct_l7, ct_l4, ct_l8, ct_l3, ct_l10]) (Nat.le_of_ble_eq_true rfl) (Nat.le_of_ble_eq_true rfl) ?_
  refine ct_putF 5 tyX10 [.ref (a + 1), .ref (a + 2), .ref (a + 3), .ref (a + 4), .ref (a + 5), .ref (a + 6), .int 0, .int 0, .int 0, .int 0, .int 0, .int 0] dX10_init_49 rfl in_10 tyX10_ok nmX10 (by decide) kz_752 rfl rfl rfl rfl (Nat.le_of_ble_eq_true rfl) rfl ?_
  refine ct_aload0 dX10_init_52 ?_
  refine ct_iconst (-1) dX10_init_53 (by decide) ?_
  refine ct_putI 7 tyX10 [.ref (a + 1), .ref (a + 2), .ref (a + 3), .ref (a + 4), .ref (a + 5), .ref (a + 6), .int 0, .int (-1), .int 0, .int 0, .int 0, .int 0] dX10_init_54 rfl in_10 tyX10_ok nmX10 (by decide) kz_757 rfl rfl rfl (Nat.le_of_ble_eq_true rfl) rfl ?_
  exact ct_ret [0, 0, 0, 0, 0, 0, 0, -1] _ dX10_init_57 rfl (by decide) (Nat.le_of_ble_eq_true rfl) (Nat.le_of_ble_eq_true rfl) rfl
