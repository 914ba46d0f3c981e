/-! ===== the walk of begins (printed by mkbeg.py) ===== -/
set_option maxHeartbeats 1000000 in
set_option maxRecDepth 100000 in
theorem sg_L_begins_0 {g : ev_G} {S : ev_S} {Q : ev_O → ev_S → Prop} {B : Nat} (b0 : Nat) (b1 : Nat) (k2 : Nat) (hQ : (¬ ((Int32.ofNat (ev_sl g)) = 0) → ¬ (Int32.ofNat (ev_sl g)) = 0) ∧ (
    (¬ ((Int32.ofNat (ev_sl g)) = 0) → vp_in (ev_rem 0 (Int32.ofNat (ev_sl g))) (ev_sl g)) ∧ (
      (¬ (5 : Int32) = 0) ∧ (
        ∀ S1 : ev_S, S1 = (ev_up S b1 0 (4 + (ev_rem ((f_L_cell g k2 0) &&& 65535) 5))) → (
          (¬ ((Int32.ofNat (ev_sl g)) = 0) → vp_in (ev_rem 1 (Int32.ofNat (ev_sl g))) (ev_sl g)) ∧ (
            (¬ (30 : Int32) = 0) ∧ (
              ∀ S2 : ev_S, S2 = (ev_up S1 b1 1 (2 + (ev_rem ((f_L_cell g k2 1) &&& 65535) 30))) → (
                (¬ ((Int32.ofNat (ev_sl g)) = 0) → vp_in (ev_rem 2 (Int32.ofNat (ev_sl g))) (ev_sl g)) ∧ (
                  (¬ (4 : Int32) = 0) ∧ (
                    ∀ S3 : ev_S, S3 = (ev_up S2 b1 3 (1 + (ev_rem ((f_L_cell g k2 2) &&& 65535) 4))) → (
                      ∀ q1_, ev_lw g ((4, q1_) :: S3.2.1) → ∀ S4 : ev_S, S4 = ev_nt S3 4 q1_ (fun _ _ => 0) → (
                        ev_Cv g m_J4_init_a7421 8 105 [ev_o 12 q1_, ev_x 1 10] S4 (fun o S5 => o = .inl none ∧ (
                          ev_Cv g m_J4_append_bf812 5 101 [ev_o 12 q1_, ev_i (S5.1 b1 0)] S5 (fun o S6 => ∃ v1_ : Nat, o = .inl (some (ev_o 12 v1_)) ∧ (
                            ev_Cv g m_J4_append_cf468 5 101 [ev_o 12 v1_, ev_i 32] S6 (fun o S7 => ∃ v2_ : Nat, o = .inl (some (ev_o 12 v2_)) ∧ (
                              ev_Cv g m_J4_append_bf812 5 101 [ev_o 12 v2_, ev_i (S7.1 b1 1)] S7 (fun o S8 => ∃ v3_ : Nat, o = .inl (some (ev_o 12 v3_)) ∧ (
                                ev_Cv g m_J4_append_cf468 5 101 [ev_o 12 v3_, ev_i 59] S8 (fun o S9 => ∃ v4_ : Nat, o = .inl (some (ev_o 12 v4_)) ∧ (
                                  ev_E g m_L_begins 9 B 75 [some (ev_o 9 b0), some (ev_o 11 b1), some (ev_x 0 k2), some (ev_o 12 v4_), some (ev_i 0), none, none] [] S9 Q)))))))))))))))))))))) : ev_Cv g m_L_begins 9 (B + 510) [ev_o 9 b0, ev_o 11 b1, ev_x 0 k2] S Q := by
  refine ev_enter (by decide) rfl rfl (Nat.le_of_ble_eq_true rfl) ?_
  show ev_E g m_L_begins 9 (B + 510) 0 [some (ev_o 9 b0), some (ev_o 11 b1), some (ev_x 0 k2), none, none, none, none] [] S Q
  refine ev_aload_n (ev_o 11 b1) dL_begins_0 rfl rfl ?_
  refine ev_iconst (4) dL_begins_1 rfl ?_
  refine ev_aload_n (ev_x 0 k2) dL_begins_2 rfl rfl ?_
  refine ev_iconst (0) dL_begins_3 rfl ?_
  refine ev_iconst (5) dL_begins_4 rfl ?_
  obtain ⟨h1, hQ⟩ := hQ
  obtain ⟨h2, hQ⟩ := hQ
  obtain ⟨h3, hQ⟩ := hQ
  refine ev_fS ms_L_pick 2 [ev_x 0 k2, ev_i 0, ev_i 5] [ev_i 4, ev_o 11 b1] dL_begins_5 kw_936 rfl (by decide) (Nat.le_of_ble_eq_true rfl) (sp_L_pick k2 0 5 h1 h2 h3) ?_ rfl
  refine ev_iadd dL_begins_8 ?_
  refine pn_11_0 dL_begins_9 (List.mem_of_getElem? (i := 21) rfl) ?_
  refine ev_sub hQ (fun S1 hS1 hQ => ?_)
  refine ev_E.goal (pc' := 12) (L' := [some (ev_o 9 b0), some (ev_o 11 b1), some (ev_x 0 k2), none, none, none, none]) (K' := []) (S' := S1) ?_ rfl rfl rfl hS1
  refine ev_aload_n (ev_o 11 b1) dL_begins_12 rfl rfl ?_
  refine ev_iconst (2) dL_begins_13 rfl ?_
  refine ev_aload_n (ev_x 0 k2) dL_begins_14 rfl rfl ?_
  refine ev_iconst (1) dL_begins_15 rfl ?_
  refine ev_bipush (30) dL_begins_16 (by decide) ?_
  obtain ⟨h4, hQ⟩ := hQ
  obtain ⟨h5, hQ⟩ := hQ
  refine ev_fS ms_L_pick 2 [ev_x 0 k2, ev_i 1, ev_i 30] [ev_i 2, ev_o 11 b1] dL_begins_18 kw_936 rfl (by decide) (Nat.le_of_ble_eq_true rfl) (sp_L_pick k2 1 30 h1 h4 h5) ?_ rfl
  refine ev_iadd dL_begins_21 ?_
  refine pn_11_1 dL_begins_22 (List.mem_of_getElem? (i := 22) rfl) ?_
  refine ev_sub hQ (fun S2 hS2 hQ => ?_)
  refine ev_E.goal (pc' := 25) (L' := [some (ev_o 9 b0), some (ev_o 11 b1), some (ev_x 0 k2), none, none, none, none]) (K' := []) (S' := S2) ?_ rfl rfl rfl hS2
  refine ev_aload_n (ev_o 11 b1) dL_begins_25 rfl rfl ?_
  refine ev_iconst (1) dL_begins_26 rfl ?_
  refine ev_aload_n (ev_x 0 k2) dL_begins_27 rfl rfl ?_
  refine ev_iconst (2) dL_begins_28 rfl ?_
  refine ev_iconst (4) dL_begins_29 rfl ?_
  obtain ⟨h6, hQ⟩ := hQ
  obtain ⟨h7, hQ⟩ := hQ
  refine ev_fS ms_L_pick 2 [ev_x 0 k2, ev_i 2, ev_i 4] [ev_i 1, ev_o 11 b1] dL_begins_30 kw_936 rfl (by decide) (Nat.le_of_ble_eq_true rfl) (sp_L_pick k2 2 4 h1 h6 h7) ?_ rfl
  refine ev_iadd dL_begins_33 ?_
  refine pn_11_3 dL_begins_34 (List.mem_of_getElem? (i := 24) rfl) ?_
  refine ev_sub hQ (fun S3 hS3 hQ => ?_)
  refine ev_E.goal (pc' := 37) (L' := [some (ev_o 9 b0), some (ev_o 11 b1), some (ev_x 0 k2), none, none, none, none]) (K' := []) (S' := S3) ?_ rfl rfl rfl hS3
  refine ev_newSB dL_begins_37 kw_1660 kw_1661 kw_37 (by omega) (fun q1_ w1_ => ?_)
  rw [show (B + 510 - 1 : Nat) = B + 509 from by omega]
  replace hQ := hQ q1_ w1_
  refine ev_sub hQ (fun S4 hS4 hQ => ?_)
  refine ev_E.goal (pc' := 40) (L' := [some (ev_o 9 b0), some (ev_o 11 b1), some (ev_x 0 k2), none, none, none, none]) (K' := [ev_o 12 q1_]) (S' := S4) ?_ rfl rfl rfl hS4
  refine ev_dup dL_begins_40 rfl ?_
  refine ev_ldcw "game " 10 dL_begins_41 (List.mem_of_getElem? (i := 10) rfl) (by decide) ?_
  refine ev_callI m_J4_init_a7421 8 105 360 12 (n := 1) (a := q1_) (K := [ev_o 12 q1_]) [ev_x 1 10] dL_begins_44 rfl rfl rfl kw_1663 kw_1664 kw_37 kw_1665 ⟨by decide, by decide, by decide +kernel⟩ rfl (by decide) (by omega) (by decide) (Nat.le_of_ble_eq_true rfl) hQ (fun k z h9 => by cases h9.1) ?_
  rintro o S5 ⟨rfl, hQ⟩
  rw [show (B + 509 - 105 : Nat) = B + 404 from by omega]
  show ev_E g m_L_begins 9 (B + 404) 47 [some (ev_o 9 b0), some (ev_o 11 b1), some (ev_x 0 k2), none, none, none, none] [ev_o 12 q1_] S5 Q
  refine ev_aload_n (ev_o 11 b1) dL_begins_47 rfl rfl ?_
  refine gn_11_0 dL_begins_48 (List.mem_of_getElem? (i := 21) rfl) ?_
  refine ev_cV mv_J4_append_bf812 5 101 12 [ev_i (S5.1 b1 0)] [] dL_begins_51 kw_1792 rfl (by decide) rfl (by decide) (by omega) (Nat.le_of_ble_eq_true rfl) hQ ?_ rfl
  rintro o S6 ⟨v1_, rfl, hQ⟩
  rw [show (B + 404 - 101 : Nat) = B + 303 from by omega]
  show ev_E g m_L_begins 9 (B + 303) 54 [some (ev_o 9 b0), some (ev_o 11 b1), some (ev_x 0 k2), none, none, none, none] [ev_o 12 v1_] S6 Q
  refine ev_bipush (32) dL_begins_54 (by decide) ?_
  refine ev_cV mv_J4_append_cf468 5 101 12 [ev_i 32] [] dL_begins_56 kw_1817 rfl (by decide) rfl (by decide) (by omega) (Nat.le_of_ble_eq_true rfl) hQ ?_ rfl
  rintro o S7 ⟨v2_, rfl, hQ⟩
  rw [show (B + 303 - 101 : Nat) = B + 202 from by omega]
  show ev_E g m_L_begins 9 (B + 202) 59 [some (ev_o 9 b0), some (ev_o 11 b1), some (ev_x 0 k2), none, none, none, none] [ev_o 12 v2_] S7 Q
  refine ev_aload_n (ev_o 11 b1) dL_begins_59 rfl rfl ?_
  refine gn_11_1 dL_begins_60 (List.mem_of_getElem? (i := 22) rfl) ?_
  refine ev_cV mv_J4_append_bf812 5 101 12 [ev_i (S7.1 b1 1)] [] dL_begins_63 kw_1792 rfl (by decide) rfl (by decide) (by omega) (Nat.le_of_ble_eq_true rfl) hQ ?_ rfl
  rintro o S8 ⟨v3_, rfl, hQ⟩
  rw [show (B + 202 - 101 : Nat) = B + 101 from by omega]
  show ev_E g m_L_begins 9 (B + 101) 66 [some (ev_o 9 b0), some (ev_o 11 b1), some (ev_x 0 k2), none, none, none, none] [ev_o 12 v3_] S8 Q
  refine ev_bipush (59) dL_begins_66 (by decide) ?_
  refine ev_cV mv_J4_append_cf468 5 101 12 [ev_i 59] [] dL_begins_68 kw_1817 rfl (by decide) rfl (by decide) (by omega) (Nat.le_of_ble_eq_true rfl) hQ ?_ rfl
  rintro o S9 ⟨v4_, rfl, hQ⟩
  rw [show (B + 101 - 101 : Nat) = B from by omega]
  show ev_E g m_L_begins 9 B 71 [some (ev_o 9 b0), some (ev_o 11 b1), some (ev_x 0 k2), none, none, none, none] [ev_o 12 v4_] S9 Q
  refine ev_astore_n dL_begins_71 rfl (Nat.le_of_ble_eq_true rfl) (ev_hw rfl) ?_
  show ev_E g m_L_begins 9 B 72 [some (ev_o 9 b0), some (ev_o 11 b1), some (ev_x 0 k2), some (ev_o 12 v4_), none, none, none] [] S9 Q
  refine ev_iconst (0) dL_begins_72 rfl ?_
  refine ev_istore dL_begins_73 (Nat.le_of_ble_eq_true rfl) (ev_hw rfl) ?_
  show ev_E g m_L_begins 9 B 75 [some (ev_o 9 b0), some (ev_o 11 b1), some (ev_x 0 k2), some (ev_o 12 v4_), some (ev_i 0), none, none] [] S9 Q
  exact hQ
set_option maxHeartbeats 1000000 in
set_option maxRecDepth 100000 in
theorem sg_L_begins_75 {g : ev_G} {S : ev_S} {Q : ev_O → ev_S → Prop} {B : Nat} (b0 : Nat) (b1 : Nat) (k2 : Nat) (w3 : Nat) (u4 : Int32) (hQ : (2 ≤ u4 → (
    ev_E g m_L_begins 9 B 150 [some (ev_o 9 b0), some (ev_o 11 b1), some (ev_x 0 k2), some (ev_o 12 w3), some (ev_i 0), none, none] [] S Q)) ∧
  (¬ (2 ≤ u4) → (
    ev_E g m_L_begins 9 B 84 [some (ev_o 9 b0), some (ev_o 11 b1), some (ev_x 0 k2), some (ev_o 12 w3), some (ev_i u4), some (ev_i 0), none] [] S Q))) : ev_E g m_L_begins 9 B 75 [some (ev_o 9 b0), some (ev_o 11 b1), some (ev_x 0 k2), some (ev_o 12 w3), some (ev_i u4), none, none] [] S Q := by
  refine ev_iload (u4) dL_begins_75 rfl ?_
  refine ev_iconst (2) dL_begins_77 rfl ?_
  refine ev_icmp_ge 147 dL_begins_78 (by decide) (fun c1 => ?_) (fun c1 => ?_)
  · replace hQ := hQ.1 c1
    refine ev_iconst (0) dL_begins_147 rfl ?_
    refine ev_istore dL_begins_148 (Nat.le_of_ble_eq_true rfl) (ev_hw rfl) ?_
    show ev_E g m_L_begins 9 B 150 [some (ev_o 9 b0), some (ev_o 11 b1), some (ev_x 0 k2), some (ev_o 12 w3), some (ev_i 0), none, none] [] S Q
    exact hQ
  · replace hQ := hQ.2 c1
    refine ev_iconst (0) dL_begins_81 rfl ?_
    refine ev_istore dL_begins_82 (Nat.le_of_ble_eq_true rfl) (ev_hw rfl) ?_
    show ev_E g m_L_begins 9 B 84 [some (ev_o 9 b0), some (ev_o 11 b1), some (ev_x 0 k2), some (ev_o 12 w3), some (ev_i u4), some (ev_i 0), none] [] S Q
    exact hQ
set_option maxHeartbeats 1000000 in
set_option maxRecDepth 100000 in
theorem sg_L_begins_150 {g : ev_G} {S : ev_S} {Q : ev_O → ev_S → Prop} {B : Nat} (b0 : Nat) (b1 : Nat) (k2 : Nat) (w3 : Nat) (u4 : Int32) (hQ : (12 ≤ u4 → (
    ev_E g m_L_begins 9 (B + 707) 295 [some (ev_o 9 b0), some (ev_o 11 b1), some (ev_x 0 k2), some (ev_o 12 w3), some (ev_i 0), none, none] [] S Q)) ∧
  (¬ (12 ≤ u4) → (
    (¬ ((Int32.ofNat (ev_sl g)) = 0) → ¬ (Int32.ofNat (ev_sl g)) = 0) ∧ (
      (¬ ((Int32.ofNat (ev_sl g)) = 0) → vp_in (ev_rem (3 + u4) (Int32.ofNat (ev_sl g))) (ev_sl g)) ∧ (
        (¬ ((S.1 b1 0) * (S.1 b1 0)) = 0) ∧ (
          (vp_in (ev_rem ((f_L_cell g k2 (3 + u4)) &&& 65535) ((S.1 b1 0) * (S.1 b1 0))) 64) ∧ (
            ((S.1 (b1 + 3) (ev_rem ((f_L_cell g k2 (3 + u4)) &&& 65535) ((S.1 b1 0) * (S.1 b1 0))).toNatClampNeg) < 0 → (
              ∀ S1 : ev_S, S1 = (ev_up S (b1 + 3) (ev_rem ((f_L_cell g k2 (3 + u4)) &&& 65535) ((S.1 b1 0) * (S.1 b1 0))).toNatClampNeg (ev_rem u4 2)) → (
                ∀ S2 : ev_S, S2 = (ev_up S1 (b1 + 10) (ev_rem ((f_L_cell g k2 (3 + u4)) &&& 65535) ((S.1 b1 0) * (S.1 b1 0))).toNatClampNeg (ev_rem u4 2)) → (
                  ∀ S3 : ev_S, S3 = (ev_up S2 b1 9 ((S.1 b1 9) + 1)) → (
                    ev_Cv g m_J4_append_15ec4 5 101 [ev_o 12 w3, ev_x 1 11] S3 (fun o S4 => ∃ v1_ : Nat, o = .inl (some (ev_o 12 v1_)) ∧ (
                      ev_Cv g m_J4_append_bf812 5 101 [ev_o 12 v1_, ev_i (ev_rem u4 2)] S4 (fun o S5 => ∃ v2_ : Nat, o = .inl (some (ev_o 12 v2_)) ∧ (
                        ev_Cv g m_J4_append_cf468 5 101 [ev_o 12 v2_, ev_i 32] S5 (fun o S6 => ∃ v3_ : Nat, o = .inl (some (ev_o 12 v3_)) ∧ (
                          (¬ (S6.1 b1 0) = 0) ∧ (
                            ev_Cv g m_J4_append_bf812 5 101 [ev_o 12 v3_, ev_i ((ev_rem ((f_L_cell g k2 (3 + u4)) &&& 65535) ((S.1 b1 0) * (S.1 b1 0))) / (S6.1 b1 0))] S6 (fun o S7 => ∃ v4_ : Nat, o = .inl (some (ev_o 12 v4_)) ∧ (
                              ev_Cv g m_J4_append_cf468 5 101 [ev_o 12 v4_, ev_i 32] S7 (fun o S8 => ∃ v5_ : Nat, o = .inl (some (ev_o 12 v5_)) ∧ (
                                (¬ (S8.1 b1 0) = 0) ∧ (
                                  ev_Cv g m_J4_append_bf812 5 101 [ev_o 12 v5_, ev_i (ev_rem (ev_rem ((f_L_cell g k2 (3 + u4)) &&& 65535) ((S.1 b1 0) * (S.1 b1 0))) (S8.1 b1 0))] S8 (fun o S9 => ∃ v6_ : Nat, o = .inl (some (ev_o 12 v6_)) ∧ (
                                    ev_Cv g m_J4_append_cf468 5 101 [ev_o 12 v6_, ev_i 59] S9 (fun o S10 => ∃ v7_ : Nat, o = .inl (some (ev_o 12 v7_)) ∧ (
                                      ev_E g m_L_begins 9 B 150 [some (ev_o 9 b0), some (ev_o 11 b1), some (ev_x 0 k2), some (ev_o 12 w3), some (ev_i (u4 + 1)), none, none] [] S10 Q))))))))))))))))))))) ∧
            (¬ ((S.1 (b1 + 3) (ev_rem ((f_L_cell g k2 (3 + u4)) &&& 65535) ((S.1 b1 0) * (S.1 b1 0))).toNatClampNeg) < 0) → (
              ev_E g m_L_begins 9 (B + 707) 150 [some (ev_o 9 b0), some (ev_o 11 b1), some (ev_x 0 k2), some (ev_o 12 w3), some (ev_i (u4 + 1)), none, none] [] S Q))))))))) : ev_E g m_L_begins 9 (B + 707) 150 [some (ev_o 9 b0), some (ev_o 11 b1), some (ev_x 0 k2), some (ev_o 12 w3), some (ev_i u4), none, none] [] S Q := by
  refine ev_iload (u4) dL_begins_150 rfl ?_
  refine ev_bipush (12) dL_begins_152 (by decide) ?_
  refine ev_icmp_ge 292 dL_begins_154 (by decide) (fun c1 => ?_) (fun c1 => ?_)
  · replace hQ := hQ.1 c1
    refine ev_iconst (0) dL_begins_292 rfl ?_
    refine ev_istore dL_begins_293 (Nat.le_of_ble_eq_true rfl) (ev_hw rfl) ?_
    show ev_E g m_L_begins 9 (B + 707) 295 [some (ev_o 9 b0), some (ev_o 11 b1), some (ev_x 0 k2), some (ev_o 12 w3), some (ev_i 0), none, none] [] S Q
    exact hQ
  · replace hQ := hQ.2 c1
    refine ev_iload (u4) dL_begins_157 rfl ?_
    refine ev_iconst (2) dL_begins_159 rfl ?_
    refine ev_irem dL_begins_160 (by decide) ?_
    refine ev_istore dL_begins_161 (Nat.le_of_ble_eq_true rfl) (ev_hw rfl) ?_
    show ev_E g m_L_begins 9 (B + 707) 163 [some (ev_o 9 b0), some (ev_o 11 b1), some (ev_x 0 k2), some (ev_o 12 w3), some (ev_i u4), some (ev_i (ev_rem u4 2)), none] [] S Q
    refine ev_aload_n (ev_x 0 k2) dL_begins_163 rfl rfl ?_
    refine ev_iconst (3) dL_begins_164 rfl ?_
    refine ev_iload (u4) dL_begins_165 rfl ?_
    refine ev_iadd dL_begins_167 ?_
    refine ev_aload_n (ev_o 11 b1) dL_begins_168 rfl rfl ?_
    refine gn_11_0 dL_begins_169 (List.mem_of_getElem? (i := 21) rfl) ?_
    refine ev_aload_n (ev_o 11 b1) dL_begins_172 rfl rfl ?_
    refine gn_11_0 dL_begins_173 (List.mem_of_getElem? (i := 21) rfl) ?_
    refine ev_imul dL_begins_176 ?_
    obtain ⟨h1, hQ⟩ := hQ
    obtain ⟨h2, hQ⟩ := hQ
    obtain ⟨h3, hQ⟩ := hQ
    refine ev_fS ms_L_pick 2 [ev_x 0 k2, ev_i (3 + u4), ev_i ((S.1 b1 0) * (S.1 b1 0))] [] dL_begins_177 kw_936 rfl (by decide) (Nat.le_of_ble_eq_true rfl) (sp_L_pick k2 (3 + u4) ((S.1 b1 0) * (S.1 b1 0)) h1 h2 h3) ?_ rfl
    refine ev_istore dL_begins_180 (Nat.le_of_ble_eq_true rfl) (ev_hw rfl) ?_
    show ev_E g m_L_begins 9 (B + 707) 182 [some (ev_o 9 b0), some (ev_o 11 b1), some (ev_x 0 k2), some (ev_o 12 w3), some (ev_i u4), some (ev_i (ev_rem u4 2)), some (ev_i (ev_rem ((f_L_cell g k2 (3 + u4)) &&& 65535) ((S.1 b1 0) * (S.1 b1 0))))] [] S Q
    refine ev_aload_n (ev_o 11 b1) dL_begins_182 rfl rfl ?_
    refine gn_11_11 dL_begins_183 (List.mem_of_getElem? (i := 31) rfl) ?_
    refine ev_iconst (0) dL_begins_186 rfl ?_
    refine ev_aalB dL_begins_187 (j_vin (by decide)) ?_
    show ev_E g m_L_begins 9 (B + 707) 188 [some (ev_o 9 b0), some (ev_o 11 b1), some (ev_x 0 k2), some (ev_o 12 w3), some (ev_i u4), some (ev_i (ev_rem u4 2)), some (ev_i (ev_rem ((f_L_cell g k2 (3 + u4)) &&& 65535) ((S.1 b1 0) * (S.1 b1 0))))] [ev_o 10 (b1 + 2)] S Q
    refine gn_10_0 dL_begins_188 (List.mem_of_getElem? (i := 0) rfl) ?_
    refine ev_iload ((ev_rem ((f_L_cell g k2 (3 + u4)) &&& 65535) ((S.1 b1 0) * (S.1 b1 0)))) dL_begins_191 rfl ?_
    obtain ⟨h4, hQ⟩ := hQ
    refine ev_iaload dL_begins_193 h4 ?_
    refine ev_if_lt 200 dL_begins_194 (by decide) (fun c2 => ?_) (fun c2 => ?_)
    · replace hQ := hQ.1 c2
      refine ev_aload_n (ev_o 11 b1) dL_begins_200 rfl rfl ?_
      refine gn_11_11 dL_begins_201 (List.mem_of_getElem? (i := 31) rfl) ?_
      refine ev_iconst (0) dL_begins_204 rfl ?_
      refine ev_aalB dL_begins_205 (j_vin (by decide)) ?_
      show ev_E g m_L_begins 9 (B + 707) 206 [some (ev_o 9 b0), some (ev_o 11 b1), some (ev_x 0 k2), some (ev_o 12 w3), some (ev_i u4), some (ev_i (ev_rem u4 2)), some (ev_i (ev_rem ((f_L_cell g k2 (3 + u4)) &&& 65535) ((S.1 b1 0) * (S.1 b1 0))))] [ev_o 10 (b1 + 2)] S Q
      refine gn_10_0 dL_begins_206 (List.mem_of_getElem? (i := 0) rfl) ?_
      refine ev_iload ((ev_rem ((f_L_cell g k2 (3 + u4)) &&& 65535) ((S.1 b1 0) * (S.1 b1 0)))) dL_begins_209 rfl ?_
      refine ev_iload ((ev_rem u4 2)) dL_begins_211 rfl ?_
      refine ev_iastore dL_begins_213 h4 ?_
      refine ev_sub hQ (fun S1 hS1 hQ => ?_)
      refine ev_E.goal (pc' := 214) (L' := [some (ev_o 9 b0), some (ev_o 11 b1), some (ev_x 0 k2), some (ev_o 12 w3), some (ev_i u4), some (ev_i (ev_rem u4 2)), some (ev_i (ev_rem ((f_L_cell g k2 (3 + u4)) &&& 65535) ((S.1 b1 0) * (S.1 b1 0))))]) (K' := []) (S' := S1) ?_ rfl rfl rfl hS1
      refine ev_aload_n (ev_o 11 b1) dL_begins_214 rfl rfl ?_
      refine gn_11_11 dL_begins_215 (List.mem_of_getElem? (i := 31) rfl) ?_
      refine ev_iconst (1) dL_begins_218 rfl ?_
      refine ev_aalB dL_begins_219 (j_vin (by decide)) ?_
      show ev_E g m_L_begins 9 (B + 707) 220 [some (ev_o 9 b0), some (ev_o 11 b1), some (ev_x 0 k2), some (ev_o 12 w3), some (ev_i u4), some (ev_i (ev_rem u4 2)), some (ev_i (ev_rem ((f_L_cell g k2 (3 + u4)) &&& 65535) ((S.1 b1 0) * (S.1 b1 0))))] [ev_o 10 (b1 + 9)] S1 Q
      refine gn_10_0 dL_begins_220 (List.mem_of_getElem? (i := 0) rfl) ?_
      refine ev_iload ((ev_rem ((f_L_cell g k2 (3 + u4)) &&& 65535) ((S.1 b1 0) * (S.1 b1 0)))) dL_begins_223 rfl ?_
      refine ev_iload ((ev_rem u4 2)) dL_begins_225 rfl ?_
      refine ev_iastore dL_begins_227 h4 ?_
      refine ev_sub hQ (fun S2 hS2 hQ => ?_)
      refine ev_E.goal (pc' := 228) (L' := [some (ev_o 9 b0), some (ev_o 11 b1), some (ev_x 0 k2), some (ev_o 12 w3), some (ev_i u4), some (ev_i (ev_rem u4 2)), some (ev_i (ev_rem ((f_L_cell g k2 (3 + u4)) &&& 65535) ((S.1 b1 0) * (S.1 b1 0))))]) (K' := []) (S' := S2) ?_ rfl rfl rfl hS2
      refine ev_aload_n (ev_o 11 b1) dL_begins_228 rfl rfl ?_
      refine ev_dup dL_begins_229 rfl ?_
      refine gn_11_9 dL_begins_230 (List.mem_of_getElem? (i := 29) rfl) ?_
      refine ev_ke ((j_rk hS2 (Or.inl (by omega))).trans (j_rk hS1 (Or.inl (by omega)))) ?_
      refine ev_iconst (1) dL_begins_233 rfl ?_
      refine ev_iadd dL_begins_234 ?_
      refine pn_11_9 dL_begins_235 (List.mem_of_getElem? (i := 29) rfl) ?_
      refine ev_sub hQ (fun S3 hS3 hQ => ?_)
      refine ev_E.goal (pc' := 238) (L' := [some (ev_o 9 b0), some (ev_o 11 b1), some (ev_x 0 k2), some (ev_o 12 w3), some (ev_i u4), some (ev_i (ev_rem u4 2)), some (ev_i (ev_rem ((f_L_cell g k2 (3 + u4)) &&& 65535) ((S.1 b1 0) * (S.1 b1 0))))]) (K' := []) (S' := S3) ?_ rfl rfl rfl hS3
      refine ev_aload_n (ev_o 12 w3) dL_begins_238 rfl rfl ?_
      refine ev_ldcw "bishop " 11 dL_begins_239 (List.mem_of_getElem? (i := 11) rfl) (by decide) ?_
      refine ev_cV mv_J4_append_15ec4 5 101 12 [ev_x 1 11] [] dL_begins_242 kw_1831 rfl (by decide) rfl (by decide) (by omega) (Nat.le_of_ble_eq_true rfl) hQ ?_ rfl
      rintro o S4 ⟨v1_, rfl, hQ⟩
      rw [show (B + 707 - 101 : Nat) = B + 606 from by omega]
      show ev_E g m_L_begins 9 (B + 606) 245 [some (ev_o 9 b0), some (ev_o 11 b1), some (ev_x 0 k2), some (ev_o 12 w3), some (ev_i u4), some (ev_i (ev_rem u4 2)), some (ev_i (ev_rem ((f_L_cell g k2 (3 + u4)) &&& 65535) ((S.1 b1 0) * (S.1 b1 0))))] [ev_o 12 v1_] S4 Q
      refine ev_iload ((ev_rem u4 2)) dL_begins_245 rfl ?_
      refine ev_cV mv_J4_append_bf812 5 101 12 [ev_i (ev_rem u4 2)] [] dL_begins_247 kw_1792 rfl (by decide) rfl (by decide) (by omega) (Nat.le_of_ble_eq_true rfl) hQ ?_ rfl
      rintro o S5 ⟨v2_, rfl, hQ⟩
      rw [show (B + 606 - 101 : Nat) = B + 505 from by omega]
      show ev_E g m_L_begins 9 (B + 505) 250 [some (ev_o 9 b0), some (ev_o 11 b1), some (ev_x 0 k2), some (ev_o 12 w3), some (ev_i u4), some (ev_i (ev_rem u4 2)), some (ev_i (ev_rem ((f_L_cell g k2 (3 + u4)) &&& 65535) ((S.1 b1 0) * (S.1 b1 0))))] [ev_o 12 v2_] S5 Q
      refine ev_bipush (32) dL_begins_250 (by decide) ?_
      refine ev_cV mv_J4_append_cf468 5 101 12 [ev_i 32] [] dL_begins_252 kw_1817 rfl (by decide) rfl (by decide) (by omega) (Nat.le_of_ble_eq_true rfl) hQ ?_ rfl
      rintro o S6 ⟨v3_, rfl, hQ⟩
      rw [show (B + 505 - 101 : Nat) = B + 404 from by omega]
      show ev_E g m_L_begins 9 (B + 404) 255 [some (ev_o 9 b0), some (ev_o 11 b1), some (ev_x 0 k2), some (ev_o 12 w3), some (ev_i u4), some (ev_i (ev_rem u4 2)), some (ev_i (ev_rem ((f_L_cell g k2 (3 + u4)) &&& 65535) ((S.1 b1 0) * (S.1 b1 0))))] [ev_o 12 v3_] S6 Q
      refine ev_iload ((ev_rem ((f_L_cell g k2 (3 + u4)) &&& 65535) ((S.1 b1 0) * (S.1 b1 0)))) dL_begins_255 rfl ?_
      refine ev_aload_n (ev_o 11 b1) dL_begins_257 rfl rfl ?_
      refine gn_11_0 dL_begins_258 (List.mem_of_getElem? (i := 21) rfl) ?_
      obtain ⟨h5, hQ⟩ := hQ
      refine ev_idiv dL_begins_261 h5 ?_
      refine ev_cV mv_J4_append_bf812 5 101 12 [ev_i ((ev_rem ((f_L_cell g k2 (3 + u4)) &&& 65535) ((S.1 b1 0) * (S.1 b1 0))) / (S6.1 b1 0))] [] dL_begins_262 kw_1792 rfl (by decide) rfl (by decide) (by omega) (Nat.le_of_ble_eq_true rfl) hQ ?_ rfl
      rintro o S7 ⟨v4_, rfl, hQ⟩
      rw [show (B + 404 - 101 : Nat) = B + 303 from by omega]
      show ev_E g m_L_begins 9 (B + 303) 265 [some (ev_o 9 b0), some (ev_o 11 b1), some (ev_x 0 k2), some (ev_o 12 w3), some (ev_i u4), some (ev_i (ev_rem u4 2)), some (ev_i (ev_rem ((f_L_cell g k2 (3 + u4)) &&& 65535) ((S.1 b1 0) * (S.1 b1 0))))] [ev_o 12 v4_] S7 Q
      refine ev_bipush (32) dL_begins_265 (by decide) ?_
      refine ev_cV mv_J4_append_cf468 5 101 12 [ev_i 32] [] dL_begins_267 kw_1817 rfl (by decide) rfl (by decide) (by omega) (Nat.le_of_ble_eq_true rfl) hQ ?_ rfl
      rintro o S8 ⟨v5_, rfl, hQ⟩
      rw [show (B + 303 - 101 : Nat) = B + 202 from by omega]
      show ev_E g m_L_begins 9 (B + 202) 270 [some (ev_o 9 b0), some (ev_o 11 b1), some (ev_x 0 k2), some (ev_o 12 w3), some (ev_i u4), some (ev_i (ev_rem u4 2)), some (ev_i (ev_rem ((f_L_cell g k2 (3 + u4)) &&& 65535) ((S.1 b1 0) * (S.1 b1 0))))] [ev_o 12 v5_] S8 Q
      refine ev_iload ((ev_rem ((f_L_cell g k2 (3 + u4)) &&& 65535) ((S.1 b1 0) * (S.1 b1 0)))) dL_begins_270 rfl ?_
      refine ev_aload_n (ev_o 11 b1) dL_begins_272 rfl rfl ?_
      refine gn_11_0 dL_begins_273 (List.mem_of_getElem? (i := 21) rfl) ?_
      obtain ⟨h6, hQ⟩ := hQ
      refine ev_irem dL_begins_276 h6 ?_
      refine ev_cV mv_J4_append_bf812 5 101 12 [ev_i (ev_rem (ev_rem ((f_L_cell g k2 (3 + u4)) &&& 65535) ((S.1 b1 0) * (S.1 b1 0))) (S8.1 b1 0))] [] dL_begins_277 kw_1792 rfl (by decide) rfl (by decide) (by omega) (Nat.le_of_ble_eq_true rfl) hQ ?_ rfl
      rintro o S9 ⟨v6_, rfl, hQ⟩
      rw [show (B + 202 - 101 : Nat) = B + 101 from by omega]
      show ev_E g m_L_begins 9 (B + 101) 280 [some (ev_o 9 b0), some (ev_o 11 b1), some (ev_x 0 k2), some (ev_o 12 w3), some (ev_i u4), some (ev_i (ev_rem u4 2)), some (ev_i (ev_rem ((f_L_cell g k2 (3 + u4)) &&& 65535) ((S.1 b1 0) * (S.1 b1 0))))] [ev_o 12 v6_] S9 Q
      refine ev_bipush (59) dL_begins_280 (by decide) ?_
      refine ev_cV mv_J4_append_cf468 5 101 12 [ev_i 59] [] dL_begins_282 kw_1817 rfl (by decide) rfl (by decide) (by omega) (Nat.le_of_ble_eq_true rfl) hQ ?_ rfl
      rintro o S10 ⟨v7_, rfl, hQ⟩
      rw [show (B + 101 - 101 : Nat) = B from by omega]
      show ev_E g m_L_begins 9 B 285 [some (ev_o 9 b0), some (ev_o 11 b1), some (ev_x 0 k2), some (ev_o 12 w3), some (ev_i u4), some (ev_i (ev_rem u4 2)), some (ev_i (ev_rem ((f_L_cell g k2 (3 + u4)) &&& 65535) ((S.1 b1 0) * (S.1 b1 0))))] [ev_o 12 v7_] S10 Q
      refine ev_pop dL_begins_285 rfl ?_
      refine ev_iinc u4 (1) dL_begins_286 rfl (by decide) (ev_hw rfl) ?_
      show ev_E g m_L_begins 9 B 289 [some (ev_o 9 b0), some (ev_o 11 b1), some (ev_x 0 k2), some (ev_o 12 w3), some (ev_i (u4 + 1)), some (ev_i (ev_rem u4 2)), some (ev_i (ev_rem ((f_L_cell g k2 (3 + u4)) &&& 65535) ((S.1 b1 0) * (S.1 b1 0))))] [] S10 Q
      refine ev_goto 150 dL_begins_289 (by decide) ?_
      refine ev_fgm [true, true, true, true, true, false, false] ?_
      exact hQ
    · replace hQ := hQ.2 c2
      refine ev_goto 286 dL_begins_197 (by decide) ?_
      refine ev_iinc u4 (1) dL_begins_286 rfl (by decide) (ev_hw rfl) ?_
      show ev_E g m_L_begins 9 (B + 707) 289 [some (ev_o 9 b0), some (ev_o 11 b1), some (ev_x 0 k2), some (ev_o 12 w3), some (ev_i (u4 + 1)), some (ev_i (ev_rem u4 2)), some (ev_i (ev_rem ((f_L_cell g k2 (3 + u4)) &&& 65535) ((S.1 b1 0) * (S.1 b1 0))))] [] S Q
      refine ev_goto 150 dL_begins_289 (by decide) ?_
      refine ev_fgm [true, true, true, true, true, false, false] ?_
      exact hQ
set_option maxHeartbeats 1000000 in
set_option maxRecDepth 100000 in
theorem sg_L_begins_84 {g : ev_G} {S : ev_S} {Q : ev_O → ev_S → Prop} {B : Nat} (b0 : Nat) (b1 : Nat) (k2 : Nat) (w3 : Nat) (u4 : Int32) (u5 : Int32) (hQ : (64 ≤ u5 → (
    ev_E g m_L_begins 9 B 114 [some (ev_o 9 b0), some (ev_o 11 b1), some (ev_x 0 k2), some (ev_o 12 w3), some (ev_i u4), some (ev_i 0), none] [] S Q)) ∧
  (¬ (64 ≤ u5) → (
    (vp_in u4 2) ∧ (
      (vp_in u5 64) ∧ (
        ∀ S1 : ev_S, S1 = (ev_up S ((a_bd (b1 + 1) u4) + 1) u5.toNatClampNeg (-1)) → (
          ev_E g m_L_begins 9 B 84 [some (ev_o 9 b0), some (ev_o 11 b1), some (ev_x 0 k2), some (ev_o 12 w3), some (ev_i u4), some (ev_i (u5 + 1)), none] [] S1 Q)))))) : ev_E g m_L_begins 9 B 84 [some (ev_o 9 b0), some (ev_o 11 b1), some (ev_x 0 k2), some (ev_o 12 w3), some (ev_i u4), some (ev_i u5), none] [] S Q := by
  refine ev_iload (u5) dL_begins_84 rfl ?_
  refine ev_bipush (64) dL_begins_86 (by decide) ?_
  refine ev_icmp_ge 111 dL_begins_88 (by decide) (fun c1 => ?_) (fun c1 => ?_)
  · replace hQ := hQ.1 c1
    refine ev_iconst (0) dL_begins_111 rfl ?_
    refine ev_istore dL_begins_112 (Nat.le_of_ble_eq_true rfl) (ev_hw rfl) ?_
    show ev_E g m_L_begins 9 B 114 [some (ev_o 9 b0), some (ev_o 11 b1), some (ev_x 0 k2), some (ev_o 12 w3), some (ev_i u4), some (ev_i 0), none] [] S Q
    exact hQ
  · replace hQ := hQ.2 c1
    refine ev_aload_n (ev_o 11 b1) dL_begins_91 rfl rfl ?_
    refine gn_11_11 dL_begins_92 (List.mem_of_getElem? (i := 31) rfl) ?_
    refine ev_iload (u4) dL_begins_95 rfl ?_
    obtain ⟨h1, hQ⟩ := hQ
    refine ev_aalB dL_begins_97 h1 ?_
    show ev_E g m_L_begins 9 B 98 [some (ev_o 9 b0), some (ev_o 11 b1), some (ev_x 0 k2), some (ev_o 12 w3), some (ev_i u4), some (ev_i u5), none] [ev_o 10 (a_bd (b1 + 1) u4)] S Q
    refine gn_10_0 dL_begins_98 (List.mem_of_getElem? (i := 0) rfl) ?_
    refine ev_iload (u5) dL_begins_101 rfl ?_
    refine ev_iconst (-1) dL_begins_103 rfl ?_
    obtain ⟨h2, hQ⟩ := hQ
    refine ev_iastore dL_begins_104 h2 ?_
    refine ev_sub hQ (fun S1 hS1 hQ => ?_)
    refine ev_E.goal (pc' := 105) (L' := [some (ev_o 9 b0), some (ev_o 11 b1), some (ev_x 0 k2), some (ev_o 12 w3), some (ev_i u4), some (ev_i u5), none]) (K' := []) (S' := S1) ?_ rfl rfl rfl hS1
    refine ev_iinc u5 (1) dL_begins_105 rfl (by decide) (ev_hw rfl) ?_
    show ev_E g m_L_begins 9 B 108 [some (ev_o 9 b0), some (ev_o 11 b1), some (ev_x 0 k2), some (ev_o 12 w3), some (ev_i u4), some (ev_i (u5 + 1)), none] [] S1 Q
    refine ev_goto 84 dL_begins_108 (by decide) ?_
    exact hQ
set_option maxHeartbeats 1000000 in
set_option maxRecDepth 100000 in
theorem sg_L_begins_295 {g : ev_G} {S : ev_S} {Q : ev_O → ev_S → Prop} {B : Nat} (b0 : Nat) (b1 : Nat) (k2 : Nat) (w3 : Nat) (u4 : Int32) (hQ : ((S.1 b1 3) ≤ u4 → (
    (¬ ((Int32.ofNat (ev_sl g)) = 0) → ¬ (Int32.ofNat (ev_sl g)) = 0) ∧ (
      (¬ ((Int32.ofNat (ev_sl g)) = 0) → vp_in (ev_rem 29 (Int32.ofNat (ev_sl g))) (ev_sl g)) ∧ (
        (¬ (8 : Int32) = 0) ∧ (
          ev_E g m_L_begins 9 (B + 707) 474 [some (ev_o 9 b0), some (ev_o 11 b1), some (ev_x 0 k2), some (ev_o 12 w3), some (ev_i (ev_rem ((f_L_cell g k2 29) &&& 65535) 8)), none, none] [] S Q))))) ∧
  (¬ ((S.1 b1 3) ≤ u4) → (
    (¬ ((Int32.ofNat (ev_sl g)) = 0) → ¬ (Int32.ofNat (ev_sl g)) = 0) ∧ (
      (¬ ((Int32.ofNat (ev_sl g)) = 0) → vp_in (ev_rem (16 + (3 * u4)) (Int32.ofNat (ev_sl g))) (ev_sl g)) ∧ (
        (¬ (5 : Int32) = 0) ∧ (
          (vp_in u4 4) ∧ (
            ∀ S1 : ev_S, S1 = (ev_up S (b1 + 16) u4.toNatClampNeg (1 + (ev_rem ((f_L_cell g k2 (16 + (3 * u4))) &&& 65535) 5))) → (
              (¬ ((Int32.ofNat (ev_sl g)) = 0) → vp_in (ev_rem (17 + (3 * u4)) (Int32.ofNat (ev_sl g))) (ev_sl g)) ∧ (
                (¬ (3 : Int32) = 0) ∧ (
                  (vp_in (2 * u4) 8) ∧ (
                    ∀ S2 : ev_S, S2 = (ev_up S1 (b1 + 17) (2 * u4).toNatClampNeg (ev_rem ((f_L_cell g k2 (17 + (3 * u4))) &&& 65535) 3)) → (
                      (¬ ((Int32.ofNat (ev_sl g)) = 0) → vp_in (ev_rem (18 + (3 * u4)) (Int32.ofNat (ev_sl g))) (ev_sl g)) ∧ (
                        (vp_in ((2 * u4) + 1) 8) ∧ (
                          ∀ S3 : ev_S, S3 = (ev_up S2 (b1 + 17) ((2 * u4) + 1).toNatClampNeg (ev_rem ((f_L_cell g k2 (18 + (3 * u4))) &&& 65535) 3)) → (
                            ∀ S4 : ev_S, S4 = (ev_up S3 b1 10 ((S.1 b1 10) + ((S3.1 (b1 + 17) (2 * u4).toNatClampNeg) + (ev_rem ((f_L_cell g k2 (18 + (3 * u4))) &&& 65535) 3)))) → (
                              ev_Cv g m_J4_append_15ec4 5 101 [ev_o 12 w3, ev_x 1 12] S4 (fun o S5 => ∃ v1_ : Nat, o = .inl (some (ev_o 12 v1_)) ∧ (
                                ev_Cv g m_J4_append_bf812 5 101 [ev_o 12 v1_, ev_i (S5.1 (b1 + 16) u4.toNatClampNeg)] S5 (fun o S6 => ∃ v2_ : Nat, o = .inl (some (ev_o 12 v2_)) ∧ (
                                  ev_Cv g m_J4_append_cf468 5 101 [ev_o 12 v2_, ev_i 32] S6 (fun o S7 => ∃ v3_ : Nat, o = .inl (some (ev_o 12 v3_)) ∧ (
                                    ev_Cv g m_J4_append_bf812 5 101 [ev_o 12 v3_, ev_i (S7.1 (b1 + 17) (2 * u4).toNatClampNeg)] S7 (fun o S8 => ∃ v4_ : Nat, o = .inl (some (ev_o 12 v4_)) ∧ (
                                      ev_Cv g m_J4_append_cf468 5 101 [ev_o 12 v4_, ev_i 32] S8 (fun o S9 => ∃ v5_ : Nat, o = .inl (some (ev_o 12 v5_)) ∧ (
                                        ev_Cv g m_J4_append_bf812 5 101 [ev_o 12 v5_, ev_i (S9.1 (b1 + 17) ((2 * u4) + 1).toNatClampNeg)] S9 (fun o S10 => ∃ v6_ : Nat, o = .inl (some (ev_o 12 v6_)) ∧ (
                                          ev_Cv g m_J4_append_cf468 5 101 [ev_o 12 v6_, ev_i 59] S10 (fun o S11 => ∃ v7_ : Nat, o = .inl (some (ev_o 12 v7_)) ∧ (
                                            ev_E g m_L_begins 9 B 295 [some (ev_o 9 b0), some (ev_o 11 b1), some (ev_x 0 k2), some (ev_o 12 w3), some (ev_i (u4 + 1)), none, none] [] S11 Q)))))))))))))))))))))))))))))) : ev_E g m_L_begins 9 (B + 707) 295 [some (ev_o 9 b0), some (ev_o 11 b1), some (ev_x 0 k2), some (ev_o 12 w3), some (ev_i u4), none, none] [] S Q := by
  refine ev_iload (u4) dL_begins_295 rfl ?_
  refine ev_aload_n (ev_o 11 b1) dL_begins_297 rfl rfl ?_
  refine gn_11_3 dL_begins_298 (List.mem_of_getElem? (i := 24) rfl) ?_
  refine ev_icmp_ge 464 dL_begins_301 (by decide) (fun c1 => ?_) (fun c1 => ?_)
  · replace hQ := hQ.1 c1
    refine ev_aload_n (ev_x 0 k2) dL_begins_464 rfl rfl ?_
    refine ev_bipush (29) dL_begins_465 (by decide) ?_
    refine ev_bipush (8) dL_begins_467 (by decide) ?_
    obtain ⟨h1, hQ⟩ := hQ
    obtain ⟨h2, hQ⟩ := hQ
    obtain ⟨h3, hQ⟩ := hQ
    refine ev_fS ms_L_pick 2 [ev_x 0 k2, ev_i 29, ev_i 8] [] dL_begins_469 kw_936 rfl (by decide) (Nat.le_of_ble_eq_true rfl) (sp_L_pick k2 29 8 h1 h2 h3) ?_ rfl
    refine ev_istore dL_begins_472 (Nat.le_of_ble_eq_true rfl) (ev_hw rfl) ?_
    show ev_E g m_L_begins 9 (B + 707) 474 [some (ev_o 9 b0), some (ev_o 11 b1), some (ev_x 0 k2), some (ev_o 12 w3), some (ev_i (ev_rem ((f_L_cell g k2 29) &&& 65535) 8)), none, none] [] S Q
    exact hQ
  · replace hQ := hQ.2 c1
    refine ev_aload_n (ev_o 11 b1) dL_begins_304 rfl rfl ?_
    refine gn_11_12 dL_begins_305 (List.mem_of_getElem? (i := 32) rfl) ?_
    refine ev_iload (u4) dL_begins_308 rfl ?_
    refine ev_iconst (1) dL_begins_310 rfl ?_
    refine ev_aload_n (ev_x 0 k2) dL_begins_311 rfl rfl ?_
    refine ev_bipush (16) dL_begins_312 (by decide) ?_
    refine ev_iconst (3) dL_begins_314 rfl ?_
    refine ev_iload (u4) dL_begins_315 rfl ?_
    refine ev_imul dL_begins_317 ?_
    refine ev_iadd dL_begins_318 ?_
    refine ev_iconst (5) dL_begins_319 rfl ?_
    obtain ⟨h4, hQ⟩ := hQ
    obtain ⟨h5, hQ⟩ := hQ
    obtain ⟨h6, hQ⟩ := hQ
    refine ev_fS ms_L_pick 2 [ev_x 0 k2, ev_i (16 + (3 * u4)), ev_i 5] [ev_i 1, ev_i u4, ev_y 4 (b1 + 16)] dL_begins_320 kw_936 rfl (by decide) (Nat.le_of_ble_eq_true rfl) (sp_L_pick k2 (16 + (3 * u4)) 5 h4 h5 h6) ?_ rfl
    refine ev_iadd dL_begins_323 ?_
    obtain ⟨h7, hQ⟩ := hQ
    refine ev_iastore dL_begins_324 h7 ?_
    refine ev_sub hQ (fun S1 hS1 hQ => ?_)
    refine ev_E.goal (pc' := 325) (L' := [some (ev_o 9 b0), some (ev_o 11 b1), some (ev_x 0 k2), some (ev_o 12 w3), some (ev_i u4), none, none]) (K' := []) (S' := S1) ?_ rfl rfl rfl hS1
    refine ev_aload_n (ev_o 11 b1) dL_begins_325 rfl rfl ?_
    refine gn_11_13 dL_begins_326 (List.mem_of_getElem? (i := 33) rfl) ?_
    refine ev_iconst (2) dL_begins_329 rfl ?_
    refine ev_iload (u4) dL_begins_330 rfl ?_
    refine ev_imul dL_begins_332 ?_
    refine ev_aload_n (ev_x 0 k2) dL_begins_333 rfl rfl ?_
    refine ev_bipush (17) dL_begins_334 (by decide) ?_
    refine ev_iconst (3) dL_begins_336 rfl ?_
    refine ev_iload (u4) dL_begins_337 rfl ?_
    refine ev_imul dL_begins_339 ?_
    refine ev_iadd dL_begins_340 ?_
    refine ev_iconst (3) dL_begins_341 rfl ?_
    obtain ⟨h8, hQ⟩ := hQ
    obtain ⟨h9, hQ⟩ := hQ
    refine ev_fS ms_L_pick 2 [ev_x 0 k2, ev_i (17 + (3 * u4)), ev_i 3] [ev_i (2 * u4), ev_y 8 (b1 + 17)] dL_begins_342 kw_936 rfl (by decide) (Nat.le_of_ble_eq_true rfl) (sp_L_pick k2 (17 + (3 * u4)) 3 h4 h8 h9) ?_ rfl
    obtain ⟨h10, hQ⟩ := hQ
    refine ev_iastore dL_begins_345 h10 ?_
    refine ev_sub hQ (fun S2 hS2 hQ => ?_)
    refine ev_E.goal (pc' := 346) (L' := [some (ev_o 9 b0), some (ev_o 11 b1), some (ev_x 0 k2), some (ev_o 12 w3), some (ev_i u4), none, none]) (K' := []) (S' := S2) ?_ rfl rfl rfl hS2
    refine ev_aload_n (ev_o 11 b1) dL_begins_346 rfl rfl ?_
    refine gn_11_13 dL_begins_347 (List.mem_of_getElem? (i := 33) rfl) ?_
    refine ev_iconst (2) dL_begins_350 rfl ?_
    refine ev_iload (u4) dL_begins_351 rfl ?_
    refine ev_imul dL_begins_353 ?_
    refine ev_iconst (1) dL_begins_354 rfl ?_
    refine ev_iadd dL_begins_355 ?_
    refine ev_aload_n (ev_x 0 k2) dL_begins_356 rfl rfl ?_
    refine ev_bipush (18) dL_begins_357 (by decide) ?_
    refine ev_iconst (3) dL_begins_359 rfl ?_
    refine ev_iload (u4) dL_begins_360 rfl ?_
    refine ev_imul dL_begins_362 ?_
    refine ev_iadd dL_begins_363 ?_
    refine ev_iconst (3) dL_begins_364 rfl ?_
    obtain ⟨h11, hQ⟩ := hQ
    refine ev_fS ms_L_pick 2 [ev_x 0 k2, ev_i (18 + (3 * u4)), ev_i 3] [ev_i ((2 * u4) + 1), ev_y 8 (b1 + 17)] dL_begins_365 kw_936 rfl (by decide) (Nat.le_of_ble_eq_true rfl) (sp_L_pick k2 (18 + (3 * u4)) 3 h4 h11 h9) ?_ rfl
    obtain ⟨h12, hQ⟩ := hQ
    refine ev_iastore dL_begins_368 h12 ?_
    refine ev_sub hQ (fun S3 hS3 hQ => ?_)
    refine ev_E.goal (pc' := 369) (L' := [some (ev_o 9 b0), some (ev_o 11 b1), some (ev_x 0 k2), some (ev_o 12 w3), some (ev_i u4), none, none]) (K' := []) (S' := S3) ?_ rfl rfl rfl hS3
    refine ev_aload_n (ev_o 11 b1) dL_begins_369 rfl rfl ?_
    refine ev_dup dL_begins_370 rfl ?_
    refine gn_11_10 dL_begins_371 (List.mem_of_getElem? (i := 30) rfl) ?_
    refine ev_ke (((j_rk hS3 (Or.inl (by omega))).trans (j_rk hS2 (Or.inl (by omega)))).trans (j_rk hS1 (Or.inl (by omega)))) ?_
    refine ev_aload_n (ev_o 11 b1) dL_begins_374 rfl rfl ?_
    refine gn_11_13 dL_begins_375 (List.mem_of_getElem? (i := 33) rfl) ?_
    refine ev_iconst (2) dL_begins_378 rfl ?_
    refine ev_iload (u4) dL_begins_379 rfl ?_
    refine ev_imul dL_begins_381 ?_
    refine ev_iaload dL_begins_382 h10 ?_
    refine ev_aload_n (ev_o 11 b1) dL_begins_383 rfl rfl ?_
    refine gn_11_13 dL_begins_384 (List.mem_of_getElem? (i := 33) rfl) ?_
    refine ev_iconst (2) dL_begins_387 rfl ?_
    refine ev_iload (u4) dL_begins_388 rfl ?_
    refine ev_imul dL_begins_390 ?_
    refine ev_iconst (1) dL_begins_391 rfl ?_
    refine ev_iadd dL_begins_392 ?_
    refine ev_iaload dL_begins_393 h12 ?_
    refine ev_ke (j_rs hS3) ?_
    refine ev_iadd dL_begins_394 ?_
    refine ev_iadd dL_begins_395 ?_
    refine pn_11_10 dL_begins_396 (List.mem_of_getElem? (i := 30) rfl) ?_
    refine ev_sub hQ (fun S4 hS4 hQ => ?_)
    refine ev_E.goal (pc' := 399) (L' := [some (ev_o 9 b0), some (ev_o 11 b1), some (ev_x 0 k2), some (ev_o 12 w3), some (ev_i u4), none, none]) (K' := []) (S' := S4) ?_ rfl rfl rfl hS4
    refine ev_aload_n (ev_o 12 w3) dL_begins_399 rfl rfl ?_
    refine ev_ldcw "pass " 12 dL_begins_400 (List.mem_of_getElem? (i := 12) rfl) (by decide) ?_
    refine ev_cV mv_J4_append_15ec4 5 101 12 [ev_x 1 12] [] dL_begins_403 kw_1831 rfl (by decide) rfl (by decide) (by omega) (Nat.le_of_ble_eq_true rfl) hQ ?_ rfl
    rintro o S5 ⟨v1_, rfl, hQ⟩
    rw [show (B + 707 - 101 : Nat) = B + 606 from by omega]
    show ev_E g m_L_begins 9 (B + 606) 406 [some (ev_o 9 b0), some (ev_o 11 b1), some (ev_x 0 k2), some (ev_o 12 w3), some (ev_i u4), none, none] [ev_o 12 v1_] S5 Q
    refine ev_aload_n (ev_o 11 b1) dL_begins_406 rfl rfl ?_
    refine gn_11_12 dL_begins_407 (List.mem_of_getElem? (i := 32) rfl) ?_
    refine ev_iload (u4) dL_begins_410 rfl ?_
    refine ev_iaload dL_begins_412 h7 ?_
    refine ev_cV mv_J4_append_bf812 5 101 12 [ev_i (S5.1 (b1 + 16) u4.toNatClampNeg)] [] dL_begins_413 kw_1792 rfl (by decide) rfl (by decide) (by omega) (Nat.le_of_ble_eq_true rfl) hQ ?_ rfl
    rintro o S6 ⟨v2_, rfl, hQ⟩
    rw [show (B + 606 - 101 : Nat) = B + 505 from by omega]
    show ev_E g m_L_begins 9 (B + 505) 416 [some (ev_o 9 b0), some (ev_o 11 b1), some (ev_x 0 k2), some (ev_o 12 w3), some (ev_i u4), none, none] [ev_o 12 v2_] S6 Q
    refine ev_bipush (32) dL_begins_416 (by decide) ?_
    refine ev_cV mv_J4_append_cf468 5 101 12 [ev_i 32] [] dL_begins_418 kw_1817 rfl (by decide) rfl (by decide) (by omega) (Nat.le_of_ble_eq_true rfl) hQ ?_ rfl
    rintro o S7 ⟨v3_, rfl, hQ⟩
    rw [show (B + 505 - 101 : Nat) = B + 404 from by omega]
    show ev_E g m_L_begins 9 (B + 404) 421 [some (ev_o 9 b0), some (ev_o 11 b1), some (ev_x 0 k2), some (ev_o 12 w3), some (ev_i u4), none, none] [ev_o 12 v3_] S7 Q
    refine ev_aload_n (ev_o 11 b1) dL_begins_421 rfl rfl ?_
    refine gn_11_13 dL_begins_422 (List.mem_of_getElem? (i := 33) rfl) ?_
    refine ev_iconst (2) dL_begins_425 rfl ?_
    refine ev_iload (u4) dL_begins_426 rfl ?_
    refine ev_imul dL_begins_428 ?_
    refine ev_iaload dL_begins_429 h10 ?_
    refine ev_cV mv_J4_append_bf812 5 101 12 [ev_i (S7.1 (b1 + 17) (2 * u4).toNatClampNeg)] [] dL_begins_430 kw_1792 rfl (by decide) rfl (by decide) (by omega) (Nat.le_of_ble_eq_true rfl) hQ ?_ rfl
    rintro o S8 ⟨v4_, rfl, hQ⟩
    rw [show (B + 404 - 101 : Nat) = B + 303 from by omega]
    show ev_E g m_L_begins 9 (B + 303) 433 [some (ev_o 9 b0), some (ev_o 11 b1), some (ev_x 0 k2), some (ev_o 12 w3), some (ev_i u4), none, none] [ev_o 12 v4_] S8 Q
    refine ev_bipush (32) dL_begins_433 (by decide) ?_
    refine ev_cV mv_J4_append_cf468 5 101 12 [ev_i 32] [] dL_begins_435 kw_1817 rfl (by decide) rfl (by decide) (by omega) (Nat.le_of_ble_eq_true rfl) hQ ?_ rfl
    rintro o S9 ⟨v5_, rfl, hQ⟩
    rw [show (B + 303 - 101 : Nat) = B + 202 from by omega]
    show ev_E g m_L_begins 9 (B + 202) 438 [some (ev_o 9 b0), some (ev_o 11 b1), some (ev_x 0 k2), some (ev_o 12 w3), some (ev_i u4), none, none] [ev_o 12 v5_] S9 Q
    refine ev_aload_n (ev_o 11 b1) dL_begins_438 rfl rfl ?_
    refine gn_11_13 dL_begins_439 (List.mem_of_getElem? (i := 33) rfl) ?_
    refine ev_iconst (2) dL_begins_442 rfl ?_
    refine ev_iload (u4) dL_begins_443 rfl ?_
    refine ev_imul dL_begins_445 ?_
    refine ev_iconst (1) dL_begins_446 rfl ?_
    refine ev_iadd dL_begins_447 ?_
    refine ev_iaload dL_begins_448 h12 ?_
    refine ev_cV mv_J4_append_bf812 5 101 12 [ev_i (S9.1 (b1 + 17) ((2 * u4) + 1).toNatClampNeg)] [] dL_begins_449 kw_1792 rfl (by decide) rfl (by decide) (by omega) (Nat.le_of_ble_eq_true rfl) hQ ?_ rfl
    rintro o S10 ⟨v6_, rfl, hQ⟩
    rw [show (B + 202 - 101 : Nat) = B + 101 from by omega]
    show ev_E g m_L_begins 9 (B + 101) 452 [some (ev_o 9 b0), some (ev_o 11 b1), some (ev_x 0 k2), some (ev_o 12 w3), some (ev_i u4), none, none] [ev_o 12 v6_] S10 Q
    refine ev_bipush (59) dL_begins_452 (by decide) ?_
    refine ev_cV mv_J4_append_cf468 5 101 12 [ev_i 59] [] dL_begins_454 kw_1817 rfl (by decide) rfl (by decide) (by omega) (Nat.le_of_ble_eq_true rfl) hQ ?_ rfl
    rintro o S11 ⟨v7_, rfl, hQ⟩
    rw [show (B + 101 - 101 : Nat) = B from by omega]
    show ev_E g m_L_begins 9 B 457 [some (ev_o 9 b0), some (ev_o 11 b1), some (ev_x 0 k2), some (ev_o 12 w3), some (ev_i u4), none, none] [ev_o 12 v7_] S11 Q
    refine ev_pop dL_begins_457 rfl ?_
    refine ev_iinc u4 (1) dL_begins_458 rfl (by decide) (ev_hw rfl) ?_
    show ev_E g m_L_begins 9 B 461 [some (ev_o 9 b0), some (ev_o 11 b1), some (ev_x 0 k2), some (ev_o 12 w3), some (ev_i (u4 + 1)), none, none] [] S11 Q
    refine ev_goto 295 dL_begins_461 (by decide) ?_
    exact hQ
set_option maxHeartbeats 1000000 in
set_option maxRecDepth 100000 in
theorem sg_L_begins_114 {g : ev_G} {S : ev_S} {Q : ev_O → ev_S → Prop} {B : Nat} (b0 : Nat) (b1 : Nat) (k2 : Nat) (w3 : Nat) (u4 : Int32) (u5 : Int32) (hQ : (61 ≤ u5 → (
    ev_E g m_L_begins 9 B 75 [some (ev_o 9 b0), some (ev_o 11 b1), some (ev_x 0 k2), some (ev_o 12 w3), some (ev_i (u4 + 1)), none, none] [] S Q)) ∧
  (¬ (61 ≤ u5) → (
    (vp_in u4 2) ∧ (
      (vp_in u5 61) ∧ (
        ∀ S1 : ev_S, S1 = (ev_up S ((a_bd (b1 + 1) u4) + 4) u5.toNatClampNeg (-1)) → (
          ev_E g m_L_begins 9 B 114 [some (ev_o 9 b0), some (ev_o 11 b1), some (ev_x 0 k2), some (ev_o 12 w3), some (ev_i u4), some (ev_i (u5 + 1)), none] [] S1 Q)))))) : ev_E g m_L_begins 9 B 114 [some (ev_o 9 b0), some (ev_o 11 b1), some (ev_x 0 k2), some (ev_o 12 w3), some (ev_i u4), some (ev_i u5), none] [] S Q := by
  refine ev_iload (u5) dL_begins_114 rfl ?_
  refine ev_bipush (61) dL_begins_116 (by decide) ?_
  refine ev_icmp_ge 141 dL_begins_118 (by decide) (fun c1 => ?_) (fun c1 => ?_)
  · replace hQ := hQ.1 c1
    refine ev_iinc u4 (1) dL_begins_141 rfl (by decide) (ev_hw rfl) ?_
    show ev_E g m_L_begins 9 B 144 [some (ev_o 9 b0), some (ev_o 11 b1), some (ev_x 0 k2), some (ev_o 12 w3), some (ev_i (u4 + 1)), some (ev_i u5), none] [] S Q
    refine ev_goto 75 dL_begins_144 (by decide) ?_
    refine ev_fgm [true, true, true, true, true, false, false] ?_
    exact hQ
  · replace hQ := hQ.2 c1
    refine ev_aload_n (ev_o 11 b1) dL_begins_121 rfl rfl ?_
    refine gn_11_11 dL_begins_122 (List.mem_of_getElem? (i := 31) rfl) ?_
    refine ev_iload (u4) dL_begins_125 rfl ?_
    obtain ⟨h1, hQ⟩ := hQ
    refine ev_aalB dL_begins_127 h1 ?_
    show ev_E g m_L_begins 9 B 128 [some (ev_o 9 b0), some (ev_o 11 b1), some (ev_x 0 k2), some (ev_o 12 w3), some (ev_i u4), some (ev_i u5), none] [ev_o 10 (a_bd (b1 + 1) u4)] S Q
    refine gn_10_3 dL_begins_128 (List.mem_of_getElem? (i := 6) rfl) ?_
    refine ev_iload (u5) dL_begins_131 rfl ?_
    refine ev_iconst (-1) dL_begins_133 rfl ?_
    obtain ⟨h2, hQ⟩ := hQ
    refine ev_iastore dL_begins_134 h2 ?_
    refine ev_sub hQ (fun S1 hS1 hQ => ?_)
    refine ev_E.goal (pc' := 135) (L' := [some (ev_o 9 b0), some (ev_o 11 b1), some (ev_x 0 k2), some (ev_o 12 w3), some (ev_i u4), some (ev_i u5), none]) (K' := []) (S' := S1) ?_ rfl rfl rfl hS1
    refine ev_iinc u5 (1) dL_begins_135 rfl (by decide) (ev_hw rfl) ?_
    show ev_E g m_L_begins 9 B 138 [some (ev_o 9 b0), some (ev_o 11 b1), some (ev_x 0 k2), some (ev_o 12 w3), some (ev_i u4), some (ev_i (u5 + 1)), none] [] S1 Q
    refine ev_goto 114 dL_begins_138 (by decide) ?_
    exact hQ
set_option maxHeartbeats 1000000 in
set_option maxRecDepth 100000 in
theorem sg_L_begins_474 {g : ev_G} {S : ev_S} {Q : ev_O → ev_S → Prop} {B : Nat} (b0 : Nat) (b1 : Nat) (k2 : Nat) (w3 : Nat) (u4 : Int32) (hQ : (u4 ≤ 0 → (
    ev_Cv g m_J4_toString_0e30d 6 121 [ev_o 12 w3] S (fun o S1 => ∃ v1_ : Nat, o = .inl (some (ev_o 13 v1_)) ∧ (
      ev_Cv g m_L_feeds 6 16 [ev_o 9 b0, ev_o 13 v1_] S1 (fun o S2 => ∃ v2_ : Bool, o = .inl (some (ev_i (if v2_ = true then 1 else 0))) ∧ (
        (v2_ = true → (
          ev_Cv g m_X9_load 8 0 [ev_o 9 b0] S2 (fun o S3 => ∃ v3_ : Int32, o = .inl (some (ev_i v3_)) ∧ (
            (v3_ = 0 → (
              ((S3.1 b0 11) = (-1) → (
                Q (.inl (some (ev_i 1))) S3)) ∧
              (¬ ((S3.1 b0 11) = (-1)) → (
                Q (.inl (some (ev_i 0))) S3)))) ∧
            (¬ (v3_ = 0) → (
              Q (.inl (some (ev_i 0))) S3)))))) ∧
        (¬ (v2_ = true) → (
          Q (.inl (some (ev_i 0))) S2)))))))) ∧
  (¬ (u4 ≤ 0) → (
    (¬ ((Int32.ofNat (ev_sl g)) = 0) → ¬ (Int32.ofNat (ev_sl g)) = 0) ∧ (
      (¬ ((Int32.ofNat (ev_sl g)) = 0) → vp_in (ev_rem (30 + (2 * u4)) (Int32.ofNat (ev_sl g))) (ev_sl g)) ∧ (
        (¬ (S.1 b1 3) = 0) ∧ (
          (¬ ((Int32.ofNat (ev_sl g)) = 0) → vp_in (ev_rem (31 + (2 * u4)) (Int32.ofNat (ev_sl g))) (ev_sl g)) ∧ (
            (¬ (5 : Int32) = 0) ∧ (
              (¬ (10 : Int32) = 0) ∧ (
                (vp_in ((12 * (ev_rem ((f_L_cell g k2 (30 + (2 * u4))) &&& 65535) (S.1 b1 3))) + (ev_rem ((f_L_cell g k2 (31 + (2 * u4))) &&& 65535) 5)) 48) ∧ (
                  ∀ S4 : ev_S, S4 = (ev_up S (b1 + 18) ((12 * (ev_rem ((f_L_cell g k2 (30 + (2 * u4))) &&& 65535) (S.1 b1 3))) + (ev_rem ((f_L_cell g k2 (31 + (2 * u4))) &&& 65535) 5)).toNatClampNeg (ev_rem ((f_L_cell g k2 (31 + (2 * u4))) &&& 65535) 10)) → (
                    ev_Cv g m_J4_append_15ec4 5 101 [ev_o 12 w3, ev_x 1 13] S4 (fun o S5 => ∃ v4_ : Nat, o = .inl (some (ev_o 12 v4_)) ∧ (
                      ev_Cv g m_J4_append_bf812 5 101 [ev_o 12 v4_, ev_i (ev_rem ((f_L_cell g k2 (30 + (2 * u4))) &&& 65535) (S.1 b1 3))] S5 (fun o S6 => ∃ v5_ : Nat, o = .inl (some (ev_o 12 v5_)) ∧ (
                        ev_Cv g m_J4_append_cf468 5 101 [ev_o 12 v5_, ev_i 32] S6 (fun o S7 => ∃ v6_ : Nat, o = .inl (some (ev_o 12 v6_)) ∧ (
                          ev_Cv g m_J4_append_bf812 5 101 [ev_o 12 v6_, ev_i (ev_rem ((f_L_cell g k2 (31 + (2 * u4))) &&& 65535) 5)] S7 (fun o S8 => ∃ v7_ : Nat, o = .inl (some (ev_o 12 v7_)) ∧ (
                            ev_Cv g m_J4_append_cf468 5 101 [ev_o 12 v7_, ev_i 32] S8 (fun o S9 => ∃ v8_ : Nat, o = .inl (some (ev_o 12 v8_)) ∧ (
                              ev_Cv g m_J4_append_bf812 5 101 [ev_o 12 v8_, ev_i (S9.1 (b1 + 18) ((12 * (ev_rem ((f_L_cell g k2 (30 + (2 * u4))) &&& 65535) (S.1 b1 3))) + (ev_rem ((f_L_cell g k2 (31 + (2 * u4))) &&& 65535) 5)).toNatClampNeg)] S9 (fun o S10 => ∃ v9_ : Nat, o = .inl (some (ev_o 12 v9_)) ∧ (
                                ev_Cv g m_J4_append_cf468 5 101 [ev_o 12 v9_, ev_i 59] S10 (fun o S11 => ∃ v10_ : Nat, o = .inl (some (ev_o 12 v10_)) ∧ (
                                  ev_E g m_L_begins 9 B 474 [some (ev_o 9 b0), some (ev_o 11 b1), some (ev_x 0 k2), some (ev_o 12 w3), some (ev_i (u4 + (-1))), none, none] [] S11 Q))))))))))))))))))))))))) : ev_E g m_L_begins 9 (B + 707) 474 [some (ev_o 9 b0), some (ev_o 11 b1), some (ev_x 0 k2), some (ev_o 12 w3), some (ev_i u4), none, none] [] S Q := by
  refine ev_iload (u4) dL_begins_474 rfl ?_
  refine ev_if_le 591 dL_begins_476 (by decide) (fun c1 => ?_) (fun c1 => ?_)
  · replace hQ := hQ.1 c1
    refine ev_aload_n (ev_o 9 b0) dL_begins_591 rfl rfl ?_
    refine ev_aload_n (ev_o 12 w3) dL_begins_592 rfl rfl ?_
    refine ev_cV mv_J4_toString_0e30d 6 121 12 [] [ev_o 9 b0] dL_begins_593 kw_1834 rfl (by decide) rfl (by decide) (by omega) (Nat.le_of_ble_eq_true rfl) hQ ?_ rfl
    rintro o S1 ⟨v1_, rfl, hQ⟩
    rw [show (B + 707 - 121 : Nat) = B + 586 from by omega]
    show ev_E g m_L_begins 9 (B + 586) 596 [some (ev_o 9 b0), some (ev_o 11 b1), some (ev_x 0 k2), some (ev_o 12 w3), some (ev_i u4), none, none] [ev_o 13 v1_, ev_o 9 b0] S1 Q
    refine ev_cS ms_L_feeds 6 16 [ev_o 9 b0, ev_o 13 v1_] [] dL_begins_596 kw_1891 rfl (by decide) (by omega) (Nat.le_of_ble_eq_true rfl) hQ ?_ rfl
    rintro o S2 ⟨v2_, rfl, hQ⟩
    rw [show (B + 586 - 16 : Nat) = B + 570 from by omega]
    show ev_E g m_L_begins 9 (B + 570) 599 [some (ev_o 9 b0), some (ev_o 11 b1), some (ev_x 0 k2), some (ev_o 12 w3), some (ev_i u4), none, none] [ev_i (if v2_ = true then 1 else 0)] S2 Q
    by_cases c2 : v2_ = true
    · rw [if_pos c2]
      replace hQ := hQ.1 c2
      refine ev_if_eq 621 dL_begins_599 (by decide) (fun h9 => absurd h9 (by decide : ¬ ((1 : Int32) = 0))) (fun _ => ?_)
      refine ev_aload_n (ev_o 9 b0) dL_begins_602 rfl rfl ?_
      refine ev_cV mv_X9_load 8 0 9 [] [] dL_begins_603 kw_1915 rfl (by decide) rfl (by decide) (by omega) (Nat.le_of_ble_eq_true rfl) hQ ?_ rfl
      rintro o S3 ⟨v3_, rfl, hQ⟩
      show ev_E g m_L_begins 9 (B + 570) 606 [some (ev_o 9 b0), some (ev_o 11 b1), some (ev_x 0 k2), some (ev_o 12 w3), some (ev_i u4), none, none] [ev_i v3_] S3 Q
      refine ev_if_ne 621 dL_begins_606 (by decide) (fun c3 => ?_) (fun c3 => ?_)
      · replace hQ := hQ.2 c3
        refine ev_iconst (0) dL_begins_621 rfl ?_
        exact ev_ireturn .boolean dL_begins_622 rfl rfl hQ
      · replace hQ := hQ.1 c3
        refine ev_aload_n (ev_o 9 b0) dL_begins_609 rfl rfl ?_
        refine ev_fV mv_X9_errorPosition 1 9 [] [] dL_begins_610 kw_1935 rfl (by decide) rfl (by decide) (Nat.le_of_ble_eq_true rfl) (sp_X9_errorPosition b0) ?_ rfl
        refine ev_iconst (-1) dL_begins_613 rfl ?_
        refine ev_icmp_ne 621 dL_begins_614 (by decide) (fun c4 => ?_) (fun c4 => ?_)
        · replace hQ := hQ.2 c4
          refine ev_iconst (0) dL_begins_621 rfl ?_
          exact ev_ireturn .boolean dL_begins_622 rfl rfl hQ
        · replace hQ := hQ.1 c4
          refine ev_iconst (1) dL_begins_617 rfl ?_
          refine ev_goto 622 dL_begins_618 (by decide) ?_
          exact ev_ireturn .boolean dL_begins_622 rfl rfl hQ
    · rw [if_neg c2]
      replace hQ := hQ.2 c2
      refine ev_if_eq 621 dL_begins_599 (by decide) (fun _ => ?_) (fun h9 => absurd (by decide : ((0 : Int32) = 0)) h9)
      refine ev_iconst (0) dL_begins_621 rfl ?_
      exact ev_ireturn .boolean dL_begins_622 rfl rfl hQ
  · replace hQ := hQ.2 c1
    refine ev_aload_n (ev_x 0 k2) dL_begins_479 rfl rfl ?_
    refine ev_bipush (30) dL_begins_480 (by decide) ?_
    refine ev_iconst (2) dL_begins_482 rfl ?_
    refine ev_iload (u4) dL_begins_483 rfl ?_
    refine ev_imul dL_begins_485 ?_
    refine ev_iadd dL_begins_486 ?_
    refine ev_aload_n (ev_o 11 b1) dL_begins_487 rfl rfl ?_
    refine gn_11_3 dL_begins_488 (List.mem_of_getElem? (i := 24) rfl) ?_
    obtain ⟨h1, hQ⟩ := hQ
    obtain ⟨h2, hQ⟩ := hQ
    obtain ⟨h3, hQ⟩ := hQ
    refine ev_fS ms_L_pick 2 [ev_x 0 k2, ev_i (30 + (2 * u4)), ev_i (S.1 b1 3)] [] dL_begins_491 kw_936 rfl (by decide) (Nat.le_of_ble_eq_true rfl) (sp_L_pick k2 (30 + (2 * u4)) (S.1 b1 3) h1 h2 h3) ?_ rfl
    refine ev_istore dL_begins_494 (Nat.le_of_ble_eq_true rfl) (ev_hw rfl) ?_
    show ev_E g m_L_begins 9 (B + 707) 496 [some (ev_o 9 b0), some (ev_o 11 b1), some (ev_x 0 k2), some (ev_o 12 w3), some (ev_i u4), some (ev_i (ev_rem ((f_L_cell g k2 (30 + (2 * u4))) &&& 65535) (S.1 b1 3))), none] [] S Q
    refine ev_aload_n (ev_x 0 k2) dL_begins_496 rfl rfl ?_
    refine ev_bipush (31) dL_begins_497 (by decide) ?_
    refine ev_iconst (2) dL_begins_499 rfl ?_
    refine ev_iload (u4) dL_begins_500 rfl ?_
    refine ev_imul dL_begins_502 ?_
    refine ev_iadd dL_begins_503 ?_
    refine ev_iconst (5) dL_begins_504 rfl ?_
    obtain ⟨h4, hQ⟩ := hQ
    obtain ⟨h5, hQ⟩ := hQ
    refine ev_fS ms_L_pick 2 [ev_x 0 k2, ev_i (31 + (2 * u4)), ev_i 5] [] dL_begins_505 kw_936 rfl (by decide) (Nat.le_of_ble_eq_true rfl) (sp_L_pick k2 (31 + (2 * u4)) 5 h1 h4 h5) ?_ rfl
    refine ev_istore dL_begins_508 (Nat.le_of_ble_eq_true rfl) (ev_hw rfl) ?_
    show ev_E g m_L_begins 9 (B + 707) 510 [some (ev_o 9 b0), some (ev_o 11 b1), some (ev_x 0 k2), some (ev_o 12 w3), some (ev_i u4), some (ev_i (ev_rem ((f_L_cell g k2 (30 + (2 * u4))) &&& 65535) (S.1 b1 3))), some (ev_i (ev_rem ((f_L_cell g k2 (31 + (2 * u4))) &&& 65535) 5))] [] S Q
    refine ev_aload_n (ev_o 11 b1) dL_begins_510 rfl rfl ?_
    refine gn_11_14 dL_begins_511 (List.mem_of_getElem? (i := 34) rfl) ?_
    refine ev_bipush (12) dL_begins_514 (by decide) ?_
    refine ev_iload ((ev_rem ((f_L_cell g k2 (30 + (2 * u4))) &&& 65535) (S.1 b1 3))) dL_begins_516 rfl ?_
    refine ev_imul dL_begins_518 ?_
    refine ev_iload ((ev_rem ((f_L_cell g k2 (31 + (2 * u4))) &&& 65535) 5)) dL_begins_519 rfl ?_
    refine ev_iadd dL_begins_521 ?_
    refine ev_aload_n (ev_x 0 k2) dL_begins_522 rfl rfl ?_
    refine ev_bipush (31) dL_begins_523 (by decide) ?_
    refine ev_iconst (2) dL_begins_525 rfl ?_
    refine ev_iload (u4) dL_begins_526 rfl ?_
    refine ev_imul dL_begins_528 ?_
    refine ev_iadd dL_begins_529 ?_
    refine ev_bipush (10) dL_begins_530 (by decide) ?_
    obtain ⟨h6, hQ⟩ := hQ
    refine ev_fS ms_L_pick 2 [ev_x 0 k2, ev_i (31 + (2 * u4)), ev_i 10] [ev_i ((12 * (ev_rem ((f_L_cell g k2 (30 + (2 * u4))) &&& 65535) (S.1 b1 3))) + (ev_rem ((f_L_cell g k2 (31 + (2 * u4))) &&& 65535) 5)), ev_y 48 (b1 + 18)] dL_begins_532 kw_936 rfl (by decide) (Nat.le_of_ble_eq_true rfl) (sp_L_pick k2 (31 + (2 * u4)) 10 h1 h4 h6) ?_ rfl
    obtain ⟨h7, hQ⟩ := hQ
    refine ev_iastore dL_begins_535 h7 ?_
    refine ev_sub hQ (fun S4 hS4 hQ => ?_)
    refine ev_E.goal (pc' := 536) (L' := [some (ev_o 9 b0), some (ev_o 11 b1), some (ev_x 0 k2), some (ev_o 12 w3), some (ev_i u4), some (ev_i (ev_rem ((f_L_cell g k2 (30 + (2 * u4))) &&& 65535) (S.1 b1 3))), some (ev_i (ev_rem ((f_L_cell g k2 (31 + (2 * u4))) &&& 65535) 5))]) (K' := []) (S' := S4) ?_ rfl rfl rfl hS4
    refine ev_aload_n (ev_o 12 w3) dL_begins_536 rfl rfl ?_
    refine ev_ldcw "snow " 13 dL_begins_537 (List.mem_of_getElem? (i := 13) rfl) (by decide) ?_
    refine ev_cV mv_J4_append_15ec4 5 101 12 [ev_x 1 13] [] dL_begins_540 kw_1831 rfl (by decide) rfl (by decide) (by omega) (Nat.le_of_ble_eq_true rfl) hQ ?_ rfl
    rintro o S5 ⟨v4_, rfl, hQ⟩
    rw [show (B + 707 - 101 : Nat) = B + 606 from by omega]
    show ev_E g m_L_begins 9 (B + 606) 543 [some (ev_o 9 b0), some (ev_o 11 b1), some (ev_x 0 k2), some (ev_o 12 w3), some (ev_i u4), some (ev_i (ev_rem ((f_L_cell g k2 (30 + (2 * u4))) &&& 65535) (S.1 b1 3))), some (ev_i (ev_rem ((f_L_cell g k2 (31 + (2 * u4))) &&& 65535) 5))] [ev_o 12 v4_] S5 Q
    refine ev_iload ((ev_rem ((f_L_cell g k2 (30 + (2 * u4))) &&& 65535) (S.1 b1 3))) dL_begins_543 rfl ?_
    refine ev_cV mv_J4_append_bf812 5 101 12 [ev_i (ev_rem ((f_L_cell g k2 (30 + (2 * u4))) &&& 65535) (S.1 b1 3))] [] dL_begins_545 kw_1792 rfl (by decide) rfl (by decide) (by omega) (Nat.le_of_ble_eq_true rfl) hQ ?_ rfl
    rintro o S6 ⟨v5_, rfl, hQ⟩
    rw [show (B + 606 - 101 : Nat) = B + 505 from by omega]
    show ev_E g m_L_begins 9 (B + 505) 548 [some (ev_o 9 b0), some (ev_o 11 b1), some (ev_x 0 k2), some (ev_o 12 w3), some (ev_i u4), some (ev_i (ev_rem ((f_L_cell g k2 (30 + (2 * u4))) &&& 65535) (S.1 b1 3))), some (ev_i (ev_rem ((f_L_cell g k2 (31 + (2 * u4))) &&& 65535) 5))] [ev_o 12 v5_] S6 Q
    refine ev_bipush (32) dL_begins_548 (by decide) ?_
    refine ev_cV mv_J4_append_cf468 5 101 12 [ev_i 32] [] dL_begins_550 kw_1817 rfl (by decide) rfl (by decide) (by omega) (Nat.le_of_ble_eq_true rfl) hQ ?_ rfl
    rintro o S7 ⟨v6_, rfl, hQ⟩
    rw [show (B + 505 - 101 : Nat) = B + 404 from by omega]
    show ev_E g m_L_begins 9 (B + 404) 553 [some (ev_o 9 b0), some (ev_o 11 b1), some (ev_x 0 k2), some (ev_o 12 w3), some (ev_i u4), some (ev_i (ev_rem ((f_L_cell g k2 (30 + (2 * u4))) &&& 65535) (S.1 b1 3))), some (ev_i (ev_rem ((f_L_cell g k2 (31 + (2 * u4))) &&& 65535) 5))] [ev_o 12 v6_] S7 Q
    refine ev_iload ((ev_rem ((f_L_cell g k2 (31 + (2 * u4))) &&& 65535) 5)) dL_begins_553 rfl ?_
    refine ev_cV mv_J4_append_bf812 5 101 12 [ev_i (ev_rem ((f_L_cell g k2 (31 + (2 * u4))) &&& 65535) 5)] [] dL_begins_555 kw_1792 rfl (by decide) rfl (by decide) (by omega) (Nat.le_of_ble_eq_true rfl) hQ ?_ rfl
    rintro o S8 ⟨v7_, rfl, hQ⟩
    rw [show (B + 404 - 101 : Nat) = B + 303 from by omega]
    show ev_E g m_L_begins 9 (B + 303) 558 [some (ev_o 9 b0), some (ev_o 11 b1), some (ev_x 0 k2), some (ev_o 12 w3), some (ev_i u4), some (ev_i (ev_rem ((f_L_cell g k2 (30 + (2 * u4))) &&& 65535) (S.1 b1 3))), some (ev_i (ev_rem ((f_L_cell g k2 (31 + (2 * u4))) &&& 65535) 5))] [ev_o 12 v7_] S8 Q
    refine ev_bipush (32) dL_begins_558 (by decide) ?_
    refine ev_cV mv_J4_append_cf468 5 101 12 [ev_i 32] [] dL_begins_560 kw_1817 rfl (by decide) rfl (by decide) (by omega) (Nat.le_of_ble_eq_true rfl) hQ ?_ rfl
    rintro o S9 ⟨v8_, rfl, hQ⟩
    rw [show (B + 303 - 101 : Nat) = B + 202 from by omega]
    show ev_E g m_L_begins 9 (B + 202) 563 [some (ev_o 9 b0), some (ev_o 11 b1), some (ev_x 0 k2), some (ev_o 12 w3), some (ev_i u4), some (ev_i (ev_rem ((f_L_cell g k2 (30 + (2 * u4))) &&& 65535) (S.1 b1 3))), some (ev_i (ev_rem ((f_L_cell g k2 (31 + (2 * u4))) &&& 65535) 5))] [ev_o 12 v8_] S9 Q
    refine ev_aload_n (ev_o 11 b1) dL_begins_563 rfl rfl ?_
    refine gn_11_14 dL_begins_564 (List.mem_of_getElem? (i := 34) rfl) ?_
    refine ev_bipush (12) dL_begins_567 (by decide) ?_
    refine ev_iload ((ev_rem ((f_L_cell g k2 (30 + (2 * u4))) &&& 65535) (S.1 b1 3))) dL_begins_569 rfl ?_
    refine ev_imul dL_begins_571 ?_
    refine ev_iload ((ev_rem ((f_L_cell g k2 (31 + (2 * u4))) &&& 65535) 5)) dL_begins_572 rfl ?_
    refine ev_iadd dL_begins_574 ?_
    refine ev_iaload dL_begins_575 h7 ?_
    refine ev_cV mv_J4_append_bf812 5 101 12 [ev_i (S9.1 (b1 + 18) ((12 * (ev_rem ((f_L_cell g k2 (30 + (2 * u4))) &&& 65535) (S.1 b1 3))) + (ev_rem ((f_L_cell g k2 (31 + (2 * u4))) &&& 65535) 5)).toNatClampNeg)] [] dL_begins_576 kw_1792 rfl (by decide) rfl (by decide) (by omega) (Nat.le_of_ble_eq_true rfl) hQ ?_ rfl
    rintro o S10 ⟨v9_, rfl, hQ⟩
    rw [show (B + 202 - 101 : Nat) = B + 101 from by omega]
    show ev_E g m_L_begins 9 (B + 101) 579 [some (ev_o 9 b0), some (ev_o 11 b1), some (ev_x 0 k2), some (ev_o 12 w3), some (ev_i u4), some (ev_i (ev_rem ((f_L_cell g k2 (30 + (2 * u4))) &&& 65535) (S.1 b1 3))), some (ev_i (ev_rem ((f_L_cell g k2 (31 + (2 * u4))) &&& 65535) 5))] [ev_o 12 v9_] S10 Q
    refine ev_bipush (59) dL_begins_579 (by decide) ?_
    refine ev_cV mv_J4_append_cf468 5 101 12 [ev_i 59] [] dL_begins_581 kw_1817 rfl (by decide) rfl (by decide) (by omega) (Nat.le_of_ble_eq_true rfl) hQ ?_ rfl
    rintro o S11 ⟨v10_, rfl, hQ⟩
    rw [show (B + 101 - 101 : Nat) = B from by omega]
    show ev_E g m_L_begins 9 B 584 [some (ev_o 9 b0), some (ev_o 11 b1), some (ev_x 0 k2), some (ev_o 12 w3), some (ev_i u4), some (ev_i (ev_rem ((f_L_cell g k2 (30 + (2 * u4))) &&& 65535) (S.1 b1 3))), some (ev_i (ev_rem ((f_L_cell g k2 (31 + (2 * u4))) &&& 65535) 5))] [ev_o 12 v10_] S11 Q
    refine ev_pop dL_begins_584 rfl ?_
    refine ev_iinc u4 (-1) dL_begins_585 rfl (by decide) (ev_hw rfl) ?_
    show ev_E g m_L_begins 9 B 588 [some (ev_o 9 b0), some (ev_o 11 b1), some (ev_x 0 k2), some (ev_o 12 w3), some (ev_i (u4 + (-1))), some (ev_i (ev_rem ((f_L_cell g k2 (30 + (2 * u4))) &&& 65535) (S.1 b1 3))), some (ev_i (ev_rem ((f_L_cell g k2 (31 + (2 * u4))) &&& 65535) 5))] [] S11 Q
    refine ev_goto 474 dL_begins_588 (by decide) ?_
    refine ev_fgm [true, true, true, true, true, false, false] ?_
    exact hQ
