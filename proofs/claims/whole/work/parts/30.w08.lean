set_option maxHeartbeats 4000000 in
set_option maxRecDepth 100000 in
theorem sg_X10_readsSetup_0 {g : ev_G} {S : ev_S} {Q : ev_O → ev_S → Prop} (a : Nat) (hQ : ev_Cv g m_X10_isWord 5 0 [ev_o 10 a, ev_x 1 28] S (fun o S1 => ∃ v1_ : Bool, o = .inl (some (ev_i (if v1_ = true then 1 else 0))) ∧ (
    (v1_ = true → (
      ev_Cv g m_X10_must 1 0 [ev_o 10 a, ev_i 1, ev_i 1] S1 (fun o S2 => ∃ v2_ : Bool, o = .inl (some (ev_i (if v2_ = true then 1 else 0))) ∧ (
        ev_Cv g m_X10_passes 3 0 [ev_o 10 a] S2 (fun o S3 => o = .inl none ∧ (
          ev_Cv g m_X10_number 4 0 [ev_o 10 a, ev_i 4, ev_i 8] S3 (fun o S4 => ∃ v4_ : Int32, o = .inl (some (ev_i v4_)) ∧ (
            ∀ S5 : ev_S, S5 = (ev_up S4 (a + 1) 0 v4_) → (
              ev_Cv g m_X10_number 4 0 [ev_o 10 a, ev_i 1, ev_i 60] S5 (fun o S6 => ∃ v5_ : Int32, o = .inl (some (ev_i v5_)) ∧ (
                ∀ S7 : ev_S, S7 = (ev_up S6 (a + 1) 1 v5_) → (
                  ev_Cv g m_X10_takesSign 4 0 [ev_o 10 a, ev_i 59] S7 (fun o S8 => o = .inl none ∧ (
                    ((S8.1 a 17) = 0 → (
                      ev_E g m_X10_readsSetup 7 0 57 [some (ev_o 10 a)] [] S8 Q)) ∧
                    (¬ ((S8.1 a 17) = 0) → (
                      Q (.inl none) S8)))))))))))))))) ∧
    (¬ (v1_ = true) → (
      ev_Cv g m_X10_must 1 0 [ev_o 10 a, ev_i 0, ev_i 1] S1 (fun o S9 => ∃ v7_ : Bool, o = .inl (some (ev_i (if v7_ = true then 1 else 0))) ∧ (
        ev_Cv g m_X10_passes 3 0 [ev_o 10 a] S9 (fun o S10 => o = .inl none ∧ (
          ev_Cv g m_X10_number 4 0 [ev_o 10 a, ev_i 4, ev_i 8] S10 (fun o S11 => ∃ v9_ : Int32, o = .inl (some (ev_i v9_)) ∧ (
            ∀ S12 : ev_S, S12 = (ev_up S11 (a + 1) 0 v9_) → (
              ev_Cv g m_X10_number 4 0 [ev_o 10 a, ev_i 1, ev_i 60] S12 (fun o S13 => ∃ v10_ : Int32, o = .inl (some (ev_i v10_)) ∧ (
                ∀ S14 : ev_S, S14 = (ev_up S13 (a + 1) 1 v10_) → (
                  ev_Cv g m_X10_takesSign 4 0 [ev_o 10 a, ev_i 59] S14 (fun o S15 => o = .inl none ∧ (
                    ((S15.1 a 17) = 0 → (
                      ev_E g m_X10_readsSetup 7 0 57 [some (ev_o 10 a)] [] S15 Q)) ∧
                    (¬ ((S15.1 a 17) = 0) → (
                      Q (.inl none) S15))))))))))))))))))) : ev_Cv g m_X10_readsSetup 7 0 [ev_o 10 a] S Q := by
  refine ev_enter (by decide) rfl rfl (Nat.le_of_ble_eq_true rfl) ?_
  show ev_E g m_X10_readsSetup 7 0 0 [some (ev_o 10 a)] [] S Q
  refine ev_aload_n (ev_o 10 a) dX10_readsSetup_0 rfl rfl ?_
  refine ev_aload_n (ev_o 10 a) dX10_readsSetup_1 rfl rfl ?_
  refine ev_ldcw "game" 28 dX10_readsSetup_2 (List.mem_of_getElem? (i := 28) rfl) (by decide) ?_
  refine ev_cV mv_X10_isWord 5 0 10 [ev_x 1 28] [ev_o 10 a] dX10_readsSetup_5 kw_1790 rfl (by decide) rfl (by decide) (by decide) (Nat.le_of_ble_eq_true rfl) hQ ?_ rfl
  rintro o S1 ⟨v1_, rfl, hQ⟩
  show ev_E g m_X10_readsSetup 7 0 8 [some (ev_o 10 a)] [ev_i (if v1_ = true then 1 else 0), ev_o 10 a] S1 Q
  by_cases c1 : v1_ = true
  · rw [if_pos c1]
    replace hQ := hQ.1 c1
    refine ev_iconst (1) dX10_readsSetup_8 rfl ?_
    refine ev_cV mv_X10_must 1 0 10 [ev_i 1, ev_i 1] [] dX10_readsSetup_9 kw_1794 rfl (by decide) rfl (by decide) (by decide) (Nat.le_of_ble_eq_true rfl) hQ ?_ rfl
    rintro o S2 ⟨v2_, rfl, hQ⟩
    show ev_E g m_X10_readsSetup 7 0 12 [some (ev_o 10 a)] [ev_i (if v2_ = true then 1 else 0)] S2 Q
    refine ev_pop dX10_readsSetup_12 rfl ?_
    refine ev_aload_n (ev_o 10 a) dX10_readsSetup_13 rfl rfl ?_
    refine ev_cV mv_X10_passes 3 0 10 [] [] dX10_readsSetup_14 kw_1798 rfl (by decide) rfl (by decide) (by decide) (Nat.le_of_ble_eq_true rfl) hQ ?_ rfl
    rintro o S3 ⟨rfl, hQ⟩
    show ev_E g m_X10_readsSetup 7 0 17 [some (ev_o 10 a)] [] S3 Q
    refine ev_aload_n (ev_o 10 a) dX10_readsSetup_17 rfl rfl ?_
    refine gf_10_0 dX10_readsSetup_18 kw_1853 ?_
    refine ev_iconst (0) dX10_readsSetup_21 rfl ?_
    refine ev_aload_n (ev_o 10 a) dX10_readsSetup_22 rfl rfl ?_
    refine ev_iconst (4) dX10_readsSetup_23 rfl ?_
    refine ev_bipush (8) dX10_readsSetup_24 (by decide) ?_
    refine ev_cV mv_X10_number 4 0 10 [ev_i 4, ev_i 8] [ev_i 0, ev_y 2091 (a + 1)] dX10_readsSetup_26 kw_1802 rfl (by decide) rfl (by decide) (by decide) (Nat.le_of_ble_eq_true rfl) hQ ?_ rfl
    rintro o S4 ⟨v4_, rfl, hQ⟩
    show ev_E g m_X10_readsSetup 7 0 29 [some (ev_o 10 a)] [ev_i v4_, ev_i 0, ev_y 2091 (a + 1)] S4 Q
    refine ev_iastore dX10_readsSetup_29 (j_vin (by decide)) ?_
    refine ev_sub hQ (fun S5 hS5 hQ => ?_)
    refine ev_E.goal (pc' := 30) (L' := [some (ev_o 10 a)]) (K' := []) (S' := S5) ?_ rfl rfl rfl hS5
    refine ev_aload_n (ev_o 10 a) dX10_readsSetup_30 rfl rfl ?_
    refine gf_10_0 dX10_readsSetup_31 kw_1853 ?_
    refine ev_iconst (1) dX10_readsSetup_34 rfl ?_
    refine ev_aload_n (ev_o 10 a) dX10_readsSetup_35 rfl rfl ?_
    refine ev_iconst (1) dX10_readsSetup_36 rfl ?_
    refine ev_bipush (60) dX10_readsSetup_37 (by decide) ?_
    refine ev_cV mv_X10_number 4 0 10 [ev_i 1, ev_i 60] [ev_i 1, ev_y 2091 (a + 1)] dX10_readsSetup_39 kw_1802 rfl (by decide) rfl (by decide) (by decide) (Nat.le_of_ble_eq_true rfl) hQ ?_ rfl
    rintro o S6 ⟨v5_, rfl, hQ⟩
    show ev_E g m_X10_readsSetup 7 0 42 [some (ev_o 10 a)] [ev_i v5_, ev_i 1, ev_y 2091 (a + 1)] S6 Q
    refine ev_iastore dX10_readsSetup_42 (j_vin (by decide)) ?_
    refine ev_sub hQ (fun S7 hS7 hQ => ?_)
    refine ev_E.goal (pc' := 43) (L' := [some (ev_o 10 a)]) (K' := []) (S' := S7) ?_ rfl rfl rfl hS7
    refine ev_aload_n (ev_o 10 a) dX10_readsSetup_43 rfl rfl ?_
    refine ev_bipush (59) dX10_readsSetup_44 (by decide) ?_
    refine ev_cV mv_X10_takesSign 4 0 10 [ev_i 59] [] dX10_readsSetup_46 kw_1810 rfl (by decide) rfl (by decide) (by decide) (Nat.le_of_ble_eq_true rfl) hQ ?_ rfl
    rintro o S8 ⟨rfl, hQ⟩
    show ev_E g m_X10_readsSetup 7 0 49 [some (ev_o 10 a)] [] S8 Q
    refine ev_aload_n (ev_o 10 a) dX10_readsSetup_49 rfl rfl ?_
    refine gf_10_17 dX10_readsSetup_50 kw_1870 ?_
    refine ev_if_eq 57 dX10_readsSetup_53 (by decide) (fun c2 => ?_) (fun c2 => ?_)
    · replace hQ := hQ.1 c2
      exact hQ
    · replace hQ := hQ.2 c2
      exact ev_return dX10_readsSetup_56 rfl hQ
  · rw [if_neg c1]
    replace hQ := hQ.2 c1
    refine ev_iconst (1) dX10_readsSetup_8 rfl ?_
    refine ev_cV mv_X10_must 1 0 10 [ev_i 0, ev_i 1] [] dX10_readsSetup_9 kw_1794 rfl (by decide) rfl (by decide) (by decide) (Nat.le_of_ble_eq_true rfl) hQ ?_ rfl
    rintro o S9 ⟨v7_, rfl, hQ⟩
    show ev_E g m_X10_readsSetup 7 0 12 [some (ev_o 10 a)] [ev_i (if v7_ = true then 1 else 0)] S9 Q
    refine ev_pop dX10_readsSetup_12 rfl ?_
    refine ev_aload_n (ev_o 10 a) dX10_readsSetup_13 rfl rfl ?_
    refine ev_cV mv_X10_passes 3 0 10 [] [] dX10_readsSetup_14 kw_1798 rfl (by decide) rfl (by decide) (by decide) (Nat.le_of_ble_eq_true rfl) hQ ?_ rfl
    rintro o S10 ⟨rfl, hQ⟩
    show ev_E g m_X10_readsSetup 7 0 17 [some (ev_o 10 a)] [] S10 Q
    refine ev_aload_n (ev_o 10 a) dX10_readsSetup_17 rfl rfl ?_
    refine gf_10_0 dX10_readsSetup_18 kw_1853 ?_
    refine ev_iconst (0) dX10_readsSetup_21 rfl ?_
    refine ev_aload_n (ev_o 10 a) dX10_readsSetup_22 rfl rfl ?_
    refine ev_iconst (4) dX10_readsSetup_23 rfl ?_
    refine ev_bipush (8) dX10_readsSetup_24 (by decide) ?_
    refine ev_cV mv_X10_number 4 0 10 [ev_i 4, ev_i 8] [ev_i 0, ev_y 2091 (a + 1)] dX10_readsSetup_26 kw_1802 rfl (by decide) rfl (by decide) (by decide) (Nat.le_of_ble_eq_true rfl) hQ ?_ rfl
    rintro o S11 ⟨v9_, rfl, hQ⟩
    show ev_E g m_X10_readsSetup 7 0 29 [some (ev_o 10 a)] [ev_i v9_, ev_i 0, ev_y 2091 (a + 1)] S11 Q
    refine ev_iastore dX10_readsSetup_29 (j_vin (by decide)) ?_
    refine ev_sub hQ (fun S12 hS12 hQ => ?_)
    refine ev_E.goal (pc' := 30) (L' := [some (ev_o 10 a)]) (K' := []) (S' := S12) ?_ rfl rfl rfl hS12
    refine ev_aload_n (ev_o 10 a) dX10_readsSetup_30 rfl rfl ?_
    refine gf_10_0 dX10_readsSetup_31 kw_1853 ?_
    refine ev_iconst (1) dX10_readsSetup_34 rfl ?_
    refine ev_aload_n (ev_o 10 a) dX10_readsSetup_35 rfl rfl ?_
    refine ev_iconst (1) dX10_readsSetup_36 rfl ?_
    refine ev_bipush (60) dX10_readsSetup_37 (by decide) ?_
    refine ev_cV mv_X10_number 4 0 10 [ev_i 1, ev_i 60] [ev_i 1, ev_y 2091 (a + 1)] dX10_readsSetup_39 kw_1802 rfl (by decide) rfl (by decide) (by decide) (Nat.le_of_ble_eq_true rfl) hQ ?_ rfl
    rintro o S13 ⟨v10_, rfl, hQ⟩
    show ev_E g m_X10_readsSetup 7 0 42 [some (ev_o 10 a)] [ev_i v10_, ev_i 1, ev_y 2091 (a + 1)] S13 Q
    refine ev_iastore dX10_readsSetup_42 (j_vin (by decide)) ?_
    refine ev_sub hQ (fun S14 hS14 hQ => ?_)
    refine ev_E.goal (pc' := 43) (L' := [some (ev_o 10 a)]) (K' := []) (S' := S14) ?_ rfl rfl rfl hS14
    refine ev_aload_n (ev_o 10 a) dX10_readsSetup_43 rfl rfl ?_
    refine ev_bipush (59) dX10_readsSetup_44 (by decide) ?_
    refine ev_cV mv_X10_takesSign 4 0 10 [ev_i 59] [] dX10_readsSetup_46 kw_1810 rfl (by decide) rfl (by decide) (by decide) (Nat.le_of_ble_eq_true rfl) hQ ?_ rfl
    rintro o S15 ⟨rfl, hQ⟩
    show ev_E g m_X10_readsSetup 7 0 49 [some (ev_o 10 a)] [] S15 Q
    refine ev_aload_n (ev_o 10 a) dX10_readsSetup_49 rfl rfl ?_
    refine gf_10_17 dX10_readsSetup_50 kw_1870 ?_
    refine ev_if_eq 57 dX10_readsSetup_53 (by decide) (fun c3 => ?_) (fun c3 => ?_)
    · replace hQ := hQ.1 c3
      exact hQ
    · replace hQ := hQ.2 c3
      exact ev_return dX10_readsSetup_56 rfl hQ
set_option maxHeartbeats 4000000 in
set_option maxRecDepth 100000 in
theorem sg_X10_readsSetup_57 {g : ev_G} {S : ev_S} {Q : ev_O → ev_S → Prop} (a : Nat) (hQ : ev_Cv g m_X10_isWord 5 0 [ev_o 10 a, ev_x 1 29] S (fun o S1 => ∃ v1_ : Bool, o = .inl (some (ev_i (if v1_ = true then 1 else 0))) ∧ (
    (v1_ = true → (
      ev_Cv g m_X10_readsBishop 5 0 [ev_o 10 a] S1 (fun o S2 => o = .inl none ∧ (
        ev_E g m_X10_readsSetup 7 0 57 [some (ev_o 10 a)] [] S2 Q)))) ∧
    (¬ (v1_ = true) → (
      ev_Cv g m_X10_readsPass 6 0 [ev_o 10 a] S1 (fun o S3 => o = .inl none ∧ (
        ev_E g m_X10_readsSetup 7 0 78 [some (ev_o 10 a)] [] S3 Q))))))) : ev_E g m_X10_readsSetup 7 0 57 [some (ev_o 10 a)] [] S Q := by
  refine ev_aload_n (ev_o 10 a) dX10_readsSetup_57 rfl rfl ?_
  refine ev_ldcw "bishop" 29 dX10_readsSetup_58 (List.mem_of_getElem? (i := 29) rfl) (by decide) ?_
  refine ev_cV mv_X10_isWord 5 0 10 [ev_x 1 29] [] dX10_readsSetup_61 kw_1790 rfl (by decide) rfl (by decide) (by decide) (Nat.le_of_ble_eq_true rfl) hQ ?_ rfl
  rintro o S1 ⟨v1_, rfl, hQ⟩
  show ev_E g m_X10_readsSetup 7 0 64 [some (ev_o 10 a)] [ev_i (if v1_ = true then 1 else 0)] S1 Q
  by_cases c1 : v1_ = true
  · rw [if_pos c1]
    replace hQ := hQ.1 c1
    refine ev_if_eq 74 dX10_readsSetup_64 (by decide) (fun h9 => absurd h9 (by decide : ¬ ((1 : Int32) = 0))) (fun _ => ?_)
    refine ev_aload_n (ev_o 10 a) dX10_readsSetup_67 rfl rfl ?_
    refine ev_cV mv_X10_readsBishop 5 0 10 [] [] dX10_readsSetup_68 kw_1819 rfl (by decide) rfl (by decide) (by decide) (Nat.le_of_ble_eq_true rfl) hQ ?_ rfl
    rintro o S2 ⟨rfl, hQ⟩
    show ev_E g m_X10_readsSetup 7 0 71 [some (ev_o 10 a)] [] S2 Q
    refine ev_goto 57 dX10_readsSetup_71 (by decide) ?_
    exact hQ
  · rw [if_neg c1]
    replace hQ := hQ.2 c1
    refine ev_if_eq 74 dX10_readsSetup_64 (by decide) (fun _ => ?_) (fun h9 => absurd (by decide : ((0 : Int32) = 0)) h9)
    refine ev_aload_n (ev_o 10 a) dX10_readsSetup_74 rfl rfl ?_
    refine ev_cV mv_X10_readsPass 6 0 10 [] [] dX10_readsSetup_75 kw_1839 rfl (by decide) rfl (by decide) (by decide) (Nat.le_of_ble_eq_true rfl) hQ ?_ rfl
    rintro o S3 ⟨rfl, hQ⟩
    show ev_E g m_X10_readsSetup 7 0 78 [some (ev_o 10 a)] [] S3 Q
    exact hQ
set_option maxHeartbeats 4000000 in
set_option maxRecDepth 100000 in
theorem sg_X10_readsSetup_78 {g : ev_G} {S : ev_S} {Q : ev_O → ev_S → Prop} (a : Nat) (hQ : ev_Cv g m_X10_isWord 5 0 [ev_o 10 a, ev_x 1 30] S (fun o S1 => ∃ v1_ : Bool, o = .inl (some (ev_i (if v1_ = true then 1 else 0))) ∧ (
    (v1_ = true → (
      ev_Cv g m_X10_readsPass 6 0 [ev_o 10 a] S1 (fun o S2 => o = .inl none ∧ (
        ev_E g m_X10_readsSetup 7 0 78 [some (ev_o 10 a)] [] S2 Q)))) ∧
    (¬ (v1_ = true) → (
      ev_E g m_X10_readsSetup 7 0 94 [some (ev_o 10 a)] [] S1 Q))))) : ev_E g m_X10_readsSetup 7 0 78 [some (ev_o 10 a)] [] S Q := by
  refine ev_aload_n (ev_o 10 a) dX10_readsSetup_78 rfl rfl ?_
  refine ev_ldc "pass" 30 dX10_readsSetup_79 (List.mem_of_getElem? (i := 30) rfl) (by decide) ?_
  refine ev_cV mv_X10_isWord 5 0 10 [ev_x 1 30] [] dX10_readsSetup_81 kw_1790 rfl (by decide) rfl (by decide) (by decide) (Nat.le_of_ble_eq_true rfl) hQ ?_ rfl
  rintro o S1 ⟨v1_, rfl, hQ⟩
  show ev_E g m_X10_readsSetup 7 0 84 [some (ev_o 10 a)] [ev_i (if v1_ = true then 1 else 0)] S1 Q
  by_cases c1 : v1_ = true
  · rw [if_pos c1]
    replace hQ := hQ.1 c1
    refine ev_if_eq 94 dX10_readsSetup_84 (by decide) (fun h9 => absurd h9 (by decide : ¬ ((1 : Int32) = 0))) (fun _ => ?_)
    refine ev_aload_n (ev_o 10 a) dX10_readsSetup_87 rfl rfl ?_
    refine ev_cV mv_X10_readsPass 6 0 10 [] [] dX10_readsSetup_88 kw_1839 rfl (by decide) rfl (by decide) (by decide) (Nat.le_of_ble_eq_true rfl) hQ ?_ rfl
    rintro o S2 ⟨rfl, hQ⟩
    show ev_E g m_X10_readsSetup 7 0 91 [some (ev_o 10 a)] [] S2 Q
    refine ev_goto 78 dX10_readsSetup_91 (by decide) ?_
    exact hQ
  · rw [if_neg c1]
    replace hQ := hQ.2 c1
    refine ev_if_eq 94 dX10_readsSetup_84 (by decide) (fun _ => ?_) (fun h9 => absurd (by decide : ((0 : Int32) = 0)) h9)
    exact hQ
set_option maxHeartbeats 4000000 in
set_option maxRecDepth 100000 in
theorem sg_X10_readsSetup_94 {g : ev_G} {S : ev_S} {Q : ev_O → ev_S → Prop} (a : Nat) (hQ : ((S.1 a 17) = 0 → (
    ((S.1 a 15) = 0 → (
      Q (.inl none) S)) ∧
    (¬ ((S.1 a 15) = 0) → (
      ev_Cv g m_X10_readsSnow 6 0 [ev_o 10 a] S (fun o S1 => o = .inl none ∧ (
        ev_E g m_X10_readsSetup 7 0 94 [some (ev_o 10 a)] [] S1 Q)))))) ∧
  (¬ ((S.1 a 17) = 0) → (
    Q (.inl none) S))) : ev_E g m_X10_readsSetup 7 0 94 [some (ev_o 10 a)] [] S Q := by
  refine ev_aload_n (ev_o 10 a) dX10_readsSetup_94 rfl rfl ?_
  refine gf_10_17 dX10_readsSetup_95 kw_1870 ?_
  refine ev_if_ne 115 dX10_readsSetup_98 (by decide) (fun c1 => ?_) (fun c1 => ?_)
  · replace hQ := hQ.2 c1
    exact ev_return dX10_readsSetup_115 rfl hQ
  · replace hQ := hQ.1 c1
    refine ev_aload_n (ev_o 10 a) dX10_readsSetup_101 rfl rfl ?_
    refine gf_10_15 dX10_readsSetup_102 kw_1868 ?_
    refine ev_if_eq 115 dX10_readsSetup_105 (by decide) (fun c2 => ?_) (fun c2 => ?_)
    · replace hQ := hQ.1 c2
      exact ev_return dX10_readsSetup_115 rfl hQ
    · replace hQ := hQ.2 c2
      refine ev_aload_n (ev_o 10 a) dX10_readsSetup_108 rfl rfl ?_
      refine ev_cV mv_X10_readsSnow 6 0 10 [] [] dX10_readsSetup_109 kw_1848 rfl (by decide) rfl (by decide) (by decide) (Nat.le_of_ble_eq_true rfl) hQ ?_ rfl
      rintro o S1 ⟨rfl, hQ⟩
      show ev_E g m_X10_readsSetup 7 0 112 [some (ev_o 10 a)] [] S1 Q
      refine ev_goto 94 dX10_readsSetup_112 (by decide) ?_
      exact hQ
set_option maxHeartbeats 4000000 in
set_option maxRecDepth 100000 in
theorem sg_X10_takesText_0 {g : ev_G} {S : ev_S} {Q : ev_O → ev_S → Prop} (a : Nat) (k0 : Nat) (hQ : ev_E g m_X10_takesText 8 0 2 [some (ev_o 10 a), some (ev_x 1 k0), some (ev_i 0)] [] S Q) : ev_Cv g m_X10_takesText 8 0 [ev_o 10 a, ev_x 1 k0] S Q := by
  refine ev_enter (by decide) rfl rfl (Nat.le_of_ble_eq_true rfl) ?_
  show ev_E g m_X10_takesText 8 0 0 [some (ev_o 10 a), some (ev_x 1 k0), none] [] S Q
  refine ev_iconst (0) dX10_takesText_0 rfl ?_
  refine ev_istore_n dX10_takesText_1 (Nat.le_of_ble_eq_true rfl) (ev_hw rfl) ?_
  show ev_E g m_X10_takesText 8 0 2 [some (ev_o 10 a), some (ev_x 1 k0), some (ev_i 0)] [] S Q
  exact hQ
set_option maxHeartbeats 4000000 in
set_option maxRecDepth 100000 in
theorem sg_X10_takesText_2 {g : ev_G} {S : ev_S} {Q : ev_O → ev_S → Prop} (a : Nat) (k0 : Nat) (u2 : Int32) (hQ : ((j_ishr (Int32.ofNat (ev_le.getD k0 0)) 0) ≤ u2 → (
    ∀ S1 : ev_S, S1 = (ev_up S a 10 (j_ishr (Int32.ofNat (ev_le.getD k0 0)) 0)) → (
      ev_Cv g m_X10_begins 2 0 [ev_o 10 a] S1 (fun o S2 => o = .inl none ∧ (
        ev_Cv g m_X10_starts 3 0 [ev_o 10 a] S2 (fun o S3 => o = .inl none ∧ (
          ev_Cv g m_X10_readsSetup 7 0 [ev_o 10 a] S3 (fun o S4 => o = .inl none ∧ (
            ∀ S5 : ev_S, S5 = (ev_up S4 a 10 0) → (
              Q (.inl none) S5)))))))))) ∧
  (¬ ((j_ishr (Int32.ofNat (ev_le.getD k0 0)) 0) ≤ u2) → (
    ((u2 < 0) → False) ∧ (
      (¬ (u2 < 0) → ¬ (u2 < (Int32.ofNat (ev_le.getD k0 0))) → False) ∧ (
        (vp_in u2 (ev_le.getD k0 0)) ∧ (
          (narrow .char (.int (j_i2c ((j_byte k0 u2) &&& 255))) = .int (j_i2c ((j_byte k0 u2) &&& 255))) ∧ (
            (vp_in u2 800) ∧ (
              ∀ S6 : ev_S, S6 = (ev_up S (a + 7) u2.toNatClampNeg (j_i2c ((j_byte k0 u2) &&& 255))) → (
                ev_E g m_X10_takesText 8 0 2 [some (ev_o 10 a), some (ev_x 1 k0), some (ev_i (u2 + 1))] [] S6 Q))))))))) : ev_E g m_X10_takesText 8 0 2 [some (ev_o 10 a), some (ev_x 1 k0), some (ev_i u2)] [] S Q := by
  refine ev_iload_n (u2) dX10_takesText_2 rfl ?_
  refine ev_aload_n (ev_x 1 k0) dX10_takesText_3 rfl rfl ?_
  refine ev_fK mv_J0_length_8abf5 2 [] [ev_i u2] dX10_takesText_4 kw_1759 rfl (by decide) (Nat.le_of_ble_eq_true rfl) (sp_J0_length_8abf5 k0) ?_ rfl
  refine ev_icmp_ge 27 dX10_takesText_7 (by decide) (fun c1 => ?_) (fun c1 => ?_)
  · replace hQ := hQ.1 c1
    refine ev_aload_n (ev_o 10 a) dX10_takesText_27 rfl rfl ?_
    refine ev_aload_n (ev_x 1 k0) dX10_takesText_28 rfl rfl ?_
    refine ev_fK mv_J0_length_8abf5 2 [] [ev_o 10 a] dX10_takesText_29 kw_1759 rfl (by decide) (Nat.le_of_ble_eq_true rfl) (sp_J0_length_8abf5 k0) ?_ rfl
    refine pf_10_10 dX10_takesText_32 kw_1863 ?_
    refine ev_sub hQ (fun S1 hS1 hQ => ?_)
    refine ev_E.goal (pc' := 35) (L' := [some (ev_o 10 a), some (ev_x 1 k0), some (ev_i u2)]) (K' := []) (S' := S1) ?_ rfl rfl rfl hS1
    refine ev_aload_n (ev_o 10 a) dX10_takesText_35 rfl rfl ?_
    refine ev_cV mv_X10_begins 2 0 10 [] [] dX10_takesText_36 kw_1761 rfl (by decide) rfl (by decide) (by decide) (Nat.le_of_ble_eq_true rfl) hQ ?_ rfl
    rintro o S2 ⟨rfl, hQ⟩
    show ev_E g m_X10_takesText 8 0 39 [some (ev_o 10 a), some (ev_x 1 k0), some (ev_i u2)] [] S2 Q
    refine ev_aload_n (ev_o 10 a) dX10_takesText_39 rfl rfl ?_
    refine ev_cV mv_X10_starts 3 0 10 [] [] dX10_takesText_40 kw_1769 rfl (by decide) rfl (by decide) (by decide) (Nat.le_of_ble_eq_true rfl) hQ ?_ rfl
    rintro o S3 ⟨rfl, hQ⟩
    show ev_E g m_X10_takesText 8 0 43 [some (ev_o 10 a), some (ev_x 1 k0), some (ev_i u2)] [] S3 Q
    refine ev_aload_n (ev_o 10 a) dX10_takesText_43 rfl rfl ?_
    refine ev_cV mv_X10_readsSetup 7 0 10 [] [] dX10_takesText_44 kw_1785 rfl (by decide) rfl (by decide) (by decide) (Nat.le_of_ble_eq_true rfl) hQ ?_ rfl
    rintro o S4 ⟨rfl, hQ⟩
    show ev_E g m_X10_takesText 8 0 47 [some (ev_o 10 a), some (ev_x 1 k0), some (ev_i u2)] [] S4 Q
    refine ev_aload_n (ev_o 10 a) dX10_takesText_47 rfl rfl ?_
    refine ev_iconst (0) dX10_takesText_48 rfl ?_
    refine pf_10_10 dX10_takesText_49 kw_1863 ?_
    refine ev_sub hQ (fun S5 hS5 hQ => ?_)
    refine ev_E.goal (pc' := 52) (L' := [some (ev_o 10 a), some (ev_x 1 k0), some (ev_i u2)]) (K' := []) (S' := S5) ?_ rfl rfl rfl hS5
    exact ev_return dX10_takesText_52 rfl hQ
  · replace hQ := hQ.2 c1
    refine ev_aload_n (ev_o 10 a) dX10_takesText_10 rfl rfl ?_
    refine gf_10_9 dX10_takesText_11 kw_1862 ?_
    refine ev_iload_n (u2) dX10_takesText_14 rfl ?_
    refine ev_aload_n (ev_x 1 k0) dX10_takesText_15 rfl rfl ?_
    refine ev_iload_n (u2) dX10_takesText_16 rfl ?_
    obtain ⟨h1, hQ⟩ := hQ
    obtain ⟨h2, hQ⟩ := hQ
    obtain ⟨h3, hQ⟩ := hQ
    obtain ⟨h4, hQ⟩ := hQ
    refine ev_fK mv_J0_charAt_5068e 4 [ev_i u2] [ev_i u2, ev_y 800 (a + 7)] dX10_takesText_17 kw_1760 rfl (by decide) (Nat.le_of_ble_eq_true rfl) (sp_J0_charAt_5068e k0 u2 h1 h2 h3 h4) ?_ rfl
    obtain ⟨h5, hQ⟩ := hQ
    refine ev_iastore dX10_takesText_20 h5 ?_
    refine ev_sub hQ (fun S6 hS6 hQ => ?_)
    refine ev_E.goal (pc' := 21) (L' := [some (ev_o 10 a), some (ev_x 1 k0), some (ev_i u2)]) (K' := []) (S' := S6) ?_ rfl rfl rfl hS6
    refine ev_iinc u2 (1) dX10_takesText_21 rfl (by decide) (ev_hw rfl) ?_
    show ev_E g m_X10_takesText 8 0 24 [some (ev_o 10 a), some (ev_x 1 k0), some (ev_i (u2 + 1))] [] S6 Q
    refine ev_goto 2 dX10_takesText_24 (by decide) ?_
    exact hQ
set_option maxHeartbeats 4000000 in
set_option maxRecDepth 100000 in
theorem sg_X10_thrown_0 {g : ev_G} {S : ev_S} {Q : ev_O → ev_S → Prop} (a : Nat) (hQ : Q (.inl (some (ev_i (S.1 a 7)))) S) : ev_Cv g m_X10_thrown 1 0 [ev_o 10 a] S Q := by
  refine ev_enter (by decide) rfl rfl (Nat.le_of_ble_eq_true rfl) ?_
  show ev_E g m_X10_thrown 1 0 0 [some (ev_o 10 a)] [] S Q
  refine ev_aload_n (ev_o 10 a) dX10_thrown_0 rfl rfl ?_
  refine gf_10_7 dX10_thrown_1 kw_1860 ?_
  exact ev_ireturn .int dX10_thrown_4 rfl rfl hQ
set_option maxHeartbeats 4000000 in
set_option maxRecDepth 100000 in
theorem sp_X10_thrown {g : ev_G} {S : ev_S} (a : Nat)  : ev_Fn g m_X10_thrown 1 [ev_o 10 a] S (some (ev_i (S.1 a 7))) S := by
  intro Q hQ
  refine sg_X10_thrown_0 a ?_
  exact hQ
set_option maxHeartbeats 4000000 in
set_option maxRecDepth 100000 in
theorem sg_X10_right_0 {g : ev_G} {S : ev_S} {Q : ev_O → ev_S → Prop} (a : Nat) (x0 : Int32) (x1 : Int32) (hQ : ((S.1 a 7) = 0 → (
    (x0 = 0 → (
      ∀ S1 : ev_S, S1 = (ev_up S a 7 x1) → (
        (x1 = 0 → (
          Q (.inl (some (ev_i 1))) S1)) ∧
        (¬ (x1 = 0) → (
          Q (.inl (some (ev_i 0))) S1))))) ∧
    (¬ (x0 = 0) → (
      Q (.inl (some (ev_i 1))) S)))) ∧
  (¬ ((S.1 a 7) = 0) → (
    Q (.inl (some (ev_i 0))) S))) : ev_Cv g m_X10_right 1 0 [ev_o 10 a, ev_i x0, ev_i x1] S Q := by
  refine ev_enter (by decide) rfl rfl (Nat.le_of_ble_eq_true rfl) ?_
  show ev_E g m_X10_right 1 0 0 [some (ev_o 10 a), some (ev_i x0), some (ev_i x1)] [] S Q
  refine ev_aload_n (ev_o 10 a) dX10_right_0 rfl rfl ?_
  refine gf_10_7 dX10_right_1 kw_1860 ?_
  refine ev_if_ne 16 dX10_right_4 (by decide) (fun c1 => ?_) (fun c1 => ?_)
  · replace hQ := hQ.2 c1
    refine ev_aload_n (ev_o 10 a) dX10_right_16 rfl rfl ?_
    refine gf_10_7 dX10_right_17 kw_1860 ?_
    refine ev_if_ne 27 dX10_right_20 (by decide) (fun _ => ?_) (fun h9 => absurd h9 c1)
    refine ev_iconst (0) dX10_right_27 rfl ?_
    exact ev_ireturn .boolean dX10_right_28 rfl rfl hQ
  · replace hQ := hQ.1 c1
    refine ev_iload_n (x0) dX10_right_7 rfl ?_
    refine ev_if_ne 16 dX10_right_8 (by decide) (fun c2 => ?_) (fun c2 => ?_)
    · replace hQ := hQ.2 c2
      refine ev_aload_n (ev_o 10 a) dX10_right_16 rfl rfl ?_
      refine gf_10_7 dX10_right_17 kw_1860 ?_
      refine ev_if_ne 27 dX10_right_20 (by decide) (fun h9 => absurd c1 h9) (fun _ => ?_)
      refine ev_iconst (1) dX10_right_23 rfl ?_
      refine ev_goto 28 dX10_right_24 (by decide) ?_
      exact ev_ireturn .boolean dX10_right_28 rfl rfl hQ
    · replace hQ := hQ.1 c2
      refine ev_aload_n (ev_o 10 a) dX10_right_11 rfl rfl ?_
      refine ev_iload_n (x1) dX10_right_12 rfl ?_
      refine pf_10_7 dX10_right_13 kw_1860 ?_
      refine ev_sub hQ (fun S1 hS1 hQ => ?_)
      refine ev_E.goal (pc' := 16) (L' := [some (ev_o 10 a), some (ev_i x0), some (ev_i x1)]) (K' := []) (S' := S1) ?_ rfl rfl rfl hS1
      refine ev_aload_n (ev_o 10 a) dX10_right_16 rfl rfl ?_
      refine gf_10_7 dX10_right_17 kw_1860 ?_
      refine ev_ke (j_rs hS1) ?_
      refine ev_if_ne 27 dX10_right_20 (by decide) (fun c3 => ?_) (fun c3 => ?_)
      · replace hQ := hQ.2 c3
        refine ev_iconst (0) dX10_right_27 rfl ?_
        exact ev_ireturn .boolean dX10_right_28 rfl rfl hQ
      · replace hQ := hQ.1 c3
        refine ev_iconst (1) dX10_right_23 rfl ?_
        refine ev_goto 28 dX10_right_24 (by decide) ?_
        exact ev_ireturn .boolean dX10_right_28 rfl rfl hQ
set_option maxHeartbeats 4000000 in
set_option maxRecDepth 100000 in
theorem sg_X10_ofP_0 {g : ev_G} {S : ev_S} {Q : ev_O → ev_S → Prop} (a : Nat) (x0 : Int32) (x1 : Int32) (hQ : (vp_in ((12 + (7 * x0)) + x1) 2091) ∧ (
    Q (.inl (some (ev_i (S.1 (a + 1) ((12 + (7 * x0)) + x1).toNatClampNeg)))) S)) : ev_Cv g m_X10_ofP 1 0 [ev_o 10 a, ev_i x0, ev_i x1] S Q := by
  refine ev_enter (by decide) rfl rfl (Nat.le_of_ble_eq_true rfl) ?_
  show ev_E g m_X10_ofP 1 0 0 [some (ev_o 10 a), some (ev_i x0), some (ev_i x1)] [] S Q
  refine ev_aload_n (ev_o 10 a) dX10_ofP_0 rfl rfl ?_
  refine gf_10_0 dX10_ofP_1 kw_1853 ?_
  refine ev_bipush (12) dX10_ofP_4 (by decide) ?_
  refine ev_bipush (7) dX10_ofP_6 (by decide) ?_
  refine ev_iload_n (x0) dX10_ofP_8 rfl ?_
  refine ev_imul dX10_ofP_9 ?_
  refine ev_iadd dX10_ofP_10 ?_
  refine ev_iload_n (x1) dX10_ofP_11 rfl ?_
  refine ev_iadd dX10_ofP_12 ?_
  obtain ⟨h1, hQ⟩ := hQ
  refine ev_iaload dX10_ofP_13 h1 ?_
  exact ev_ireturn .int dX10_ofP_14 rfl rfl hQ
set_option maxHeartbeats 4000000 in
set_option maxRecDepth 100000 in
theorem sp_X10_ofP {g : ev_G} {S : ev_S} (a : Nat) (x0 : Int32) (x1 : Int32) (q0 : vp_in ((12 + (7 * x0)) + x1) 2091) : ev_Fn g m_X10_ofP 1 [ev_o 10 a, ev_i x0, ev_i x1] S (some (ev_i (S.1 (a + 1) ((12 + (7 * x0)) + x1).toNatClampNeg))) S := by
  intro Q hQ
  refine sg_X10_ofP_0 a x0 x1 ?_
  refine ⟨(q0), ?_⟩
  exact hQ
set_option maxHeartbeats 4000000 in
set_option maxRecDepth 100000 in
theorem sg_X10_ofPass_0 {g : ev_G} {S : ev_S} {Q : ev_O → ev_S → Prop} (a : Nat) (x0 : Int32) (x1 : Int32) (hQ : (vp_in ((1140 + (15 * x0)) + x1) 2091) ∧ (
    Q (.inl (some (ev_i (S.1 (a + 1) ((1140 + (15 * x0)) + x1).toNatClampNeg)))) S)) : ev_Cv g m_X10_ofPass 1 0 [ev_o 10 a, ev_i x0, ev_i x1] S Q := by
  refine ev_enter (by decide) rfl rfl (Nat.le_of_ble_eq_true rfl) ?_
  show ev_E g m_X10_ofPass 1 0 0 [some (ev_o 10 a), some (ev_i x0), some (ev_i x1)] [] S Q
  refine ev_aload_n (ev_o 10 a) dX10_ofPass_0 rfl rfl ?_
  refine gf_10_0 dX10_ofPass_1 kw_1853 ?_
  refine ev_sipush (1140) dX10_ofPass_4 (by decide) ?_
  refine ev_bipush (15) dX10_ofPass_7 (by decide) ?_
  refine ev_iload_n (x0) dX10_ofPass_9 rfl ?_
  refine ev_imul dX10_ofPass_10 ?_
  refine ev_iadd dX10_ofPass_11 ?_
  refine ev_iload_n (x1) dX10_ofPass_12 rfl ?_
  refine ev_iadd dX10_ofPass_13 ?_
  obtain ⟨h1, hQ⟩ := hQ
  refine ev_iaload dX10_ofPass_14 h1 ?_
  exact ev_ireturn .int dX10_ofPass_15 rfl rfl hQ
set_option maxHeartbeats 4000000 in
set_option maxRecDepth 100000 in
theorem sp_X10_ofPass {g : ev_G} {S : ev_S} (a : Nat) (x0 : Int32) (x1 : Int32) (q0 : vp_in ((1140 + (15 * x0)) + x1) 2091) : ev_Fn g m_X10_ofPass 1 [ev_o 10 a, ev_i x0, ev_i x1] S (some (ev_i (S.1 (a + 1) ((1140 + (15 * x0)) + x1).toNatClampNeg))) S := by
  intro Q hQ
  refine sg_X10_ofPass_0 a x0 x1 ?_
  refine ⟨(q0), ?_⟩
  exact hQ
set_option maxHeartbeats 4000000 in
set_option maxRecDepth 100000 in
theorem sg_X10_ofL_0 {g : ev_G} {S : ev_S} {Q : ev_O → ev_S → Prop} (a : Nat) (x0 : Int32) (x1 : Int32) (hQ : (vp_in ((1200 + (11 * x0)) + x1) 2091) ∧ (
    Q (.inl (some (ev_i (S.1 (a + 1) ((1200 + (11 * x0)) + x1).toNatClampNeg)))) S)) : ev_Cv g m_X10_ofL 1 0 [ev_o 10 a, ev_i x0, ev_i x1] S Q := by
  refine ev_enter (by decide) rfl rfl (Nat.le_of_ble_eq_true rfl) ?_
  show ev_E g m_X10_ofL 1 0 0 [some (ev_o 10 a), some (ev_i x0), some (ev_i x1)] [] S Q
  refine ev_aload_n (ev_o 10 a) dX10_ofL_0 rfl rfl ?_
  refine gf_10_0 dX10_ofL_1 kw_1853 ?_
  refine ev_sipush (1200) dX10_ofL_4 (by decide) ?_
  refine ev_bipush (11) dX10_ofL_7 (by decide) ?_
  refine ev_iload_n (x0) dX10_ofL_9 rfl ?_
  refine ev_imul dX10_ofL_10 ?_
  refine ev_iadd dX10_ofL_11 ?_
  refine ev_iload_n (x1) dX10_ofL_12 rfl ?_
  refine ev_iadd dX10_ofL_13 ?_
  obtain ⟨h1, hQ⟩ := hQ
  refine ev_iaload dX10_ofL_14 h1 ?_
  exact ev_ireturn .int dX10_ofL_15 rfl rfl hQ
set_option maxHeartbeats 4000000 in
set_option maxRecDepth 100000 in
theorem sp_X10_ofL {g : ev_G} {S : ev_S} (a : Nat) (x0 : Int32) (x1 : Int32) (q0 : vp_in ((1200 + (11 * x0)) + x1) 2091) : ev_Fn g m_X10_ofL 1 [ev_o 10 a, ev_i x0, ev_i x1] S (some (ev_i (S.1 (a + 1) ((1200 + (11 * x0)) + x1).toNatClampNeg))) S := by
  intro Q hQ
  refine sg_X10_ofL_0 a x0 x1 ?_
  refine ⟨(q0), ?_⟩
  exact hQ
set_option maxHeartbeats 4000000 in
set_option maxRecDepth 100000 in
theorem sg_X10_putL_0 {g : ev_G} {S : ev_S} {Q : ev_O → ev_S → Prop} (a : Nat) (x0 : Int32) (x1 : Int32) (x2 : Int32) (hQ : (vp_in ((1200 + (11 * x0)) + x1) 2091) ∧ (
    ∀ S1 : ev_S, S1 = (ev_up S (a + 1) ((1200 + (11 * x0)) + x1).toNatClampNeg x2) → (
      Q (.inl none) S1))) : ev_Cv g m_X10_putL 1 0 [ev_o 10 a, ev_i x0, ev_i x1, ev_i x2] S Q := by
  refine ev_enter (by decide) rfl rfl (Nat.le_of_ble_eq_true rfl) ?_
  show ev_E g m_X10_putL 1 0 0 [some (ev_o 10 a), some (ev_i x0), some (ev_i x1), some (ev_i x2)] [] S Q
  refine ev_aload_n (ev_o 10 a) dX10_putL_0 rfl rfl ?_
  refine gf_10_0 dX10_putL_1 kw_1853 ?_
  refine ev_sipush (1200) dX10_putL_4 (by decide) ?_
  refine ev_bipush (11) dX10_putL_7 (by decide) ?_
  refine ev_iload_n (x0) dX10_putL_9 rfl ?_
  refine ev_imul dX10_putL_10 ?_
  refine ev_iadd dX10_putL_11 ?_
  refine ev_iload_n (x1) dX10_putL_12 rfl ?_
  refine ev_iadd dX10_putL_13 ?_
  refine ev_iload_n (x2) dX10_putL_14 rfl ?_
  obtain ⟨h1, hQ⟩ := hQ
  refine ev_iastore dX10_putL_15 h1 ?_
  refine ev_sub hQ (fun S1 hS1 hQ => ?_)
  refine ev_E.goal (pc' := 16) (L' := [some (ev_o 10 a), some (ev_i x0), some (ev_i x1), some (ev_i x2)]) (K' := []) (S' := S1) ?_ rfl rfl rfl hS1
  exact ev_return dX10_putL_16 rfl hQ
set_option maxHeartbeats 4000000 in
set_option maxRecDepth 100000 in
theorem sp_X10_putL {g : ev_G} {S : ev_S} (a : Nat) (x0 : Int32) (x1 : Int32) (x2 : Int32) (q0 : vp_in ((1200 + (11 * x0)) + x1) 2091) : ev_Fn g m_X10_putL 1 [ev_o 10 a, ev_i x0, ev_i x1, ev_i x2] S none (ev_up S (a + 1) ((1200 + (11 * x0)) + x1).toNatClampNeg x2) := by
  intro Q hQ
  refine sg_X10_putL_0 a x0 x1 x2 ?_
  refine ⟨(q0), ?_⟩
  intro S1 hS1
  subst hS1
  exact hQ
set_option maxHeartbeats 4000000 in
set_option maxRecDepth 100000 in
theorem sg_X10_promised_0 {g : ev_G} {S : ev_S} {Q : ev_O → ev_S → Prop} (a : Nat) (x0 : Int32) (x1 : Int32) (hQ : (vp_in ((762 + (6 * x0)) + x1) 2091) ∧ (
    Q (.inl (some (ev_i (S.1 (a + 1) ((762 + (6 * x0)) + x1).toNatClampNeg)))) S)) : ev_Cv g m_X10_promised 1 0 [ev_o 10 a, ev_i x0, ev_i x1] S Q := by
  refine ev_enter (by decide) rfl rfl (Nat.le_of_ble_eq_true rfl) ?_
  show ev_E g m_X10_promised 1 0 0 [some (ev_o 10 a), some (ev_i x0), some (ev_i x1)] [] S Q
  refine ev_aload_n (ev_o 10 a) dX10_promised_0 rfl rfl ?_
  refine gf_10_0 dX10_promised_1 kw_1853 ?_
  refine ev_sipush (762) dX10_promised_4 (by decide) ?_
  refine ev_bipush (6) dX10_promised_7 (by decide) ?_
  refine ev_iload_n (x0) dX10_promised_9 rfl ?_
  refine ev_imul dX10_promised_10 ?_
  refine ev_iadd dX10_promised_11 ?_
  refine ev_iload_n (x1) dX10_promised_12 rfl ?_
  refine ev_iadd dX10_promised_13 ?_
  obtain ⟨h1, hQ⟩ := hQ
  refine ev_iaload dX10_promised_14 h1 ?_
  exact ev_ireturn .int dX10_promised_15 rfl rfl hQ
set_option maxHeartbeats 4000000 in
set_option maxRecDepth 100000 in
theorem sp_X10_promised {g : ev_G} {S : ev_S} (a : Nat) (x0 : Int32) (x1 : Int32) (q0 : vp_in ((762 + (6 * x0)) + x1) 2091) : ev_Fn g m_X10_promised 1 [ev_o 10 a, ev_i x0, ev_i x1] S (some (ev_i (S.1 (a + 1) ((762 + (6 * x0)) + x1).toNatClampNeg))) S := by
  intro Q hQ
  refine sg_X10_promised_0 a x0 x1 ?_
  refine ⟨(q0), ?_⟩
  exact hQ
set_option maxHeartbeats 4000000 in
set_option maxRecDepth 100000 in
theorem sg_X10_storedAt_0 {g : ev_G} {S : ev_S} {Q : ev_O → ev_S → Prop} (a : Nat) (x0 : Int32) (x1 : Int32) (x2 : Int32) (hQ : (vp_in (((514 + (124 * x0)) + (2 * x1)) + x2) 2091) ∧ (
    Q (.inl (some (ev_i (S.1 (a + 1) (((514 + (124 * x0)) + (2 * x1)) + x2).toNatClampNeg)))) S)) : ev_Cv g m_X10_storedAt 1 0 [ev_o 10 a, ev_i x0, ev_i x1, ev_i x2] S Q := by
  refine ev_enter (by decide) rfl rfl (Nat.le_of_ble_eq_true rfl) ?_
  show ev_E g m_X10_storedAt 1 0 0 [some (ev_o 10 a), some (ev_i x0), some (ev_i x1), some (ev_i x2)] [] S Q
  refine ev_aload_n (ev_o 10 a) dX10_storedAt_0 rfl rfl ?_
  refine gf_10_0 dX10_storedAt_1 kw_1853 ?_
  refine ev_sipush (514) dX10_storedAt_4 (by decide) ?_
  refine ev_bipush (124) dX10_storedAt_7 (by decide) ?_
  refine ev_iload_n (x0) dX10_storedAt_9 rfl ?_
  refine ev_imul dX10_storedAt_10 ?_
  refine ev_iadd dX10_storedAt_11 ?_
  refine ev_iconst (2) dX10_storedAt_12 rfl ?_
  refine ev_iload_n (x1) dX10_storedAt_13 rfl ?_
  refine ev_imul dX10_storedAt_14 ?_
  refine ev_iadd dX10_storedAt_15 ?_
  refine ev_iload_n (x2) dX10_storedAt_16 rfl ?_
  refine ev_iadd dX10_storedAt_17 ?_
  obtain ⟨h1, hQ⟩ := hQ
  refine ev_iaload dX10_storedAt_18 h1 ?_
  exact ev_ireturn .int dX10_storedAt_19 rfl rfl hQ
set_option maxHeartbeats 4000000 in
set_option maxRecDepth 100000 in
theorem sp_X10_storedAt {g : ev_G} {S : ev_S} (a : Nat) (x0 : Int32) (x1 : Int32) (x2 : Int32) (q0 : vp_in (((514 + (124 * x0)) + (2 * x1)) + x2) 2091) : ev_Fn g m_X10_storedAt 1 [ev_o 10 a, ev_i x0, ev_i x1, ev_i x2] S (some (ev_i (S.1 (a + 1) (((514 + (124 * x0)) + (2 * x1)) + x2).toNatClampNeg))) S := by
  intro Q hQ
  refine sg_X10_storedAt_0 a x0 x1 x2 ?_
  refine ⟨(q0), ?_⟩
  exact hQ
set_option maxHeartbeats 4000000 in
set_option maxRecDepth 100000 in
theorem sg_X10_stores_0 {g : ev_G} {S : ev_S} {Q : ev_O → ev_S → Prop} (a : Nat) (x0 : Int32) (x1 : Int32) (x2 : Int32) (x3 : Int32) (hQ : (vp_in ((514 + (124 * x0)) + (2 * x1)) 2091) ∧ (
    ∀ S1 : ev_S, S1 = (ev_up S (a + 1) ((514 + (124 * x0)) + (2 * x1)).toNatClampNeg x2) → (
      (vp_in (((514 + (124 * x0)) + (2 * x1)) + 1) 2091) ∧ (
        ∀ S2 : ev_S, S2 = (ev_up S1 (a + 1) (((514 + (124 * x0)) + (2 * x1)) + 1).toNatClampNeg x3) → (
          Q (.inl none) S2))))) : ev_Cv g m_X10_stores 1 0 [ev_o 10 a, ev_i x0, ev_i x1, ev_i x2, ev_i x3] S Q := by
  refine ev_enter (by decide) rfl rfl (Nat.le_of_ble_eq_true rfl) ?_
  show ev_E g m_X10_stores 1 0 0 [some (ev_o 10 a), some (ev_i x0), some (ev_i x1), some (ev_i x2), some (ev_i x3)] [] S Q
  refine ev_aload_n (ev_o 10 a) dX10_stores_0 rfl rfl ?_
  refine gf_10_0 dX10_stores_1 kw_1853 ?_
  refine ev_sipush (514) dX10_stores_4 (by decide) ?_
  refine ev_bipush (124) dX10_stores_7 (by decide) ?_
  refine ev_iload_n (x0) dX10_stores_9 rfl ?_
  refine ev_imul dX10_stores_10 ?_
  refine ev_iadd dX10_stores_11 ?_
  refine ev_iconst (2) dX10_stores_12 rfl ?_
  refine ev_iload_n (x1) dX10_stores_13 rfl ?_
  refine ev_imul dX10_stores_14 ?_
  refine ev_iadd dX10_stores_15 ?_
  refine ev_iload_n (x2) dX10_stores_16 rfl ?_
  obtain ⟨h1, hQ⟩ := hQ
  refine ev_iastore dX10_stores_17 h1 ?_
  refine ev_sub hQ (fun S1 hS1 hQ => ?_)
  refine ev_E.goal (pc' := 18) (L' := [some (ev_o 10 a), some (ev_i x0), some (ev_i x1), some (ev_i x2), some (ev_i x3)]) (K' := []) (S' := S1) ?_ rfl rfl rfl hS1
  refine ev_aload_n (ev_o 10 a) dX10_stores_18 rfl rfl ?_
  refine gf_10_0 dX10_stores_19 kw_1853 ?_
  refine ev_sipush (514) dX10_stores_22 (by decide) ?_
  refine ev_bipush (124) dX10_stores_25 (by decide) ?_
  refine ev_iload_n (x0) dX10_stores_27 rfl ?_
  refine ev_imul dX10_stores_28 ?_
  refine ev_iadd dX10_stores_29 ?_
  refine ev_iconst (2) dX10_stores_30 rfl ?_
  refine ev_iload_n (x1) dX10_stores_31 rfl ?_
  refine ev_imul dX10_stores_32 ?_
  refine ev_iadd dX10_stores_33 ?_
  refine ev_iconst (1) dX10_stores_34 rfl ?_
  refine ev_iadd dX10_stores_35 ?_
  refine ev_iload (x3) dX10_stores_36 rfl ?_
  obtain ⟨h2, hQ⟩ := hQ
  refine ev_iastore dX10_stores_38 h2 ?_
  refine ev_sub hQ (fun S2 hS2 hQ => ?_)
  refine ev_E.goal (pc' := 39) (L' := [some (ev_o 10 a), some (ev_i x0), some (ev_i x1), some (ev_i x2), some (ev_i x3)]) (K' := []) (S' := S2) ?_ rfl rfl rfl hS2
  exact ev_return dX10_stores_39 rfl hQ
set_option maxHeartbeats 4000000 in
set_option maxRecDepth 100000 in
theorem sp_X10_stores {g : ev_G} {S : ev_S} (a : Nat) (x0 : Int32) (x1 : Int32) (x2 : Int32) (x3 : Int32) (q0 : vp_in ((514 + (124 * x0)) + (2 * x1)) 2091) (q1 : vp_in (((514 + (124 * x0)) + (2 * x1)) + 1) 2091) : ev_Fn g m_X10_stores 1 [ev_o 10 a, ev_i x0, ev_i x1, ev_i x2, ev_i x3] S none (ev_up (ev_up S (a + 1) ((514 + (124 * x0)) + (2 * x1)).toNatClampNeg x2) (a + 1) (((514 + (124 * x0)) + (2 * x1)) + 1).toNatClampNeg x3) := by
  intro Q hQ
  refine sg_X10_stores_0 a x0 x1 x2 x3 ?_
  refine ⟨(q0), ?_⟩
  intro S1 hS1
  refine ⟨(q1), ?_⟩
  intro S2 hS2
  subst hS2
  subst hS1
  exact hQ
set_option maxHeartbeats 4000000 in
set_option maxRecDepth 100000 in
theorem sg_X10_madeAt_0 {g : ev_G} {S : ev_S} {Q : ev_O → ev_S → Prop} (a : Nat) (x0 : Int32) (x1 : Int32) (x2 : Int32) (hQ : (vp_in (((154 + (180 * x0)) + (3 * (x1 - 1))) + x2) 2091) ∧ (
    Q (.inl (some (ev_i (S.1 (a + 1) (((154 + (180 * x0)) + (3 * (x1 - 1))) + x2).toNatClampNeg)))) S)) : ev_Cv g m_X10_madeAt 1 0 [ev_o 10 a, ev_i x0, ev_i x1, ev_i x2] S Q := by
  refine ev_enter (by decide) rfl rfl (Nat.le_of_ble_eq_true rfl) ?_
  show ev_E g m_X10_madeAt 1 0 0 [some (ev_o 10 a), some (ev_i x0), some (ev_i x1), some (ev_i x2)] [] S Q
  refine ev_aload_n (ev_o 10 a) dX10_madeAt_0 rfl rfl ?_
  refine gf_10_0 dX10_madeAt_1 kw_1853 ?_
  refine ev_sipush (154) dX10_madeAt_4 (by decide) ?_
  refine ev_sipush (180) dX10_madeAt_7 (by decide) ?_
  refine ev_iload_n (x0) dX10_madeAt_10 rfl ?_
  refine ev_imul dX10_madeAt_11 ?_
  refine ev_iadd dX10_madeAt_12 ?_
  refine ev_iconst (3) dX10_madeAt_13 rfl ?_
  refine ev_iload_n (x1) dX10_madeAt_14 rfl ?_
  refine ev_iconst (1) dX10_madeAt_15 rfl ?_
  refine ev_isub dX10_madeAt_16 ?_
  refine ev_imul dX10_madeAt_17 ?_
  refine ev_iadd dX10_madeAt_18 ?_
  refine ev_iload_n (x2) dX10_madeAt_19 rfl ?_
  refine ev_iadd dX10_madeAt_20 ?_
  obtain ⟨h1, hQ⟩ := hQ
  refine ev_iaload dX10_madeAt_21 h1 ?_
  exact ev_ireturn .int dX10_madeAt_22 rfl rfl hQ
set_option maxHeartbeats 4000000 in
set_option maxRecDepth 100000 in
theorem sp_X10_madeAt {g : ev_G} {S : ev_S} (a : Nat) (x0 : Int32) (x1 : Int32) (x2 : Int32) (q0 : vp_in (((154 + (180 * x0)) + (3 * (x1 - 1))) + x2) 2091) : ev_Fn g m_X10_madeAt 1 [ev_o 10 a, ev_i x0, ev_i x1, ev_i x2] S (some (ev_i (S.1 (a + 1) (((154 + (180 * x0)) + (3 * (x1 - 1))) + x2).toNatClampNeg))) S := by
  intro Q hQ
  refine sg_X10_madeAt_0 a x0 x1 x2 ?_
  refine ⟨(q0), ?_⟩
  exact hQ
set_option maxHeartbeats 4000000 in
set_option maxRecDepth 100000 in
theorem sg_X10_isPlayer_0 {g : ev_G} {S : ev_S} {Q : ev_O → ev_S → Prop} (x0 : Int32) (hQ : ((t_X10_in x0 0 1) = true → (
    Q (.inl (some (ev_i 1))) S)) ∧
  (¬ ((t_X10_in x0 0 1) = true) → (
    Q (.inl (some (ev_i 0))) S))) : ev_Cv g m_X10_isPlayer 2 0 [ev_i x0] S Q := by
  refine ev_enter (by decide) rfl rfl (Nat.le_of_ble_eq_true rfl) ?_
  show ev_E g m_X10_isPlayer 2 0 0 [some (ev_i x0)] [] S Q
  refine ev_iload_n (x0) dX10_isPlayer_0 rfl ?_
  refine ev_iconst (0) dX10_isPlayer_1 rfl ?_
  refine ev_iconst (1) dX10_isPlayer_2 rfl ?_
  refine ev_fS ms_X10_in 1 [ev_i x0, ev_i 0, ev_i 1] [] dX10_isPlayer_3 kw_1781 rfl (by decide) (Nat.le_of_ble_eq_true rfl) (sp_X10_in x0 0 1) ?_ rfl
  by_cases c1 : (t_X10_in x0 0 1) = true
  · rw [if_pos c1]
    replace hQ := hQ.1 c1
    exact ev_ireturn .boolean dX10_isPlayer_6 rfl rfl hQ
  · rw [if_neg c1]
    replace hQ := hQ.2 c1
    exact ev_ireturn .boolean dX10_isPlayer_6 rfl rfl hQ
set_option maxHeartbeats 4000000 in
set_option maxRecDepth 100000 in
theorem sp_X10_isPlayer {g : ev_G} {S : ev_S} (x0 : Int32)  : ev_Fn g m_X10_isPlayer 2 [ev_i x0] S (some (ev_i (if (t_X10_in x0 0 1) = true then 1 else 0))) S := by
  intro Q hQ
  refine sg_X10_isPlayer_0 x0 ?_
  refine ⟨fun c1 => ?_, fun c1 => ?_⟩
  · rw [if_pos c1] at hQ
    exact hQ
  · rw [if_neg c1] at hQ
    exact hQ
set_option maxHeartbeats 4000000 in
set_option maxRecDepth 100000 in
theorem sg_X10_isSquare_0 {g : ev_G} {S : ev_S} {Q : ev_O → ev_S → Prop} (a : Nat) (x0 : Int32) (hQ : ((t_X10_in x0 0 (((S.1 (a + 1) 0) * (S.1 (a + 1) 0)) - 1)) = true → (
    Q (.inl (some (ev_i 1))) S)) ∧
  (¬ ((t_X10_in x0 0 (((S.1 (a + 1) 0) * (S.1 (a + 1) 0)) - 1)) = true) → (
    Q (.inl (some (ev_i 0))) S))) : ev_Cv g m_X10_isSquare 2 0 [ev_o 10 a, ev_i x0] S Q := by
  refine ev_enter (by decide) rfl rfl (Nat.le_of_ble_eq_true rfl) ?_
  show ev_E g m_X10_isSquare 2 0 0 [some (ev_o 10 a), some (ev_i x0)] [] S Q
  refine ev_iload_n (x0) dX10_isSquare_0 rfl ?_
  refine ev_iconst (0) dX10_isSquare_1 rfl ?_
  refine ev_aload_n (ev_o 10 a) dX10_isSquare_2 rfl rfl ?_
  refine ev_fV mv_X10_squares 1 10 [] [ev_i 0, ev_i x0] dX10_isSquare_3 kw_1827 rfl (by decide) rfl (by decide) (Nat.le_of_ble_eq_true rfl) (sp_X10_squares a) ?_ rfl
  refine ev_iconst (1) dX10_isSquare_6 rfl ?_
  refine ev_isub dX10_isSquare_7 ?_
  refine ev_fS ms_X10_in 1 [ev_i x0, ev_i 0, ev_i (((S.1 (a + 1) 0) * (S.1 (a + 1) 0)) - 1)] [] dX10_isSquare_8 kw_1781 rfl (by decide) (Nat.le_of_ble_eq_true rfl) (sp_X10_in x0 0 (((S.1 (a + 1) 0) * (S.1 (a + 1) 0)) - 1)) ?_ rfl
  by_cases c1 : (t_X10_in x0 0 (((S.1 (a + 1) 0) * (S.1 (a + 1) 0)) - 1)) = true
  · rw [if_pos c1]
    replace hQ := hQ.1 c1
    exact ev_ireturn .boolean dX10_isSquare_11 rfl rfl hQ
  · rw [if_neg c1]
    replace hQ := hQ.2 c1
    exact ev_ireturn .boolean dX10_isSquare_11 rfl rfl hQ
set_option maxHeartbeats 4000000 in
set_option maxRecDepth 100000 in
theorem sp_X10_isSquare {g : ev_G} {S : ev_S} (a : Nat) (x0 : Int32)  : ev_Fn g m_X10_isSquare 2 [ev_o 10 a, ev_i x0] S (some (ev_i (if (t_X10_in x0 0 (((S.1 (a + 1) 0) * (S.1 (a + 1) 0)) - 1)) = true then 1 else 0))) S := by
  intro Q hQ
  refine sg_X10_isSquare_0 a x0 ?_
  refine ⟨fun c1 => ?_, fun c1 => ?_⟩
  · rw [if_pos c1] at hQ
    exact hQ
  · rw [if_neg c1] at hQ
    exact hQ
set_option maxHeartbeats 4000000 in
set_option maxRecDepth 100000 in
theorem sg_X10_isPass_0 {g : ev_G} {S : ev_S} {Q : ev_O → ev_S → Prop} (a : Nat) (x0 : Int32) (hQ : ((t_X10_in x0 0 ((S.1 (a + 1) 3) - 1)) = true → (
    Q (.inl (some (ev_i 1))) S)) ∧
  (¬ ((t_X10_in x0 0 ((S.1 (a + 1) 3) - 1)) = true) → (
    Q (.inl (some (ev_i 0))) S))) : ev_Cv g m_X10_isPass 2 0 [ev_o 10 a, ev_i x0] S Q := by
  refine ev_enter (by decide) rfl rfl (Nat.le_of_ble_eq_true rfl) ?_
  show ev_E g m_X10_isPass 2 0 0 [some (ev_o 10 a), some (ev_i x0)] [] S Q
  refine ev_iload_n (x0) dX10_isPass_0 rfl ?_
  refine ev_iconst (0) dX10_isPass_1 rfl ?_
  refine ev_aload_n (ev_o 10 a) dX10_isPass_2 rfl rfl ?_
  refine gf_10_0 dX10_isPass_3 kw_1853 ?_
  refine ev_iconst (3) dX10_isPass_6 rfl ?_
  refine ev_iaload dX10_isPass_7 (j_vin (by decide)) ?_
  refine ev_iconst (1) dX10_isPass_8 rfl ?_
  refine ev_isub dX10_isPass_9 ?_
  refine ev_fS ms_X10_in 1 [ev_i x0, ev_i 0, ev_i ((S.1 (a + 1) 3) - 1)] [] dX10_isPass_10 kw_1781 rfl (by decide) (Nat.le_of_ble_eq_true rfl) (sp_X10_in x0 0 ((S.1 (a + 1) 3) - 1)) ?_ rfl
  by_cases c1 : (t_X10_in x0 0 ((S.1 (a + 1) 3) - 1)) = true
  · rw [if_pos c1]
    replace hQ := hQ.1 c1
    exact ev_ireturn .boolean dX10_isPass_13 rfl rfl hQ
  · rw [if_neg c1]
    replace hQ := hQ.2 c1
    exact ev_ireturn .boolean dX10_isPass_13 rfl rfl hQ
set_option maxHeartbeats 4000000 in
set_option maxRecDepth 100000 in
theorem sp_X10_isPass {g : ev_G} {S : ev_S} (a : Nat) (x0 : Int32)  : ev_Fn g m_X10_isPass 2 [ev_o 10 a, ev_i x0] S (some (ev_i (if (t_X10_in x0 0 ((S.1 (a + 1) 3) - 1)) = true then 1 else 0))) S := by
  intro Q hQ
  refine sg_X10_isPass_0 a x0 ?_
  refine ⟨fun c1 => ?_, fun c1 => ?_⟩
  · rw [if_pos c1] at hQ
    exact hQ
  · rw [if_neg c1] at hQ
    exact hQ
set_option maxHeartbeats 4000000 in
set_option maxRecDepth 100000 in
theorem sg_X10_isLetter_0 {g : ev_G} {S : ev_S} {Q : ev_O → ev_S → Prop} (a : Nat) (x0 : Int32) (hQ : ((t_X10_in x0 0 ((S.1 (a + 1) 4) - 1)) = true → (
    Q (.inl (some (ev_i 1))) S)) ∧
  (¬ ((t_X10_in x0 0 ((S.1 (a + 1) 4) - 1)) = true) → (
    Q (.inl (some (ev_i 0))) S))) : ev_Cv g m_X10_isLetter 2 0 [ev_o 10 a, ev_i x0] S Q := by
  refine ev_enter (by decide) rfl rfl (Nat.le_of_ble_eq_true rfl) ?_
  show ev_E g m_X10_isLetter 2 0 0 [some (ev_o 10 a), some (ev_i x0)] [] S Q
  refine ev_iload_n (x0) dX10_isLetter_0 rfl ?_
  refine ev_iconst (0) dX10_isLetter_1 rfl ?_
  refine ev_aload_n (ev_o 10 a) dX10_isLetter_2 rfl rfl ?_
  refine gf_10_0 dX10_isLetter_3 kw_1853 ?_
  refine ev_iconst (4) dX10_isLetter_6 rfl ?_
  refine ev_iaload dX10_isLetter_7 (j_vin (by decide)) ?_
  refine ev_iconst (1) dX10_isLetter_8 rfl ?_
  refine ev_isub dX10_isLetter_9 ?_
  refine ev_fS ms_X10_in 1 [ev_i x0, ev_i 0, ev_i ((S.1 (a + 1) 4) - 1)] [] dX10_isLetter_10 kw_1781 rfl (by decide) (Nat.le_of_ble_eq_true rfl) (sp_X10_in x0 0 ((S.1 (a + 1) 4) - 1)) ?_ rfl
  by_cases c1 : (t_X10_in x0 0 ((S.1 (a + 1) 4) - 1)) = true
  · rw [if_pos c1]
    replace hQ := hQ.1 c1
    exact ev_ireturn .boolean dX10_isLetter_13 rfl rfl hQ
  · rw [if_neg c1]
    replace hQ := hQ.2 c1
    exact ev_ireturn .boolean dX10_isLetter_13 rfl rfl hQ
set_option maxHeartbeats 4000000 in
set_option maxRecDepth 100000 in
theorem sp_X10_isLetter {g : ev_G} {S : ev_S} (a : Nat) (x0 : Int32)  : ev_Fn g m_X10_isLetter 2 [ev_o 10 a, ev_i x0] S (some (ev_i (if (t_X10_in x0 0 ((S.1 (a + 1) 4) - 1)) = true then 1 else 0))) S := by
  intro Q hQ
  refine sg_X10_isLetter_0 a x0 ?_
  refine ⟨fun c1 => ?_, fun c1 => ?_⟩
  · rw [if_pos c1] at hQ
    exact hQ
  · rw [if_neg c1] at hQ
    exact hQ
set_option maxHeartbeats 4000000 in
set_option maxRecDepth 100000 in
theorem sg_X10_overOn_0 {g : ev_G} {S : ev_S} {Q : ev_O → ev_S → Prop} (a : Nat) (x0 : Int32) (hQ : ev_Cv g m_X10_bishopsOf 2 0 [ev_o 10 a, ev_i x0, ev_i 0] S (fun o S1 => ∃ v1_ : Int32, o = .inl (some (ev_i v1_)) ∧ (
    (v1_ = 0 → (
      Q (.inl (some (ev_i 1))) S1)) ∧
    (¬ (v1_ = 0) → (
      ev_Cv g m_X10_bishopsOf 2 0 [ev_o 10 a, ev_i x0, ev_i 1] S1 (fun o S2 => ∃ v2_ : Int32, o = .inl (some (ev_i v2_)) ∧ (
        (v2_ = 0 → (
          Q (.inl (some (ev_i 1))) S2)) ∧
        (¬ (v2_ = 0) → (
          (vp_in ((12 + (7 * x0)) + 0) 2091) ∧ (
            ((S2.1 (a + 1) ((12 + (7 * x0)) + 0).toNatClampNeg) = (S2.1 (a + 1) 1) → (
              Q (.inl (some (ev_i 1))) S2)) ∧
            (¬ ((S2.1 (a + 1) ((12 + (7 * x0)) + 0).toNatClampNeg) = (S2.1 (a + 1) 1)) → (
              Q (.inl (some (ev_i 0))) S2)))))))))))) : ev_Cv g m_X10_overOn 3 0 [ev_o 10 a, ev_i x0] S Q := by
  refine ev_enter (by decide) rfl rfl (Nat.le_of_ble_eq_true rfl) ?_
  show ev_E g m_X10_overOn 3 0 0 [some (ev_o 10 a), some (ev_i x0)] [] S Q
  refine ev_aload_n (ev_o 10 a) dX10_overOn_0 rfl rfl ?_
  refine ev_iload_n (x0) dX10_overOn_1 rfl ?_
  refine ev_iconst (0) dX10_overOn_2 rfl ?_
  refine ev_cV mv_X10_bishopsOf 2 0 10 [ev_i x0, ev_i 0] [] dX10_overOn_3 kw_1823 rfl (by decide) rfl (by decide) (by decide) (Nat.le_of_ble_eq_true rfl) hQ ?_ rfl
  rintro o S1 ⟨v1_, rfl, hQ⟩
  show ev_E g m_X10_overOn 3 0 6 [some (ev_o 10 a), some (ev_i x0)] [ev_i v1_] S1 Q
  refine ev_if_eq 33 dX10_overOn_6 (by decide) (fun c1 => ?_) (fun c1 => ?_)
  · replace hQ := hQ.1 c1
    refine ev_iconst (1) dX10_overOn_33 rfl ?_
    refine ev_goto 38 dX10_overOn_34 (by decide) ?_
    exact ev_ireturn .boolean dX10_overOn_38 rfl rfl hQ
  · replace hQ := hQ.2 c1
    refine ev_aload_n (ev_o 10 a) dX10_overOn_9 rfl rfl ?_
    refine ev_iload_n (x0) dX10_overOn_10 rfl ?_
    refine ev_iconst (1) dX10_overOn_11 rfl ?_
    refine ev_cV mv_X10_bishopsOf 2 0 10 [ev_i x0, ev_i 1] [] dX10_overOn_12 kw_1823 rfl (by decide) rfl (by decide) (by decide) (Nat.le_of_ble_eq_true rfl) hQ ?_ rfl
    rintro o S2 ⟨v2_, rfl, hQ⟩
    show ev_E g m_X10_overOn 3 0 15 [some (ev_o 10 a), some (ev_i x0)] [ev_i v2_] S2 Q
    refine ev_if_eq 33 dX10_overOn_15 (by decide) (fun c2 => ?_) (fun c2 => ?_)
    · replace hQ := hQ.1 c2
      refine ev_iconst (1) dX10_overOn_33 rfl ?_
      refine ev_goto 38 dX10_overOn_34 (by decide) ?_
      exact ev_ireturn .boolean dX10_overOn_38 rfl rfl hQ
    · replace hQ := hQ.2 c2
      refine ev_aload_n (ev_o 10 a) dX10_overOn_18 rfl rfl ?_
      refine ev_iload_n (x0) dX10_overOn_19 rfl ?_
      refine ev_iconst (0) dX10_overOn_20 rfl ?_
      obtain ⟨h1, hQ⟩ := hQ
      refine ev_fV mv_X10_ofP 1 10 [ev_i x0, ev_i 0] [] dX10_overOn_21 kw_2048 rfl (by decide) rfl (by decide) (Nat.le_of_ble_eq_true rfl) (sp_X10_ofP a x0 0 h1) ?_ rfl
      refine ev_aload_n (ev_o 10 a) dX10_overOn_24 rfl rfl ?_
      refine gf_10_0 dX10_overOn_25 kw_1853 ?_
      refine ev_iconst (1) dX10_overOn_28 rfl ?_
      refine ev_iaload dX10_overOn_29 (j_vin (by decide)) ?_
      refine ev_icmp_ne 37 dX10_overOn_30 (by decide) (fun c3 => ?_) (fun c3 => ?_)
      · replace hQ := hQ.2 c3
        refine ev_iconst (0) dX10_overOn_37 rfl ?_
        exact ev_ireturn .boolean dX10_overOn_38 rfl rfl hQ
      · replace hQ := hQ.1 c3
        refine ev_iconst (1) dX10_overOn_33 rfl ?_
        refine ev_goto 38 dX10_overOn_34 (by decide) ?_
        exact ev_ireturn .boolean dX10_overOn_38 rfl rfl hQ
set_option maxHeartbeats 4000000 in
set_option maxRecDepth 100000 in
theorem sg_X10_nextNumber_0 {g : ev_G} {S : ev_S} {Q : ev_O → ev_S → Prop} (a : Nat) (x0 : Int32) (hQ : (vp_in ((12 + (7 * x0)) + 0) 2091) ∧ (
    Q (.inl (some (ev_i ((S.1 (a + 1) ((12 + (7 * x0)) + 0).toNatClampNeg) + 1)))) S)) : ev_Cv g m_X10_nextNumber 2 0 [ev_o 10 a, ev_i x0] S Q := by
  refine ev_enter (by decide) rfl rfl (Nat.le_of_ble_eq_true rfl) ?_
  show ev_E g m_X10_nextNumber 2 0 0 [some (ev_o 10 a), some (ev_i x0)] [] S Q
  refine ev_aload_n (ev_o 10 a) dX10_nextNumber_0 rfl rfl ?_
  refine ev_iload_n (x0) dX10_nextNumber_1 rfl ?_
  refine ev_iconst (0) dX10_nextNumber_2 rfl ?_
  obtain ⟨h1, hQ⟩ := hQ
  refine ev_fV mv_X10_ofP 1 10 [ev_i x0, ev_i 0] [] dX10_nextNumber_3 kw_2048 rfl (by decide) rfl (by decide) (Nat.le_of_ble_eq_true rfl) (sp_X10_ofP a x0 0 h1) ?_ rfl
  refine ev_iconst (1) dX10_nextNumber_6 rfl ?_
  refine ev_iadd dX10_nextNumber_7 ?_
  exact ev_ireturn .int dX10_nextNumber_8 rfl rfl hQ
set_option maxHeartbeats 4000000 in
set_option maxRecDepth 100000 in
theorem sp_X10_nextNumber {g : ev_G} {S : ev_S} (a : Nat) (x0 : Int32) (q0 : vp_in ((12 + (7 * x0)) + 0) 2091) : ev_Fn g m_X10_nextNumber 2 [ev_o 10 a, ev_i x0] S (some (ev_i ((S.1 (a + 1) ((12 + (7 * x0)) + 0).toNatClampNeg) + 1))) S := by
  intro Q hQ
  refine sg_X10_nextNumber_0 a x0 ?_
  refine ⟨(q0), ?_⟩
  exact hQ
set_option maxHeartbeats 4000000 in
set_option maxRecDepth 100000 in
theorem sg_X10_maker_0 {g : ev_G} {S : ev_S} {Q : ev_O → ev_S → Prop} (x0 : Int32) (hQ : ((ev_rem x0 2) = 1 → (
    Q (.inl (some (ev_i 0))) S)) ∧
  (¬ ((ev_rem x0 2) = 1) → (
    Q (.inl (some (ev_i 1))) S))) : ev_Cv g m_X10_maker 1 0 [ev_i x0] S Q := by
  refine ev_enter (by decide) rfl rfl (Nat.le_of_ble_eq_true rfl) ?_
  show ev_E g m_X10_maker 1 0 0 [some (ev_i x0)] [] S Q
  refine ev_iload_n (x0) dX10_maker_0 rfl ?_
  refine ev_iconst (2) dX10_maker_1 rfl ?_
  refine ev_irem dX10_maker_2 (by decide) ?_
  refine ev_iconst (1) dX10_maker_3 rfl ?_
  refine ev_icmp_ne 11 dX10_maker_4 (by decide) (fun c1 => ?_) (fun c1 => ?_)
  · replace hQ := hQ.2 c1
    refine ev_iconst (1) dX10_maker_11 rfl ?_
    exact ev_ireturn .int dX10_maker_12 rfl rfl hQ
  · replace hQ := hQ.1 c1
    refine ev_iconst (0) dX10_maker_7 rfl ?_
    refine ev_goto 12 dX10_maker_8 (by decide) ?_
    exact ev_ireturn .int dX10_maker_12 rfl rfl hQ
def f_X10_maker (x0 : Int32) : Int32 := if (ev_rem x0 2) = 1 then (0) else (1)
set_option maxHeartbeats 4000000 in
set_option maxRecDepth 100000 in
theorem sp_X10_maker {g : ev_G} {S : ev_S} (x0 : Int32)  : ev_Fn g m_X10_maker 1 [ev_i x0] S (some (ev_i (f_X10_maker x0))) S := by
  intro Q hQ
  refine sg_X10_maker_0 x0 ?_
  unfold f_X10_maker at hQ
  refine ⟨fun c1 => ?_, fun c1 => ?_⟩
  · rw [if_pos c1] at hQ
    exact hQ
  · rw [if_neg c1] at hQ
    exact hQ
set_option maxHeartbeats 4000000 in
set_option maxRecDepth 100000 in
theorem sg_X10_turnOf_0 {g : ev_G} {S : ev_S} {Q : ev_O → ev_S → Prop} (a : Nat) (x0 : Int32) (hQ : ev_Cv g m_X10_overOn 3 0 [ev_o 10 a, ev_i x0] S (fun o S1 => ∃ v1_ : Bool, o = .inl (some (ev_i (if v1_ = true then 1 else 0))) ∧ (
    (v1_ = true → (
      Q (.inl (some (ev_i 0))) S1)) ∧
    (¬ (v1_ = true) → (
      (vp_in ((12 + (7 * x0)) + 0) 2091) ∧ (
        ((f_X10_maker ((S1.1 (a + 1) ((12 + (7 * x0)) + 0).toNatClampNeg) + 1)) = x0 → (
          Q (.inl (some (ev_i 1))) S1)) ∧
        (¬ ((f_X10_maker ((S1.1 (a + 1) ((12 + (7 * x0)) + 0).toNatClampNeg) + 1)) = x0) → (
          Q (.inl (some (ev_i 0))) S1)))))))) : ev_Cv g m_X10_turnOf 4 0 [ev_o 10 a, ev_i x0] S Q := by
  refine ev_enter (by decide) rfl rfl (Nat.le_of_ble_eq_true rfl) ?_
  show ev_E g m_X10_turnOf 4 0 0 [some (ev_o 10 a), some (ev_i x0)] [] S Q
  refine ev_aload_n (ev_o 10 a) dX10_turnOf_0 rfl rfl ?_
  refine ev_iload_n (x0) dX10_turnOf_1 rfl ?_
  refine ev_cV mv_X10_overOn 3 0 10 [ev_i x0] [] dX10_turnOf_2 kw_2044 rfl (by decide) rfl (by decide) (by decide) (Nat.le_of_ble_eq_true rfl) hQ ?_ rfl
  rintro o S1 ⟨v1_, rfl, hQ⟩
  show ev_E g m_X10_turnOf 4 0 5 [some (ev_o 10 a), some (ev_i x0)] [ev_i (if v1_ = true then 1 else 0)] S1 Q
  by_cases c1 : v1_ = true
  · rw [if_pos c1]
    replace hQ := hQ.1 c1
    refine ev_if_ne 24 dX10_turnOf_5 (by decide) (fun _ => ?_) (fun h9 => absurd h9 (by decide : ¬ ((1 : Int32) = 0)))
    refine ev_iconst (0) dX10_turnOf_24 rfl ?_
    exact ev_ireturn .boolean dX10_turnOf_25 rfl rfl hQ
  · rw [if_neg c1]
    replace hQ := hQ.2 c1
    refine ev_if_ne 24 dX10_turnOf_5 (by decide) (fun h9 => absurd (by decide : ((0 : Int32) = 0)) h9) (fun _ => ?_)
    refine ev_aload_n (ev_o 10 a) dX10_turnOf_8 rfl rfl ?_
    refine ev_iload_n (x0) dX10_turnOf_9 rfl ?_
    obtain ⟨h1, hQ⟩ := hQ
    refine ev_fV mv_X10_nextNumber 2 10 [ev_i x0] [] dX10_turnOf_10 kw_2052 rfl (by decide) rfl (by decide) (Nat.le_of_ble_eq_true rfl) (sp_X10_nextNumber a x0 h1) ?_ rfl
    refine ev_fS ms_X10_maker 1 [ev_i ((S1.1 (a + 1) ((12 + (7 * x0)) + 0).toNatClampNeg) + 1)] [] dX10_turnOf_13 kw_2056 rfl (by decide) (Nat.le_of_ble_eq_true rfl) (sp_X10_maker ((S1.1 (a + 1) ((12 + (7 * x0)) + 0).toNatClampNeg) + 1)) ?_ rfl
    refine ev_iload_n (x0) dX10_turnOf_16 rfl ?_
    refine ev_icmp_ne 24 dX10_turnOf_17 (by decide) (fun c2 => ?_) (fun c2 => ?_)
    · replace hQ := hQ.2 c2
      refine ev_iconst (0) dX10_turnOf_24 rfl ?_
      exact ev_ireturn .boolean dX10_turnOf_25 rfl rfl hQ
    · replace hQ := hQ.1 c2
      refine ev_iconst (1) dX10_turnOf_20 rfl ?_
      refine ev_goto 25 dX10_turnOf_21 (by decide) ?_
      exact ev_ireturn .boolean dX10_turnOf_25 rfl rfl hQ
set_option maxHeartbeats 4000000 in
set_option maxRecDepth 100000 in
theorem sg_X10_isEmptyBetween_0 {g : ev_G} {S : ev_S} {Q : ev_O → ev_S → Prop} (a : Nat) (x0 : Int32) (x1 : Int32) (x2 : Int32) (x3 : Int32) (hQ : ev_E g m_X10_isEmptyBetween 2 0 6 [some (ev_o 10 a), some (ev_i x0), none, some (ev_i x2), some (ev_i x3), some (ev_i (x1 + x3))] [] S Q) : ev_Cv g m_X10_isEmptyBetween 2 0 [ev_o 10 a, ev_i x0, ev_i x1, ev_i x2, ev_i x3] S Q := by
  refine ev_enter (by decide) rfl rfl (Nat.le_of_ble_eq_true rfl) ?_
  show ev_E g m_X10_isEmptyBetween 2 0 0 [some (ev_o 10 a), some (ev_i x0), some (ev_i x1), some (ev_i x2), some (ev_i x3), none] [] S Q
  refine ev_iload_n (x1) dX10_isEmptyBetween_0 rfl ?_
  refine ev_iload (x3) dX10_isEmptyBetween_1 rfl ?_
  refine ev_iadd dX10_isEmptyBetween_3 ?_
  refine ev_istore dX10_isEmptyBetween_4 (Nat.le_of_ble_eq_true rfl) (ev_hw rfl) ?_
  show ev_E g m_X10_isEmptyBetween 2 0 6 [some (ev_o 10 a), some (ev_i x0), some (ev_i x1), some (ev_i x2), some (ev_i x3), some (ev_i (x1 + x3))] [] S Q
  refine ev_fgm [true, true, false, true, true, true] ?_
  exact hQ
set_option maxHeartbeats 4000000 in
set_option maxRecDepth 100000 in
theorem sg_X10_isEmptyBetween_6 {g : ev_G} {S : ev_S} {Q : ev_O → ev_S → Prop} (a : Nat) (u1 : Int32) (u3 : Int32) (u4 : Int32) (u5 : Int32) (hQ : (u5 = u3 → (
    Q (.inl (some (ev_i 1))) S)) ∧
  (¬ (u5 = u3) → (
    (vp_in ((26 + (64 * u1)) + u5) 2091) ∧ (
      ((S.1 (a + 1) ((26 + (64 * u1)) + u5).toNatClampNeg) = (-1) → (
        ev_E g m_X10_isEmptyBetween 2 0 6 [some (ev_o 10 a), some (ev_i u1), none, some (ev_i u3), some (ev_i u4), some (ev_i (u5 + u4))] [] S Q)) ∧
      (¬ ((S.1 (a + 1) ((26 + (64 * u1)) + u5).toNatClampNeg) = (-1)) → (
        Q (.inl (some (ev_i 0))) S)))))) : ev_E g m_X10_isEmptyBetween 2 0 6 [some (ev_o 10 a), some (ev_i u1), none, some (ev_i u3), some (ev_i u4), some (ev_i u5)] [] S Q := by
  refine ev_iload (u5) dX10_isEmptyBetween_6 rfl ?_
  refine ev_iload_n (u3) dX10_isEmptyBetween_8 rfl ?_
  refine ev_icmp_eq 35 dX10_isEmptyBetween_9 (by decide) (fun c1 => ?_) (fun c1 => ?_)
  · replace hQ := hQ.1 c1
    refine ev_iconst (1) dX10_isEmptyBetween_35 rfl ?_
    exact ev_ireturn .boolean dX10_isEmptyBetween_36 rfl rfl hQ
  · replace hQ := hQ.2 c1
    refine ev_aload_n (ev_o 10 a) dX10_isEmptyBetween_12 rfl rfl ?_
    refine ev_iload_n (u1) dX10_isEmptyBetween_13 rfl ?_
    refine ev_iload (u5) dX10_isEmptyBetween_14 rfl ?_
    obtain ⟨h1, hQ⟩ := hQ
    refine ev_fV mv_X10_owner 1 10 [ev_i u1, ev_i u5] [] dX10_isEmptyBetween_16 kw_1831 rfl (by decide) rfl (by decide) (Nat.le_of_ble_eq_true rfl) (sp_X10_owner a u1 u5 h1) ?_ rfl
    refine ev_iconst (-1) dX10_isEmptyBetween_19 rfl ?_
    refine ev_icmp_eq 25 dX10_isEmptyBetween_20 (by decide) (fun c2 => ?_) (fun c2 => ?_)
    · replace hQ := hQ.1 c2
      refine ev_iload (u5) dX10_isEmptyBetween_25 rfl ?_
      refine ev_iload (u4) dX10_isEmptyBetween_27 rfl ?_
      refine ev_iadd dX10_isEmptyBetween_29 ?_
      refine ev_istore dX10_isEmptyBetween_30 (Nat.le_of_ble_eq_true rfl) (ev_hw rfl) ?_
      show ev_E g m_X10_isEmptyBetween 2 0 32 [some (ev_o 10 a), some (ev_i u1), none, some (ev_i u3), some (ev_i u4), some (ev_i (u5 + u4))] [] S Q
      refine ev_goto 6 dX10_isEmptyBetween_32 (by decide) ?_
      exact hQ
    · replace hQ := hQ.2 c2
      refine ev_iconst (0) dX10_isEmptyBetween_23 rfl ?_
      exact ev_ireturn .boolean dX10_isEmptyBetween_24 rfl rfl hQ
set_option maxHeartbeats 4000000 in
set_option maxRecDepth 100000 in
theorem sg_X10_moves_0 {g : ev_G} {S : ev_S} {Q : ev_O → ev_S → Prop} (a : Nat) (x0 : Int32) (x1 : Int32) (x2 : Int32) (x3 : Int32) (hQ : (¬ (S.1 (a + 1) 0) = 0) ∧ (
    (vp_in ((26 + (64 * x0)) + x2) 2091) ∧ (
      ((S.1 (a + 1) ((26 + (64 * x0)) + x2).toNatClampNeg) = x1 → (
        (x1 = (-1) → (
          Q (.inl (some (ev_i 0))) S)) ∧
        (¬ (x1 = (-1)) → (
          (((x3 / (S.1 (a + 1) 0)) - (x2 / (S.1 (a + 1) 0))) = 0 → (
            Q (.inl (some (ev_i 0))) S)) ∧
          (¬ (((x3 / (S.1 (a + 1) 0)) - (x2 / (S.1 (a + 1) 0))) = 0) → (
            ((ev_abs ((x3 / (S.1 (a + 1) 0)) - (x2 / (S.1 (a + 1) 0)))) = (ev_abs ((ev_rem x3 (S.1 (a + 1) 0)) - (ev_rem x2 (S.1 (a + 1) 0)))) → (
              (vp_in ((26 + (64 * x0)) + x3) 2091) ∧ (
                ((S.1 (a + 1) ((26 + (64 * x0)) + x3).toNatClampNeg) = x1 → (
                  Q (.inl (some (ev_i 0))) S)) ∧
                (¬ ((S.1 (a + 1) ((26 + (64 * x0)) + x3).toNatClampNeg) = x1) → (
                  (((x3 / (S.1 (a + 1) 0)) - (x2 / (S.1 (a + 1) 0))) ≤ 0 → (
                    (((ev_rem x3 (S.1 (a + 1) 0)) - (ev_rem x2 (S.1 (a + 1) 0))) ≤ 0 → (
                      ev_Cv g m_X10_isEmptyBetween 2 0 [ev_o 10 a, ev_i x0, ev_i x2, ev_i x3, ev_i ((-(S.1 (a + 1) 0)) + (-1))] S (fun o S1 => ∃ v1_ : Bool, o = .inl (some (ev_i (if v1_ = true then 1 else 0))) ∧ (
                        (v1_ = true → (
                          Q (.inl (some (ev_i 1))) S1)) ∧
                        (¬ (v1_ = true) → (
                          Q (.inl (some (ev_i 0))) S1)))))) ∧
                    (¬ (((ev_rem x3 (S.1 (a + 1) 0)) - (ev_rem x2 (S.1 (a + 1) 0))) ≤ 0) → (
                      ev_Cv g m_X10_isEmptyBetween 2 0 [ev_o 10 a, ev_i x0, ev_i x2, ev_i x3, ev_i ((-(S.1 (a + 1) 0)) + 1)] S (fun o S2 => ∃ v2_ : Bool, o = .inl (some (ev_i (if v2_ = true then 1 else 0))) ∧ (
                        (v2_ = true → (
                          Q (.inl (some (ev_i 1))) S2)) ∧
                        (¬ (v2_ = true) → (
                          Q (.inl (some (ev_i 0))) S2)))))))) ∧
                  (¬ (((x3 / (S.1 (a + 1) 0)) - (x2 / (S.1 (a + 1) 0))) ≤ 0) → (
                    (((ev_rem x3 (S.1 (a + 1) 0)) - (ev_rem x2 (S.1 (a + 1) 0))) ≤ 0 → (
                      ev_Cv g m_X10_isEmptyBetween 2 0 [ev_o 10 a, ev_i x0, ev_i x2, ev_i x3, ev_i ((S.1 (a + 1) 0) + (-1))] S (fun o S3 => ∃ v3_ : Bool, o = .inl (some (ev_i (if v3_ = true then 1 else 0))) ∧ (
                        (v3_ = true → (
                          Q (.inl (some (ev_i 1))) S3)) ∧
                        (¬ (v3_ = true) → (
                          Q (.inl (some (ev_i 0))) S3)))))) ∧
                    (¬ (((ev_rem x3 (S.1 (a + 1) 0)) - (ev_rem x2 (S.1 (a + 1) 0))) ≤ 0) → (
                      ev_Cv g m_X10_isEmptyBetween 2 0 [ev_o 10 a, ev_i x0, ev_i x2, ev_i x3, ev_i ((S.1 (a + 1) 0) + 1)] S (fun o S4 => ∃ v4_ : Bool, o = .inl (some (ev_i (if v4_ = true then 1 else 0))) ∧ (
                        (v4_ = true → (
                          Q (.inl (some (ev_i 1))) S4)) ∧
                        (¬ (v4_ = true) → (
                          Q (.inl (some (ev_i 0))) S4))))))))))))) ∧
            (¬ ((ev_abs ((x3 / (S.1 (a + 1) 0)) - (x2 / (S.1 (a + 1) 0)))) = (ev_abs ((ev_rem x3 (S.1 (a + 1) 0)) - (ev_rem x2 (S.1 (a + 1) 0))))) → (
              Q (.inl (some (ev_i 0))) S)))))))) ∧
      (¬ ((S.1 (a + 1) ((26 + (64 * x0)) + x2).toNatClampNeg) = x1) → (
        Q (.inl (some (ev_i 0))) S))))) : ev_Cv g m_X10_moves 3 0 [ev_o 10 a, ev_i x0, ev_i x1, ev_i x2, ev_i x3] S Q := by
  refine ev_enter (by decide) rfl rfl (Nat.le_of_ble_eq_true rfl) ?_
  show ev_E g m_X10_moves 3 0 0 [some (ev_o 10 a), some (ev_i x0), some (ev_i x1), some (ev_i x2), some (ev_i x3), none, none, none] [] S Q
  refine ev_aload_n (ev_o 10 a) dX10_moves_0 rfl rfl ?_
  refine gf_10_0 dX10_moves_1 kw_1853 ?_
  refine ev_iconst (0) dX10_moves_4 rfl ?_
  refine ev_iaload dX10_moves_5 (j_vin (by decide)) ?_
  refine ev_istore dX10_moves_6 (Nat.le_of_ble_eq_true rfl) (ev_hw rfl) ?_
  show ev_E g m_X10_moves 3 0 8 [some (ev_o 10 a), some (ev_i x0), some (ev_i x1), some (ev_i x2), some (ev_i x3), some (ev_i (S.1 (a + 1) 0)), none, none] [] S Q
  refine ev_iload (x3) dX10_moves_8 rfl ?_
  refine ev_iload ((S.1 (a + 1) 0)) dX10_moves_10 rfl ?_
  obtain ⟨h1, hQ⟩ := hQ
  refine ev_idiv dX10_moves_12 h1 ?_
  refine ev_iload_n (x2) dX10_moves_13 rfl ?_
  refine ev_iload ((S.1 (a + 1) 0)) dX10_moves_14 rfl ?_
  refine ev_idiv dX10_moves_16 h1 ?_
  refine ev_isub dX10_moves_17 ?_
  refine ev_istore dX10_moves_18 (Nat.le_of_ble_eq_true rfl) (ev_hw rfl) ?_
  show ev_E g m_X10_moves 3 0 20 [some (ev_o 10 a), some (ev_i x0), some (ev_i x1), some (ev_i x2), some (ev_i x3), some (ev_i (S.1 (a + 1) 0)), some (ev_i ((x3 / (S.1 (a + 1) 0)) - (x2 / (S.1 (a + 1) 0)))), none] [] S Q
  refine ev_iload (x3) dX10_moves_20 rfl ?_
  refine ev_iload ((S.1 (a + 1) 0)) dX10_moves_22 rfl ?_
  refine ev_irem dX10_moves_24 h1 ?_
  refine ev_iload_n (x2) dX10_moves_25 rfl ?_
  refine ev_iload ((S.1 (a + 1) 0)) dX10_moves_26 rfl ?_
  refine ev_irem dX10_moves_28 h1 ?_
  refine ev_isub dX10_moves_29 ?_
  refine ev_istore dX10_moves_30 (Nat.le_of_ble_eq_true rfl) (ev_hw rfl) ?_
  show ev_E g m_X10_moves 3 0 32 [some (ev_o 10 a), some (ev_i x0), some (ev_i x1), some (ev_i x2), some (ev_i x3), some (ev_i (S.1 (a + 1) 0)), some (ev_i ((x3 / (S.1 (a + 1) 0)) - (x2 / (S.1 (a + 1) 0)))), some (ev_i ((ev_rem x3 (S.1 (a + 1) 0)) - (ev_rem x2 (S.1 (a + 1) 0))))] [] S Q
  refine ev_aload_n (ev_o 10 a) dX10_moves_32 rfl rfl ?_
  refine ev_iload_n (x0) dX10_moves_33 rfl ?_
  refine ev_iload_n (x2) dX10_moves_34 rfl ?_
  obtain ⟨h2, hQ⟩ := hQ
  refine ev_fV mv_X10_owner 1 10 [ev_i x0, ev_i x2] [] dX10_moves_35 kw_1831 rfl (by decide) rfl (by decide) (Nat.le_of_ble_eq_true rfl) (sp_X10_owner a x0 x2 h2) ?_ rfl
  refine ev_iload_n (x1) dX10_moves_38 rfl ?_
  refine ev_icmp_ne 76 dX10_moves_39 (by decide) (fun c1 => ?_) (fun c1 => ?_)
  · replace hQ := hQ.2 c1
    refine ev_iconst (0) dX10_moves_76 rfl ?_
    exact ev_ireturn .boolean dX10_moves_77 rfl rfl hQ
  · replace hQ := hQ.1 c1
    refine ev_iload_n (x1) dX10_moves_42 rfl ?_
    refine ev_iconst (-1) dX10_moves_43 rfl ?_
    refine ev_icmp_eq 76 dX10_moves_44 (by decide) (fun c2 => ?_) (fun c2 => ?_)
    · replace hQ := hQ.1 c2
      refine ev_iconst (0) dX10_moves_76 rfl ?_
      exact ev_ireturn .boolean dX10_moves_77 rfl rfl hQ
    · replace hQ := hQ.2 c2
      refine ev_iload (((x3 / (S.1 (a + 1) 0)) - (x2 / (S.1 (a + 1) 0)))) dX10_moves_47 rfl ?_
      refine ev_if_eq 76 dX10_moves_49 (by decide) (fun c3 => ?_) (fun c3 => ?_)
      · replace hQ := hQ.1 c3
        refine ev_iconst (0) dX10_moves_76 rfl ?_
        exact ev_ireturn .boolean dX10_moves_77 rfl rfl hQ
      · replace hQ := hQ.2 c3
        refine ev_iload (((x3 / (S.1 (a + 1) 0)) - (x2 / (S.1 (a + 1) 0)))) dX10_moves_52 rfl ?_
        refine ev_mathAbs dX10_moves_54 kw_2063 kw_895 kw_123 kw_896 (Nat.le_of_ble_eq_true rfl) ?_
        refine ev_iload (((ev_rem x3 (S.1 (a + 1) 0)) - (ev_rem x2 (S.1 (a + 1) 0)))) dX10_moves_57 rfl ?_
        refine ev_mathAbs dX10_moves_59 kw_2063 kw_895 kw_123 kw_896 (Nat.le_of_ble_eq_true rfl) ?_
        refine ev_icmp_ne 76 dX10_moves_62 (by decide) (fun c4 => ?_) (fun c4 => ?_)
        · replace hQ := hQ.2 c4
          refine ev_iconst (0) dX10_moves_76 rfl ?_
          exact ev_ireturn .boolean dX10_moves_77 rfl rfl hQ
        · replace hQ := hQ.1 c4
          refine ev_aload_n (ev_o 10 a) dX10_moves_65 rfl rfl ?_
          refine ev_iload_n (x0) dX10_moves_66 rfl ?_
          refine ev_iload (x3) dX10_moves_67 rfl ?_
          obtain ⟨h3, hQ⟩ := hQ
          refine ev_fV mv_X10_owner 1 10 [ev_i x0, ev_i x3] [] dX10_moves_69 kw_1831 rfl (by decide) rfl (by decide) (Nat.le_of_ble_eq_true rfl) (sp_X10_owner a x0 x3 h3) ?_ rfl
          refine ev_iload_n (x1) dX10_moves_72 rfl ?_
          refine ev_icmp_ne 78 dX10_moves_73 (by decide) (fun c5 => ?_) (fun c5 => ?_)
          · replace hQ := hQ.2 c5
            refine ev_aload_n (ev_o 10 a) dX10_moves_78 rfl rfl ?_
            refine ev_iload_n (x0) dX10_moves_79 rfl ?_
            refine ev_iload_n (x2) dX10_moves_80 rfl ?_
            refine ev_iload (x3) dX10_moves_81 rfl ?_
            refine ev_iload (((x3 / (S.1 (a + 1) 0)) - (x2 / (S.1 (a + 1) 0)))) dX10_moves_83 rfl ?_
            refine ev_if_le 93 dX10_moves_85 (by decide) (fun c6 => ?_) (fun c6 => ?_)
            · replace hQ := hQ.1 c6
              refine ev_iload ((S.1 (a + 1) 0)) dX10_moves_93 rfl ?_
              refine ev_ineg dX10_moves_95 ?_
              refine ev_iload (((ev_rem x3 (S.1 (a + 1) 0)) - (ev_rem x2 (S.1 (a + 1) 0)))) dX10_moves_96 rfl ?_
              refine ev_if_le 105 dX10_moves_98 (by decide) (fun c7 => ?_) (fun c7 => ?_)
              · replace hQ := hQ.1 c7
                refine ev_iconst (-1) dX10_moves_105 rfl ?_
                refine ev_iadd dX10_moves_106 ?_
                refine ev_cV mv_X10_isEmptyBetween 2 0 10 [ev_i x0, ev_i x2, ev_i x3, ev_i ((-(S.1 (a + 1) 0)) + (-1))] [] dX10_moves_107 kw_2064 rfl (by decide) rfl (by decide) (by decide) (Nat.le_of_ble_eq_true rfl) hQ ?_ rfl
                rintro o S1 ⟨v1_, rfl, hQ⟩
                show ev_E g m_X10_moves 3 0 110 [some (ev_o 10 a), some (ev_i x0), some (ev_i x1), some (ev_i x2), some (ev_i x3), some (ev_i (S.1 (a + 1) 0)), some (ev_i ((x3 / (S.1 (a + 1) 0)) - (x2 / (S.1 (a + 1) 0)))), some (ev_i ((ev_rem x3 (S.1 (a + 1) 0)) - (ev_rem x2 (S.1 (a + 1) 0))))] [ev_i (if v1_ = true then 1 else 0)] S1 Q
                by_cases c8 : v1_ = true
                · rw [if_pos c8]
                  replace hQ := hQ.1 c8
                  exact ev_ireturn .boolean dX10_moves_110 rfl rfl hQ
                · rw [if_neg c8]
                  replace hQ := hQ.2 c8
                  exact ev_ireturn .boolean dX10_moves_110 rfl rfl hQ
              · replace hQ := hQ.2 c7
                refine ev_iconst (1) dX10_moves_101 rfl ?_
                refine ev_goto 106 dX10_moves_102 (by decide) ?_
                refine ev_iadd dX10_moves_106 ?_
                refine ev_cV mv_X10_isEmptyBetween 2 0 10 [ev_i x0, ev_i x2, ev_i x3, ev_i ((-(S.1 (a + 1) 0)) + 1)] [] dX10_moves_107 kw_2064 rfl (by decide) rfl (by decide) (by decide) (Nat.le_of_ble_eq_true rfl) hQ ?_ rfl
                rintro o S2 ⟨v2_, rfl, hQ⟩
                show ev_E g m_X10_moves 3 0 110 [some (ev_o 10 a), some (ev_i x0), some (ev_i x1), some (ev_i x2), some (ev_i x3), some (ev_i (S.1 (a + 1) 0)), some (ev_i ((x3 / (S.1 (a + 1) 0)) - (x2 / (S.1 (a + 1) 0)))), some (ev_i ((ev_rem x3 (S.1 (a + 1) 0)) - (ev_rem x2 (S.1 (a + 1) 0))))] [ev_i (if v2_ = true then 1 else 0)] S2 Q
                by_cases c9 : v2_ = true
                · rw [if_pos c9]
                  replace hQ := hQ.1 c9
                  exact ev_ireturn .boolean dX10_moves_110 rfl rfl hQ
                · rw [if_neg c9]
                  replace hQ := hQ.2 c9
                  exact ev_ireturn .boolean dX10_moves_110 rfl rfl hQ
            · replace hQ := hQ.2 c6
              refine ev_iload ((S.1 (a + 1) 0)) dX10_moves_88 rfl ?_
              refine ev_goto 96 dX10_moves_90 (by decide) ?_
              refine ev_iload (((ev_rem x3 (S.1 (a + 1) 0)) - (ev_rem x2 (S.1 (a + 1) 0)))) dX10_moves_96 rfl ?_
              refine ev_if_le 105 dX10_moves_98 (by decide) (fun c10 => ?_) (fun c10 => ?_)
              · replace hQ := hQ.1 c10
                refine ev_iconst (-1) dX10_moves_105 rfl ?_
                refine ev_iadd dX10_moves_106 ?_
                refine ev_cV mv_X10_isEmptyBetween 2 0 10 [ev_i x0, ev_i x2, ev_i x3, ev_i ((S.1 (a + 1) 0) + (-1))] [] dX10_moves_107 kw_2064 rfl (by decide) rfl (by decide) (by decide) (Nat.le_of_ble_eq_true rfl) hQ ?_ rfl
                rintro o S3 ⟨v3_, rfl, hQ⟩
                show ev_E g m_X10_moves 3 0 110 [some (ev_o 10 a), some (ev_i x0), some (ev_i x1), some (ev_i x2), some (ev_i x3), some (ev_i (S.1 (a + 1) 0)), some (ev_i ((x3 / (S.1 (a + 1) 0)) - (x2 / (S.1 (a + 1) 0)))), some (ev_i ((ev_rem x3 (S.1 (a + 1) 0)) - (ev_rem x2 (S.1 (a + 1) 0))))] [ev_i (if v3_ = true then 1 else 0)] S3 Q
                by_cases c11 : v3_ = true
                · rw [if_pos c11]
                  replace hQ := hQ.1 c11
                  exact ev_ireturn .boolean dX10_moves_110 rfl rfl hQ
                · rw [if_neg c11]
                  replace hQ := hQ.2 c11
                  exact ev_ireturn .boolean dX10_moves_110 rfl rfl hQ
              · replace hQ := hQ.2 c10
                refine ev_iconst (1) dX10_moves_101 rfl ?_
                refine ev_goto 106 dX10_moves_102 (by decide) ?_
                refine ev_iadd dX10_moves_106 ?_
                refine ev_cV mv_X10_isEmptyBetween 2 0 10 [ev_i x0, ev_i x2, ev_i x3, ev_i ((S.1 (a + 1) 0) + 1)] [] dX10_moves_107 kw_2064 rfl (by decide) rfl (by decide) (by decide) (Nat.le_of_ble_eq_true rfl) hQ ?_ rfl
                rintro o S4 ⟨v4_, rfl, hQ⟩
                show ev_E g m_X10_moves 3 0 110 [some (ev_o 10 a), some (ev_i x0), some (ev_i x1), some (ev_i x2), some (ev_i x3), some (ev_i (S.1 (a + 1) 0)), some (ev_i ((x3 / (S.1 (a + 1) 0)) - (x2 / (S.1 (a + 1) 0)))), some (ev_i ((ev_rem x3 (S.1 (a + 1) 0)) - (ev_rem x2 (S.1 (a + 1) 0))))] [ev_i (if v4_ = true then 1 else 0)] S4 Q
                by_cases c12 : v4_ = true
                · rw [if_pos c12]
                  replace hQ := hQ.1 c12
                  exact ev_ireturn .boolean dX10_moves_110 rfl rfl hQ
                · rw [if_neg c12]
                  replace hQ := hQ.2 c12
                  exact ev_ireturn .boolean dX10_moves_110 rfl rfl hQ
          · replace hQ := hQ.1 c5
            refine ev_iconst (0) dX10_moves_76 rfl ?_
            exact ev_ireturn .boolean dX10_moves_77 rfl rfl hQ
set_option maxHeartbeats 4000000 in
set_option maxRecDepth 100000 in
theorem sg_X10_waits_0 {g : ev_G} {S : ev_S} {Q : ev_O → ev_S → Prop} (a : Nat) (x0 : Int32) (x1 : Int32) (hQ : (vp_in ((12 + (7 * x0)) + 3) 2091) ∧ (
    ∀ S1 : ev_S, S1 = (ev_up S (a + 1) ((12 + (7 * x0)) + 3).toNatClampNeg (ev_max (S.1 (a + 1) ((12 + (7 * x0)) + 3).toNatClampNeg) x1)) → (
      (vp_in ((12 + (7 * x0)) + 4) 2091) ∧ (
        ∀ S2 : ev_S, S2 = (ev_up S1 (a + 1) ((12 + (7 * x0)) + 4).toNatClampNeg ((S1.1 (a + 1) ((12 + (7 * x0)) + 4).toNatClampNeg) + x1)) → (
          (vp_in ((12 + (7 * x0)) + 5) 2091) ∧ (
            ∀ S3 : ev_S, S3 = (ev_up S2 (a + 1) ((12 + (7 * x0)) + 5).toNatClampNeg ((S2.1 (a + 1) ((12 + (7 * x0)) + 5).toNatClampNeg) + 1)) → (
              Q (.inl none) S3))))))) : ev_Cv g m_X10_waits 2 0 [ev_o 10 a, ev_i x0, ev_i x1] S Q := by
  refine ev_enter (by decide) rfl rfl (Nat.le_of_ble_eq_true rfl) ?_
  show ev_E g m_X10_waits 2 0 0 [some (ev_o 10 a), some (ev_i x0), some (ev_i x1)] [] S Q
  refine ev_aload_n (ev_o 10 a) dX10_waits_0 rfl rfl ?_
  refine ev_iload_n (x0) dX10_waits_1 rfl ?_
  refine ev_iconst (3) dX10_waits_2 rfl ?_
  refine ev_aload_n (ev_o 10 a) dX10_waits_3 rfl rfl ?_
  refine ev_iload_n (x0) dX10_waits_4 rfl ?_
  refine ev_iconst (3) dX10_waits_5 rfl ?_
  obtain ⟨h1, hQ⟩ := hQ
  refine ev_fV mv_X10_ofP 1 10 [ev_i x0, ev_i 3] [ev_i 3, ev_i x0, ev_o 10 a] dX10_waits_6 kw_2048 rfl (by decide) rfl (by decide) (Nat.le_of_ble_eq_true rfl) (sp_X10_ofP a x0 3 h1) ?_ rfl
  refine ev_iload_n (x1) dX10_waits_9 rfl ?_
  refine ev_mathMax dX10_waits_10 kw_2080 kw_948 kw_123 kw_949 (Nat.le_of_ble_eq_true rfl) ?_
  refine ev_fVn mv_X10_putP 1 10 [ev_i x0, ev_i 3, ev_i (ev_max (S.1 (a + 1) ((12 + (7 * x0)) + 3).toNatClampNeg) x1)] [] dX10_waits_13 kw_1765 rfl (by decide) rfl (by decide) (Nat.le_of_ble_eq_true rfl) (sp_X10_putP a x0 3 (ev_max (S.1 (a + 1) ((12 + (7 * x0)) + 3).toNatClampNeg) x1) h1) ?_ rfl
  refine ev_sub hQ (fun S1 hS1 hQ => ?_)
  refine ev_E.goal (pc' := 16) (L' := [some (ev_o 10 a), some (ev_i x0), some (ev_i x1)]) (K' := []) (S' := S1) ?_ rfl rfl rfl hS1
  refine ev_aload_n (ev_o 10 a) dX10_waits_16 rfl rfl ?_
  refine ev_iload_n (x0) dX10_waits_17 rfl ?_
  refine ev_iconst (4) dX10_waits_18 rfl ?_
  refine ev_aload_n (ev_o 10 a) dX10_waits_19 rfl rfl ?_
  refine ev_iload_n (x0) dX10_waits_20 rfl ?_
  refine ev_iconst (4) dX10_waits_21 rfl ?_
  obtain ⟨h2, hQ⟩ := hQ
  refine ev_fV mv_X10_ofP 1 10 [ev_i x0, ev_i 4] [ev_i 4, ev_i x0, ev_o 10 a] dX10_waits_22 kw_2048 rfl (by decide) rfl (by decide) (Nat.le_of_ble_eq_true rfl) (sp_X10_ofP a x0 4 h2) ?_ rfl
  refine ev_iload_n (x1) dX10_waits_25 rfl ?_
  refine ev_iadd dX10_waits_26 ?_
  refine ev_fVn mv_X10_putP 1 10 [ev_i x0, ev_i 4, ev_i ((S1.1 (a + 1) ((12 + (7 * x0)) + 4).toNatClampNeg) + x1)] [] dX10_waits_27 kw_1765 rfl (by decide) rfl (by decide) (Nat.le_of_ble_eq_true rfl) (sp_X10_putP a x0 4 ((S1.1 (a + 1) ((12 + (7 * x0)) + 4).toNatClampNeg) + x1) h2) ?_ rfl
  refine ev_sub hQ (fun S2 hS2 hQ => ?_)
  refine ev_E.goal (pc' := 30) (L' := [some (ev_o 10 a), some (ev_i x0), some (ev_i x1)]) (K' := []) (S' := S2) ?_ rfl rfl rfl hS2
  refine ev_aload_n (ev_o 10 a) dX10_waits_30 rfl rfl ?_
  refine ev_iload_n (x0) dX10_waits_31 rfl ?_
  refine ev_iconst (5) dX10_waits_32 rfl ?_
  refine ev_aload_n (ev_o 10 a) dX10_waits_33 rfl rfl ?_
  refine ev_iload_n (x0) dX10_waits_34 rfl ?_
  refine ev_iconst (5) dX10_waits_35 rfl ?_
  obtain ⟨h3, hQ⟩ := hQ
  refine ev_fV mv_X10_ofP 1 10 [ev_i x0, ev_i 5] [ev_i 5, ev_i x0, ev_o 10 a] dX10_waits_36 kw_2048 rfl (by decide) rfl (by decide) (Nat.le_of_ble_eq_true rfl) (sp_X10_ofP a x0 5 h3) ?_ rfl
  refine ev_iconst (1) dX10_waits_39 rfl ?_
  refine ev_iadd dX10_waits_40 ?_
  refine ev_fVn mv_X10_putP 1 10 [ev_i x0, ev_i 5, ev_i ((S2.1 (a + 1) ((12 + (7 * x0)) + 5).toNatClampNeg) + 1)] [] dX10_waits_41 kw_1765 rfl (by decide) rfl (by decide) (Nat.le_of_ble_eq_true rfl) (sp_X10_putP a x0 5 ((S2.1 (a + 1) ((12 + (7 * x0)) + 5).toNatClampNeg) + 1) h3) ?_ rfl
  refine ev_sub hQ (fun S3 hS3 hQ => ?_)
  refine ev_E.goal (pc' := 44) (L' := [some (ev_o 10 a), some (ev_i x0), some (ev_i x1)]) (K' := []) (S' := S3) ?_ rfl rfl rfl hS3
  exact ev_return dX10_waits_44 rfl hQ
set_option maxHeartbeats 4000000 in
set_option maxRecDepth 100000 in
theorem sg_X10_applies_0 {g : ev_G} {S : ev_S} {Q : ev_O → ev_S → Prop} (a : Nat) (x0 : Int32) (x1 : Int32) (x2 : Int32) (hQ : (vp_in ((26 + (64 * x0)) + x1) 2091) ∧ (
    (vp_in ((26 + (64 * x0)) + x2) 2091) ∧ (
      ((S.1 (a + 1) ((26 + (64 * x0)) + x2).toNatClampNeg) = (-1) → (
        (vp_in ((12 + (7 * x0)) + 0) 2091) ∧ (
          (vp_in ((154 + (180 * x0)) + (3 * (((S.1 (a + 1) ((12 + (7 * x0)) + 0).toNatClampNeg) + 1) - 1))) 2091) ∧ (
            ∀ S1 : ev_S, S1 = (ev_up S (a + 1) ((154 + (180 * x0)) + (3 * (((S.1 (a + 1) ((12 + (7 * x0)) + 0).toNatClampNeg) + 1) - 1))).toNatClampNeg x1) → (
              (vp_in (((154 + (180 * x0)) + (3 * (((S.1 (a + 1) ((12 + (7 * x0)) + 0).toNatClampNeg) + 1) - 1))) + 1) 2091) ∧ (
                ∀ S2 : ev_S, S2 = (ev_up S1 (a + 1) (((154 + (180 * x0)) + (3 * (((S.1 (a + 1) ((12 + (7 * x0)) + 0).toNatClampNeg) + 1) - 1))) + 1).toNatClampNeg x2) → (
                  (vp_in (((154 + (180 * x0)) + (3 * (((S.1 (a + 1) ((12 + (7 * x0)) + 0).toNatClampNeg) + 1) - 1))) + 2) 2091) ∧ (
                    ∀ S3 : ev_S, S3 = (ev_up S2 (a + 1) (((154 + (180 * x0)) + (3 * (((S.1 (a + 1) ((12 + (7 * x0)) + 0).toNatClampNeg) + 1) - 1))) + 2).toNatClampNeg 0) → (
                      ∀ S4 : ev_S, S4 = (ev_up S3 (a + 1) ((26 + (64 * x0)) + x2).toNatClampNeg (S.1 (a + 1) ((26 + (64 * x0)) + x1).toNatClampNeg)) → (
                        ∀ S5 : ev_S, S5 = (ev_up S4 (a + 1) ((26 + (64 * x0)) + x1).toNatClampNeg (-1)) → (
                          ∀ S6 : ev_S, S6 = (ev_up S5 (a + 1) ((12 + (7 * x0)) + 0).toNatClampNeg ((S.1 (a + 1) ((12 + (7 * x0)) + 0).toNatClampNeg) + 1)) → (
                            ((f_X10_maker ((S.1 (a + 1) ((12 + (7 * x0)) + 0).toNatClampNeg) + 1)) = x0 → (
                              (vp_in ((12 + (7 * x0)) + 2) 2091) ∧ (
                                ∀ S8 : ev_S, S8 = (ev_up S6 (a + 1) ((12 + (7 * x0)) + 2).toNatClampNeg (S6.1 (a + 1) 2)) → (
                                  Q (.inl none) S8)))) ∧
                            (¬ ((f_X10_maker ((S.1 (a + 1) ((12 + (7 * x0)) + 0).toNatClampNeg) + 1)) = x0) → (
                              (vp_in ((12 + (7 * x0)) + 2) 2091) ∧ (
                                ((S6.1 (a + 1) ((12 + (7 * x0)) + 2).toNatClampNeg) = (-1) → (
                                  Q (.inl none) S6)) ∧
                                (¬ ((S6.1 (a + 1) ((12 + (7 * x0)) + 2).toNatClampNeg) = (-1)) → (
                                  ev_Cv g m_X10_waits 2 0 [ev_o 10 a, ev_i x0, ev_i ((S6.1 (a + 1) 2) - (S6.1 (a + 1) ((12 + (7 * x0)) + 2).toNatClampNeg))] S6 (fun o S7 => o = .inl none ∧ (
                                    Q (.inl none) S7))))))))))))))))))) ∧
      (¬ ((S.1 (a + 1) ((26 + (64 * x0)) + x2).toNatClampNeg) = (-1)) → (
        (vp_in ((12 + (7 * x0)) + 0) 2091) ∧ (
          (vp_in ((154 + (180 * x0)) + (3 * (((S.1 (a + 1) ((12 + (7 * x0)) + 0).toNatClampNeg) + 1) - 1))) 2091) ∧ (
            ∀ S9 : ev_S, S9 = (ev_up S (a + 1) ((154 + (180 * x0)) + (3 * (((S.1 (a + 1) ((12 + (7 * x0)) + 0).toNatClampNeg) + 1) - 1))).toNatClampNeg x1) → (
              (vp_in (((154 + (180 * x0)) + (3 * (((S.1 (a + 1) ((12 + (7 * x0)) + 0).toNatClampNeg) + 1) - 1))) + 1) 2091) ∧ (
                ∀ S10 : ev_S, S10 = (ev_up S9 (a + 1) (((154 + (180 * x0)) + (3 * (((S.1 (a + 1) ((12 + (7 * x0)) + 0).toNatClampNeg) + 1) - 1))) + 1).toNatClampNeg x2) → (
                  (vp_in (((154 + (180 * x0)) + (3 * (((S.1 (a + 1) ((12 + (7 * x0)) + 0).toNatClampNeg) + 1) - 1))) + 2) 2091) ∧ (
                    ∀ S11 : ev_S, S11 = (ev_up S10 (a + 1) (((154 + (180 * x0)) + (3 * (((S.1 (a + 1) ((12 + (7 * x0)) + 0).toNatClampNeg) + 1) - 1))) + 2).toNatClampNeg 1) → (
                      ∀ S12 : ev_S, S12 = (ev_up S11 (a + 1) ((26 + (64 * x0)) + x2).toNatClampNeg (S.1 (a + 1) ((26 + (64 * x0)) + x1).toNatClampNeg)) → (
                        ∀ S13 : ev_S, S13 = (ev_up S12 (a + 1) ((26 + (64 * x0)) + x1).toNatClampNeg (-1)) → (
                          ∀ S14 : ev_S, S14 = (ev_up S13 (a + 1) ((12 + (7 * x0)) + 0).toNatClampNeg ((S.1 (a + 1) ((12 + (7 * x0)) + 0).toNatClampNeg) + 1)) → (
                            (vp_in ((12 + (7 * x0)) + 1) 2091) ∧ (
                              ∀ S15 : ev_S, S15 = (ev_up S14 (a + 1) ((12 + (7 * x0)) + 1).toNatClampNeg ((S14.1 (a + 1) ((12 + (7 * x0)) + 1).toNatClampNeg) + 1)) → (
                                ((f_X10_maker ((S.1 (a + 1) ((12 + (7 * x0)) + 0).toNatClampNeg) + 1)) = x0 → (
                                  (vp_in ((12 + (7 * x0)) + 2) 2091) ∧ (
                                    ∀ S17 : ev_S, S17 = (ev_up S15 (a + 1) ((12 + (7 * x0)) + 2).toNatClampNeg (S15.1 (a + 1) 2)) → (
                                      Q (.inl none) S17)))) ∧
                                (¬ ((f_X10_maker ((S.1 (a + 1) ((12 + (7 * x0)) + 0).toNatClampNeg) + 1)) = x0) → (
                                  (vp_in ((12 + (7 * x0)) + 2) 2091) ∧ (
                                    ((S15.1 (a + 1) ((12 + (7 * x0)) + 2).toNatClampNeg) = (-1) → (
                                      Q (.inl none) S15)) ∧
                                    (¬ ((S15.1 (a + 1) ((12 + (7 * x0)) + 2).toNatClampNeg) = (-1)) → (
                                      ev_Cv g m_X10_waits 2 0 [ev_o 10 a, ev_i x0, ev_i ((S15.1 (a + 1) 2) - (S15.1 (a + 1) ((12 + (7 * x0)) + 2).toNatClampNeg))] S15 (fun o S16 => o = .inl none ∧ (
                                        Q (.inl none) S16)))))))))))))))))))))))) : ev_Cv g m_X10_applies 3 0 [ev_o 10 a, ev_i x0, ev_i x1, ev_i x2] S Q := by
  refine ev_enter (by decide) rfl rfl (Nat.le_of_ble_eq_true rfl) ?_
  show ev_E g m_X10_applies 3 0 0 [some (ev_o 10 a), some (ev_i x0), some (ev_i x1), some (ev_i x2), none, none, none] [] S Q
  refine ev_aload_n (ev_o 10 a) dX10_applies_0 rfl rfl ?_
  refine ev_iload_n (x0) dX10_applies_1 rfl ?_
  refine ev_iload_n (x1) dX10_applies_2 rfl ?_
  obtain ⟨h1, hQ⟩ := hQ
  refine ev_fV mv_X10_owner 1 10 [ev_i x0, ev_i x1] [] dX10_applies_3 kw_1831 rfl (by decide) rfl (by decide) (Nat.le_of_ble_eq_true rfl) (sp_X10_owner a x0 x1 h1) ?_ rfl
  refine ev_istore dX10_applies_6 (Nat.le_of_ble_eq_true rfl) (ev_hw rfl) ?_
  show ev_E g m_X10_applies 3 0 8 [some (ev_o 10 a), some (ev_i x0), some (ev_i x1), some (ev_i x2), some (ev_i (S.1 (a + 1) ((26 + (64 * x0)) + x1).toNatClampNeg)), none, none] [] S Q
  refine ev_aload_n (ev_o 10 a) dX10_applies_8 rfl rfl ?_
  refine ev_iload_n (x0) dX10_applies_9 rfl ?_
  refine ev_iload_n (x2) dX10_applies_10 rfl ?_
  obtain ⟨h2, hQ⟩ := hQ
  refine ev_fV mv_X10_owner 1 10 [ev_i x0, ev_i x2] [] dX10_applies_11 kw_1831 rfl (by decide) rfl (by decide) (Nat.le_of_ble_eq_true rfl) (sp_X10_owner a x0 x2 h2) ?_ rfl
  refine ev_iconst (-1) dX10_applies_14 rfl ?_
  refine ev_icmp_eq 22 dX10_applies_15 (by decide) (fun c1 => ?_) (fun c1 => ?_)
  · replace hQ := hQ.1 c1
    refine ev_iconst (0) dX10_applies_22 rfl ?_
    refine ev_istore dX10_applies_23 (Nat.le_of_ble_eq_true rfl) (ev_hw rfl) ?_
    show ev_E g m_X10_applies 3 0 25 [some (ev_o 10 a), some (ev_i x0), some (ev_i x1), some (ev_i x2), some (ev_i (S.1 (a + 1) ((26 + (64 * x0)) + x1).toNatClampNeg)), some (ev_i 0), none] [] S Q
    refine ev_aload_n (ev_o 10 a) dX10_applies_25 rfl rfl ?_
    refine ev_iload_n (x0) dX10_applies_26 rfl ?_
    obtain ⟨h3, hQ⟩ := hQ
    refine ev_fV mv_X10_nextNumber 2 10 [ev_i x0] [] dX10_applies_27 kw_2052 rfl (by decide) rfl (by decide) (Nat.le_of_ble_eq_true rfl) (sp_X10_nextNumber a x0 h3) ?_ rfl
    refine ev_istore dX10_applies_30 (Nat.le_of_ble_eq_true rfl) (ev_hw rfl) ?_
    show ev_E g m_X10_applies 3 0 32 [some (ev_o 10 a), some (ev_i x0), some (ev_i x1), some (ev_i x2), some (ev_i (S.1 (a + 1) ((26 + (64 * x0)) + x1).toNatClampNeg)), some (ev_i 0), some (ev_i ((S.1 (a + 1) ((12 + (7 * x0)) + 0).toNatClampNeg) + 1))] [] S Q
    refine ev_aload_n (ev_o 10 a) dX10_applies_32 rfl rfl ?_
    refine gf_10_0 dX10_applies_33 kw_1853 ?_
    refine ev_sipush (154) dX10_applies_36 (by decide) ?_
    refine ev_sipush (180) dX10_applies_39 (by decide) ?_
    refine ev_iload_n (x0) dX10_applies_42 rfl ?_
    refine ev_imul dX10_applies_43 ?_
    refine ev_iadd dX10_applies_44 ?_
    refine ev_iconst (3) dX10_applies_45 rfl ?_
    refine ev_iload (((S.1 (a + 1) ((12 + (7 * x0)) + 0).toNatClampNeg) + 1)) dX10_applies_46 rfl ?_
    refine ev_iconst (1) dX10_applies_48 rfl ?_
    refine ev_isub dX10_applies_49 ?_
    refine ev_imul dX10_applies_50 ?_
    refine ev_iadd dX10_applies_51 ?_
    refine ev_iload_n (x1) dX10_applies_52 rfl ?_
    obtain ⟨h4, hQ⟩ := hQ
    refine ev_iastore dX10_applies_53 h4 ?_
    refine ev_sub hQ (fun S1 hS1 hQ => ?_)
    refine ev_E.goal (pc' := 54) (L' := [some (ev_o 10 a), some (ev_i x0), some (ev_i x1), some (ev_i x2), some (ev_i (S.1 (a + 1) ((26 + (64 * x0)) + x1).toNatClampNeg)), some (ev_i 0), some (ev_i ((S.1 (a + 1) ((12 + (7 * x0)) + 0).toNatClampNeg) + 1))]) (K' := []) (S' := S1) ?_ rfl rfl rfl hS1
    refine ev_aload_n (ev_o 10 a) dX10_applies_54 rfl rfl ?_
    refine gf_10_0 dX10_applies_55 kw_1853 ?_
    refine ev_sipush (154) dX10_applies_58 (by decide) ?_
    refine ev_sipush (180) dX10_applies_61 (by decide) ?_
    refine ev_iload_n (x0) dX10_applies_64 rfl ?_
    refine ev_imul dX10_applies_65 ?_
    refine ev_iadd dX10_applies_66 ?_
    refine ev_iconst (3) dX10_applies_67 rfl ?_
    refine ev_iload (((S.1 (a + 1) ((12 + (7 * x0)) + 0).toNatClampNeg) + 1)) dX10_applies_68 rfl ?_
    refine ev_iconst (1) dX10_applies_70 rfl ?_
    refine ev_isub dX10_applies_71 ?_
    refine ev_imul dX10_applies_72 ?_
    refine ev_iadd dX10_applies_73 ?_
    refine ev_iconst (1) dX10_applies_74 rfl ?_
    refine ev_iadd dX10_applies_75 ?_
    refine ev_iload_n (x2) dX10_applies_76 rfl ?_
    obtain ⟨h5, hQ⟩ := hQ
    refine ev_iastore dX10_applies_77 h5 ?_
    refine ev_sub hQ (fun S2 hS2 hQ => ?_)
    refine ev_E.goal (pc' := 78) (L' := [some (ev_o 10 a), some (ev_i x0), some (ev_i x1), some (ev_i x2), some (ev_i (S.1 (a + 1) ((26 + (64 * x0)) + x1).toNatClampNeg)), some (ev_i 0), some (ev_i ((S.1 (a + 1) ((12 + (7 * x0)) + 0).toNatClampNeg) + 1))]) (K' := []) (S' := S2) ?_ rfl rfl rfl hS2
    refine ev_aload_n (ev_o 10 a) dX10_applies_78 rfl rfl ?_
    refine gf_10_0 dX10_applies_79 kw_1853 ?_
    refine ev_sipush (154) dX10_applies_82 (by decide) ?_
    refine ev_sipush (180) dX10_applies_85 (by decide) ?_
    refine ev_iload_n (x0) dX10_applies_88 rfl ?_
    refine ev_imul dX10_applies_89 ?_
    refine ev_iadd dX10_applies_90 ?_
    refine ev_iconst (3) dX10_applies_91 rfl ?_
    refine ev_iload (((S.1 (a + 1) ((12 + (7 * x0)) + 0).toNatClampNeg) + 1)) dX10_applies_92 rfl ?_
    refine ev_iconst (1) dX10_applies_94 rfl ?_
    refine ev_isub dX10_applies_95 ?_
    refine ev_imul dX10_applies_96 ?_
    refine ev_iadd dX10_applies_97 ?_
    refine ev_iconst (2) dX10_applies_98 rfl ?_
    refine ev_iadd dX10_applies_99 ?_
    refine ev_iload (0) dX10_applies_100 rfl ?_
    refine ev_if_eq 109 dX10_applies_102 (by decide) (fun _ => ?_) (fun h9 => absurd (by decide : ((0 : Int32) = 0)) h9)
    refine ev_iconst (0) dX10_applies_109 rfl ?_
    obtain ⟨h6, hQ⟩ := hQ
    refine ev_iastore dX10_applies_110 h6 ?_
    refine ev_sub hQ (fun S3 hS3 hQ => ?_)
    refine ev_E.goal (pc' := 111) (L' := [some (ev_o 10 a), some (ev_i x0), some (ev_i x1), some (ev_i x2), some (ev_i (S.1 (a + 1) ((26 + (64 * x0)) + x1).toNatClampNeg)), some (ev_i 0), some (ev_i ((S.1 (a + 1) ((12 + (7 * x0)) + 0).toNatClampNeg) + 1))]) (K' := []) (S' := S3) ?_ rfl rfl rfl hS3
    refine ev_aload_n (ev_o 10 a) dX10_applies_111 rfl rfl ?_
    refine ev_iload_n (x0) dX10_applies_112 rfl ?_
    refine ev_iload_n (x2) dX10_applies_113 rfl ?_
    refine ev_iload ((S.1 (a + 1) ((26 + (64 * x0)) + x1).toNatClampNeg)) dX10_applies_114 rfl ?_
    refine ev_fVn mv_X10_lays 1 10 [ev_i x0, ev_i x2, ev_i (S.1 (a + 1) ((26 + (64 * x0)) + x1).toNatClampNeg)] [] dX10_applies_116 kw_1835 rfl (by decide) rfl (by decide) (Nat.le_of_ble_eq_true rfl) (sp_X10_lays a x0 x2 (S.1 (a + 1) ((26 + (64 * x0)) + x1).toNatClampNeg) h2) ?_ rfl
    refine ev_sub hQ (fun S4 hS4 hQ => ?_)
    refine ev_E.goal (pc' := 119) (L' := [some (ev_o 10 a), some (ev_i x0), some (ev_i x1), some (ev_i x2), some (ev_i (S.1 (a + 1) ((26 + (64 * x0)) + x1).toNatClampNeg)), some (ev_i 0), some (ev_i ((S.1 (a + 1) ((12 + (7 * x0)) + 0).toNatClampNeg) + 1))]) (K' := []) (S' := S4) ?_ rfl rfl rfl hS4
    refine ev_aload_n (ev_o 10 a) dX10_applies_119 rfl rfl ?_
    refine ev_iload_n (x0) dX10_applies_120 rfl ?_
    refine ev_iload_n (x1) dX10_applies_121 rfl ?_
    refine ev_iconst (-1) dX10_applies_122 rfl ?_
    refine ev_fVn mv_X10_lays 1 10 [ev_i x0, ev_i x1, ev_i (-1)] [] dX10_applies_123 kw_1835 rfl (by decide) rfl (by decide) (Nat.le_of_ble_eq_true rfl) (sp_X10_lays a x0 x1 (-1) h1) ?_ rfl
    refine ev_sub hQ (fun S5 hS5 hQ => ?_)
    refine ev_E.goal (pc' := 126) (L' := [some (ev_o 10 a), some (ev_i x0), some (ev_i x1), some (ev_i x2), some (ev_i (S.1 (a + 1) ((26 + (64 * x0)) + x1).toNatClampNeg)), some (ev_i 0), some (ev_i ((S.1 (a + 1) ((12 + (7 * x0)) + 0).toNatClampNeg) + 1))]) (K' := []) (S' := S5) ?_ rfl rfl rfl hS5
    refine ev_aload_n (ev_o 10 a) dX10_applies_126 rfl rfl ?_
    refine ev_iload_n (x0) dX10_applies_127 rfl ?_
    refine ev_iconst (0) dX10_applies_128 rfl ?_
    refine ev_iload (((S.1 (a + 1) ((12 + (7 * x0)) + 0).toNatClampNeg) + 1)) dX10_applies_129 rfl ?_
    refine ev_fVn mv_X10_putP 1 10 [ev_i x0, ev_i 0, ev_i ((S.1 (a + 1) ((12 + (7 * x0)) + 0).toNatClampNeg) + 1)] [] dX10_applies_131 kw_1765 rfl (by decide) rfl (by decide) (Nat.le_of_ble_eq_true rfl) (sp_X10_putP a x0 0 ((S.1 (a + 1) ((12 + (7 * x0)) + 0).toNatClampNeg) + 1) h3) ?_ rfl
    refine ev_sub hQ (fun S6 hS6 hQ => ?_)
    refine ev_E.goal (pc' := 134) (L' := [some (ev_o 10 a), some (ev_i x0), some (ev_i x1), some (ev_i x2), some (ev_i (S.1 (a + 1) ((26 + (64 * x0)) + x1).toNatClampNeg)), some (ev_i 0), some (ev_i ((S.1 (a + 1) ((12 + (7 * x0)) + 0).toNatClampNeg) + 1))]) (K' := []) (S' := S6) ?_ rfl rfl rfl hS6
    refine ev_iload (0) dX10_applies_134 rfl ?_
    refine ev_if_eq 153 dX10_applies_136 (by decide) (fun _ => ?_) (fun h9 => absurd (by decide : ((0 : Int32) = 0)) h9)
    refine ev_iload (((S.1 (a + 1) ((12 + (7 * x0)) + 0).toNatClampNeg) + 1)) dX10_applies_153 rfl ?_
    refine ev_fS ms_X10_maker 1 [ev_i ((S.1 (a + 1) ((12 + (7 * x0)) + 0).toNatClampNeg) + 1)] [] dX10_applies_155 kw_2056 rfl (by decide) (Nat.le_of_ble_eq_true rfl) (sp_X10_maker ((S.1 (a + 1) ((12 + (7 * x0)) + 0).toNatClampNeg) + 1)) ?_ rfl
    refine ev_iload_n (x0) dX10_applies_158 rfl ?_
    refine ev_icmp_ne 177 dX10_applies_159 (by decide) (fun c2 => ?_) (fun c2 => ?_)
    · replace hQ := hQ.2 c2
      refine ev_aload_n (ev_o 10 a) dX10_applies_177 rfl rfl ?_
      refine ev_iload_n (x0) dX10_applies_178 rfl ?_
      refine ev_iconst (2) dX10_applies_179 rfl ?_
      obtain ⟨h7, hQ⟩ := hQ
      refine ev_fV mv_X10_ofP 1 10 [ev_i x0, ev_i 2] [] dX10_applies_180 kw_2048 rfl (by decide) rfl (by decide) (Nat.le_of_ble_eq_true rfl) (sp_X10_ofP a x0 2 h7) ?_ rfl
      refine ev_iconst (-1) dX10_applies_183 rfl ?_
      refine ev_icmp_eq 205 dX10_applies_184 (by decide) (fun c3 => ?_) (fun c3 => ?_)
      · replace hQ := hQ.1 c3
        exact ev_return dX10_applies_205 rfl hQ
      · replace hQ := hQ.2 c3
        refine ev_aload_n (ev_o 10 a) dX10_applies_187 rfl rfl ?_
        refine ev_iload_n (x0) dX10_applies_188 rfl ?_
        refine ev_aload_n (ev_o 10 a) dX10_applies_189 rfl rfl ?_
        refine gf_10_0 dX10_applies_190 kw_1853 ?_
        refine ev_iconst (2) dX10_applies_193 rfl ?_
        refine ev_iaload dX10_applies_194 (j_vin (by decide)) ?_
        refine ev_aload_n (ev_o 10 a) dX10_applies_195 rfl rfl ?_
        refine ev_iload_n (x0) dX10_applies_196 rfl ?_
        refine ev_iconst (2) dX10_applies_197 rfl ?_
        refine ev_fV mv_X10_ofP 1 10 [ev_i x0, ev_i 2] [ev_i (S6.1 (a + 1) 2), ev_i x0, ev_o 10 a] dX10_applies_198 kw_2048 rfl (by decide) rfl (by decide) (Nat.le_of_ble_eq_true rfl) (sp_X10_ofP a x0 2 h7) ?_ rfl
        refine ev_isub dX10_applies_201 ?_
        refine ev_cV mv_X10_waits 2 0 10 [ev_i x0, ev_i ((S6.1 (a + 1) 2) - (S6.1 (a + 1) ((12 + (7 * x0)) + 2).toNatClampNeg))] [] dX10_applies_202 kw_2076 rfl (by decide) rfl (by decide) (by decide) (Nat.le_of_ble_eq_true rfl) hQ ?_ rfl
        rintro o S7 ⟨rfl, hQ⟩
        show ev_E g m_X10_applies 3 0 205 [some (ev_o 10 a), some (ev_i x0), some (ev_i x1), some (ev_i x2), some (ev_i (S.1 (a + 1) ((26 + (64 * x0)) + x1).toNatClampNeg)), some (ev_i 0), some (ev_i ((S.1 (a + 1) ((12 + (7 * x0)) + 0).toNatClampNeg) + 1))] [] S7 Q
        exact ev_return dX10_applies_205 rfl hQ
    · replace hQ := hQ.1 c2
      refine ev_aload_n (ev_o 10 a) dX10_applies_162 rfl rfl ?_
      refine ev_iload_n (x0) dX10_applies_163 rfl ?_
      refine ev_iconst (2) dX10_applies_164 rfl ?_
      refine ev_aload_n (ev_o 10 a) dX10_applies_165 rfl rfl ?_
      refine gf_10_0 dX10_applies_166 kw_1853 ?_
      refine ev_iconst (2) dX10_applies_169 rfl ?_
      refine ev_iaload dX10_applies_170 (j_vin (by decide)) ?_
      obtain ⟨h8, hQ⟩ := hQ
      refine ev_fVn mv_X10_putP 1 10 [ev_i x0, ev_i 2, ev_i (S6.1 (a + 1) 2)] [] dX10_applies_171 kw_1765 rfl (by decide) rfl (by decide) (Nat.le_of_ble_eq_true rfl) (sp_X10_putP a x0 2 (S6.1 (a + 1) 2) h8) ?_ rfl
      refine ev_sub hQ (fun S8 hS8 hQ => ?_)
      refine ev_E.goal (pc' := 174) (L' := [some (ev_o 10 a), some (ev_i x0), some (ev_i x1), some (ev_i x2), some (ev_i (S.1 (a + 1) ((26 + (64 * x0)) + x1).toNatClampNeg)), some (ev_i 0), some (ev_i ((S.1 (a + 1) ((12 + (7 * x0)) + 0).toNatClampNeg) + 1))]) (K' := []) (S' := S8) ?_ rfl rfl rfl hS8
      refine ev_goto 205 dX10_applies_174 (by decide) ?_
      exact ev_return dX10_applies_205 rfl hQ
  · replace hQ := hQ.2 c1
    refine ev_iconst (1) dX10_applies_18 rfl ?_
    refine ev_goto 23 dX10_applies_19 (by decide) ?_
    refine ev_istore dX10_applies_23 (Nat.le_of_ble_eq_true rfl) (ev_hw rfl) ?_
    show ev_E g m_X10_applies 3 0 25 [some (ev_o 10 a), some (ev_i x0), some (ev_i x1), some (ev_i x2), some (ev_i (S.1 (a + 1) ((26 + (64 * x0)) + x1).toNatClampNeg)), some (ev_i 1), none] [] S Q
    refine ev_aload_n (ev_o 10 a) dX10_applies_25 rfl rfl ?_
    refine ev_iload_n (x0) dX10_applies_26 rfl ?_
    obtain ⟨h9, hQ⟩ := hQ
    refine ev_fV mv_X10_nextNumber 2 10 [ev_i x0] [] dX10_applies_27 kw_2052 rfl (by decide) rfl (by decide) (Nat.le_of_ble_eq_true rfl) (sp_X10_nextNumber a x0 h9) ?_ rfl
    refine ev_istore dX10_applies_30 (Nat.le_of_ble_eq_true rfl) (ev_hw rfl) ?_
    show ev_E g m_X10_applies 3 0 32 [some (ev_o 10 a), some (ev_i x0), some (ev_i x1), some (ev_i x2), some (ev_i (S.1 (a + 1) ((26 + (64 * x0)) + x1).toNatClampNeg)), some (ev_i 1), some (ev_i ((S.1 (a + 1) ((12 + (7 * x0)) + 0).toNatClampNeg) + 1))] [] S Q
    refine ev_aload_n (ev_o 10 a) dX10_applies_32 rfl rfl ?_
    refine gf_10_0 dX10_applies_33 kw_1853 ?_
    refine ev_sipush (154) dX10_applies_36 (by decide) ?_
    refine ev_sipush (180) dX10_applies_39 (by decide) ?_
    refine ev_iload_n (x0) dX10_applies_42 rfl ?_
    refine ev_imul dX10_applies_43 ?_
    refine ev_iadd dX10_applies_44 ?_
    refine ev_iconst (3) dX10_applies_45 rfl ?_
    refine ev_iload (((S.1 (a + 1) ((12 + (7 * x0)) + 0).toNatClampNeg) + 1)) dX10_applies_46 rfl ?_
    refine ev_iconst (1) dX10_applies_48 rfl ?_
    refine ev_isub dX10_applies_49 ?_
    refine ev_imul dX10_applies_50 ?_
    refine ev_iadd dX10_applies_51 ?_
    refine ev_iload_n (x1) dX10_applies_52 rfl ?_
    obtain ⟨h10, hQ⟩ := hQ
    refine ev_iastore dX10_applies_53 h10 ?_
    refine ev_sub hQ (fun S9 hS9 hQ => ?_)
    refine ev_E.goal (pc' := 54) (L' := [some (ev_o 10 a), some (ev_i x0), some (ev_i x1), some (ev_i x2), some (ev_i (S.1 (a + 1) ((26 + (64 * x0)) + x1).toNatClampNeg)), some (ev_i 1), some (ev_i ((S.1 (a + 1) ((12 + (7 * x0)) + 0).toNatClampNeg) + 1))]) (K' := []) (S' := S9) ?_ rfl rfl rfl hS9
    refine ev_aload_n (ev_o 10 a) dX10_applies_54 rfl rfl ?_
    refine gf_10_0 dX10_applies_55 kw_1853 ?_
    refine ev_sipush (154) dX10_applies_58 (by decide) ?_
    refine ev_sipush (180) dX10_applies_61 (by decide) ?_
    refine ev_iload_n (x0) dX10_applies_64 rfl ?_
    refine ev_imul dX10_applies_65 ?_
    refine ev_iadd dX10_applies_66 ?_
    refine ev_iconst (3) dX10_applies_67 rfl ?_
    refine ev_iload (((S.1 (a + 1) ((12 + (7 * x0)) + 0).toNatClampNeg) + 1)) dX10_applies_68 rfl ?_
    refine ev_iconst (1) dX10_applies_70 rfl ?_
    refine ev_isub dX10_applies_71 ?_
    refine ev_imul dX10_applies_72 ?_
    refine ev_iadd dX10_applies_73 ?_
    refine ev_iconst (1) dX10_applies_74 rfl ?_
    refine ev_iadd dX10_applies_75 ?_
    refine ev_iload_n (x2) dX10_applies_76 rfl ?_
    obtain ⟨h11, hQ⟩ := hQ
    refine ev_iastore dX10_applies_77 h11 ?_
    refine ev_sub hQ (fun S10 hS10 hQ => ?_)
    refine ev_E.goal (pc' := 78) (L' := [some (ev_o 10 a), some (ev_i x0), some (ev_i x1), some (ev_i x2), some (ev_i (S.1 (a + 1) ((26 + (64 * x0)) + x1).toNatClampNeg)), some (ev_i 1), some (ev_i ((S.1 (a + 1) ((12 + (7 * x0)) + 0).toNatClampNeg) + 1))]) (K' := []) (S' := S10) ?_ rfl rfl rfl hS10
    refine ev_aload_n (ev_o 10 a) dX10_applies_78 rfl rfl ?_
    refine gf_10_0 dX10_applies_79 kw_1853 ?_
    refine ev_sipush (154) dX10_applies_82 (by decide) ?_
    refine ev_sipush (180) dX10_applies_85 (by decide) ?_
    refine ev_iload_n (x0) dX10_applies_88 rfl ?_
    refine ev_imul dX10_applies_89 ?_
    refine ev_iadd dX10_applies_90 ?_
    refine ev_iconst (3) dX10_applies_91 rfl ?_
    refine ev_iload (((S.1 (a + 1) ((12 + (7 * x0)) + 0).toNatClampNeg) + 1)) dX10_applies_92 rfl ?_
    refine ev_iconst (1) dX10_applies_94 rfl ?_
    refine ev_isub dX10_applies_95 ?_
    refine ev_imul dX10_applies_96 ?_
    refine ev_iadd dX10_applies_97 ?_
    refine ev_iconst (2) dX10_applies_98 rfl ?_
    refine ev_iadd dX10_applies_99 ?_
    refine ev_iload (1) dX10_applies_100 rfl ?_
    refine ev_if_eq 109 dX10_applies_102 (by decide) (fun h9 => absurd h9 (by decide : ¬ ((1 : Int32) = 0))) (fun _ => ?_)
    refine ev_iconst (1) dX10_applies_105 rfl ?_
    refine ev_goto 110 dX10_applies_106 (by decide) ?_
    obtain ⟨h12, hQ⟩ := hQ
    refine ev_iastore dX10_applies_110 h12 ?_
    refine ev_sub hQ (fun S11 hS11 hQ => ?_)
    refine ev_E.goal (pc' := 111) (L' := [some (ev_o 10 a), some (ev_i x0), some (ev_i x1), some (ev_i x2), some (ev_i (S.1 (a + 1) ((26 + (64 * x0)) + x1).toNatClampNeg)), some (ev_i 1), some (ev_i ((S.1 (a + 1) ((12 + (7 * x0)) + 0).toNatClampNeg) + 1))]) (K' := []) (S' := S11) ?_ rfl rfl rfl hS11
    refine ev_aload_n (ev_o 10 a) dX10_applies_111 rfl rfl ?_
    refine ev_iload_n (x0) dX10_applies_112 rfl ?_
    refine ev_iload_n (x2) dX10_applies_113 rfl ?_
    refine ev_iload ((S.1 (a + 1) ((26 + (64 * x0)) + x1).toNatClampNeg)) dX10_applies_114 rfl ?_
    refine ev_fVn mv_X10_lays 1 10 [ev_i x0, ev_i x2, ev_i (S.1 (a + 1) ((26 + (64 * x0)) + x1).toNatClampNeg)] [] dX10_applies_116 kw_1835 rfl (by decide) rfl (by decide) (Nat.le_of_ble_eq_true rfl) (sp_X10_lays a x0 x2 (S.1 (a + 1) ((26 + (64 * x0)) + x1).toNatClampNeg) h2) ?_ rfl
    refine ev_sub hQ (fun S12 hS12 hQ => ?_)
    refine ev_E.goal (pc' := 119) (L' := [some (ev_o 10 a), some (ev_i x0), some (ev_i x1), some (ev_i x2), some (ev_i (S.1 (a + 1) ((26 + (64 * x0)) + x1).toNatClampNeg)), some (ev_i 1), some (ev_i ((S.1 (a + 1) ((12 + (7 * x0)) + 0).toNatClampNeg) + 1))]) (K' := []) (S' := S12) ?_ rfl rfl rfl hS12
    refine ev_aload_n (ev_o 10 a) dX10_applies_119 rfl rfl ?_
    refine ev_iload_n (x0) dX10_applies_120 rfl ?_
    refine ev_iload_n (x1) dX10_applies_121 rfl ?_
    refine ev_iconst (-1) dX10_applies_122 rfl ?_
    refine ev_fVn mv_X10_lays 1 10 [ev_i x0, ev_i x1, ev_i (-1)] [] dX10_applies_123 kw_1835 rfl (by decide) rfl (by decide) (Nat.le_of_ble_eq_true rfl) (sp_X10_lays a x0 x1 (-1) h1) ?_ rfl
    refine ev_sub hQ (fun S13 hS13 hQ => ?_)
    refine ev_E.goal (pc' := 126) (L' := [some (ev_o 10 a), some (ev_i x0), some (ev_i x1), some (ev_i x2), some (ev_i (S.1 (a + 1) ((26 + (64 * x0)) + x1).toNatClampNeg)), some (ev_i 1), some (ev_i ((S.1 (a + 1) ((12 + (7 * x0)) + 0).toNatClampNeg) + 1))]) (K' := []) (S' := S13) ?_ rfl rfl rfl hS13
    refine ev_aload_n (ev_o 10 a) dX10_applies_126 rfl rfl ?_
    refine ev_iload_n (x0) dX10_applies_127 rfl ?_
    refine ev_iconst (0) dX10_applies_128 rfl ?_
    refine ev_iload (((S.1 (a + 1) ((12 + (7 * x0)) + 0).toNatClampNeg) + 1)) dX10_applies_129 rfl ?_
    refine ev_fVn mv_X10_putP 1 10 [ev_i x0, ev_i 0, ev_i ((S.1 (a + 1) ((12 + (7 * x0)) + 0).toNatClampNeg) + 1)] [] dX10_applies_131 kw_1765 rfl (by decide) rfl (by decide) (Nat.le_of_ble_eq_true rfl) (sp_X10_putP a x0 0 ((S.1 (a + 1) ((12 + (7 * x0)) + 0).toNatClampNeg) + 1) h9) ?_ rfl
    refine ev_sub hQ (fun S14 hS14 hQ => ?_)
    refine ev_E.goal (pc' := 134) (L' := [some (ev_o 10 a), some (ev_i x0), some (ev_i x1), some (ev_i x2), some (ev_i (S.1 (a + 1) ((26 + (64 * x0)) + x1).toNatClampNeg)), some (ev_i 1), some (ev_i ((S.1 (a + 1) ((12 + (7 * x0)) + 0).toNatClampNeg) + 1))]) (K' := []) (S' := S14) ?_ rfl rfl rfl hS14
    refine ev_iload (1) dX10_applies_134 rfl ?_
    refine ev_if_eq 153 dX10_applies_136 (by decide) (fun h9 => absurd h9 (by decide : ¬ ((1 : Int32) = 0))) (fun _ => ?_)
    refine ev_aload_n (ev_o 10 a) dX10_applies_139 rfl rfl ?_
    refine ev_iload_n (x0) dX10_applies_140 rfl ?_
    refine ev_iconst (1) dX10_applies_141 rfl ?_
    refine ev_aload_n (ev_o 10 a) dX10_applies_142 rfl rfl ?_
    refine ev_iload_n (x0) dX10_applies_143 rfl ?_
    refine ev_iconst (1) dX10_applies_144 rfl ?_
    obtain ⟨h13, hQ⟩ := hQ
    refine ev_fV mv_X10_ofP 1 10 [ev_i x0, ev_i 1] [ev_i 1, ev_i x0, ev_o 10 a] dX10_applies_145 kw_2048 rfl (by decide) rfl (by decide) (Nat.le_of_ble_eq_true rfl) (sp_X10_ofP a x0 1 h13) ?_ rfl
    refine ev_iconst (1) dX10_applies_148 rfl ?_
    refine ev_iadd dX10_applies_149 ?_
    refine ev_fVn mv_X10_putP 1 10 [ev_i x0, ev_i 1, ev_i ((S14.1 (a + 1) ((12 + (7 * x0)) + 1).toNatClampNeg) + 1)] [] dX10_applies_150 kw_1765 rfl (by decide) rfl (by decide) (Nat.le_of_ble_eq_true rfl) (sp_X10_putP a x0 1 ((S14.1 (a + 1) ((12 + (7 * x0)) + 1).toNatClampNeg) + 1) h13) ?_ rfl
    refine ev_sub hQ (fun S15 hS15 hQ => ?_)
    refine ev_E.goal (pc' := 153) (L' := [some (ev_o 10 a), some (ev_i x0), some (ev_i x1), some (ev_i x2), some (ev_i (S.1 (a + 1) ((26 + (64 * x0)) + x1).toNatClampNeg)), some (ev_i 1), some (ev_i ((S.1 (a + 1) ((12 + (7 * x0)) + 0).toNatClampNeg) + 1))]) (K' := []) (S' := S15) ?_ rfl rfl rfl hS15
    refine ev_iload (((S.1 (a + 1) ((12 + (7 * x0)) + 0).toNatClampNeg) + 1)) dX10_applies_153 rfl ?_
    refine ev_fS ms_X10_maker 1 [ev_i ((S.1 (a + 1) ((12 + (7 * x0)) + 0).toNatClampNeg) + 1)] [] dX10_applies_155 kw_2056 rfl (by decide) (Nat.le_of_ble_eq_true rfl) (sp_X10_maker ((S.1 (a + 1) ((12 + (7 * x0)) + 0).toNatClampNeg) + 1)) ?_ rfl
    refine ev_iload_n (x0) dX10_applies_158 rfl ?_
    refine ev_icmp_ne 177 dX10_applies_159 (by decide) (fun c4 => ?_) (fun c4 => ?_)
    · replace hQ := hQ.2 c4
      refine ev_aload_n (ev_o 10 a) dX10_applies_177 rfl rfl ?_
      refine ev_iload_n (x0) dX10_applies_178 rfl ?_
      refine ev_iconst (2) dX10_applies_179 rfl ?_
      obtain ⟨h14, hQ⟩ := hQ
      refine ev_fV mv_X10_ofP 1 10 [ev_i x0, ev_i 2] [] dX10_applies_180 kw_2048 rfl (by decide) rfl (by decide) (Nat.le_of_ble_eq_true rfl) (sp_X10_ofP a x0 2 h14) ?_ rfl
      refine ev_iconst (-1) dX10_applies_183 rfl ?_
      refine ev_icmp_eq 205 dX10_applies_184 (by decide) (fun c5 => ?_) (fun c5 => ?_)
      · replace hQ := hQ.1 c5
        exact ev_return dX10_applies_205 rfl hQ
      · replace hQ := hQ.2 c5
        refine ev_aload_n (ev_o 10 a) dX10_applies_187 rfl rfl ?_
        refine ev_iload_n (x0) dX10_applies_188 rfl ?_
        refine ev_aload_n (ev_o 10 a) dX10_applies_189 rfl rfl ?_
        refine gf_10_0 dX10_applies_190 kw_1853 ?_
        refine ev_iconst (2) dX10_applies_193 rfl ?_
        refine ev_iaload dX10_applies_194 (j_vin (by decide)) ?_
        refine ev_aload_n (ev_o 10 a) dX10_applies_195 rfl rfl ?_
        refine ev_iload_n (x0) dX10_applies_196 rfl ?_
        refine ev_iconst (2) dX10_applies_197 rfl ?_
        refine ev_fV mv_X10_ofP 1 10 [ev_i x0, ev_i 2] [ev_i (S15.1 (a + 1) 2), ev_i x0, ev_o 10 a] dX10_applies_198 kw_2048 rfl (by decide) rfl (by decide) (Nat.le_of_ble_eq_true rfl) (sp_X10_ofP a x0 2 h14) ?_ rfl
        refine ev_isub dX10_applies_201 ?_
        refine ev_cV mv_X10_waits 2 0 10 [ev_i x0, ev_i ((S15.1 (a + 1) 2) - (S15.1 (a + 1) ((12 + (7 * x0)) + 2).toNatClampNeg))] [] dX10_applies_202 kw_2076 rfl (by decide) rfl (by decide) (by decide) (Nat.le_of_ble_eq_true rfl) hQ ?_ rfl
        rintro o S16 ⟨rfl, hQ⟩
        show ev_E g m_X10_applies 3 0 205 [some (ev_o 10 a), some (ev_i x0), some (ev_i x1), some (ev_i x2), some (ev_i (S.1 (a + 1) ((26 + (64 * x0)) + x1).toNatClampNeg)), some (ev_i 1), some (ev_i ((S.1 (a + 1) ((12 + (7 * x0)) + 0).toNatClampNeg) + 1))] [] S16 Q
        exact ev_return dX10_applies_205 rfl hQ
    · replace hQ := hQ.1 c4
      refine ev_aload_n (ev_o 10 a) dX10_applies_162 rfl rfl ?_
      refine ev_iload_n (x0) dX10_applies_163 rfl ?_
      refine ev_iconst (2) dX10_applies_164 rfl ?_
      refine ev_aload_n (ev_o 10 a) dX10_applies_165 rfl rfl ?_
      refine gf_10_0 dX10_applies_166 kw_1853 ?_
      refine ev_iconst (2) dX10_applies_169 rfl ?_
      refine ev_iaload dX10_applies_170 (j_vin (by decide)) ?_
      obtain ⟨h15, hQ⟩ := hQ
      refine ev_fVn mv_X10_putP 1 10 [ev_i x0, ev_i 2, ev_i (S15.1 (a + 1) 2)] [] dX10_applies_171 kw_1765 rfl (by decide) rfl (by decide) (Nat.le_of_ble_eq_true rfl) (sp_X10_putP a x0 2 (S15.1 (a + 1) 2) h15) ?_ rfl
      refine ev_sub hQ (fun S17 hS17 hQ => ?_)
      refine ev_E.goal (pc' := 174) (L' := [some (ev_o 10 a), some (ev_i x0), some (ev_i x1), some (ev_i x2), some (ev_i (S.1 (a + 1) ((26 + (64 * x0)) + x1).toNatClampNeg)), some (ev_i 1), some (ev_i ((S.1 (a + 1) ((12 + (7 * x0)) + 0).toNatClampNeg) + 1))]) (K' := []) (S' := S17) ?_ rfl rfl rfl hS17
      refine ev_goto 205 dX10_applies_174 (by decide) ?_
      exact ev_return dX10_applies_205 rfl hQ
set_option maxHeartbeats 4000000 in
set_option maxRecDepth 100000 in
theorem sg_X10_isDue_0 {g : ev_G} {S : ev_S} {Q : ev_O → ev_S → Prop} (a : Nat) (x0 : Int32) (x1 : Int32) (hQ : ((f_X10_maker x1) = x0 → (
    (vp_in ((762 + (6 * x1)) + 4) 2091) ∧ (
      ((S.1 (a + 1) ((762 + (6 * x1)) + 4).toNatClampNeg) = 0 → (
        Q (.inl (some (ev_i 0))) S)) ∧
      (¬ ((S.1 (a + 1) ((762 + (6 * x1)) + 4).toNatClampNeg) = 0) → (
        (2 ≤ x1 → (
          (vp_in (((154 + (180 * x0)) + (3 * ((x1 - 1) - 1))) + 0) 2091) ∧ (
            (vp_in ((762 + (6 * x1)) + 0) 2091) ∧ (
              ((S.1 (a + 1) (((154 + (180 * x0)) + (3 * ((x1 - 1) - 1))) + 0).toNatClampNeg) = (S.1 (a + 1) ((762 + (6 * x1)) + 0).toNatClampNeg) → (
                (vp_in (((154 + (180 * x0)) + (3 * ((x1 - 1) - 1))) + 1) 2091) ∧ (
                  (vp_in ((762 + (6 * x1)) + 1) 2091) ∧ (
                    ((S.1 (a + 1) (((154 + (180 * x0)) + (3 * ((x1 - 1) - 1))) + 1).toNatClampNeg) = (S.1 (a + 1) ((762 + (6 * x1)) + 1).toNatClampNeg) → (
                      Q (.inl (some (ev_i 1))) S)) ∧
                    (¬ ((S.1 (a + 1) (((154 + (180 * x0)) + (3 * ((x1 - 1) - 1))) + 1).toNatClampNeg) = (S.1 (a + 1) ((762 + (6 * x1)) + 1).toNatClampNeg)) → (
                      Q (.inl (some (ev_i 0))) S)))))) ∧
              (¬ ((S.1 (a + 1) (((154 + (180 * x0)) + (3 * ((x1 - 1) - 1))) + 0).toNatClampNeg) = (S.1 (a + 1) ((762 + (6 * x1)) + 0).toNatClampNeg)) → (
                Q (.inl (some (ev_i 0))) S)))))) ∧
        (¬ (2 ≤ x1) → (
          Q (.inl (some (ev_i 0))) S))))))) ∧
  (¬ ((f_X10_maker x1) = x0) → (
    (vp_in ((762 + (6 * x1)) + 5) 2091) ∧ (
      ((S.1 (a + 1) ((762 + (6 * x1)) + 5).toNatClampNeg) = 0 → (
        Q (.inl (some (ev_i 0))) S)) ∧
      (¬ ((S.1 (a + 1) ((762 + (6 * x1)) + 5).toNatClampNeg) = 0) → (
        (2 ≤ x1 → (
          (vp_in (((154 + (180 * x0)) + (3 * ((x1 - 1) - 1))) + 0) 2091) ∧ (
            (vp_in ((762 + (6 * x1)) + 0) 2091) ∧ (
              ((S.1 (a + 1) (((154 + (180 * x0)) + (3 * ((x1 - 1) - 1))) + 0).toNatClampNeg) = (S.1 (a + 1) ((762 + (6 * x1)) + 0).toNatClampNeg) → (
                (vp_in (((154 + (180 * x0)) + (3 * ((x1 - 1) - 1))) + 1) 2091) ∧ (
                  (vp_in ((762 + (6 * x1)) + 1) 2091) ∧ (
                    ((S.1 (a + 1) (((154 + (180 * x0)) + (3 * ((x1 - 1) - 1))) + 1).toNatClampNeg) = (S.1 (a + 1) ((762 + (6 * x1)) + 1).toNatClampNeg) → (
                      Q (.inl (some (ev_i 1))) S)) ∧
                    (¬ ((S.1 (a + 1) (((154 + (180 * x0)) + (3 * ((x1 - 1) - 1))) + 1).toNatClampNeg) = (S.1 (a + 1) ((762 + (6 * x1)) + 1).toNatClampNeg)) → (
                      Q (.inl (some (ev_i 0))) S)))))) ∧
              (¬ ((S.1 (a + 1) (((154 + (180 * x0)) + (3 * ((x1 - 1) - 1))) + 0).toNatClampNeg) = (S.1 (a + 1) ((762 + (6 * x1)) + 0).toNatClampNeg)) → (
                Q (.inl (some (ev_i 0))) S)))))) ∧
        (¬ (2 ≤ x1) → (
          Q (.inl (some (ev_i 0))) S)))))))) : ev_Cv g m_X10_isDue 2 0 [ev_o 10 a, ev_i x0, ev_i x1] S Q := by
  refine ev_enter (by decide) rfl rfl (Nat.le_of_ble_eq_true rfl) ?_
  show ev_E g m_X10_isDue 2 0 0 [some (ev_o 10 a), some (ev_i x0), some (ev_i x1)] [] S Q
  refine ev_aload_n (ev_o 10 a) dX10_isDue_0 rfl rfl ?_
  refine ev_iload_n (x1) dX10_isDue_1 rfl ?_
  refine ev_iload_n (x1) dX10_isDue_2 rfl ?_
  refine ev_fS ms_X10_maker 1 [ev_i x1] [ev_i x1, ev_o 10 a] dX10_isDue_3 kw_2056 rfl (by decide) (Nat.le_of_ble_eq_true rfl) (sp_X10_maker x1) ?_ rfl
  refine ev_iload_n (x0) dX10_isDue_6 rfl ?_
  refine ev_icmp_ne 14 dX10_isDue_7 (by decide) (fun c1 => ?_) (fun c1 => ?_)
  · replace hQ := hQ.2 c1
    refine ev_iconst (5) dX10_isDue_14 rfl ?_
    obtain ⟨h1, hQ⟩ := hQ
    refine ev_fV mv_X10_promised 1 10 [ev_i x1, ev_i 5] [] dX10_isDue_15 kw_2101 rfl (by decide) rfl (by decide) (Nat.le_of_ble_eq_true rfl) (sp_X10_promised a x1 5 h1) ?_ rfl
    refine ev_if_eq 26 dX10_isDue_18 (by decide) (fun c2 => ?_) (fun c2 => ?_)
    · replace hQ := hQ.1 c2
      refine ev_iconst (0) dX10_isDue_26 rfl ?_
      exact ev_ireturn .boolean dX10_isDue_27 rfl rfl hQ
    · replace hQ := hQ.2 c2
      refine ev_iload_n (x1) dX10_isDue_21 rfl ?_
      refine ev_iconst (2) dX10_isDue_22 rfl ?_
      refine ev_icmp_ge 28 dX10_isDue_23 (by decide) (fun c3 => ?_) (fun c3 => ?_)
      · replace hQ := hQ.1 c3
        refine ev_aload_n (ev_o 10 a) dX10_isDue_28 rfl rfl ?_
        refine ev_iload_n (x0) dX10_isDue_29 rfl ?_
        refine ev_iload_n (x1) dX10_isDue_30 rfl ?_
        refine ev_iconst (1) dX10_isDue_31 rfl ?_
        refine ev_isub dX10_isDue_32 ?_
        refine ev_iconst (0) dX10_isDue_33 rfl ?_
        obtain ⟨h2, hQ⟩ := hQ
        refine ev_fV mv_X10_madeAt 1 10 [ev_i x0, ev_i (x1 - 1), ev_i 0] [] dX10_isDue_34 kw_2105 rfl (by decide) rfl (by decide) (Nat.le_of_ble_eq_true rfl) (sp_X10_madeAt a x0 (x1 - 1) 0 h2) ?_ rfl
        refine ev_aload_n (ev_o 10 a) dX10_isDue_37 rfl rfl ?_
        refine ev_iload_n (x1) dX10_isDue_38 rfl ?_
        refine ev_iconst (0) dX10_isDue_39 rfl ?_
        obtain ⟨h3, hQ⟩ := hQ
        refine ev_fV mv_X10_promised 1 10 [ev_i x1, ev_i 0] [ev_i (S.1 (a + 1) (((154 + (180 * x0)) + (3 * ((x1 - 1) - 1))) + 0).toNatClampNeg)] dX10_isDue_40 kw_2101 rfl (by decide) rfl (by decide) (Nat.le_of_ble_eq_true rfl) (sp_X10_promised a x1 0 h3) ?_ rfl
        refine ev_icmp_ne 68 dX10_isDue_43 (by decide) (fun c4 => ?_) (fun c4 => ?_)
        · replace hQ := hQ.2 c4
          refine ev_iconst (0) dX10_isDue_68 rfl ?_
          exact ev_ireturn .boolean dX10_isDue_69 rfl rfl hQ
        · replace hQ := hQ.1 c4
          refine ev_aload_n (ev_o 10 a) dX10_isDue_46 rfl rfl ?_
          refine ev_iload_n (x0) dX10_isDue_47 rfl ?_
          refine ev_iload_n (x1) dX10_isDue_48 rfl ?_
          refine ev_iconst (1) dX10_isDue_49 rfl ?_
          refine ev_isub dX10_isDue_50 ?_
          refine ev_iconst (1) dX10_isDue_51 rfl ?_
          obtain ⟨h4, hQ⟩ := hQ
          refine ev_fV mv_X10_madeAt 1 10 [ev_i x0, ev_i (x1 - 1), ev_i 1] [] dX10_isDue_52 kw_2105 rfl (by decide) rfl (by decide) (Nat.le_of_ble_eq_true rfl) (sp_X10_madeAt a x0 (x1 - 1) 1 h4) ?_ rfl
          refine ev_aload_n (ev_o 10 a) dX10_isDue_55 rfl rfl ?_
          refine ev_iload_n (x1) dX10_isDue_56 rfl ?_
          refine ev_iconst (1) dX10_isDue_57 rfl ?_
          obtain ⟨h5, hQ⟩ := hQ
          refine ev_fV mv_X10_promised 1 10 [ev_i x1, ev_i 1] [ev_i (S.1 (a + 1) (((154 + (180 * x0)) + (3 * ((x1 - 1) - 1))) + 1).toNatClampNeg)] dX10_isDue_58 kw_2101 rfl (by decide) rfl (by decide) (Nat.le_of_ble_eq_true rfl) (sp_X10_promised a x1 1 h5) ?_ rfl
          refine ev_icmp_ne 68 dX10_isDue_61 (by decide) (fun c5 => ?_) (fun c5 => ?_)
          · replace hQ := hQ.2 c5
            refine ev_iconst (0) dX10_isDue_68 rfl ?_
            exact ev_ireturn .boolean dX10_isDue_69 rfl rfl hQ
          · replace hQ := hQ.1 c5
            refine ev_iconst (1) dX10_isDue_64 rfl ?_
            refine ev_goto 69 dX10_isDue_65 (by decide) ?_
            exact ev_ireturn .boolean dX10_isDue_69 rfl rfl hQ
      · replace hQ := hQ.2 c3
        refine ev_iconst (0) dX10_isDue_26 rfl ?_
        exact ev_ireturn .boolean dX10_isDue_27 rfl rfl hQ
  · replace hQ := hQ.1 c1
    refine ev_iconst (4) dX10_isDue_10 rfl ?_
    refine ev_goto 15 dX10_isDue_11 (by decide) ?_
    obtain ⟨h6, hQ⟩ := hQ
    refine ev_fV mv_X10_promised 1 10 [ev_i x1, ev_i 4] [] dX10_isDue_15 kw_2101 rfl (by decide) rfl (by decide) (Nat.le_of_ble_eq_true rfl) (sp_X10_promised a x1 4 h6) ?_ rfl
    refine ev_if_eq 26 dX10_isDue_18 (by decide) (fun c6 => ?_) (fun c6 => ?_)
    · replace hQ := hQ.1 c6
      refine ev_iconst (0) dX10_isDue_26 rfl ?_
      exact ev_ireturn .boolean dX10_isDue_27 rfl rfl hQ
    · replace hQ := hQ.2 c6
      refine ev_iload_n (x1) dX10_isDue_21 rfl ?_
      refine ev_iconst (2) dX10_isDue_22 rfl ?_
      refine ev_icmp_ge 28 dX10_isDue_23 (by decide) (fun c7 => ?_) (fun c7 => ?_)
      · replace hQ := hQ.1 c7
        refine ev_aload_n (ev_o 10 a) dX10_isDue_28 rfl rfl ?_
        refine ev_iload_n (x0) dX10_isDue_29 rfl ?_
        refine ev_iload_n (x1) dX10_isDue_30 rfl ?_
        refine ev_iconst (1) dX10_isDue_31 rfl ?_
        refine ev_isub dX10_isDue_32 ?_
        refine ev_iconst (0) dX10_isDue_33 rfl ?_
        obtain ⟨h7, hQ⟩ := hQ
        refine ev_fV mv_X10_madeAt 1 10 [ev_i x0, ev_i (x1 - 1), ev_i 0] [] dX10_isDue_34 kw_2105 rfl (by decide) rfl (by decide) (Nat.le_of_ble_eq_true rfl) (sp_X10_madeAt a x0 (x1 - 1) 0 h7) ?_ rfl
        refine ev_aload_n (ev_o 10 a) dX10_isDue_37 rfl rfl ?_
        refine ev_iload_n (x1) dX10_isDue_38 rfl ?_
        refine ev_iconst (0) dX10_isDue_39 rfl ?_
        obtain ⟨h8, hQ⟩ := hQ
        refine ev_fV mv_X10_promised 1 10 [ev_i x1, ev_i 0] [ev_i (S.1 (a + 1) (((154 + (180 * x0)) + (3 * ((x1 - 1) - 1))) + 0).toNatClampNeg)] dX10_isDue_40 kw_2101 rfl (by decide) rfl (by decide) (Nat.le_of_ble_eq_true rfl) (sp_X10_promised a x1 0 h8) ?_ rfl
        refine ev_icmp_ne 68 dX10_isDue_43 (by decide) (fun c8 => ?_) (fun c8 => ?_)
        · replace hQ := hQ.2 c8
          refine ev_iconst (0) dX10_isDue_68 rfl ?_
          exact ev_ireturn .boolean dX10_isDue_69 rfl rfl hQ
        · replace hQ := hQ.1 c8
          refine ev_aload_n (ev_o 10 a) dX10_isDue_46 rfl rfl ?_
          refine ev_iload_n (x0) dX10_isDue_47 rfl ?_
          refine ev_iload_n (x1) dX10_isDue_48 rfl ?_
          refine ev_iconst (1) dX10_isDue_49 rfl ?_
          refine ev_isub dX10_isDue_50 ?_
          refine ev_iconst (1) dX10_isDue_51 rfl ?_
          obtain ⟨h9, hQ⟩ := hQ
          refine ev_fV mv_X10_madeAt 1 10 [ev_i x0, ev_i (x1 - 1), ev_i 1] [] dX10_isDue_52 kw_2105 rfl (by decide) rfl (by decide) (Nat.le_of_ble_eq_true rfl) (sp_X10_madeAt a x0 (x1 - 1) 1 h9) ?_ rfl
          refine ev_aload_n (ev_o 10 a) dX10_isDue_55 rfl rfl ?_
          refine ev_iload_n (x1) dX10_isDue_56 rfl ?_
          refine ev_iconst (1) dX10_isDue_57 rfl ?_
          obtain ⟨h10, hQ⟩ := hQ
          refine ev_fV mv_X10_promised 1 10 [ev_i x1, ev_i 1] [ev_i (S.1 (a + 1) (((154 + (180 * x0)) + (3 * ((x1 - 1) - 1))) + 1).toNatClampNeg)] dX10_isDue_58 kw_2101 rfl (by decide) rfl (by decide) (Nat.le_of_ble_eq_true rfl) (sp_X10_promised a x1 1 h10) ?_ rfl
          refine ev_icmp_ne 68 dX10_isDue_61 (by decide) (fun c9 => ?_) (fun c9 => ?_)
          · replace hQ := hQ.2 c9
            refine ev_iconst (0) dX10_isDue_68 rfl ?_
            exact ev_ireturn .boolean dX10_isDue_69 rfl rfl hQ
          · replace hQ := hQ.1 c9
            refine ev_iconst (1) dX10_isDue_64 rfl ?_
            refine ev_goto 69 dX10_isDue_65 (by decide) ?_
            exact ev_ireturn .boolean dX10_isDue_69 rfl rfl hQ
      · replace hQ := hQ.2 c7
        refine ev_iconst (0) dX10_isDue_26 rfl ?_
        exact ev_ireturn .boolean dX10_isDue_27 rfl rfl hQ
