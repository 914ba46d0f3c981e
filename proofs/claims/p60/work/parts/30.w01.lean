set_option maxHeartbeats 4000000 in
set_option maxRecDepth 100000 in
theorem sg_X9_readBishop_0 {g : ev_G} {S : ev_S} {Q : ev_O → ev_S → Prop} (a : Nat) (x0 : Int32) (hQ : ev_Cv g m_X8_number 4 0 [ev_o 8 (a + 1), ev_i 0, ev_i 1] S (fun o S1 => ∃ v1_ : Int32, o = .inl (some (ev_i v1_)) ∧ (
    ((j_at (S1.1 ((a_X2_deskOf (a + 52) 0) + 3)) 2 v1_) < 8 → (
      ev_Cv g m_X8_number 4 0 [ev_o 8 (a + 1), ev_i 0, ev_i (x0 - 1)] S1 (fun o S2 => ∃ v2_ : Int32, o = .inl (some (ev_i v2_)) ∧ (
        ev_Cv g m_X8_number 4 0 [ev_o 8 (a + 1), ev_i 0, ev_i (x0 - 1)] S2 (fun o S3 => ∃ v3_ : Int32, o = .inl (some (ev_i v3_)) ∧ (
          ((j_at (S3.1 ((a_X2_deskOf (a + 52) 0) + 2)) 64 ((v2_ * x0) + v3_)) = (-1) → (
            ev_Cv g m_X8_expectSign 4 0 [ev_o 8 (a + 1), ev_i 59] S3 (fun o S4 => o = .inl none ∧ (
              ((S4.1 (a + 1) 7) = 0 → (
                ev_Cv g m_X0_place 2 0 [ev_o 0 ((a_X2_deskOf (a + 52) 0) + 1), ev_i v1_, ev_i ((v2_ * x0) + v3_)] S4 (fun o S5 => o = .inl none ∧ (
                  ev_Cv g m_X0_place 2 0 [ev_o 0 ((a_X2_deskOf (a + 52) 1) + 1), ev_i v1_, ev_i ((v2_ * x0) + v3_)] S5 (fun o S6 => o = .inl none ∧ (
                    Q (.inl none) S6)))))) ∧
              (¬ ((S4.1 (a + 1) 7) = 0) → (
                Q (.inl none) S4)))))) ∧
          (¬ ((j_at (S3.1 ((a_X2_deskOf (a + 52) 0) + 2)) 64 ((v2_ * x0) + v3_)) = (-1)) → (
            ev_Cv g m_X8_failBefore 1 0 [ev_o 8 (a + 1), ev_i 3] S3 (fun o S7 => o = .inl none ∧ (
              ev_Cv g m_X8_expectSign 4 0 [ev_o 8 (a + 1), ev_i 59] S7 (fun o S8 => o = .inl none ∧ (
                ((S8.1 (a + 1) 7) = 0 → (
                  ev_Cv g m_X0_place 2 0 [ev_o 0 ((a_X2_deskOf (a + 52) 0) + 1), ev_i v1_, ev_i ((v2_ * x0) + v3_)] S8 (fun o S9 => o = .inl none ∧ (
                    ev_Cv g m_X0_place 2 0 [ev_o 0 ((a_X2_deskOf (a + 52) 1) + 1), ev_i v1_, ev_i ((v2_ * x0) + v3_)] S9 (fun o S10 => o = .inl none ∧ (
                      Q (.inl none) S10)))))) ∧
                (¬ ((S8.1 (a + 1) 7) = 0) → (
                  Q (.inl none) S8)))))))))))))) ∧
    (¬ ((j_at (S1.1 ((a_X2_deskOf (a + 52) 0) + 3)) 2 v1_) < 8) → (
      ev_Cv g m_X8_failBefore 1 0 [ev_o 8 (a + 1), ev_i 4] S1 (fun o S11 => o = .inl none ∧ (
        ev_Cv g m_X8_number 4 0 [ev_o 8 (a + 1), ev_i 0, ev_i (x0 - 1)] S11 (fun o S12 => ∃ v12_ : Int32, o = .inl (some (ev_i v12_)) ∧ (
          ev_Cv g m_X8_number 4 0 [ev_o 8 (a + 1), ev_i 0, ev_i (x0 - 1)] S12 (fun o S13 => ∃ v13_ : Int32, o = .inl (some (ev_i v13_)) ∧ (
            ((j_at (S13.1 ((a_X2_deskOf (a + 52) 0) + 2)) 64 ((v12_ * x0) + v13_)) = (-1) → (
              ev_Cv g m_X8_expectSign 4 0 [ev_o 8 (a + 1), ev_i 59] S13 (fun o S14 => o = .inl none ∧ (
                ((S14.1 (a + 1) 7) = 0 → (
                  ev_Cv g m_X0_place 2 0 [ev_o 0 ((a_X2_deskOf (a + 52) 0) + 1), ev_i v1_, ev_i ((v12_ * x0) + v13_)] S14 (fun o S15 => o = .inl none ∧ (
                    ev_Cv g m_X0_place 2 0 [ev_o 0 ((a_X2_deskOf (a + 52) 1) + 1), ev_i v1_, ev_i ((v12_ * x0) + v13_)] S15 (fun o S16 => o = .inl none ∧ (
                      Q (.inl none) S16)))))) ∧
                (¬ ((S14.1 (a + 1) 7) = 0) → (
                  Q (.inl none) S14)))))) ∧
            (¬ ((j_at (S13.1 ((a_X2_deskOf (a + 52) 0) + 2)) 64 ((v12_ * x0) + v13_)) = (-1)) → (
              ev_Cv g m_X8_failBefore 1 0 [ev_o 8 (a + 1), ev_i 3] S13 (fun o S17 => o = .inl none ∧ (
                ev_Cv g m_X8_expectSign 4 0 [ev_o 8 (a + 1), ev_i 59] S17 (fun o S18 => o = .inl none ∧ (
                  ((S18.1 (a + 1) 7) = 0 → (
                    ev_Cv g m_X0_place 2 0 [ev_o 0 ((a_X2_deskOf (a + 52) 0) + 1), ev_i v1_, ev_i ((v12_ * x0) + v13_)] S18 (fun o S19 => o = .inl none ∧ (
                      ev_Cv g m_X0_place 2 0 [ev_o 0 ((a_X2_deskOf (a + 52) 1) + 1), ev_i v1_, ev_i ((v12_ * x0) + v13_)] S19 (fun o S20 => o = .inl none ∧ (
                        Q (.inl none) S20)))))) ∧
                  (¬ ((S18.1 (a + 1) 7) = 0) → (
                    Q (.inl none) S18))))))))))))))))))) : ev_Cv g m_X9_readBishop 5 0 [ev_o 9 a, ev_i x0] S Q := by
  refine ev_enter (by decide) rfl rfl (Nat.le_of_ble_eq_true rfl) ?_
  show ev_E g m_X9_readBishop 5 0 0 [some (ev_o 9 a), some (ev_i x0), none, none, none, none] [] S Q
  refine ev_aload_n (ev_o 9 a) dX9_readBishop_0 rfl rfl ?_
  refine gf_9_0 dX9_readBishop_1 kw_598 ?_
  refine ev_iconst (0) dX9_readBishop_4 rfl ?_
  refine ev_iconst (1) dX9_readBishop_5 rfl ?_
  refine ev_cV mv_X8_number 4 0 8 [ev_i 0, ev_i 1] [] dX9_readBishop_6 kw_441 rfl (by decide) rfl (by decide) (by decide) (Nat.le_of_ble_eq_true rfl) hQ ?_ rfl
  rintro o S1 ⟨v1_, rfl, hQ⟩
  show ev_E g m_X9_readBishop 5 0 9 [some (ev_o 9 a), some (ev_i x0), none, none, none, none] [ev_i v1_] S1 Q
  refine ev_istore_n dX9_readBishop_9 (Nat.le_of_ble_eq_true rfl) (ev_hw rfl) ?_
  show ev_E g m_X9_readBishop 5 0 10 [some (ev_o 9 a), some (ev_i x0), some (ev_i v1_), none, none, none] [] S1 Q
  refine ev_aload_n (ev_o 9 a) dX9_readBishop_10 rfl rfl ?_
  refine gf_9_4 dX9_readBishop_11 kw_602 ?_
  refine ev_iconst (0) dX9_readBishop_14 rfl ?_
  refine ev_fV mv_X2_boardOf 2 2 [ev_i 0] [] dX9_readBishop_15 kw_488 rfl (by decide) rfl (by decide) (Nat.le_of_ble_eq_true rfl) (sp_X2_boardOf (a + 52) 0) ?_ rfl
  refine ev_iload_n (v1_) dX9_readBishop_18 rfl ?_
  refine ev_fV mv_X0_bishopsOf 2 0 [ev_i v1_] [] dX9_readBishop_19 kw_500 rfl (by decide) rfl (by decide) (Nat.le_of_ble_eq_true rfl) (sp_X0_bishopsOf ((a_X2_deskOf (a + 52) 0) + 1) v1_) ?_ rfl
  refine ev_bipush (8) dX9_readBishop_22 (by decide) ?_
  refine ev_icmp_lt 35 dX9_readBishop_24 (by decide) (fun c1 => ?_) (fun c1 => ?_)
  · replace hQ := hQ.1 c1
    refine ev_aload_n (ev_o 9 a) dX9_readBishop_35 rfl rfl ?_
    refine gf_9_0 dX9_readBishop_36 kw_598 ?_
    refine ev_iconst (0) dX9_readBishop_39 rfl ?_
    refine ev_iload_n (x0) dX9_readBishop_40 rfl ?_
    refine ev_iconst (1) dX9_readBishop_41 rfl ?_
    refine ev_isub dX9_readBishop_42 ?_
    refine ev_cV mv_X8_number 4 0 8 [ev_i 0, ev_i (x0 - 1)] [] dX9_readBishop_43 kw_441 rfl (by decide) rfl (by decide) (by decide) (Nat.le_of_ble_eq_true rfl) hQ ?_ rfl
    rintro o S2 ⟨v2_, rfl, hQ⟩
    show ev_E g m_X9_readBishop 5 0 46 [some (ev_o 9 a), some (ev_i x0), some (ev_i v1_), none, none, none] [ev_i v2_] S2 Q
    refine ev_istore_n dX9_readBishop_46 (Nat.le_of_ble_eq_true rfl) (ev_hw rfl) ?_
    show ev_E g m_X9_readBishop 5 0 47 [some (ev_o 9 a), some (ev_i x0), some (ev_i v1_), some (ev_i v2_), none, none] [] S2 Q
    refine ev_aload_n (ev_o 9 a) dX9_readBishop_47 rfl rfl ?_
    refine gf_9_0 dX9_readBishop_48 kw_598 ?_
    refine ev_iconst (0) dX9_readBishop_51 rfl ?_
    refine ev_iload_n (x0) dX9_readBishop_52 rfl ?_
    refine ev_iconst (1) dX9_readBishop_53 rfl ?_
    refine ev_isub dX9_readBishop_54 ?_
    refine ev_cV mv_X8_number 4 0 8 [ev_i 0, ev_i (x0 - 1)] [] dX9_readBishop_55 kw_441 rfl (by decide) rfl (by decide) (by decide) (Nat.le_of_ble_eq_true rfl) hQ ?_ rfl
    rintro o S3 ⟨v3_, rfl, hQ⟩
    show ev_E g m_X9_readBishop 5 0 58 [some (ev_o 9 a), some (ev_i x0), some (ev_i v1_), some (ev_i v2_), none, none] [ev_i v3_] S3 Q
    refine ev_istore dX9_readBishop_58 (Nat.le_of_ble_eq_true rfl) (ev_hw rfl) ?_
    show ev_E g m_X9_readBishop 5 0 60 [some (ev_o 9 a), some (ev_i x0), some (ev_i v1_), some (ev_i v2_), some (ev_i v3_), none] [] S3 Q
    refine ev_iload_n (v2_) dX9_readBishop_60 rfl ?_
    refine ev_iload_n (x0) dX9_readBishop_61 rfl ?_
    refine ev_imul dX9_readBishop_62 ?_
    refine ev_iload (v3_) dX9_readBishop_63 rfl ?_
    refine ev_iadd dX9_readBishop_65 ?_
    refine ev_istore dX9_readBishop_66 (Nat.le_of_ble_eq_true rfl) (ev_hw rfl) ?_
    show ev_E g m_X9_readBishop 5 0 68 [some (ev_o 9 a), some (ev_i x0), some (ev_i v1_), some (ev_i v2_), some (ev_i v3_), some (ev_i ((v2_ * x0) + v3_))] [] S3 Q
    refine ev_aload_n (ev_o 9 a) dX9_readBishop_68 rfl rfl ?_
    refine gf_9_4 dX9_readBishop_69 kw_602 ?_
    refine ev_iconst (0) dX9_readBishop_72 rfl ?_
    refine ev_fV mv_X2_boardOf 2 2 [ev_i 0] [] dX9_readBishop_73 kw_488 rfl (by decide) rfl (by decide) (Nat.le_of_ble_eq_true rfl) (sp_X2_boardOf (a + 52) 0) ?_ rfl
    refine ev_iload (((v2_ * x0) + v3_)) dX9_readBishop_76 rfl ?_
    refine ev_fV mv_X0_ownerOn 2 0 [ev_i ((v2_ * x0) + v3_)] [] dX9_readBishop_78 kw_509 rfl (by decide) rfl (by decide) (Nat.le_of_ble_eq_true rfl) (sp_X0_ownerOn ((a_X2_deskOf (a + 52) 0) + 1) ((v2_ * x0) + v3_)) ?_ rfl
    refine ev_iconst (-1) dX9_readBishop_81 rfl ?_
    refine ev_icmp_eq 93 dX9_readBishop_82 (by decide) (fun c2 => ?_) (fun c2 => ?_)
    · replace hQ := hQ.1 c2
      refine ev_aload_n (ev_o 9 a) dX9_readBishop_93 rfl rfl ?_
      refine gf_9_0 dX9_readBishop_94 kw_598 ?_
      refine ev_bipush (59) dX9_readBishop_97 (by decide) ?_
      refine ev_cV mv_X8_expectSign 4 0 8 [ev_i 59] [] dX9_readBishop_99 kw_445 rfl (by decide) rfl (by decide) (by decide) (Nat.le_of_ble_eq_true rfl) hQ ?_ rfl
      rintro o S4 ⟨rfl, hQ⟩
      show ev_E g m_X9_readBishop 5 0 102 [some (ev_o 9 a), some (ev_i x0), some (ev_i v1_), some (ev_i v2_), some (ev_i v3_), some (ev_i ((v2_ * x0) + v3_))] [] S4 Q
      refine ev_aload_n (ev_o 9 a) dX9_readBishop_102 rfl rfl ?_
      refine gf_9_0 dX9_readBishop_103 kw_598 ?_
      refine ev_fV mv_X8_hasError 1 8 [] [] dX9_readBishop_106 kw_513 rfl (by decide) rfl (by decide) (Nat.le_of_ble_eq_true rfl) (sp_X8_hasError (a + 1)) ?_ rfl
      by_cases c3 : (S4.1 (a + 1) 7) = 0
      · rw [if_pos c3]
        replace hQ := hQ.1 c3
        refine ev_if_ne 140 dX9_readBishop_109 (by decide) (fun h9 => absurd (by decide : ((0 : Int32) = 0)) h9) (fun _ => ?_)
        refine ev_aload_n (ev_o 9 a) dX9_readBishop_112 rfl rfl ?_
        refine gf_9_4 dX9_readBishop_113 kw_602 ?_
        refine ev_iconst (0) dX9_readBishop_116 rfl ?_
        refine ev_fV mv_X2_boardOf 2 2 [ev_i 0] [] dX9_readBishop_117 kw_488 rfl (by decide) rfl (by decide) (Nat.le_of_ble_eq_true rfl) (sp_X2_boardOf (a + 52) 0) ?_ rfl
        refine ev_iload_n (v1_) dX9_readBishop_120 rfl ?_
        refine ev_iload (((v2_ * x0) + v3_)) dX9_readBishop_121 rfl ?_
        refine ev_cV mv_X0_place 2 0 0 [ev_i v1_, ev_i ((v2_ * x0) + v3_)] [] dX9_readBishop_123 kw_517 rfl (by decide) rfl (by decide) (by decide) (Nat.le_of_ble_eq_true rfl) hQ ?_ rfl
        rintro o S5 ⟨rfl, hQ⟩
        show ev_E g m_X9_readBishop 5 0 126 [some (ev_o 9 a), some (ev_i x0), some (ev_i v1_), some (ev_i v2_), some (ev_i v3_), some (ev_i ((v2_ * x0) + v3_))] [] S5 Q
        refine ev_aload_n (ev_o 9 a) dX9_readBishop_126 rfl rfl ?_
        refine gf_9_4 dX9_readBishop_127 kw_602 ?_
        refine ev_iconst (1) dX9_readBishop_130 rfl ?_
        refine ev_fV mv_X2_boardOf 2 2 [ev_i 1] [] dX9_readBishop_131 kw_488 rfl (by decide) rfl (by decide) (Nat.le_of_ble_eq_true rfl) (sp_X2_boardOf (a + 52) 1) ?_ rfl
        refine ev_iload_n (v1_) dX9_readBishop_134 rfl ?_
        refine ev_iload (((v2_ * x0) + v3_)) dX9_readBishop_135 rfl ?_
        refine ev_cV mv_X0_place 2 0 0 [ev_i v1_, ev_i ((v2_ * x0) + v3_)] [] dX9_readBishop_137 kw_517 rfl (by decide) rfl (by decide) (by decide) (Nat.le_of_ble_eq_true rfl) hQ ?_ rfl
        rintro o S6 ⟨rfl, hQ⟩
        show ev_E g m_X9_readBishop 5 0 140 [some (ev_o 9 a), some (ev_i x0), some (ev_i v1_), some (ev_i v2_), some (ev_i v3_), some (ev_i ((v2_ * x0) + v3_))] [] S6 Q
        exact ev_return dX9_readBishop_140 rfl hQ
      · rw [if_neg c3]
        replace hQ := hQ.2 c3
        refine ev_if_ne 140 dX9_readBishop_109 (by decide) (fun _ => ?_) (fun h9 => absurd h9 (by decide : ¬ ((1 : Int32) = 0)))
        exact ev_return dX9_readBishop_140 rfl hQ
    · replace hQ := hQ.2 c2
      refine ev_aload_n (ev_o 9 a) dX9_readBishop_85 rfl rfl ?_
      refine gf_9_0 dX9_readBishop_86 kw_598 ?_
      refine ev_iconst (3) dX9_readBishop_89 rfl ?_
      refine ev_cV mv_X8_failBefore 1 0 8 [ev_i 3] [] dX9_readBishop_90 kw_505 rfl (by decide) rfl (by decide) (by decide) (Nat.le_of_ble_eq_true rfl) hQ ?_ rfl
      rintro o S7 ⟨rfl, hQ⟩
      show ev_E g m_X9_readBishop 5 0 93 [some (ev_o 9 a), some (ev_i x0), some (ev_i v1_), some (ev_i v2_), some (ev_i v3_), some (ev_i ((v2_ * x0) + v3_))] [] S7 Q
      refine ev_aload_n (ev_o 9 a) dX9_readBishop_93 rfl rfl ?_
      refine gf_9_0 dX9_readBishop_94 kw_598 ?_
      refine ev_bipush (59) dX9_readBishop_97 (by decide) ?_
      refine ev_cV mv_X8_expectSign 4 0 8 [ev_i 59] [] dX9_readBishop_99 kw_445 rfl (by decide) rfl (by decide) (by decide) (Nat.le_of_ble_eq_true rfl) hQ ?_ rfl
      rintro o S8 ⟨rfl, hQ⟩
      show ev_E g m_X9_readBishop 5 0 102 [some (ev_o 9 a), some (ev_i x0), some (ev_i v1_), some (ev_i v2_), some (ev_i v3_), some (ev_i ((v2_ * x0) + v3_))] [] S8 Q
      refine ev_aload_n (ev_o 9 a) dX9_readBishop_102 rfl rfl ?_
      refine gf_9_0 dX9_readBishop_103 kw_598 ?_
      refine ev_fV mv_X8_hasError 1 8 [] [] dX9_readBishop_106 kw_513 rfl (by decide) rfl (by decide) (Nat.le_of_ble_eq_true rfl) (sp_X8_hasError (a + 1)) ?_ rfl
      by_cases c4 : (S8.1 (a + 1) 7) = 0
      · rw [if_pos c4]
        replace hQ := hQ.1 c4
        refine ev_if_ne 140 dX9_readBishop_109 (by decide) (fun h9 => absurd (by decide : ((0 : Int32) = 0)) h9) (fun _ => ?_)
        refine ev_aload_n (ev_o 9 a) dX9_readBishop_112 rfl rfl ?_
        refine gf_9_4 dX9_readBishop_113 kw_602 ?_
        refine ev_iconst (0) dX9_readBishop_116 rfl ?_
        refine ev_fV mv_X2_boardOf 2 2 [ev_i 0] [] dX9_readBishop_117 kw_488 rfl (by decide) rfl (by decide) (Nat.le_of_ble_eq_true rfl) (sp_X2_boardOf (a + 52) 0) ?_ rfl
        refine ev_iload_n (v1_) dX9_readBishop_120 rfl ?_
        refine ev_iload (((v2_ * x0) + v3_)) dX9_readBishop_121 rfl ?_
        refine ev_cV mv_X0_place 2 0 0 [ev_i v1_, ev_i ((v2_ * x0) + v3_)] [] dX9_readBishop_123 kw_517 rfl (by decide) rfl (by decide) (by decide) (Nat.le_of_ble_eq_true rfl) hQ ?_ rfl
        rintro o S9 ⟨rfl, hQ⟩
        show ev_E g m_X9_readBishop 5 0 126 [some (ev_o 9 a), some (ev_i x0), some (ev_i v1_), some (ev_i v2_), some (ev_i v3_), some (ev_i ((v2_ * x0) + v3_))] [] S9 Q
        refine ev_aload_n (ev_o 9 a) dX9_readBishop_126 rfl rfl ?_
        refine gf_9_4 dX9_readBishop_127 kw_602 ?_
        refine ev_iconst (1) dX9_readBishop_130 rfl ?_
        refine ev_fV mv_X2_boardOf 2 2 [ev_i 1] [] dX9_readBishop_131 kw_488 rfl (by decide) rfl (by decide) (Nat.le_of_ble_eq_true rfl) (sp_X2_boardOf (a + 52) 1) ?_ rfl
        refine ev_iload_n (v1_) dX9_readBishop_134 rfl ?_
        refine ev_iload (((v2_ * x0) + v3_)) dX9_readBishop_135 rfl ?_
        refine ev_cV mv_X0_place 2 0 0 [ev_i v1_, ev_i ((v2_ * x0) + v3_)] [] dX9_readBishop_137 kw_517 rfl (by decide) rfl (by decide) (by decide) (Nat.le_of_ble_eq_true rfl) hQ ?_ rfl
        rintro o S10 ⟨rfl, hQ⟩
        show ev_E g m_X9_readBishop 5 0 140 [some (ev_o 9 a), some (ev_i x0), some (ev_i v1_), some (ev_i v2_), some (ev_i v3_), some (ev_i ((v2_ * x0) + v3_))] [] S10 Q
        exact ev_return dX9_readBishop_140 rfl hQ
      · rw [if_neg c4]
        replace hQ := hQ.2 c4
        refine ev_if_ne 140 dX9_readBishop_109 (by decide) (fun _ => ?_) (fun h9 => absurd h9 (by decide : ¬ ((1 : Int32) = 0)))
        exact ev_return dX9_readBishop_140 rfl hQ
  · replace hQ := hQ.2 c1
    refine ev_aload_n (ev_o 9 a) dX9_readBishop_27 rfl rfl ?_
    refine gf_9_0 dX9_readBishop_28 kw_598 ?_
    refine ev_iconst (4) dX9_readBishop_31 rfl ?_
    refine ev_cV mv_X8_failBefore 1 0 8 [ev_i 4] [] dX9_readBishop_32 kw_505 rfl (by decide) rfl (by decide) (by decide) (Nat.le_of_ble_eq_true rfl) hQ ?_ rfl
    rintro o S11 ⟨rfl, hQ⟩
    show ev_E g m_X9_readBishop 5 0 35 [some (ev_o 9 a), some (ev_i x0), some (ev_i v1_), none, none, none] [] S11 Q
    refine ev_aload_n (ev_o 9 a) dX9_readBishop_35 rfl rfl ?_
    refine gf_9_0 dX9_readBishop_36 kw_598 ?_
    refine ev_iconst (0) dX9_readBishop_39 rfl ?_
    refine ev_iload_n (x0) dX9_readBishop_40 rfl ?_
    refine ev_iconst (1) dX9_readBishop_41 rfl ?_
    refine ev_isub dX9_readBishop_42 ?_
    refine ev_cV mv_X8_number 4 0 8 [ev_i 0, ev_i (x0 - 1)] [] dX9_readBishop_43 kw_441 rfl (by decide) rfl (by decide) (by decide) (Nat.le_of_ble_eq_true rfl) hQ ?_ rfl
    rintro o S12 ⟨v12_, rfl, hQ⟩
    show ev_E g m_X9_readBishop 5 0 46 [some (ev_o 9 a), some (ev_i x0), some (ev_i v1_), none, none, none] [ev_i v12_] S12 Q
    refine ev_istore_n dX9_readBishop_46 (Nat.le_of_ble_eq_true rfl) (ev_hw rfl) ?_
    show ev_E g m_X9_readBishop 5 0 47 [some (ev_o 9 a), some (ev_i x0), some (ev_i v1_), some (ev_i v12_), none, none] [] S12 Q
    refine ev_aload_n (ev_o 9 a) dX9_readBishop_47 rfl rfl ?_
    refine gf_9_0 dX9_readBishop_48 kw_598 ?_
    refine ev_iconst (0) dX9_readBishop_51 rfl ?_
    refine ev_iload_n (x0) dX9_readBishop_52 rfl ?_
    refine ev_iconst (1) dX9_readBishop_53 rfl ?_
    refine ev_isub dX9_readBishop_54 ?_
    refine ev_cV mv_X8_number 4 0 8 [ev_i 0, ev_i (x0 - 1)] [] dX9_readBishop_55 kw_441 rfl (by decide) rfl (by decide) (by decide) (Nat.le_of_ble_eq_true rfl) hQ ?_ rfl
    rintro o S13 ⟨v13_, rfl, hQ⟩
    show ev_E g m_X9_readBishop 5 0 58 [some (ev_o 9 a), some (ev_i x0), some (ev_i v1_), some (ev_i v12_), none, none] [ev_i v13_] S13 Q
    refine ev_istore dX9_readBishop_58 (Nat.le_of_ble_eq_true rfl) (ev_hw rfl) ?_
    show ev_E g m_X9_readBishop 5 0 60 [some (ev_o 9 a), some (ev_i x0), some (ev_i v1_), some (ev_i v12_), some (ev_i v13_), none] [] S13 Q
    refine ev_iload_n (v12_) dX9_readBishop_60 rfl ?_
    refine ev_iload_n (x0) dX9_readBishop_61 rfl ?_
    refine ev_imul dX9_readBishop_62 ?_
    refine ev_iload (v13_) dX9_readBishop_63 rfl ?_
    refine ev_iadd dX9_readBishop_65 ?_
    refine ev_istore dX9_readBishop_66 (Nat.le_of_ble_eq_true rfl) (ev_hw rfl) ?_
    show ev_E g m_X9_readBishop 5 0 68 [some (ev_o 9 a), some (ev_i x0), some (ev_i v1_), some (ev_i v12_), some (ev_i v13_), some (ev_i ((v12_ * x0) + v13_))] [] S13 Q
    refine ev_aload_n (ev_o 9 a) dX9_readBishop_68 rfl rfl ?_
    refine gf_9_4 dX9_readBishop_69 kw_602 ?_
    refine ev_iconst (0) dX9_readBishop_72 rfl ?_
    refine ev_fV mv_X2_boardOf 2 2 [ev_i 0] [] dX9_readBishop_73 kw_488 rfl (by decide) rfl (by decide) (Nat.le_of_ble_eq_true rfl) (sp_X2_boardOf (a + 52) 0) ?_ rfl
    refine ev_iload (((v12_ * x0) + v13_)) dX9_readBishop_76 rfl ?_
    refine ev_fV mv_X0_ownerOn 2 0 [ev_i ((v12_ * x0) + v13_)] [] dX9_readBishop_78 kw_509 rfl (by decide) rfl (by decide) (Nat.le_of_ble_eq_true rfl) (sp_X0_ownerOn ((a_X2_deskOf (a + 52) 0) + 1) ((v12_ * x0) + v13_)) ?_ rfl
    refine ev_iconst (-1) dX9_readBishop_81 rfl ?_
    refine ev_icmp_eq 93 dX9_readBishop_82 (by decide) (fun c5 => ?_) (fun c5 => ?_)
    · replace hQ := hQ.1 c5
      refine ev_aload_n (ev_o 9 a) dX9_readBishop_93 rfl rfl ?_
      refine gf_9_0 dX9_readBishop_94 kw_598 ?_
      refine ev_bipush (59) dX9_readBishop_97 (by decide) ?_
      refine ev_cV mv_X8_expectSign 4 0 8 [ev_i 59] [] dX9_readBishop_99 kw_445 rfl (by decide) rfl (by decide) (by decide) (Nat.le_of_ble_eq_true rfl) hQ ?_ rfl
      rintro o S14 ⟨rfl, hQ⟩
      show ev_E g m_X9_readBishop 5 0 102 [some (ev_o 9 a), some (ev_i x0), some (ev_i v1_), some (ev_i v12_), some (ev_i v13_), some (ev_i ((v12_ * x0) + v13_))] [] S14 Q
      refine ev_aload_n (ev_o 9 a) dX9_readBishop_102 rfl rfl ?_
      refine gf_9_0 dX9_readBishop_103 kw_598 ?_
      refine ev_fV mv_X8_hasError 1 8 [] [] dX9_readBishop_106 kw_513 rfl (by decide) rfl (by decide) (Nat.le_of_ble_eq_true rfl) (sp_X8_hasError (a + 1)) ?_ rfl
      by_cases c6 : (S14.1 (a + 1) 7) = 0
      · rw [if_pos c6]
        replace hQ := hQ.1 c6
        refine ev_if_ne 140 dX9_readBishop_109 (by decide) (fun h9 => absurd (by decide : ((0 : Int32) = 0)) h9) (fun _ => ?_)
        refine ev_aload_n (ev_o 9 a) dX9_readBishop_112 rfl rfl ?_
        refine gf_9_4 dX9_readBishop_113 kw_602 ?_
        refine ev_iconst (0) dX9_readBishop_116 rfl ?_
        refine ev_fV mv_X2_boardOf 2 2 [ev_i 0] [] dX9_readBishop_117 kw_488 rfl (by decide) rfl (by decide) (Nat.le_of_ble_eq_true rfl) (sp_X2_boardOf (a + 52) 0) ?_ rfl
        refine ev_iload_n (v1_) dX9_readBishop_120 rfl ?_
        refine ev_iload (((v12_ * x0) + v13_)) dX9_readBishop_121 rfl ?_
        refine ev_cV mv_X0_place 2 0 0 [ev_i v1_, ev_i ((v12_ * x0) + v13_)] [] dX9_readBishop_123 kw_517 rfl (by decide) rfl (by decide) (by decide) (Nat.le_of_ble_eq_true rfl) hQ ?_ rfl
        rintro o S15 ⟨rfl, hQ⟩
        show ev_E g m_X9_readBishop 5 0 126 [some (ev_o 9 a), some (ev_i x0), some (ev_i v1_), some (ev_i v12_), some (ev_i v13_), some (ev_i ((v12_ * x0) + v13_))] [] S15 Q
        refine ev_aload_n (ev_o 9 a) dX9_readBishop_126 rfl rfl ?_
        refine gf_9_4 dX9_readBishop_127 kw_602 ?_
        refine ev_iconst (1) dX9_readBishop_130 rfl ?_
        refine ev_fV mv_X2_boardOf 2 2 [ev_i 1] [] dX9_readBishop_131 kw_488 rfl (by decide) rfl (by decide) (Nat.le_of_ble_eq_true rfl) (sp_X2_boardOf (a + 52) 1) ?_ rfl
        refine ev_iload_n (v1_) dX9_readBishop_134 rfl ?_
        refine ev_iload (((v12_ * x0) + v13_)) dX9_readBishop_135 rfl ?_
        refine ev_cV mv_X0_place 2 0 0 [ev_i v1_, ev_i ((v12_ * x0) + v13_)] [] dX9_readBishop_137 kw_517 rfl (by decide) rfl (by decide) (by decide) (Nat.le_of_ble_eq_true rfl) hQ ?_ rfl
        rintro o S16 ⟨rfl, hQ⟩
        show ev_E g m_X9_readBishop 5 0 140 [some (ev_o 9 a), some (ev_i x0), some (ev_i v1_), some (ev_i v12_), some (ev_i v13_), some (ev_i ((v12_ * x0) + v13_))] [] S16 Q
        exact ev_return dX9_readBishop_140 rfl hQ
      · rw [if_neg c6]
        replace hQ := hQ.2 c6
        refine ev_if_ne 140 dX9_readBishop_109 (by decide) (fun _ => ?_) (fun h9 => absurd h9 (by decide : ¬ ((1 : Int32) = 0)))
        exact ev_return dX9_readBishop_140 rfl hQ
    · replace hQ := hQ.2 c5
      refine ev_aload_n (ev_o 9 a) dX9_readBishop_85 rfl rfl ?_
      refine gf_9_0 dX9_readBishop_86 kw_598 ?_
      refine ev_iconst (3) dX9_readBishop_89 rfl ?_
      refine ev_cV mv_X8_failBefore 1 0 8 [ev_i 3] [] dX9_readBishop_90 kw_505 rfl (by decide) rfl (by decide) (by decide) (Nat.le_of_ble_eq_true rfl) hQ ?_ rfl
      rintro o S17 ⟨rfl, hQ⟩
      show ev_E g m_X9_readBishop 5 0 93 [some (ev_o 9 a), some (ev_i x0), some (ev_i v1_), some (ev_i v12_), some (ev_i v13_), some (ev_i ((v12_ * x0) + v13_))] [] S17 Q
      refine ev_aload_n (ev_o 9 a) dX9_readBishop_93 rfl rfl ?_
      refine gf_9_0 dX9_readBishop_94 kw_598 ?_
      refine ev_bipush (59) dX9_readBishop_97 (by decide) ?_
      refine ev_cV mv_X8_expectSign 4 0 8 [ev_i 59] [] dX9_readBishop_99 kw_445 rfl (by decide) rfl (by decide) (by decide) (Nat.le_of_ble_eq_true rfl) hQ ?_ rfl
      rintro o S18 ⟨rfl, hQ⟩
      show ev_E g m_X9_readBishop 5 0 102 [some (ev_o 9 a), some (ev_i x0), some (ev_i v1_), some (ev_i v12_), some (ev_i v13_), some (ev_i ((v12_ * x0) + v13_))] [] S18 Q
      refine ev_aload_n (ev_o 9 a) dX9_readBishop_102 rfl rfl ?_
      refine gf_9_0 dX9_readBishop_103 kw_598 ?_
      refine ev_fV mv_X8_hasError 1 8 [] [] dX9_readBishop_106 kw_513 rfl (by decide) rfl (by decide) (Nat.le_of_ble_eq_true rfl) (sp_X8_hasError (a + 1)) ?_ rfl
      by_cases c7 : (S18.1 (a + 1) 7) = 0
      · rw [if_pos c7]
        replace hQ := hQ.1 c7
        refine ev_if_ne 140 dX9_readBishop_109 (by decide) (fun h9 => absurd (by decide : ((0 : Int32) = 0)) h9) (fun _ => ?_)
        refine ev_aload_n (ev_o 9 a) dX9_readBishop_112 rfl rfl ?_
        refine gf_9_4 dX9_readBishop_113 kw_602 ?_
        refine ev_iconst (0) dX9_readBishop_116 rfl ?_
        refine ev_fV mv_X2_boardOf 2 2 [ev_i 0] [] dX9_readBishop_117 kw_488 rfl (by decide) rfl (by decide) (Nat.le_of_ble_eq_true rfl) (sp_X2_boardOf (a + 52) 0) ?_ rfl
        refine ev_iload_n (v1_) dX9_readBishop_120 rfl ?_
        refine ev_iload (((v12_ * x0) + v13_)) dX9_readBishop_121 rfl ?_
        refine ev_cV mv_X0_place 2 0 0 [ev_i v1_, ev_i ((v12_ * x0) + v13_)] [] dX9_readBishop_123 kw_517 rfl (by decide) rfl (by decide) (by decide) (Nat.le_of_ble_eq_true rfl) hQ ?_ rfl
        rintro o S19 ⟨rfl, hQ⟩
        show ev_E g m_X9_readBishop 5 0 126 [some (ev_o 9 a), some (ev_i x0), some (ev_i v1_), some (ev_i v12_), some (ev_i v13_), some (ev_i ((v12_ * x0) + v13_))] [] S19 Q
        refine ev_aload_n (ev_o 9 a) dX9_readBishop_126 rfl rfl ?_
        refine gf_9_4 dX9_readBishop_127 kw_602 ?_
        refine ev_iconst (1) dX9_readBishop_130 rfl ?_
        refine ev_fV mv_X2_boardOf 2 2 [ev_i 1] [] dX9_readBishop_131 kw_488 rfl (by decide) rfl (by decide) (Nat.le_of_ble_eq_true rfl) (sp_X2_boardOf (a + 52) 1) ?_ rfl
        refine ev_iload_n (v1_) dX9_readBishop_134 rfl ?_
        refine ev_iload (((v12_ * x0) + v13_)) dX9_readBishop_135 rfl ?_
        refine ev_cV mv_X0_place 2 0 0 [ev_i v1_, ev_i ((v12_ * x0) + v13_)] [] dX9_readBishop_137 kw_517 rfl (by decide) rfl (by decide) (by decide) (Nat.le_of_ble_eq_true rfl) hQ ?_ rfl
        rintro o S20 ⟨rfl, hQ⟩
        show ev_E g m_X9_readBishop 5 0 140 [some (ev_o 9 a), some (ev_i x0), some (ev_i v1_), some (ev_i v12_), some (ev_i v13_), some (ev_i ((v12_ * x0) + v13_))] [] S20 Q
        exact ev_return dX9_readBishop_140 rfl hQ
      · rw [if_neg c7]
        replace hQ := hQ.2 c7
        refine ev_if_ne 140 dX9_readBishop_109 (by decide) (fun _ => ?_) (fun h9 => absurd h9 (by decide : ¬ ((1 : Int32) = 0)))
        exact ev_return dX9_readBishop_140 rfl hQ
set_option maxHeartbeats 4000000 in
set_option maxRecDepth 100000 in
theorem sg_X6_passes_0 {g : ev_G} {S : ev_S} {Q : ev_O → ev_S → Prop} (a : Nat) (hQ : Q (.inl (some (ev_o 5 (a + 1)))) S) : ev_Cv g m_X6_passes 1 0 [ev_o 6 a] S Q := by
  refine ev_enter (by decide) rfl rfl (Nat.le_of_ble_eq_true rfl) ?_
  show ev_E g m_X6_passes 1 0 0 [some (ev_o 6 a)] [] S Q
  refine ev_aload_n (ev_o 6 a) dX6_passes_0 rfl rfl ?_
  refine gf_6_0 dX6_passes_1 kw_240 ?_
  exact ev_areturn _ dX6_passes_4 rfl rfl (Or.inl ⟨_, rfl⟩) hQ
set_option maxHeartbeats 4000000 in
set_option maxRecDepth 100000 in
theorem sp_X6_passes {g : ev_G} {S : ev_S} (a : Nat)  : ev_Fn g m_X6_passes 1 [ev_o 6 a] S (some (ev_o 5 (a + 1))) S := by
  intro Q hQ
  refine sg_X6_passes_0 a ?_
  exact hQ
set_option maxHeartbeats 4000000 in
set_option maxRecDepth 100000 in
theorem sg_X2_passes_0 {g : ev_G} {S : ev_S} {Q : ev_O → ev_S → Prop} (a : Nat) (hQ : Q (.inl (some (ev_o 5 (a + 20)))) S) : ev_Cv g m_X2_passes 2 0 [ev_o 2 a] S Q := by
  refine ev_enter (by decide) rfl rfl (Nat.le_of_ble_eq_true rfl) ?_
  show ev_E g m_X2_passes 2 0 0 [some (ev_o 2 a)] [] S Q
  refine ev_aload_n (ev_o 2 a) dX2_passes_0 rfl rfl ?_
  refine gf_2_2 dX2_passes_1 kw_299 ?_
  refine ev_fV mv_X6_passes 1 6 [] [] dX2_passes_4 kw_531 rfl (by decide) rfl (by decide) (Nat.le_of_ble_eq_true rfl) (sp_X6_passes (a + 19)) ?_ rfl
  exact ev_areturn _ dX2_passes_7 rfl rfl (Or.inl ⟨_, rfl⟩) hQ
set_option maxHeartbeats 4000000 in
set_option maxRecDepth 100000 in
theorem sp_X2_passes {g : ev_G} {S : ev_S} (a : Nat)  : ev_Fn g m_X2_passes 2 [ev_o 2 a] S (some (ev_o 5 (a + 20))) S := by
  intro Q hQ
  refine sg_X2_passes_0 a ?_
  exact hQ
set_option maxHeartbeats 4000000 in
set_option maxRecDepth 100000 in
theorem sg_X5_open_0 {g : ev_G} {S : ev_S} {Q : ev_O → ev_S → Prop} (a : Nat) (x0 : Int32) (x1 : Int32) (x2 : Int32) (hQ : ∀ S1 : ev_S, S1 = (j_put S (a + 1) 4 (S.1 a 3) x0) → (
    ∀ S2 : ev_S, S2 = (j_put S1 (a + 3) 8 ((S1.1 a 3) * 2) x1) → (
      ∀ S3 : ev_S, S3 = (j_put S2 (a + 3) 8 (((S2.1 a 3) * 2) + 1) x2) → (
        ∀ S4 : ev_S, S4 = (ev_up S3 a 4 ((S3.1 a 4) + (x1 + x2))) → (
          ∀ S5 : ev_S, S5 = (ev_up S4 a 3 ((S3.1 a 3) + 1)) → (
            Q (.inl none) S5)))))) : ev_Cv g m_X5_open 2 0 [ev_o 5 a, ev_i x0, ev_i x1, ev_i x2] S Q := by
  refine ev_enter (by decide) rfl rfl (Nat.le_of_ble_eq_true rfl) ?_
  show ev_E g m_X5_open 2 0 0 [some (ev_o 5 a), some (ev_i x0), some (ev_i x1), some (ev_i x2)] [] S Q
  refine ev_aload_n (ev_o 5 a) dX5_open_0 rfl rfl ?_
  refine gf_5_0 dX5_open_1 kw_224 ?_
  refine ev_aload_n (ev_o 5 a) dX5_open_4 rfl rfl ?_
  refine gf_5_3 dX5_open_5 kw_227 ?_
  refine ev_iload_n (x0) dX5_open_8 rfl ?_
  refine ev_fNn ms_X9_put 1 [ev_y 4 (a + 1), ev_i (S.1 a 3), ev_i x0] [] dX5_open_9 (List.mem_of_getElem? (i := 13) rfl) rfl (by decide) (Nat.le_of_ble_eq_true rfl) (sp_X9_put 4 (a + 1) (S.1 a 3) x0) ?_ rfl
  refine ev_sub hQ (fun S1 hS1 hQ => ?_)
  refine ev_E.goal (pc' := 12) (L' := [some (ev_o 5 a), some (ev_i x0), some (ev_i x1), some (ev_i x2)]) (K' := []) (S' := S1) ?_ rfl rfl rfl hS1
  refine ev_aload_n (ev_o 5 a) dX5_open_12 rfl rfl ?_
  refine gf_5_2 dX5_open_13 kw_226 ?_
  refine ev_aload_n (ev_o 5 a) dX5_open_16 rfl rfl ?_
  refine gf_5_3 dX5_open_17 kw_227 ?_
  refine ev_iconst (2) dX5_open_20 rfl ?_
  refine ev_imul dX5_open_21 ?_
  refine ev_iload_n (x1) dX5_open_22 rfl ?_
  refine ev_fNn ms_X9_put 1 [ev_y 8 (a + 3), ev_i ((S1.1 a 3) * 2), ev_i x1] [] dX5_open_23 (List.mem_of_getElem? (i := 13) rfl) rfl (by decide) (Nat.le_of_ble_eq_true rfl) (sp_X9_put 8 (a + 3) ((S1.1 a 3) * 2) x1) ?_ rfl
  refine ev_sub hQ (fun S2 hS2 hQ => ?_)
  refine ev_E.goal (pc' := 26) (L' := [some (ev_o 5 a), some (ev_i x0), some (ev_i x1), some (ev_i x2)]) (K' := []) (S' := S2) ?_ rfl rfl rfl hS2
  refine ev_aload_n (ev_o 5 a) dX5_open_26 rfl rfl ?_
  refine gf_5_2 dX5_open_27 kw_226 ?_
  refine ev_aload_n (ev_o 5 a) dX5_open_30 rfl rfl ?_
  refine gf_5_3 dX5_open_31 kw_227 ?_
  refine ev_iconst (2) dX5_open_34 rfl ?_
  refine ev_imul dX5_open_35 ?_
  refine ev_iconst (1) dX5_open_36 rfl ?_
  refine ev_iadd dX5_open_37 ?_
  refine ev_iload_n (x2) dX5_open_38 rfl ?_
  refine ev_fNn ms_X9_put 1 [ev_y 8 (a + 3), ev_i (((S2.1 a 3) * 2) + 1), ev_i x2] [] dX5_open_39 (List.mem_of_getElem? (i := 13) rfl) rfl (by decide) (Nat.le_of_ble_eq_true rfl) (sp_X9_put 8 (a + 3) (((S2.1 a 3) * 2) + 1) x2) ?_ rfl
  refine ev_sub hQ (fun S3 hS3 hQ => ?_)
  refine ev_E.goal (pc' := 42) (L' := [some (ev_o 5 a), some (ev_i x0), some (ev_i x1), some (ev_i x2)]) (K' := []) (S' := S3) ?_ rfl rfl rfl hS3
  refine ev_aload_n (ev_o 5 a) dX5_open_42 rfl rfl ?_
  refine ev_dup dX5_open_43 rfl ?_
  refine gf_5_4 dX5_open_44 kw_228 ?_
  refine ev_iload_n (x1) dX5_open_47 rfl ?_
  refine ev_iload_n (x2) dX5_open_48 rfl ?_
  refine ev_iadd dX5_open_49 ?_
  refine ev_iadd dX5_open_50 ?_
  refine pf_5_4 dX5_open_51 kw_228 ?_
  refine ev_sub hQ (fun S4 hS4 hQ => ?_)
  refine ev_E.goal (pc' := 54) (L' := [some (ev_o 5 a), some (ev_i x0), some (ev_i x1), some (ev_i x2)]) (K' := []) (S' := S4) ?_ rfl rfl rfl hS4
  refine ev_aload_n (ev_o 5 a) dX5_open_54 rfl rfl ?_
  refine ev_dup dX5_open_55 rfl ?_
  refine gf_5_3 dX5_open_56 kw_227 ?_
  refine ev_ke (j_rk hS4 (Or.inr (by decide))) ?_
  refine ev_iconst (1) dX5_open_59 rfl ?_
  refine ev_iadd dX5_open_60 ?_
  refine pf_5_3 dX5_open_61 kw_227 ?_
  refine ev_sub hQ (fun S5 hS5 hQ => ?_)
  refine ev_E.goal (pc' := 64) (L' := [some (ev_o 5 a), some (ev_i x0), some (ev_i x1), some (ev_i x2)]) (K' := []) (S' := S5) ?_ rfl rfl rfl hS5
  exact ev_return dX5_open_64 rfl hQ
set_option maxHeartbeats 4000000 in
set_option maxRecDepth 100000 in
theorem sg_X9_readPass_0 {g : ev_G} {S : ev_S} {Q : ev_O → ev_S → Prop} (a : Nat) (hQ : ev_Cv g m_X8_number 4 0 [ev_o 8 (a + 1), ev_i 1, ev_i 9] S (fun o S1 => ∃ v1_ : Int32, o = .inl (some (ev_i v1_)) ∧ (
    ev_Cv g m_X8_number 4 0 [ev_o 8 (a + 1), ev_i 0, ev_i 9] S1 (fun o S2 => ∃ v2_ : Int32, o = .inl (some (ev_i v2_)) ∧ (
      ev_Cv g m_X8_number 4 0 [ev_o 8 (a + 1), ev_i 0, ev_i 9] S2 (fun o S3 => ∃ v3_ : Int32, o = .inl (some (ev_i v3_)) ∧ (
        ev_Cv g m_X8_expectSign 4 0 [ev_o 8 (a + 1), ev_i 59] S3 (fun o S4 => o = .inl none ∧ (
          ((S4.1 (a + 1) 7) = 0 → (
            ev_Cv g m_X5_open 2 0 [ev_o 5 (a + 72), ev_i v1_, ev_i v2_, ev_i v3_] S4 (fun o S5 => o = .inl none ∧ (
              Q (.inl none) S5)))) ∧
          (¬ ((S4.1 (a + 1) 7) = 0) → (
            Q (.inl none) S4))))))))))) : ev_Cv g m_X9_readPass 5 0 [ev_o 9 a] S Q := by
  refine ev_enter (by decide) rfl rfl (Nat.le_of_ble_eq_true rfl) ?_
  show ev_E g m_X9_readPass 5 0 0 [some (ev_o 9 a), none, none, none] [] S Q
  refine ev_aload_n (ev_o 9 a) dX9_readPass_0 rfl rfl ?_
  refine gf_9_0 dX9_readPass_1 kw_598 ?_
  refine ev_iconst (1) dX9_readPass_4 rfl ?_
  refine ev_bipush (9) dX9_readPass_5 (by decide) ?_
  refine ev_cV mv_X8_number 4 0 8 [ev_i 1, ev_i 9] [] dX9_readPass_7 kw_441 rfl (by decide) rfl (by decide) (by decide) (Nat.le_of_ble_eq_true rfl) hQ ?_ rfl
  rintro o S1 ⟨v1_, rfl, hQ⟩
  show ev_E g m_X9_readPass 5 0 10 [some (ev_o 9 a), none, none, none] [ev_i v1_] S1 Q
  refine ev_istore_n dX9_readPass_10 (Nat.le_of_ble_eq_true rfl) (ev_hw rfl) ?_
  show ev_E g m_X9_readPass 5 0 11 [some (ev_o 9 a), some (ev_i v1_), none, none] [] S1 Q
  refine ev_aload_n (ev_o 9 a) dX9_readPass_11 rfl rfl ?_
  refine gf_9_0 dX9_readPass_12 kw_598 ?_
  refine ev_iconst (0) dX9_readPass_15 rfl ?_
  refine ev_bipush (9) dX9_readPass_16 (by decide) ?_
  refine ev_cV mv_X8_number 4 0 8 [ev_i 0, ev_i 9] [] dX9_readPass_18 kw_441 rfl (by decide) rfl (by decide) (by decide) (Nat.le_of_ble_eq_true rfl) hQ ?_ rfl
  rintro o S2 ⟨v2_, rfl, hQ⟩
  show ev_E g m_X9_readPass 5 0 21 [some (ev_o 9 a), some (ev_i v1_), none, none] [ev_i v2_] S2 Q
  refine ev_istore_n dX9_readPass_21 (Nat.le_of_ble_eq_true rfl) (ev_hw rfl) ?_
  show ev_E g m_X9_readPass 5 0 22 [some (ev_o 9 a), some (ev_i v1_), some (ev_i v2_), none] [] S2 Q
  refine ev_aload_n (ev_o 9 a) dX9_readPass_22 rfl rfl ?_
  refine gf_9_0 dX9_readPass_23 kw_598 ?_
  refine ev_iconst (0) dX9_readPass_26 rfl ?_
  refine ev_bipush (9) dX9_readPass_27 (by decide) ?_
  refine ev_cV mv_X8_number 4 0 8 [ev_i 0, ev_i 9] [] dX9_readPass_29 kw_441 rfl (by decide) rfl (by decide) (by decide) (Nat.le_of_ble_eq_true rfl) hQ ?_ rfl
  rintro o S3 ⟨v3_, rfl, hQ⟩
  show ev_E g m_X9_readPass 5 0 32 [some (ev_o 9 a), some (ev_i v1_), some (ev_i v2_), none] [ev_i v3_] S3 Q
  refine ev_istore_n dX9_readPass_32 (Nat.le_of_ble_eq_true rfl) (ev_hw rfl) ?_
  show ev_E g m_X9_readPass 5 0 33 [some (ev_o 9 a), some (ev_i v1_), some (ev_i v2_), some (ev_i v3_)] [] S3 Q
  refine ev_aload_n (ev_o 9 a) dX9_readPass_33 rfl rfl ?_
  refine gf_9_0 dX9_readPass_34 kw_598 ?_
  refine ev_bipush (59) dX9_readPass_37 (by decide) ?_
  refine ev_cV mv_X8_expectSign 4 0 8 [ev_i 59] [] dX9_readPass_39 kw_445 rfl (by decide) rfl (by decide) (by decide) (Nat.le_of_ble_eq_true rfl) hQ ?_ rfl
  rintro o S4 ⟨rfl, hQ⟩
  show ev_E g m_X9_readPass 5 0 42 [some (ev_o 9 a), some (ev_i v1_), some (ev_i v2_), some (ev_i v3_)] [] S4 Q
  refine ev_aload_n (ev_o 9 a) dX9_readPass_42 rfl rfl ?_
  refine gf_9_0 dX9_readPass_43 kw_598 ?_
  refine ev_fV mv_X8_hasError 1 8 [] [] dX9_readPass_46 kw_513 rfl (by decide) rfl (by decide) (Nat.le_of_ble_eq_true rfl) (sp_X8_hasError (a + 1)) ?_ rfl
  by_cases c1 : (S4.1 (a + 1) 7) = 0
  · rw [if_pos c1]
    replace hQ := hQ.1 c1
    refine ev_if_ne 65 dX9_readPass_49 (by decide) (fun h9 => absurd (by decide : ((0 : Int32) = 0)) h9) (fun _ => ?_)
    refine ev_aload_n (ev_o 9 a) dX9_readPass_52 rfl rfl ?_
    refine gf_9_4 dX9_readPass_53 kw_602 ?_
    refine ev_fV mv_X2_passes 2 2 [] [] dX9_readPass_56 kw_527 rfl (by decide) rfl (by decide) (Nat.le_of_ble_eq_true rfl) (sp_X2_passes (a + 52)) ?_ rfl
    refine ev_iload_n (v1_) dX9_readPass_59 rfl ?_
    refine ev_iload_n (v2_) dX9_readPass_60 rfl ?_
    refine ev_iload_n (v3_) dX9_readPass_61 rfl ?_
    refine ev_cV mv_X5_open 2 0 5 [ev_i v1_, ev_i v2_, ev_i v3_] [] dX9_readPass_62 kw_535 rfl (by decide) rfl (by decide) (by decide) (Nat.le_of_ble_eq_true rfl) hQ ?_ rfl
    rintro o S5 ⟨rfl, hQ⟩
    show ev_E g m_X9_readPass 5 0 65 [some (ev_o 9 a), some (ev_i v1_), some (ev_i v2_), some (ev_i v3_)] [] S5 Q
    exact ev_return dX9_readPass_65 rfl hQ
  · rw [if_neg c1]
    replace hQ := hQ.2 c1
    refine ev_if_ne 65 dX9_readPass_49 (by decide) (fun _ => ?_) (fun h9 => absurd h9 (by decide : ¬ ((1 : Int32) = 0)))
    exact ev_return dX9_readPass_65 rfl hQ
set_option maxHeartbeats 4000000 in
set_option maxRecDepth 100000 in
theorem sg_X5_count_0 {g : ev_G} {S : ev_S} {Q : ev_O → ev_S → Prop} (a : Nat) (hQ : Q (.inl (some (ev_i (S.1 a 3)))) S) : ev_Cv g m_X5_count 1 0 [ev_o 5 a] S Q := by
  refine ev_enter (by decide) rfl rfl (Nat.le_of_ble_eq_true rfl) ?_
  show ev_E g m_X5_count 1 0 0 [some (ev_o 5 a)] [] S Q
  refine ev_aload_n (ev_o 5 a) dX5_count_0 rfl rfl ?_
  refine gf_5_3 dX5_count_1 kw_227 ?_
  exact ev_ireturn .int dX5_count_4 rfl rfl hQ
set_option maxHeartbeats 4000000 in
set_option maxRecDepth 100000 in
theorem sp_X5_count {g : ev_G} {S : ev_S} (a : Nat)  : ev_Fn g m_X5_count 1 [ev_o 5 a] S (some (ev_i (S.1 a 3))) S := by
  intro Q hQ
  refine sg_X5_count_0 a ?_
  exact hQ
set_option maxHeartbeats 4000000 in
set_option maxRecDepth 100000 in
theorem sg_X5_snowIn_0 {g : ev_G} {S : ev_S} {Q : ev_O → ev_S → Prop} (a : Nat) (x0 : Int32) (x1 : Int32) (hQ : Q (.inl (some (ev_i (j_at (S.1 (a + 2)) 48 ((x0 * 12) + x1))))) S) : ev_Cv g m_X5_snowIn 2 0 [ev_o 5 a, ev_i x0, ev_i x1] S Q := by
  refine ev_enter (by decide) rfl rfl (Nat.le_of_ble_eq_true rfl) ?_
  show ev_E g m_X5_snowIn 2 0 0 [some (ev_o 5 a), some (ev_i x0), some (ev_i x1)] [] S Q
  refine ev_aload_n (ev_o 5 a) dX5_snowIn_0 rfl rfl ?_
  refine gf_5_1 dX5_snowIn_1 kw_225 ?_
  refine ev_iload_n (x0) dX5_snowIn_4 rfl ?_
  refine ev_bipush (12) dX5_snowIn_5 (by decide) ?_
  refine ev_imul dX5_snowIn_7 ?_
  refine ev_iload_n (x1) dX5_snowIn_8 rfl ?_
  refine ev_iadd dX5_snowIn_9 ?_
  refine ev_fN ms_X9_at 1 [ev_y 48 (a + 2), ev_i ((x0 * 12) + x1)] [] dX5_snowIn_10 (List.mem_of_getElem? (i := 14) rfl) rfl (by decide) (Nat.le_of_ble_eq_true rfl) (sp_X9_at 48 (a + 2) ((x0 * 12) + x1)) ?_ rfl
  exact ev_ireturn .int dX5_snowIn_13 rfl rfl hQ
set_option maxHeartbeats 4000000 in
set_option maxRecDepth 100000 in
theorem sp_X5_snowIn {g : ev_G} {S : ev_S} (a : Nat) (x0 : Int32) (x1 : Int32)  : ev_Fn g m_X5_snowIn 2 [ev_o 5 a, ev_i x0, ev_i x1] S (some (ev_i (j_at (S.1 (a + 2)) 48 ((x0 * 12) + x1)))) S := by
  intro Q hQ
  refine sg_X5_snowIn_0 a x0 x1 ?_
  exact hQ
set_option maxHeartbeats 4000000 in
set_option maxRecDepth 100000 in
theorem sg_X5_changeSnow_0 {g : ev_G} {S : ev_S} {Q : ev_O → ev_S → Prop} (a : Nat) (x0 : Int32) (x1 : Int32) (x2 : Int32) (hQ : ∀ S1 : ev_S, S1 = (j_put S (a + 2) 48 ((x0 * 12) + x1) x2) → (
    Q (.inl (some (ev_i (j_at (S.1 (a + 2)) 48 ((x0 * 12) + x1))))) S1)) : ev_Cv g m_X5_changeSnow 3 0 [ev_o 5 a, ev_i x0, ev_i x1, ev_i x2] S Q := by
  refine ev_enter (by decide) rfl rfl (Nat.le_of_ble_eq_true rfl) ?_
  show ev_E g m_X5_changeSnow 3 0 0 [some (ev_o 5 a), some (ev_i x0), some (ev_i x1), some (ev_i x2), none] [] S Q
  refine ev_aload_n (ev_o 5 a) dX5_changeSnow_0 rfl rfl ?_
  refine ev_iload_n (x0) dX5_changeSnow_1 rfl ?_
  refine ev_iload_n (x1) dX5_changeSnow_2 rfl ?_
  refine ev_fV mv_X5_snowIn 2 5 [ev_i x0, ev_i x1] [] dX5_changeSnow_3 kw_555 rfl (by decide) rfl (by decide) (Nat.le_of_ble_eq_true rfl) (sp_X5_snowIn a x0 x1) ?_ rfl
  refine ev_istore dX5_changeSnow_6 (Nat.le_of_ble_eq_true rfl) (ev_hw rfl) ?_
  show ev_E g m_X5_changeSnow 3 0 8 [some (ev_o 5 a), some (ev_i x0), some (ev_i x1), some (ev_i x2), some (ev_i (j_at (S.1 (a + 2)) 48 ((x0 * 12) + x1)))] [] S Q
  refine ev_aload_n (ev_o 5 a) dX5_changeSnow_8 rfl rfl ?_
  refine gf_5_1 dX5_changeSnow_9 kw_225 ?_
  refine ev_iload_n (x0) dX5_changeSnow_12 rfl ?_
  refine ev_bipush (12) dX5_changeSnow_13 (by decide) ?_
  refine ev_imul dX5_changeSnow_15 ?_
  refine ev_iload_n (x1) dX5_changeSnow_16 rfl ?_
  refine ev_iadd dX5_changeSnow_17 ?_
  refine ev_iload_n (x2) dX5_changeSnow_18 rfl ?_
  refine ev_fNn ms_X9_put 1 [ev_y 48 (a + 2), ev_i ((x0 * 12) + x1), ev_i x2] [] dX5_changeSnow_19 (List.mem_of_getElem? (i := 13) rfl) rfl (by decide) (Nat.le_of_ble_eq_true rfl) (sp_X9_put 48 (a + 2) ((x0 * 12) + x1) x2) ?_ rfl
  refine ev_sub hQ (fun S1 hS1 hQ => ?_)
  refine ev_E.goal (pc' := 22) (L' := [some (ev_o 5 a), some (ev_i x0), some (ev_i x1), some (ev_i x2), some (ev_i (j_at (S.1 (a + 2)) 48 ((x0 * 12) + x1)))]) (K' := []) (S' := S1) ?_ rfl rfl rfl hS1
  refine ev_iload ((j_at (S.1 (a + 2)) 48 ((x0 * 12) + x1))) dX5_changeSnow_22 rfl ?_
  exact ev_ireturn .int dX5_changeSnow_24 rfl rfl hQ
set_option maxHeartbeats 4000000 in
set_option maxRecDepth 100000 in
theorem sp_X5_changeSnow {g : ev_G} {S : ev_S} (a : Nat) (x0 : Int32) (x1 : Int32) (x2 : Int32)  : ev_Fn g m_X5_changeSnow 3 [ev_o 5 a, ev_i x0, ev_i x1, ev_i x2] S (some (ev_i (j_at (S.1 (a + 2)) 48 ((x0 * 12) + x1)))) (j_put S (a + 2) 48 ((x0 * 12) + x1) x2) := by
  intro Q hQ
  refine sg_X5_changeSnow_0 a x0 x1 x2 ?_
  intro S1 hS1
  subst hS1
  exact hQ
set_option maxHeartbeats 4000000 in
set_option maxRecDepth 100000 in
theorem sg_X9_readSnow_0 {g : ev_G} {S : ev_S} {Q : ev_O → ev_S → Prop} (a : Nat) (hQ : ev_Cv g m_X8_number 4 0 [ev_o 8 (a + 1), ev_i 0, ev_i ((S.1 (a + 72) 3) - 1)] S (fun o S1 => ∃ v1_ : Int32, o = .inl (some (ev_i v1_)) ∧ (
    ev_Cv g m_X8_number 4 0 [ev_o 8 (a + 1), ev_i 0, ev_i 11] S1 (fun o S2 => ∃ v2_ : Int32, o = .inl (some (ev_i v2_)) ∧ (
      ev_Cv g m_X8_number 4 0 [ev_o 8 (a + 1), ev_i 0, ev_i 9] S2 (fun o S3 => ∃ v3_ : Int32, o = .inl (some (ev_i v3_)) ∧ (
        ev_Cv g m_X8_expectSign 4 0 [ev_o 8 (a + 1), ev_i 59] S3 (fun o S4 => o = .inl none ∧ (
          ((S4.1 (a + 1) 7) = 0 → (
            ∀ S5 : ev_S, S5 = (j_put S4 (a + 74) 48 ((v1_ * 12) + v2_) v3_) → (
              Q (.inl none) S5))) ∧
          (¬ ((S4.1 (a + 1) 7) = 0) → (
            Q (.inl none) S4))))))))))) : ev_Cv g m_X9_readSnow 5 0 [ev_o 9 a] S Q := by
  refine ev_enter (by decide) rfl rfl (Nat.le_of_ble_eq_true rfl) ?_
  show ev_E g m_X9_readSnow 5 0 0 [some (ev_o 9 a), none, none, none] [] S Q
  refine ev_aload_n (ev_o 9 a) dX9_readSnow_0 rfl rfl ?_
  refine gf_9_0 dX9_readSnow_1 kw_598 ?_
  refine ev_iconst (0) dX9_readSnow_4 rfl ?_
  refine ev_aload_n (ev_o 9 a) dX9_readSnow_5 rfl rfl ?_
  refine gf_9_4 dX9_readSnow_6 kw_602 ?_
  refine ev_fV mv_X2_passes 2 2 [] [ev_i 0, ev_o 8 (a + 1)] dX9_readSnow_9 kw_527 rfl (by decide) rfl (by decide) (Nat.le_of_ble_eq_true rfl) (sp_X2_passes (a + 52)) ?_ rfl
  refine ev_fV mv_X5_count 1 5 [] [ev_i 0, ev_o 8 (a + 1)] dX9_readSnow_12 kw_541 rfl (by decide) rfl (by decide) (Nat.le_of_ble_eq_true rfl) (sp_X5_count (a + 72)) ?_ rfl
  refine ev_iconst (1) dX9_readSnow_15 rfl ?_
  refine ev_isub dX9_readSnow_16 ?_
  refine ev_cV mv_X8_number 4 0 8 [ev_i 0, ev_i ((S.1 (a + 72) 3) - 1)] [] dX9_readSnow_17 kw_441 rfl (by decide) rfl (by decide) (by decide) (Nat.le_of_ble_eq_true rfl) hQ ?_ rfl
  rintro o S1 ⟨v1_, rfl, hQ⟩
  show ev_E g m_X9_readSnow 5 0 20 [some (ev_o 9 a), none, none, none] [ev_i v1_] S1 Q
  refine ev_istore_n dX9_readSnow_20 (Nat.le_of_ble_eq_true rfl) (ev_hw rfl) ?_
  show ev_E g m_X9_readSnow 5 0 21 [some (ev_o 9 a), some (ev_i v1_), none, none] [] S1 Q
  refine ev_aload_n (ev_o 9 a) dX9_readSnow_21 rfl rfl ?_
  refine gf_9_0 dX9_readSnow_22 kw_598 ?_
  refine ev_iconst (0) dX9_readSnow_25 rfl ?_
  refine ev_bipush (11) dX9_readSnow_26 (by decide) ?_
  refine ev_cV mv_X8_number 4 0 8 [ev_i 0, ev_i 11] [] dX9_readSnow_28 kw_441 rfl (by decide) rfl (by decide) (by decide) (Nat.le_of_ble_eq_true rfl) hQ ?_ rfl
  rintro o S2 ⟨v2_, rfl, hQ⟩
  show ev_E g m_X9_readSnow 5 0 31 [some (ev_o 9 a), some (ev_i v1_), none, none] [ev_i v2_] S2 Q
  refine ev_istore_n dX9_readSnow_31 (Nat.le_of_ble_eq_true rfl) (ev_hw rfl) ?_
  show ev_E g m_X9_readSnow 5 0 32 [some (ev_o 9 a), some (ev_i v1_), some (ev_i v2_), none] [] S2 Q
  refine ev_aload_n (ev_o 9 a) dX9_readSnow_32 rfl rfl ?_
  refine gf_9_0 dX9_readSnow_33 kw_598 ?_
  refine ev_iconst (0) dX9_readSnow_36 rfl ?_
  refine ev_bipush (9) dX9_readSnow_37 (by decide) ?_
  refine ev_cV mv_X8_number 4 0 8 [ev_i 0, ev_i 9] [] dX9_readSnow_39 kw_441 rfl (by decide) rfl (by decide) (by decide) (Nat.le_of_ble_eq_true rfl) hQ ?_ rfl
  rintro o S3 ⟨v3_, rfl, hQ⟩
  show ev_E g m_X9_readSnow 5 0 42 [some (ev_o 9 a), some (ev_i v1_), some (ev_i v2_), none] [ev_i v3_] S3 Q
  refine ev_istore_n dX9_readSnow_42 (Nat.le_of_ble_eq_true rfl) (ev_hw rfl) ?_
  show ev_E g m_X9_readSnow 5 0 43 [some (ev_o 9 a), some (ev_i v1_), some (ev_i v2_), some (ev_i v3_)] [] S3 Q
  refine ev_aload_n (ev_o 9 a) dX9_readSnow_43 rfl rfl ?_
  refine gf_9_0 dX9_readSnow_44 kw_598 ?_
  refine ev_bipush (59) dX9_readSnow_47 (by decide) ?_
  refine ev_cV mv_X8_expectSign 4 0 8 [ev_i 59] [] dX9_readSnow_49 kw_445 rfl (by decide) rfl (by decide) (by decide) (Nat.le_of_ble_eq_true rfl) hQ ?_ rfl
  rintro o S4 ⟨rfl, hQ⟩
  show ev_E g m_X9_readSnow 5 0 52 [some (ev_o 9 a), some (ev_i v1_), some (ev_i v2_), some (ev_i v3_)] [] S4 Q
  refine ev_aload_n (ev_o 9 a) dX9_readSnow_52 rfl rfl ?_
  refine gf_9_0 dX9_readSnow_53 kw_598 ?_
  refine ev_fV mv_X8_hasError 1 8 [] [] dX9_readSnow_56 kw_513 rfl (by decide) rfl (by decide) (Nat.le_of_ble_eq_true rfl) (sp_X8_hasError (a + 1)) ?_ rfl
  by_cases c1 : (S4.1 (a + 1) 7) = 0
  · rw [if_pos c1]
    replace hQ := hQ.1 c1
    refine ev_if_ne 76 dX9_readSnow_59 (by decide) (fun h9 => absurd (by decide : ((0 : Int32) = 0)) h9) (fun _ => ?_)
    refine ev_aload_n (ev_o 9 a) dX9_readSnow_62 rfl rfl ?_
    refine gf_9_4 dX9_readSnow_63 kw_602 ?_
    refine ev_fV mv_X2_passes 2 2 [] [] dX9_readSnow_66 kw_527 rfl (by decide) rfl (by decide) (Nat.le_of_ble_eq_true rfl) (sp_X2_passes (a + 52)) ?_ rfl
    refine ev_iload_n (v1_) dX9_readSnow_69 rfl ?_
    refine ev_iload_n (v2_) dX9_readSnow_70 rfl ?_
    refine ev_iload_n (v3_) dX9_readSnow_71 rfl ?_
    refine ev_fV mv_X5_changeSnow 3 5 [ev_i v1_, ev_i v2_, ev_i v3_] [] dX9_readSnow_72 kw_551 rfl (by decide) rfl (by decide) (Nat.le_of_ble_eq_true rfl) (sp_X5_changeSnow (a + 72) v1_ v2_ v3_) ?_ rfl
    refine ev_sub hQ (fun S5 hS5 hQ => ?_)
    refine ev_E.goal (pc' := 75) (L' := [some (ev_o 9 a), some (ev_i v1_), some (ev_i v2_), some (ev_i v3_)]) (K' := [ev_i (j_at (S4.1 (a + 74)) 48 ((v1_ * 12) + v2_))]) (S' := S5) ?_ rfl rfl rfl hS5
    refine ev_pop dX9_readSnow_75 rfl ?_
    exact ev_return dX9_readSnow_76 rfl hQ
  · rw [if_neg c1]
    replace hQ := hQ.2 c1
    refine ev_if_ne 76 dX9_readSnow_59 (by decide) (fun _ => ?_) (fun h9 => absurd h9 (by decide : ¬ ((1 : Int32) = 0)))
    exact ev_return dX9_readSnow_76 rfl hQ
set_option maxHeartbeats 4000000 in
set_option maxRecDepth 100000 in
theorem sg_X8_expectEnd_0 {g : ev_G} {S : ev_S} {Q : ev_O → ev_S → Prop} (a : Nat) (hQ : ((S.1 a 2) = 0 → (
    Q (.inl none) S)) ∧
  (¬ ((S.1 a 2) = 0) → (
    ev_Cv g m_X8_fail 1 0 [ev_o 8 a, ev_i 1] S (fun o S1 => o = .inl none ∧ (
      Q (.inl none) S1))))) : ev_Cv g m_X8_expectEnd 2 0 [ev_o 8 a] S Q := by
  refine ev_enter (by decide) rfl rfl (Nat.le_of_ble_eq_true rfl) ?_
  show ev_E g m_X8_expectEnd 2 0 0 [some (ev_o 8 a)] [] S Q
  refine ev_aload_n (ev_o 8 a) dX8_expectEnd_0 rfl rfl ?_
  refine gf_8_2 dX8_expectEnd_1 kw_65 ?_
  refine ev_if_eq 12 dX8_expectEnd_4 (by decide) (fun c1 => ?_) (fun c1 => ?_)
  · replace hQ := hQ.1 c1
    exact ev_return dX8_expectEnd_12 rfl hQ
  · replace hQ := hQ.2 c1
    refine ev_aload_n (ev_o 8 a) dX8_expectEnd_7 rfl rfl ?_
    refine ev_iconst (1) dX8_expectEnd_8 rfl ?_
    refine ev_cV mv_X8_fail 1 0 8 [ev_i 1] [] dX8_expectEnd_9 kw_437 rfl (by decide) rfl (by decide) (by decide) (Nat.le_of_ble_eq_true rfl) hQ ?_ rfl
    rintro o S1 ⟨rfl, hQ⟩
    show ev_E g m_X8_expectEnd 2 0 12 [some (ev_o 8 a)] [] S1 Q
    exact ev_return dX8_expectEnd_12 rfl hQ
set_option maxHeartbeats 4000000 in
set_option maxRecDepth 100000 in
theorem sg_X9_readSetup_0 {g : ev_G} {S : ev_S} {Q : ev_O → ev_S → Prop} (a : Nat) (hQ : ev_Cv g m_X8_begin 4 0 [ev_o 8 (a + 1)] S (fun o S1 => o = .inl none ∧ (
    ev_Cv g m_X8_expectWord 6 0 [ev_o 8 (a + 1), ev_x 1 1] S1 (fun o S2 => o = .inl none ∧ (
      ev_Cv g m_X8_number 4 0 [ev_o 8 (a + 1), ev_i 4, ev_i 8] S2 (fun o S3 => ∃ v3_ : Int32, o = .inl (some (ev_i v3_)) ∧ (
        ev_Cv g m_X8_number 4 0 [ev_o 8 (a + 1), ev_i 1, ev_i 60] S3 (fun o S4 => ∃ v4_ : Int32, o = .inl (some (ev_i v4_)) ∧ (
          ev_Cv g m_X8_expectSign 4 0 [ev_o 8 (a + 1), ev_i 59] S4 (fun o S5 => o = .inl none ∧ (
            ev_Cv g m_X2_clear 4 0 [ev_o 2 (a + 52), ev_i v3_, ev_i v4_] S5 (fun o S6 => o = .inl none ∧ (
              ev_E g m_X9_readSetup 7 0 59 [some (ev_o 9 a), some (ev_i v3_), none, some (ev_i 0)] [] S6 Q))))))))))))) : ev_Cv g m_X9_readSetup 7 0 [ev_o 9 a] S Q := by
  refine ev_enter (by decide) rfl rfl (Nat.le_of_ble_eq_true rfl) ?_
  show ev_E g m_X9_readSetup 7 0 0 [some (ev_o 9 a), none, none, none] [] S Q
  refine ev_aload_n (ev_o 9 a) dX9_readSetup_0 rfl rfl ?_
  refine gf_9_0 dX9_readSetup_1 kw_598 ?_
  refine ev_cV mv_X8_begin 4 0 8 [] [] dX9_readSetup_4 kw_395 rfl (by decide) rfl (by decide) (by decide) (Nat.le_of_ble_eq_true rfl) hQ ?_ rfl
  rintro o S1 ⟨rfl, hQ⟩
  show ev_E g m_X9_readSetup 7 0 7 [some (ev_o 9 a), none, none, none] [] S1 Q
  refine ev_aload_n (ev_o 9 a) dX9_readSetup_7 rfl rfl ?_
  refine gf_9_0 dX9_readSetup_8 kw_598 ?_
  refine ev_ldcw "game" 1 dX9_readSetup_11 (List.mem_of_getElem? (i := 1) rfl) (by decide) ?_
  refine ev_cV mv_X8_expectWord 6 0 8 [ev_x 1 1] [] dX9_readSetup_14 kw_427 rfl (by decide) rfl (by decide) (by decide) (Nat.le_of_ble_eq_true rfl) hQ ?_ rfl
  rintro o S2 ⟨rfl, hQ⟩
  show ev_E g m_X9_readSetup 7 0 17 [some (ev_o 9 a), none, none, none] [] S2 Q
  refine ev_aload_n (ev_o 9 a) dX9_readSetup_17 rfl rfl ?_
  refine gf_9_0 dX9_readSetup_18 kw_598 ?_
  refine ev_iconst (4) dX9_readSetup_21 rfl ?_
  refine ev_bipush (8) dX9_readSetup_22 (by decide) ?_
  refine ev_cV mv_X8_number 4 0 8 [ev_i 4, ev_i 8] [] dX9_readSetup_24 kw_441 rfl (by decide) rfl (by decide) (by decide) (Nat.le_of_ble_eq_true rfl) hQ ?_ rfl
  rintro o S3 ⟨v3_, rfl, hQ⟩
  show ev_E g m_X9_readSetup 7 0 27 [some (ev_o 9 a), none, none, none] [ev_i v3_] S3 Q
  refine ev_istore_n dX9_readSetup_27 (Nat.le_of_ble_eq_true rfl) (ev_hw rfl) ?_
  show ev_E g m_X9_readSetup 7 0 28 [some (ev_o 9 a), some (ev_i v3_), none, none] [] S3 Q
  refine ev_aload_n (ev_o 9 a) dX9_readSetup_28 rfl rfl ?_
  refine gf_9_0 dX9_readSetup_29 kw_598 ?_
  refine ev_iconst (1) dX9_readSetup_32 rfl ?_
  refine ev_bipush (60) dX9_readSetup_33 (by decide) ?_
  refine ev_cV mv_X8_number 4 0 8 [ev_i 1, ev_i 60] [] dX9_readSetup_35 kw_441 rfl (by decide) rfl (by decide) (by decide) (Nat.le_of_ble_eq_true rfl) hQ ?_ rfl
  rintro o S4 ⟨v4_, rfl, hQ⟩
  show ev_E g m_X9_readSetup 7 0 38 [some (ev_o 9 a), some (ev_i v3_), none, none] [ev_i v4_] S4 Q
  refine ev_istore_n dX9_readSetup_38 (Nat.le_of_ble_eq_true rfl) (ev_hw rfl) ?_
  show ev_E g m_X9_readSetup 7 0 39 [some (ev_o 9 a), some (ev_i v3_), some (ev_i v4_), none] [] S4 Q
  refine ev_aload_n (ev_o 9 a) dX9_readSetup_39 rfl rfl ?_
  refine gf_9_0 dX9_readSetup_40 kw_598 ?_
  refine ev_bipush (59) dX9_readSetup_43 (by decide) ?_
  refine ev_cV mv_X8_expectSign 4 0 8 [ev_i 59] [] dX9_readSetup_45 kw_445 rfl (by decide) rfl (by decide) (by decide) (Nat.le_of_ble_eq_true rfl) hQ ?_ rfl
  rintro o S5 ⟨rfl, hQ⟩
  show ev_E g m_X9_readSetup 7 0 48 [some (ev_o 9 a), some (ev_i v3_), some (ev_i v4_), none] [] S5 Q
  refine ev_aload_n (ev_o 9 a) dX9_readSetup_48 rfl rfl ?_
  refine gf_9_4 dX9_readSetup_49 kw_602 ?_
  refine ev_iload_n (v3_) dX9_readSetup_52 rfl ?_
  refine ev_iload_n (v4_) dX9_readSetup_53 rfl ?_
  refine ev_cV mv_X2_clear 4 0 2 [ev_i v3_, ev_i v4_] [] dX9_readSetup_54 kw_453 rfl (by decide) rfl (by decide) (by decide) (Nat.le_of_ble_eq_true rfl) hQ ?_ rfl
  rintro o S6 ⟨rfl, hQ⟩
  show ev_E g m_X9_readSetup 7 0 57 [some (ev_o 9 a), some (ev_i v3_), some (ev_i v4_), none] [] S6 Q
  refine ev_iconst (0) dX9_readSetup_57 rfl ?_
  refine ev_istore_n dX9_readSetup_58 (Nat.le_of_ble_eq_true rfl) (ev_hw rfl) ?_
  show ev_E g m_X9_readSetup 7 0 59 [some (ev_o 9 a), some (ev_i v3_), some (ev_i v4_), some (ev_i 0)] [] S6 Q
  refine ev_fgm [true, true, false, true] ?_
  exact hQ
set_option maxHeartbeats 4000000 in
set_option maxRecDepth 100000 in
theorem sg_X9_readSetup_59 {g : ev_G} {S : ev_S} {Q : ev_O → ev_S → Prop} (a : Nat) (u1 : Int32) (u3 : Int32) (hQ : (800 ≤ u3 → (
    ev_Cv g m_X8_expectWord 6 0 [ev_o 8 (a + 1), ev_x 1 3] S (fun o S1 => o = .inl none ∧ (
      ev_Cv g m_X9_readPass 5 0 [ev_o 9 a] S1 (fun o S2 => o = .inl none ∧ (
        ev_E g m_X9_readSetup 7 0 106 [some (ev_o 9 a), none, none, some (ev_i 0)] [] S2 Q)))))) ∧
  (¬ (800 ≤ u3) → (
    ev_Cv g m_X8_skipWord 6 0 [ev_o 8 (a + 1), ev_x 1 2] S (fun o S3 => ∃ v3_ : Bool, o = .inl (some (ev_i (if v3_ = true then 1 else 0))) ∧ (
      (v3_ = true → (
        ev_Cv g m_X9_readBishop 5 0 [ev_o 9 a, ev_i u1] S3 (fun o S4 => o = .inl none ∧ (
          ev_E g m_X9_readSetup 7 0 59 [some (ev_o 9 a), some (ev_i u1), none, some (ev_i (u3 + 1))] [] S4 Q)))) ∧
      (¬ (v3_ = true) → (
        ev_Cv g m_X8_expectWord 6 0 [ev_o 8 (a + 1), ev_x 1 3] S3 (fun o S5 => o = .inl none ∧ (
          ev_Cv g m_X9_readPass 5 0 [ev_o 9 a] S5 (fun o S6 => o = .inl none ∧ (
            ev_E g m_X9_readSetup 7 0 106 [some (ev_o 9 a), none, none, some (ev_i 0)] [] S6 Q))))))))))) : ev_E g m_X9_readSetup 7 0 59 [some (ev_o 9 a), some (ev_i u1), none, some (ev_i u3)] [] S Q := by
  refine ev_iload_n (u3) dX9_readSetup_59 rfl ?_
  refine ev_sipush (800) dX9_readSetup_60 (by decide) ?_
  refine ev_icmp_ge 90 dX9_readSetup_63 (by decide) (fun c1 => ?_) (fun c1 => ?_)
  · replace hQ := hQ.1 c1
    refine ev_aload_n (ev_o 9 a) dX9_readSetup_90 rfl rfl ?_
    refine gf_9_0 dX9_readSetup_91 kw_598 ?_
    refine ev_ldcw "pass" 3 dX9_readSetup_94 (List.mem_of_getElem? (i := 3) rfl) (by decide) ?_
    refine ev_cV mv_X8_expectWord 6 0 8 [ev_x 1 3] [] dX9_readSetup_97 kw_427 rfl (by decide) rfl (by decide) (by decide) (Nat.le_of_ble_eq_true rfl) hQ ?_ rfl
    rintro o S1 ⟨rfl, hQ⟩
    show ev_E g m_X9_readSetup 7 0 100 [some (ev_o 9 a), some (ev_i u1), none, some (ev_i u3)] [] S1 Q
    refine ev_aload_n (ev_o 9 a) dX9_readSetup_100 rfl rfl ?_
    refine ev_cV mv_X9_readPass 5 0 9 [] [] dX9_readSetup_101 kw_523 rfl (by decide) rfl (by decide) (by decide) (Nat.le_of_ble_eq_true rfl) hQ ?_ rfl
    rintro o S2 ⟨rfl, hQ⟩
    show ev_E g m_X9_readSetup 7 0 104 [some (ev_o 9 a), some (ev_i u1), none, some (ev_i u3)] [] S2 Q
    refine ev_iconst (0) dX9_readSetup_104 rfl ?_
    refine ev_istore_n dX9_readSetup_105 (Nat.le_of_ble_eq_true rfl) (ev_hw rfl) ?_
    show ev_E g m_X9_readSetup 7 0 106 [some (ev_o 9 a), some (ev_i u1), none, some (ev_i 0)] [] S2 Q
    refine ev_fgm [true, false, false, true] ?_
    exact hQ
  · replace hQ := hQ.2 c1
    refine ev_aload_n (ev_o 9 a) dX9_readSetup_66 rfl rfl ?_
    refine gf_9_0 dX9_readSetup_67 kw_598 ?_
    refine ev_ldcw "bishop" 2 dX9_readSetup_70 (List.mem_of_getElem? (i := 2) rfl) (by decide) ?_
    refine ev_cV mv_X8_skipWord 6 0 8 [ev_x 1 2] [] dX9_readSetup_73 kw_480 rfl (by decide) rfl (by decide) (by decide) (Nat.le_of_ble_eq_true rfl) hQ ?_ rfl
    rintro o S3 ⟨v3_, rfl, hQ⟩
    show ev_E g m_X9_readSetup 7 0 76 [some (ev_o 9 a), some (ev_i u1), none, some (ev_i u3)] [ev_i (if v3_ = true then 1 else 0)] S3 Q
    by_cases c2 : v3_ = true
    · rw [if_pos c2]
      replace hQ := hQ.1 c2
      refine ev_if_eq 90 dX9_readSetup_76 (by decide) (fun h9 => absurd h9 (by decide : ¬ ((1 : Int32) = 0))) (fun _ => ?_)
      refine ev_aload_n (ev_o 9 a) dX9_readSetup_79 rfl rfl ?_
      refine ev_iload_n (u1) dX9_readSetup_80 rfl ?_
      refine ev_cV mv_X9_readBishop 5 0 9 [ev_i u1] [] dX9_readSetup_81 kw_484 rfl (by decide) rfl (by decide) (by decide) (Nat.le_of_ble_eq_true rfl) hQ ?_ rfl
      rintro o S4 ⟨rfl, hQ⟩
      show ev_E g m_X9_readSetup 7 0 84 [some (ev_o 9 a), some (ev_i u1), none, some (ev_i u3)] [] S4 Q
      refine ev_iinc u3 (1) dX9_readSetup_84 rfl (by decide) (ev_hw rfl) ?_
      show ev_E g m_X9_readSetup 7 0 87 [some (ev_o 9 a), some (ev_i u1), none, some (ev_i (u3 + 1))] [] S4 Q
      refine ev_goto 59 dX9_readSetup_87 (by decide) ?_
      exact hQ
    · rw [if_neg c2]
      replace hQ := hQ.2 c2
      refine ev_if_eq 90 dX9_readSetup_76 (by decide) (fun _ => ?_) (fun h9 => absurd (by decide : ((0 : Int32) = 0)) h9)
      refine ev_aload_n (ev_o 9 a) dX9_readSetup_90 rfl rfl ?_
      refine gf_9_0 dX9_readSetup_91 kw_598 ?_
      refine ev_ldcw "pass" 3 dX9_readSetup_94 (List.mem_of_getElem? (i := 3) rfl) (by decide) ?_
      refine ev_cV mv_X8_expectWord 6 0 8 [ev_x 1 3] [] dX9_readSetup_97 kw_427 rfl (by decide) rfl (by decide) (by decide) (Nat.le_of_ble_eq_true rfl) hQ ?_ rfl
      rintro o S5 ⟨rfl, hQ⟩
      show ev_E g m_X9_readSetup 7 0 100 [some (ev_o 9 a), some (ev_i u1), none, some (ev_i u3)] [] S5 Q
      refine ev_aload_n (ev_o 9 a) dX9_readSetup_100 rfl rfl ?_
      refine ev_cV mv_X9_readPass 5 0 9 [] [] dX9_readSetup_101 kw_523 rfl (by decide) rfl (by decide) (by decide) (Nat.le_of_ble_eq_true rfl) hQ ?_ rfl
      rintro o S6 ⟨rfl, hQ⟩
      show ev_E g m_X9_readSetup 7 0 104 [some (ev_o 9 a), some (ev_i u1), none, some (ev_i u3)] [] S6 Q
      refine ev_iconst (0) dX9_readSetup_104 rfl ?_
      refine ev_istore_n dX9_readSetup_105 (Nat.le_of_ble_eq_true rfl) (ev_hw rfl) ?_
      show ev_E g m_X9_readSetup 7 0 106 [some (ev_o 9 a), some (ev_i u1), none, some (ev_i 0)] [] S6 Q
      refine ev_fgm [true, false, false, true] ?_
      exact hQ
set_option maxHeartbeats 4000000 in
set_option maxRecDepth 100000 in
theorem sg_X9_readSetup_106 {g : ev_G} {S : ev_S} {Q : ev_O → ev_S → Prop} (a : Nat) (u3 : Int32) (hQ : (800 ≤ u3 → (
    ev_E g m_X9_readSetup 7 0 171 [some (ev_o 9 a), none, none, some (ev_i 0)] [] S Q)) ∧
  (¬ (800 ≤ u3) → (
    ev_Cv g m_X8_isWord 5 0 [ev_o 8 (a + 1), ev_x 1 3] S (fun o S1 => ∃ v1_ : Bool, o = .inl (some (ev_i (if v1_ = true then 1 else 0))) ∧ (
      (v1_ = true → (
        ((S1.1 (a + 72) 3) < 4 → (
          ev_Cv g m_X8_skipWord 6 0 [ev_o 8 (a + 1), ev_x 1 3] S1 (fun o S2 => ∃ v2_ : Bool, o = .inl (some (ev_i (if v2_ = true then 1 else 0))) ∧ (
            ev_Cv g m_X9_readPass 5 0 [ev_o 9 a] S2 (fun o S3 => o = .inl none ∧ (
              ev_E g m_X9_readSetup 7 0 106 [some (ev_o 9 a), none, none, some (ev_i (u3 + 1))] [] S3 Q)))))) ∧
        (¬ ((S1.1 (a + 72) 3) < 4) → (
          ev_Cv g m_X8_fail 1 0 [ev_o 8 (a + 1), ev_i 4] S1 (fun o S4 => o = .inl none ∧ (
            ev_Cv g m_X8_skipWord 6 0 [ev_o 8 (a + 1), ev_x 1 3] S4 (fun o S5 => ∃ v5_ : Bool, o = .inl (some (ev_i (if v5_ = true then 1 else 0))) ∧ (
              ev_Cv g m_X9_readPass 5 0 [ev_o 9 a] S5 (fun o S6 => o = .inl none ∧ (
                ev_E g m_X9_readSetup 7 0 106 [some (ev_o 9 a), none, none, some (ev_i (u3 + 1))] [] S6 Q)))))))))) ∧
      (¬ (v1_ = true) → (
        ev_E g m_X9_readSetup 7 0 171 [some (ev_o 9 a), none, none, some (ev_i 0)] [] S1 Q))))))) : ev_E g m_X9_readSetup 7 0 106 [some (ev_o 9 a), none, none, some (ev_i u3)] [] S Q := by
  refine ev_iload_n (u3) dX9_readSetup_106 rfl ?_
  refine ev_sipush (800) dX9_readSetup_107 (by decide) ?_
  refine ev_icmp_ge 169 dX9_readSetup_110 (by decide) (fun c1 => ?_) (fun c1 => ?_)
  · replace hQ := hQ.1 c1
    refine ev_iconst (0) dX9_readSetup_169 rfl ?_
    refine ev_istore_n dX9_readSetup_170 (Nat.le_of_ble_eq_true rfl) (ev_hw rfl) ?_
    show ev_E g m_X9_readSetup 7 0 171 [some (ev_o 9 a), none, none, some (ev_i 0)] [] S Q
    exact hQ
  · replace hQ := hQ.2 c1
    refine ev_aload_n (ev_o 9 a) dX9_readSetup_113 rfl rfl ?_
    refine gf_9_0 dX9_readSetup_114 kw_598 ?_
    refine ev_ldcw "pass" 3 dX9_readSetup_117 (List.mem_of_getElem? (i := 3) rfl) (by decide) ?_
    refine ev_cV mv_X8_isWord 5 0 8 [ev_x 1 3] [] dX9_readSetup_120 kw_540 rfl (by decide) rfl (by decide) (by decide) (Nat.le_of_ble_eq_true rfl) hQ ?_ rfl
    rintro o S1 ⟨v1_, rfl, hQ⟩
    show ev_E g m_X9_readSetup 7 0 123 [some (ev_o 9 a), none, none, some (ev_i u3)] [ev_i (if v1_ = true then 1 else 0)] S1 Q
    by_cases c2 : v1_ = true
    · rw [if_pos c2]
      replace hQ := hQ.1 c2
      refine ev_if_eq 169 dX9_readSetup_123 (by decide) (fun h9 => absurd h9 (by decide : ¬ ((1 : Int32) = 0))) (fun _ => ?_)
      refine ev_aload_n (ev_o 9 a) dX9_readSetup_126 rfl rfl ?_
      refine gf_9_4 dX9_readSetup_127 kw_602 ?_
      refine ev_fV mv_X2_passes 2 2 [] [] dX9_readSetup_130 kw_527 rfl (by decide) rfl (by decide) (Nat.le_of_ble_eq_true rfl) (sp_X2_passes (a + 52)) ?_ rfl
      refine ev_fV mv_X5_count 1 5 [] [] dX9_readSetup_133 kw_541 rfl (by decide) rfl (by decide) (Nat.le_of_ble_eq_true rfl) (sp_X5_count (a + 72)) ?_ rfl
      refine ev_iconst (4) dX9_readSetup_136 rfl ?_
      refine ev_icmp_lt 148 dX9_readSetup_137 (by decide) (fun c3 => ?_) (fun c3 => ?_)
      · replace hQ := hQ.1 c3
        refine ev_aload_n (ev_o 9 a) dX9_readSetup_148 rfl rfl ?_
        refine gf_9_0 dX9_readSetup_149 kw_598 ?_
        refine ev_ldcw "pass" 3 dX9_readSetup_152 (List.mem_of_getElem? (i := 3) rfl) (by decide) ?_
        refine ev_cV mv_X8_skipWord 6 0 8 [ev_x 1 3] [] dX9_readSetup_155 kw_480 rfl (by decide) rfl (by decide) (by decide) (Nat.le_of_ble_eq_true rfl) hQ ?_ rfl
        rintro o S2 ⟨v2_, rfl, hQ⟩
        show ev_E g m_X9_readSetup 7 0 158 [some (ev_o 9 a), none, none, some (ev_i u3)] [ev_i (if v2_ = true then 1 else 0)] S2 Q
        refine ev_pop dX9_readSetup_158 rfl ?_
        refine ev_aload_n (ev_o 9 a) dX9_readSetup_159 rfl rfl ?_
        refine ev_cV mv_X9_readPass 5 0 9 [] [] dX9_readSetup_160 kw_523 rfl (by decide) rfl (by decide) (by decide) (Nat.le_of_ble_eq_true rfl) hQ ?_ rfl
        rintro o S3 ⟨rfl, hQ⟩
        show ev_E g m_X9_readSetup 7 0 163 [some (ev_o 9 a), none, none, some (ev_i u3)] [] S3 Q
        refine ev_iinc u3 (1) dX9_readSetup_163 rfl (by decide) (ev_hw rfl) ?_
        show ev_E g m_X9_readSetup 7 0 166 [some (ev_o 9 a), none, none, some (ev_i (u3 + 1))] [] S3 Q
        refine ev_goto 106 dX9_readSetup_166 (by decide) ?_
        exact hQ
      · replace hQ := hQ.2 c3
        refine ev_aload_n (ev_o 9 a) dX9_readSetup_140 rfl rfl ?_
        refine gf_9_0 dX9_readSetup_141 kw_598 ?_
        refine ev_iconst (4) dX9_readSetup_144 rfl ?_
        refine ev_cV mv_X8_fail 1 0 8 [ev_i 4] [] dX9_readSetup_145 kw_545 rfl (by decide) rfl (by decide) (by decide) (Nat.le_of_ble_eq_true rfl) hQ ?_ rfl
        rintro o S4 ⟨rfl, hQ⟩
        show ev_E g m_X9_readSetup 7 0 148 [some (ev_o 9 a), none, none, some (ev_i u3)] [] S4 Q
        refine ev_aload_n (ev_o 9 a) dX9_readSetup_148 rfl rfl ?_
        refine gf_9_0 dX9_readSetup_149 kw_598 ?_
        refine ev_ldcw "pass" 3 dX9_readSetup_152 (List.mem_of_getElem? (i := 3) rfl) (by decide) ?_
        refine ev_cV mv_X8_skipWord 6 0 8 [ev_x 1 3] [] dX9_readSetup_155 kw_480 rfl (by decide) rfl (by decide) (by decide) (Nat.le_of_ble_eq_true rfl) hQ ?_ rfl
        rintro o S5 ⟨v5_, rfl, hQ⟩
        show ev_E g m_X9_readSetup 7 0 158 [some (ev_o 9 a), none, none, some (ev_i u3)] [ev_i (if v5_ = true then 1 else 0)] S5 Q
        refine ev_pop dX9_readSetup_158 rfl ?_
        refine ev_aload_n (ev_o 9 a) dX9_readSetup_159 rfl rfl ?_
        refine ev_cV mv_X9_readPass 5 0 9 [] [] dX9_readSetup_160 kw_523 rfl (by decide) rfl (by decide) (by decide) (Nat.le_of_ble_eq_true rfl) hQ ?_ rfl
        rintro o S6 ⟨rfl, hQ⟩
        show ev_E g m_X9_readSetup 7 0 163 [some (ev_o 9 a), none, none, some (ev_i u3)] [] S6 Q
        refine ev_iinc u3 (1) dX9_readSetup_163 rfl (by decide) (ev_hw rfl) ?_
        show ev_E g m_X9_readSetup 7 0 166 [some (ev_o 9 a), none, none, some (ev_i (u3 + 1))] [] S6 Q
        refine ev_goto 106 dX9_readSetup_166 (by decide) ?_
        exact hQ
    · rw [if_neg c2]
      replace hQ := hQ.2 c2
      refine ev_if_eq 169 dX9_readSetup_123 (by decide) (fun _ => ?_) (fun h9 => absurd (by decide : ((0 : Int32) = 0)) h9)
      refine ev_iconst (0) dX9_readSetup_169 rfl ?_
      refine ev_istore_n dX9_readSetup_170 (Nat.le_of_ble_eq_true rfl) (ev_hw rfl) ?_
      show ev_E g m_X9_readSetup 7 0 171 [some (ev_o 9 a), none, none, some (ev_i 0)] [] S1 Q
      exact hQ
set_option maxHeartbeats 4000000 in
set_option maxRecDepth 100000 in
theorem sg_X9_readSetup_171 {g : ev_G} {S : ev_S} {Q : ev_O → ev_S → Prop} (a : Nat) (u3 : Int32) (hQ : (800 ≤ u3 → (
    ev_Cv g m_X8_expectEnd 2 0 [ev_o 8 (a + 1)] S (fun o S1 => o = .inl none ∧ (
      Q (.inl none) S1)))) ∧
  (¬ (800 ≤ u3) → (
    ev_Cv g m_X8_skipWord 6 0 [ev_o 8 (a + 1), ev_x 1 4] S (fun o S2 => ∃ v2_ : Bool, o = .inl (some (ev_i (if v2_ = true then 1 else 0))) ∧ (
      (v2_ = true → (
        ev_Cv g m_X9_readSnow 5 0 [ev_o 9 a] S2 (fun o S3 => o = .inl none ∧ (
          ev_E g m_X9_readSetup 7 0 171 [some (ev_o 9 a), none, none, some (ev_i (u3 + 1))] [] S3 Q)))) ∧
      (¬ (v2_ = true) → (
        ev_Cv g m_X8_expectEnd 2 0 [ev_o 8 (a + 1)] S2 (fun o S4 => o = .inl none ∧ (
          Q (.inl none) S4))))))))) : ev_E g m_X9_readSetup 7 0 171 [some (ev_o 9 a), none, none, some (ev_i u3)] [] S Q := by
  refine ev_iload_n (u3) dX9_readSetup_171 rfl ?_
  refine ev_sipush (800) dX9_readSetup_172 (by decide) ?_
  refine ev_icmp_ge 201 dX9_readSetup_175 (by decide) (fun c1 => ?_) (fun c1 => ?_)
  · replace hQ := hQ.1 c1
    refine ev_aload_n (ev_o 9 a) dX9_readSetup_201 rfl rfl ?_
    refine gf_9_0 dX9_readSetup_202 kw_598 ?_
    refine ev_cV mv_X8_expectEnd 2 0 8 [] [] dX9_readSetup_205 kw_560 rfl (by decide) rfl (by decide) (by decide) (Nat.le_of_ble_eq_true rfl) hQ ?_ rfl
    rintro o S1 ⟨rfl, hQ⟩
    show ev_E g m_X9_readSetup 7 0 208 [some (ev_o 9 a), none, none, some (ev_i u3)] [] S1 Q
    exact ev_return dX9_readSetup_208 rfl hQ
  · replace hQ := hQ.2 c1
    refine ev_aload_n (ev_o 9 a) dX9_readSetup_178 rfl rfl ?_
    refine gf_9_0 dX9_readSetup_179 kw_598 ?_
    refine ev_ldcw "snow" 4 dX9_readSetup_182 (List.mem_of_getElem? (i := 4) rfl) (by decide) ?_
    refine ev_cV mv_X8_skipWord 6 0 8 [ev_x 1 4] [] dX9_readSetup_185 kw_480 rfl (by decide) rfl (by decide) (by decide) (Nat.le_of_ble_eq_true rfl) hQ ?_ rfl
    rintro o S2 ⟨v2_, rfl, hQ⟩
    show ev_E g m_X9_readSetup 7 0 188 [some (ev_o 9 a), none, none, some (ev_i u3)] [ev_i (if v2_ = true then 1 else 0)] S2 Q
    by_cases c2 : v2_ = true
    · rw [if_pos c2]
      replace hQ := hQ.1 c2
      refine ev_if_eq 201 dX9_readSetup_188 (by decide) (fun h9 => absurd h9 (by decide : ¬ ((1 : Int32) = 0))) (fun _ => ?_)
      refine ev_aload_n (ev_o 9 a) dX9_readSetup_191 rfl rfl ?_
      refine ev_cV mv_X9_readSnow 5 0 9 [] [] dX9_readSetup_192 kw_547 rfl (by decide) rfl (by decide) (by decide) (Nat.le_of_ble_eq_true rfl) hQ ?_ rfl
      rintro o S3 ⟨rfl, hQ⟩
      show ev_E g m_X9_readSetup 7 0 195 [some (ev_o 9 a), none, none, some (ev_i u3)] [] S3 Q
      refine ev_iinc u3 (1) dX9_readSetup_195 rfl (by decide) (ev_hw rfl) ?_
      show ev_E g m_X9_readSetup 7 0 198 [some (ev_o 9 a), none, none, some (ev_i (u3 + 1))] [] S3 Q
      refine ev_goto 171 dX9_readSetup_198 (by decide) ?_
      exact hQ
    · rw [if_neg c2]
      replace hQ := hQ.2 c2
      refine ev_if_eq 201 dX9_readSetup_188 (by decide) (fun _ => ?_) (fun h9 => absurd (by decide : ((0 : Int32) = 0)) h9)
      refine ev_aload_n (ev_o 9 a) dX9_readSetup_201 rfl rfl ?_
      refine gf_9_0 dX9_readSetup_202 kw_598 ?_
      refine ev_cV mv_X8_expectEnd 2 0 8 [] [] dX9_readSetup_205 kw_560 rfl (by decide) rfl (by decide) (by decide) (Nat.le_of_ble_eq_true rfl) hQ ?_ rfl
      rintro o S4 ⟨rfl, hQ⟩
      show ev_E g m_X9_readSetup 7 0 208 [some (ev_o 9 a), none, none, some (ev_i u3)] [] S4 Q
      exact ev_return dX9_readSetup_208 rfl hQ
set_option maxHeartbeats 4000000 in
set_option maxRecDepth 100000 in
theorem sg_X8_clear_0 {g : ev_G} {S : ev_S} {Q : ev_O → ev_S → Prop} (a : Nat) (hQ : ∀ S1 : ev_S, S1 = (ev_up S a 1 0) → (
    Q (.inl none) S1)) : ev_Cv g m_X8_clear 1 0 [ev_o 8 a] S Q := by
  refine ev_enter (by decide) rfl rfl (Nat.le_of_ble_eq_true rfl) ?_
  show ev_E g m_X8_clear 1 0 0 [some (ev_o 8 a)] [] S Q
  refine ev_aload_n (ev_o 8 a) dX8_clear_0 rfl rfl ?_
  refine ev_iconst (0) dX8_clear_1 rfl ?_
  refine pf_8_1 dX8_clear_2 kw_64 ?_
  refine ev_sub hQ (fun S1 hS1 hQ => ?_)
  refine ev_E.goal (pc' := 5) (L' := [some (ev_o 8 a)]) (K' := []) (S' := S1) ?_ rfl rfl rfl hS1
  exact ev_return dX8_clear_5 rfl hQ
set_option maxHeartbeats 4000000 in
set_option maxRecDepth 100000 in
theorem sp_X8_clear {g : ev_G} {S : ev_S} (a : Nat)  : ev_Fn g m_X8_clear 1 [ev_o 8 a] S none (ev_up S a 1 0) := by
  intro Q hQ
  refine sg_X8_clear_0 a ?_
  intro S1 hS1
  subst hS1
  exact hQ
set_option maxHeartbeats 4000000 in
set_option maxRecDepth 100000 in
theorem sg_X8_error_0 {g : ev_G} {S : ev_S} {Q : ev_O → ev_S → Prop} (a : Nat) (hQ : Q (.inl (some (ev_i (S.1 a 7)))) S) : ev_Cv g m_X8_error 1 0 [ev_o 8 a] S Q := by
  refine ev_enter (by decide) rfl rfl (Nat.le_of_ble_eq_true rfl) ?_
  show ev_E g m_X8_error 1 0 0 [some (ev_o 8 a)] [] S Q
  refine ev_aload_n (ev_o 8 a) dX8_error_0 rfl rfl ?_
  refine gf_8_7 dX8_error_1 kw_70 ?_
  exact ev_ireturn .int dX8_error_4 rfl rfl hQ
set_option maxHeartbeats 4000000 in
set_option maxRecDepth 100000 in
theorem sp_X8_error {g : ev_G} {S : ev_S} (a : Nat)  : ev_Fn g m_X8_error 1 [ev_o 8 a] S (some (ev_i (S.1 a 7))) S := by
  intro Q hQ
  refine sg_X8_error_0 a ?_
  exact hQ
set_option maxHeartbeats 4000000 in
set_option maxRecDepth 100000 in
theorem sg_X8_errorAt_0 {g : ev_G} {S : ev_S} {Q : ev_O → ev_S → Prop} (a : Nat) (hQ : Q (.inl (some (ev_i (S.1 a 8)))) S) : ev_Cv g m_X8_errorAt 1 0 [ev_o 8 a] S Q := by
  refine ev_enter (by decide) rfl rfl (Nat.le_of_ble_eq_true rfl) ?_
  show ev_E g m_X8_errorAt 1 0 0 [some (ev_o 8 a)] [] S Q
  refine ev_aload_n (ev_o 8 a) dX8_errorAt_0 rfl rfl ?_
  refine gf_8_8 dX8_errorAt_1 kw_71 ?_
  exact ev_ireturn .int dX8_errorAt_4 rfl rfl hQ
set_option maxHeartbeats 4000000 in
set_option maxRecDepth 100000 in
theorem sp_X8_errorAt {g : ev_G} {S : ev_S} (a : Nat)  : ev_Fn g m_X8_errorAt 1 [ev_o 8 a] S (some (ev_i (S.1 a 8))) S := by
  intro Q hQ
  refine sg_X8_errorAt_0 a ?_
  exact hQ
set_option maxHeartbeats 4000000 in
set_option maxRecDepth 100000 in
theorem sg_X9_noteError_0 {g : ev_G} {S : ev_S} {Q : ev_O → ev_S → Prop} (a : Nat) (hQ : ∀ S1 : ev_S, S1 = (ev_up S a 10 (S.1 (a + 1) 7)) → (
    ∀ S2 : ev_S, S2 = (ev_up S1 a 11 (S.1 (a + 1) 8)) → (
      Q (.inl none) S2))) : ev_Cv g m_X9_noteError 2 0 [ev_o 9 a] S Q := by
  refine ev_enter (by decide) rfl rfl (Nat.le_of_ble_eq_true rfl) ?_
  show ev_E g m_X9_noteError 2 0 0 [some (ev_o 9 a)] [] S Q
  refine ev_aload_n (ev_o 9 a) dX9_noteError_0 rfl rfl ?_
  refine ev_aload_n (ev_o 9 a) dX9_noteError_1 rfl rfl ?_
  refine gf_9_0 dX9_noteError_2 kw_598 ?_
  refine ev_fV mv_X8_error 1 8 [] [ev_o 9 a] dX9_noteError_5 kw_1923 rfl (by decide) rfl (by decide) (Nat.le_of_ble_eq_true rfl) (sp_X8_error (a + 1)) ?_ rfl
  refine pf_9_10 dX9_noteError_8 kw_608 ?_
  refine ev_sub hQ (fun S1 hS1 hQ => ?_)
  refine ev_E.goal (pc' := 11) (L' := [some (ev_o 9 a)]) (K' := []) (S' := S1) ?_ rfl rfl rfl hS1
  refine ev_aload_n (ev_o 9 a) dX9_noteError_11 rfl rfl ?_
  refine ev_aload_n (ev_o 9 a) dX9_noteError_12 rfl rfl ?_
  refine gf_9_0 dX9_noteError_13 kw_598 ?_
  refine ev_fV mv_X8_errorAt 1 8 [] [ev_o 9 a] dX9_noteError_16 kw_1927 rfl (by decide) rfl (by decide) (Nat.le_of_ble_eq_true rfl) (sp_X8_errorAt (a + 1)) ?_ rfl
  refine ev_ke (j_rk hS1 (Or.inl (by omega))) ?_
  refine pf_9_11 dX9_noteError_19 kw_609 ?_
  refine ev_sub hQ (fun S2 hS2 hQ => ?_)
  refine ev_E.goal (pc' := 22) (L' := [some (ev_o 9 a)]) (K' := []) (S' := S2) ?_ rfl rfl rfl hS2
  exact ev_return dX9_noteError_22 rfl hQ
set_option maxHeartbeats 4000000 in
set_option maxRecDepth 100000 in
theorem sp_X9_noteError {g : ev_G} {S : ev_S} (a : Nat)  : ev_Fn g m_X9_noteError 2 [ev_o 9 a] S none (ev_up (ev_up S a 10 (S.1 (a + 1) 7)) a 11 (S.1 (a + 1) 8)) := by
  intro Q hQ
  refine sg_X9_noteError_0 a ?_
  intro S1 hS1
  intro S2 hS2
  subst hS2
  subst hS1
  exact hQ
set_option maxHeartbeats 4000000 in
set_option maxRecDepth 100000 in
theorem sg_X0_copyFrom_0 {g : ev_G} {S : ev_S} {Q : ev_O → ev_S → Prop} (a : Nat) (b0 : Nat) (hQ : ∀ S1 : ev_S, S1 = (ev_up S a 4 (S.1 b0 4)) → (
    ∀ S2 : ev_S, S2 = (ev_up S1 a 5 (S1.1 b0 5)) → (
      ∀ S3 : ev_S, S3 = (ev_up S2 a 6 (S2.1 b0 6)) → (
        ∀ S4 : ev_S, S4 = (ev_up S3 a 7 (S3.1 b0 7)) → (
          ∀ S5 : ev_S, S5 = (ev_up S4 a 8 (S4.1 b0 8)) → (
            ∀ S6 : ev_S, S6 = (j_copy S5 64 (b0 + 1) (a + 1)) → (
              ∀ S7 : ev_S, S7 = (j_copy S6 2 (b0 + 2) (a + 2)) → (
                ∀ S8 : ev_S, S8 = (j_copy S7 61 (b0 + 3) (a + 3)) → (
                  ∀ S9 : ev_S, S9 = (j_copy S8 61 (b0 + 4) (a + 4)) → (
                    Q (.inl none) S9)))))))))) : ev_Cv g m_X0_copyFrom 2 0 [ev_o 0 a, ev_o 0 b0] S Q := by
  refine ev_enter (by decide) rfl rfl (Nat.le_of_ble_eq_true rfl) ?_
  show ev_E g m_X0_copyFrom 2 0 0 [some (ev_o 0 a), some (ev_o 0 b0)] [] S Q
  refine ev_aload_n (ev_o 0 a) dX0_copyFrom_0 rfl rfl ?_
  refine ev_aload_n (ev_o 0 b0) dX0_copyFrom_1 rfl rfl ?_
  refine gf_0_4 dX0_copyFrom_2 kw_154 ?_
  refine pf_0_4 dX0_copyFrom_5 kw_154 ?_
  refine ev_sub hQ (fun S1 hS1 hQ => ?_)
  refine ev_E.goal (pc' := 8) (L' := [some (ev_o 0 a), some (ev_o 0 b0)]) (K' := []) (S' := S1) ?_ rfl rfl rfl hS1
  refine ev_aload_n (ev_o 0 a) dX0_copyFrom_8 rfl rfl ?_
  refine ev_aload_n (ev_o 0 b0) dX0_copyFrom_9 rfl rfl ?_
  refine gf_0_5 dX0_copyFrom_10 kw_155 ?_
  refine pf_0_5 dX0_copyFrom_13 kw_155 ?_
  refine ev_sub hQ (fun S2 hS2 hQ => ?_)
  refine ev_E.goal (pc' := 16) (L' := [some (ev_o 0 a), some (ev_o 0 b0)]) (K' := []) (S' := S2) ?_ rfl rfl rfl hS2
  refine ev_aload_n (ev_o 0 a) dX0_copyFrom_16 rfl rfl ?_
  refine ev_aload_n (ev_o 0 b0) dX0_copyFrom_17 rfl rfl ?_
  refine gf_0_6 dX0_copyFrom_18 kw_156 ?_
  refine pf_0_6 dX0_copyFrom_21 kw_156 ?_
  refine ev_sub hQ (fun S3 hS3 hQ => ?_)
  refine ev_E.goal (pc' := 24) (L' := [some (ev_o 0 a), some (ev_o 0 b0)]) (K' := []) (S' := S3) ?_ rfl rfl rfl hS3
  refine ev_aload_n (ev_o 0 a) dX0_copyFrom_24 rfl rfl ?_
  refine ev_aload_n (ev_o 0 b0) dX0_copyFrom_25 rfl rfl ?_
  refine gf_0_7 dX0_copyFrom_26 kw_157 ?_
  refine pf_0_7 dX0_copyFrom_29 kw_157 ?_
  refine ev_sub hQ (fun S4 hS4 hQ => ?_)
  refine ev_E.goal (pc' := 32) (L' := [some (ev_o 0 a), some (ev_o 0 b0)]) (K' := []) (S' := S4) ?_ rfl rfl rfl hS4
  refine ev_aload_n (ev_o 0 a) dX0_copyFrom_32 rfl rfl ?_
  refine ev_aload_n (ev_o 0 b0) dX0_copyFrom_33 rfl rfl ?_
  refine gf_0_8 dX0_copyFrom_34 kw_158 ?_
  refine pf_0_8 dX0_copyFrom_37 kw_158 ?_
  refine ev_sub hQ (fun S5 hS5 hQ => ?_)
  refine ev_E.goal (pc' := 40) (L' := [some (ev_o 0 a), some (ev_o 0 b0)]) (K' := []) (S' := S5) ?_ rfl rfl rfl hS5
  refine ev_aload_n (ev_o 0 b0) dX0_copyFrom_40 rfl rfl ?_
  refine gf_0_0 dX0_copyFrom_41 kw_150 ?_
  refine ev_aload_n (ev_o 0 a) dX0_copyFrom_44 rfl rfl ?_
  refine gf_0_0 dX0_copyFrom_45 kw_150 ?_
  refine ev_fNn ms_X9_copyRow 1 [ev_y 64 (b0 + 1), ev_y 64 (a + 1)] [] dX0_copyFrom_48 (List.mem_of_getElem? (i := 15) rfl) rfl (by decide) (Nat.le_of_ble_eq_true rfl) (sp_X9_copyRow 64 (b0 + 1) 64 (a + 1) ⟨rfl, by decide⟩) ?_ rfl
  refine ev_sub hQ (fun S6 hS6 hQ => ?_)
  refine ev_E.goal (pc' := 51) (L' := [some (ev_o 0 a), some (ev_o 0 b0)]) (K' := []) (S' := S6) ?_ rfl rfl rfl hS6
  refine ev_aload_n (ev_o 0 b0) dX0_copyFrom_51 rfl rfl ?_
  refine gf_0_1 dX0_copyFrom_52 kw_151 ?_
  refine ev_aload_n (ev_o 0 a) dX0_copyFrom_55 rfl rfl ?_
  refine gf_0_1 dX0_copyFrom_56 kw_151 ?_
  refine ev_fNn ms_X9_copyRow 1 [ev_y 2 (b0 + 2), ev_y 2 (a + 2)] [] dX0_copyFrom_59 (List.mem_of_getElem? (i := 15) rfl) rfl (by decide) (Nat.le_of_ble_eq_true rfl) (sp_X9_copyRow 2 (b0 + 2) 2 (a + 2) ⟨rfl, by decide⟩) ?_ rfl
  refine ev_sub hQ (fun S7 hS7 hQ => ?_)
  refine ev_E.goal (pc' := 62) (L' := [some (ev_o 0 a), some (ev_o 0 b0)]) (K' := []) (S' := S7) ?_ rfl rfl rfl hS7
  refine ev_aload_n (ev_o 0 b0) dX0_copyFrom_62 rfl rfl ?_
  refine gf_0_2 dX0_copyFrom_63 kw_152 ?_
  refine ev_aload_n (ev_o 0 a) dX0_copyFrom_66 rfl rfl ?_
  refine gf_0_2 dX0_copyFrom_67 kw_152 ?_
  refine ev_fNn ms_X9_copyRow 1 [ev_y 61 (b0 + 3), ev_y 61 (a + 3)] [] dX0_copyFrom_70 (List.mem_of_getElem? (i := 15) rfl) rfl (by decide) (Nat.le_of_ble_eq_true rfl) (sp_X9_copyRow 61 (b0 + 3) 61 (a + 3) ⟨rfl, by decide⟩) ?_ rfl
  refine ev_sub hQ (fun S8 hS8 hQ => ?_)
  refine ev_E.goal (pc' := 73) (L' := [some (ev_o 0 a), some (ev_o 0 b0)]) (K' := []) (S' := S8) ?_ rfl rfl rfl hS8
  refine ev_aload_n (ev_o 0 b0) dX0_copyFrom_73 rfl rfl ?_
  refine gf_0_3 dX0_copyFrom_74 kw_153 ?_
  refine ev_aload_n (ev_o 0 a) dX0_copyFrom_77 rfl rfl ?_
  refine gf_0_3 dX0_copyFrom_78 kw_153 ?_
  refine ev_fNn ms_X9_copyRow 1 [ev_y 61 (b0 + 4), ev_y 61 (a + 4)] [] dX0_copyFrom_81 (List.mem_of_getElem? (i := 15) rfl) rfl (by decide) (Nat.le_of_ble_eq_true rfl) (sp_X9_copyRow 61 (b0 + 4) 61 (a + 4) ⟨rfl, by decide⟩) ?_ rfl
  refine ev_sub hQ (fun S9 hS9 hQ => ?_)
  refine ev_E.goal (pc' := 84) (L' := [some (ev_o 0 a), some (ev_o 0 b0)]) (K' := []) (S' := S9) ?_ rfl rfl rfl hS9
  exact ev_return dX0_copyFrom_84 rfl hQ
set_option maxHeartbeats 4000000 in
set_option maxRecDepth 100000 in
theorem sg_X1_copyFrom_0 {g : ev_G} {S : ev_S} {Q : ev_O → ev_S → Prop} (a : Nat) (b0 : Nat) (hQ : ev_Cv g m_X0_copyFrom 2 0 [ev_o 0 (a + 1), ev_o 0 (b0 + 1)] S (fun o S1 => o = .inl none ∧ (
    ∀ S2 : ev_S, S2 = (j_copy S1 61 (b0 + 6) (a + 6)) → (
      ∀ S3 : ev_S, S3 = (j_copy S2 61 (b0 + 7) (a + 7)) → (
        ∀ S4 : ev_S, S4 = (j_copy S3 61 (b0 + 8) (a + 8)) → (
          ∀ S5 : ev_S, S5 = (ev_up S4 a 5 (S4.1 b0 5)) → (
            ∀ S6 : ev_S, S6 = (ev_up S5 a 6 (S5.1 b0 6)) → (
              ∀ S7 : ev_S, S7 = (ev_up S6 a 7 (S6.1 b0 7)) → (
                ∀ S8 : ev_S, S8 = (ev_up S7 a 8 (S7.1 b0 8)) → (
                  ∀ S9 : ev_S, S9 = (ev_up S8 a 9 (S8.1 b0 9)) → (
                    ∀ S10 : ev_S, S10 = (ev_up S9 a 10 (S9.1 b0 10)) → (
                      Q (.inl none) S10)))))))))))) : ev_Cv g m_X1_copyFrom 3 0 [ev_o 1 a, ev_o 1 b0] S Q := by
  refine ev_enter (by decide) rfl rfl (Nat.le_of_ble_eq_true rfl) ?_
  show ev_E g m_X1_copyFrom 3 0 0 [some (ev_o 1 a), some (ev_o 1 b0)] [] S Q
  refine ev_aload_n (ev_o 1 a) dX1_copyFrom_0 rfl rfl ?_
  refine gf_1_1 dX1_copyFrom_1 kw_179 ?_
  refine ev_aload_n (ev_o 1 b0) dX1_copyFrom_4 rfl rfl ?_
  refine gf_1_1 dX1_copyFrom_5 kw_179 ?_
  refine ev_cV mv_X0_copyFrom 2 0 0 [ev_o 0 (b0 + 1)] [] dX1_copyFrom_8 kw_572 rfl (by decide) rfl (by decide) (by decide) (Nat.le_of_ble_eq_true rfl) hQ ?_ rfl
  rintro o S1 ⟨rfl, hQ⟩
  show ev_E g m_X1_copyFrom 3 0 11 [some (ev_o 1 a), some (ev_o 1 b0)] [] S1 Q
  refine ev_aload_n (ev_o 1 b0) dX1_copyFrom_11 rfl rfl ?_
  refine gf_1_2 dX1_copyFrom_12 kw_180 ?_
  refine ev_aload_n (ev_o 1 a) dX1_copyFrom_15 rfl rfl ?_
  refine gf_1_2 dX1_copyFrom_16 kw_180 ?_
  refine ev_fNn ms_X9_copyRow 1 [ev_y 61 (b0 + 6), ev_y 61 (a + 6)] [] dX1_copyFrom_19 (List.mem_of_getElem? (i := 16) rfl) rfl (by decide) (Nat.le_of_ble_eq_true rfl) (sp_X9_copyRow 61 (b0 + 6) 61 (a + 6) ⟨rfl, by decide⟩) ?_ rfl
  refine ev_sub hQ (fun S2 hS2 hQ => ?_)
  refine ev_E.goal (pc' := 22) (L' := [some (ev_o 1 a), some (ev_o 1 b0)]) (K' := []) (S' := S2) ?_ rfl rfl rfl hS2
  refine ev_aload_n (ev_o 1 b0) dX1_copyFrom_22 rfl rfl ?_
  refine gf_1_3 dX1_copyFrom_23 kw_181 ?_
  refine ev_aload_n (ev_o 1 a) dX1_copyFrom_26 rfl rfl ?_
  refine gf_1_3 dX1_copyFrom_27 kw_181 ?_
  refine ev_fNn ms_X9_copyRow 1 [ev_y 61 (b0 + 7), ev_y 61 (a + 7)] [] dX1_copyFrom_30 (List.mem_of_getElem? (i := 16) rfl) rfl (by decide) (Nat.le_of_ble_eq_true rfl) (sp_X9_copyRow 61 (b0 + 7) 61 (a + 7) ⟨rfl, by decide⟩) ?_ rfl
  refine ev_sub hQ (fun S3 hS3 hQ => ?_)
  refine ev_E.goal (pc' := 33) (L' := [some (ev_o 1 a), some (ev_o 1 b0)]) (K' := []) (S' := S3) ?_ rfl rfl rfl hS3
  refine ev_aload_n (ev_o 1 b0) dX1_copyFrom_33 rfl rfl ?_
  refine gf_1_4 dX1_copyFrom_34 kw_182 ?_
  refine ev_aload_n (ev_o 1 a) dX1_copyFrom_37 rfl rfl ?_
  refine gf_1_4 dX1_copyFrom_38 kw_182 ?_
  refine ev_fNn ms_X9_copyRow 1 [ev_y 61 (b0 + 8), ev_y 61 (a + 8)] [] dX1_copyFrom_41 (List.mem_of_getElem? (i := 16) rfl) rfl (by decide) (Nat.le_of_ble_eq_true rfl) (sp_X9_copyRow 61 (b0 + 8) 61 (a + 8) ⟨rfl, by decide⟩) ?_ rfl
  refine ev_sub hQ (fun S4 hS4 hQ => ?_)
  refine ev_E.goal (pc' := 44) (L' := [some (ev_o 1 a), some (ev_o 1 b0)]) (K' := []) (S' := S4) ?_ rfl rfl rfl hS4
  refine ev_aload_n (ev_o 1 a) dX1_copyFrom_44 rfl rfl ?_
  refine ev_aload_n (ev_o 1 b0) dX1_copyFrom_45 rfl rfl ?_
  refine gf_1_5 dX1_copyFrom_46 kw_183 ?_
  refine pf_1_5 dX1_copyFrom_49 kw_183 ?_
  refine ev_sub hQ (fun S5 hS5 hQ => ?_)
  refine ev_E.goal (pc' := 52) (L' := [some (ev_o 1 a), some (ev_o 1 b0)]) (K' := []) (S' := S5) ?_ rfl rfl rfl hS5
  refine ev_aload_n (ev_o 1 a) dX1_copyFrom_52 rfl rfl ?_
  refine ev_aload_n (ev_o 1 b0) dX1_copyFrom_53 rfl rfl ?_
  refine gf_1_6 dX1_copyFrom_54 kw_184 ?_
  refine pf_1_6 dX1_copyFrom_57 kw_184 ?_
  refine ev_sub hQ (fun S6 hS6 hQ => ?_)
  refine ev_E.goal (pc' := 60) (L' := [some (ev_o 1 a), some (ev_o 1 b0)]) (K' := []) (S' := S6) ?_ rfl rfl rfl hS6
  refine ev_aload_n (ev_o 1 a) dX1_copyFrom_60 rfl rfl ?_
  refine ev_aload_n (ev_o 1 b0) dX1_copyFrom_61 rfl rfl ?_
  refine gf_1_7 dX1_copyFrom_62 kw_185 ?_
  refine pf_1_7 dX1_copyFrom_65 kw_185 ?_
  refine ev_sub hQ (fun S7 hS7 hQ => ?_)
  refine ev_E.goal (pc' := 68) (L' := [some (ev_o 1 a), some (ev_o 1 b0)]) (K' := []) (S' := S7) ?_ rfl rfl rfl hS7
  refine ev_aload_n (ev_o 1 a) dX1_copyFrom_68 rfl rfl ?_
  refine ev_aload_n (ev_o 1 b0) dX1_copyFrom_69 rfl rfl ?_
  refine gf_1_8 dX1_copyFrom_70 kw_186 ?_
  refine pf_1_8 dX1_copyFrom_73 kw_186 ?_
  refine ev_sub hQ (fun S8 hS8 hQ => ?_)
  refine ev_E.goal (pc' := 76) (L' := [some (ev_o 1 a), some (ev_o 1 b0)]) (K' := []) (S' := S8) ?_ rfl rfl rfl hS8
  refine ev_aload_n (ev_o 1 a) dX1_copyFrom_76 rfl rfl ?_
  refine ev_aload_n (ev_o 1 b0) dX1_copyFrom_77 rfl rfl ?_
  refine gf_1_9 dX1_copyFrom_78 kw_187 ?_
  refine pf_1_9 dX1_copyFrom_81 kw_187 ?_
  refine ev_sub hQ (fun S9 hS9 hQ => ?_)
  refine ev_E.goal (pc' := 84) (L' := [some (ev_o 1 a), some (ev_o 1 b0)]) (K' := []) (S' := S9) ?_ rfl rfl rfl hS9
  refine ev_aload_n (ev_o 1 a) dX1_copyFrom_84 rfl rfl ?_
  refine ev_aload_n (ev_o 1 b0) dX1_copyFrom_85 rfl rfl ?_
  refine gf_1_10 dX1_copyFrom_86 kw_188 ?_
  refine pf_1_10 dX1_copyFrom_89 kw_188 ?_
  refine ev_sub hQ (fun S10 hS10 hQ => ?_)
  refine ev_E.goal (pc' := 92) (L' := [some (ev_o 1 a), some (ev_o 1 b0)]) (K' := []) (S' := S10) ?_ rfl rfl rfl hS10
  exact ev_return dX1_copyFrom_92 rfl hQ
set_option maxHeartbeats 4000000 in
set_option maxRecDepth 100000 in
theorem sg_X5_copyFrom_0 {g : ev_G} {S : ev_S} {Q : ev_O → ev_S → Prop} (a : Nat) (b0 : Nat) (hQ : ∀ S1 : ev_S, S1 = (j_copy S 4 (b0 + 1) (a + 1)) → (
    ∀ S2 : ev_S, S2 = (j_copy S1 48 (b0 + 2) (a + 2)) → (
      ∀ S3 : ev_S, S3 = (j_copy S2 8 (b0 + 3) (a + 3)) → (
        ∀ S4 : ev_S, S4 = (ev_up S3 a 3 (S3.1 b0 3)) → (
          ∀ S5 : ev_S, S5 = (ev_up S4 a 4 (S4.1 b0 4)) → (
            Q (.inl none) S5)))))) : ev_Cv g m_X5_copyFrom 2 0 [ev_o 5 a, ev_o 5 b0] S Q := by
  refine ev_enter (by decide) rfl rfl (Nat.le_of_ble_eq_true rfl) ?_
  show ev_E g m_X5_copyFrom 2 0 0 [some (ev_o 5 a), some (ev_o 5 b0)] [] S Q
  refine ev_aload_n (ev_o 5 b0) dX5_copyFrom_0 rfl rfl ?_
  refine gf_5_0 dX5_copyFrom_1 kw_224 ?_
  refine ev_aload_n (ev_o 5 a) dX5_copyFrom_4 rfl rfl ?_
  refine gf_5_0 dX5_copyFrom_5 kw_224 ?_
  refine ev_fNn ms_X9_copyRow 1 [ev_y 4 (b0 + 1), ev_y 4 (a + 1)] [] dX5_copyFrom_8 (List.mem_of_getElem? (i := 17) rfl) rfl (by decide) (Nat.le_of_ble_eq_true rfl) (sp_X9_copyRow 4 (b0 + 1) 4 (a + 1) ⟨rfl, by decide⟩) ?_ rfl
  refine ev_sub hQ (fun S1 hS1 hQ => ?_)
  refine ev_E.goal (pc' := 11) (L' := [some (ev_o 5 a), some (ev_o 5 b0)]) (K' := []) (S' := S1) ?_ rfl rfl rfl hS1
  refine ev_aload_n (ev_o 5 b0) dX5_copyFrom_11 rfl rfl ?_
  refine gf_5_1 dX5_copyFrom_12 kw_225 ?_
  refine ev_aload_n (ev_o 5 a) dX5_copyFrom_15 rfl rfl ?_
  refine gf_5_1 dX5_copyFrom_16 kw_225 ?_
  refine ev_fNn ms_X9_copyRow 1 [ev_y 48 (b0 + 2), ev_y 48 (a + 2)] [] dX5_copyFrom_19 (List.mem_of_getElem? (i := 17) rfl) rfl (by decide) (Nat.le_of_ble_eq_true rfl) (sp_X9_copyRow 48 (b0 + 2) 48 (a + 2) ⟨rfl, by decide⟩) ?_ rfl
  refine ev_sub hQ (fun S2 hS2 hQ => ?_)
  refine ev_E.goal (pc' := 22) (L' := [some (ev_o 5 a), some (ev_o 5 b0)]) (K' := []) (S' := S2) ?_ rfl rfl rfl hS2
  refine ev_aload_n (ev_o 5 b0) dX5_copyFrom_22 rfl rfl ?_
  refine gf_5_2 dX5_copyFrom_23 kw_226 ?_
  refine ev_aload_n (ev_o 5 a) dX5_copyFrom_26 rfl rfl ?_
  refine gf_5_2 dX5_copyFrom_27 kw_226 ?_
  refine ev_fNn ms_X9_copyRow 1 [ev_y 8 (b0 + 3), ev_y 8 (a + 3)] [] dX5_copyFrom_30 (List.mem_of_getElem? (i := 17) rfl) rfl (by decide) (Nat.le_of_ble_eq_true rfl) (sp_X9_copyRow 8 (b0 + 3) 8 (a + 3) ⟨rfl, by decide⟩) ?_ rfl
  refine ev_sub hQ (fun S3 hS3 hQ => ?_)
  refine ev_E.goal (pc' := 33) (L' := [some (ev_o 5 a), some (ev_o 5 b0)]) (K' := []) (S' := S3) ?_ rfl rfl rfl hS3
  refine ev_aload_n (ev_o 5 a) dX5_copyFrom_33 rfl rfl ?_
  refine ev_aload_n (ev_o 5 b0) dX5_copyFrom_34 rfl rfl ?_
  refine gf_5_3 dX5_copyFrom_35 kw_227 ?_
  refine pf_5_3 dX5_copyFrom_38 kw_227 ?_
  refine ev_sub hQ (fun S4 hS4 hQ => ?_)
  refine ev_E.goal (pc' := 41) (L' := [some (ev_o 5 a), some (ev_o 5 b0)]) (K' := []) (S' := S4) ?_ rfl rfl rfl hS4
  refine ev_aload_n (ev_o 5 a) dX5_copyFrom_41 rfl rfl ?_
  refine ev_aload_n (ev_o 5 b0) dX5_copyFrom_42 rfl rfl ?_
  refine gf_5_4 dX5_copyFrom_43 kw_228 ?_
  refine pf_5_4 dX5_copyFrom_46 kw_228 ?_
  refine ev_sub hQ (fun S5 hS5 hQ => ?_)
  refine ev_E.goal (pc' := 49) (L' := [some (ev_o 5 a), some (ev_o 5 b0)]) (K' := []) (S' := S5) ?_ rfl rfl rfl hS5
  exact ev_return dX5_copyFrom_49 rfl hQ
set_option maxHeartbeats 4000000 in
set_option maxRecDepth 100000 in
theorem sg_X6_copyFrom_0 {g : ev_G} {S : ev_S} {Q : ev_O → ev_S → Prop} (a : Nat) (b0 : Nat) (hQ : ev_Cv g m_X5_copyFrom 2 0 [ev_o 5 (a + 1), ev_o 5 (b0 + 1)] S (fun o S1 => o = .inl none ∧ (
    ∀ S2 : ev_S, S2 = (j_copy S1 84 (b0 + 5) (a + 5)) → (
      ∀ S3 : ev_S, S3 = (j_copy S2 84 (b0 + 6) (a + 6)) → (
        ∀ S4 : ev_S, S4 = (j_copy S3 84 (b0 + 7) (a + 7)) → (
          ∀ S5 : ev_S, S5 = (j_copy S4 84 (b0 + 8) (a + 8)) → (
            ∀ S6 : ev_S, S6 = (j_copy S5 84 (b0 + 9) (a + 9)) → (
              ∀ S7 : ev_S, S7 = (j_copy S6 84 (b0 + 10) (a + 10)) → (
                ∀ S8 : ev_S, S8 = (j_copy S7 84 (b0 + 11) (a + 11)) → (
                  ∀ S9 : ev_S, S9 = (j_copy S8 84 (b0 + 12) (a + 12)) → (
                    ∀ S10 : ev_S, S10 = (j_copy S9 84 (b0 + 13) (a + 13)) → (
                      ∀ S11 : ev_S, S11 = (j_copy S10 84 (b0 + 14) (a + 14)) → (
                        ∀ S12 : ev_S, S12 = (j_copy S11 8 (b0 + 16) (a + 16)) → (
                          ∀ S13 : ev_S, S13 = (ev_up S12 a 13 (S12.1 b0 13)) → (
                            ∀ S14 : ev_S, S14 = (ev_up S13 a 14 (S13.1 b0 14)) → (
                              ∀ S15 : ev_S, S15 = (ev_up S14 a 16 (S14.1 b0 16)) → (
                                ∀ S16 : ev_S, S16 = (ev_up S15 a 17 (S15.1 b0 17)) → (
                                  Q (.inl none) S16)))))))))))))))))) : ev_Cv g m_X6_copyFrom 3 0 [ev_o 6 a, ev_o 6 b0] S Q := by
  refine ev_enter (by decide) rfl rfl (Nat.le_of_ble_eq_true rfl) ?_
  show ev_E g m_X6_copyFrom 3 0 0 [some (ev_o 6 a), some (ev_o 6 b0)] [] S Q
  refine ev_aload_n (ev_o 6 a) dX6_copyFrom_0 rfl rfl ?_
  refine gf_6_0 dX6_copyFrom_1 kw_240 ?_
  refine ev_aload_n (ev_o 6 b0) dX6_copyFrom_4 rfl rfl ?_
  refine gf_6_0 dX6_copyFrom_5 kw_240 ?_
  refine ev_cV mv_X5_copyFrom 2 0 5 [ev_o 5 (b0 + 1)] [] dX6_copyFrom_8 kw_588 rfl (by decide) rfl (by decide) (by decide) (Nat.le_of_ble_eq_true rfl) hQ ?_ rfl
  rintro o S1 ⟨rfl, hQ⟩
  show ev_E g m_X6_copyFrom 3 0 11 [some (ev_o 6 a), some (ev_o 6 b0)] [] S1 Q
  refine ev_aload_n (ev_o 6 b0) dX6_copyFrom_11 rfl rfl ?_
  refine gf_6_1 dX6_copyFrom_12 kw_241 ?_
  refine ev_aload_n (ev_o 6 a) dX6_copyFrom_15 rfl rfl ?_
  refine gf_6_1 dX6_copyFrom_16 kw_241 ?_
  refine ev_fNn ms_X9_copyRow 1 [ev_y 84 (b0 + 5), ev_y 84 (a + 5)] [] dX6_copyFrom_19 (List.mem_of_getElem? (i := 18) rfl) rfl (by decide) (Nat.le_of_ble_eq_true rfl) (sp_X9_copyRow 84 (b0 + 5) 84 (a + 5) ⟨rfl, by decide⟩) ?_ rfl
  refine ev_sub hQ (fun S2 hS2 hQ => ?_)
  refine ev_E.goal (pc' := 22) (L' := [some (ev_o 6 a), some (ev_o 6 b0)]) (K' := []) (S' := S2) ?_ rfl rfl rfl hS2
  refine ev_aload_n (ev_o 6 b0) dX6_copyFrom_22 rfl rfl ?_
  refine gf_6_2 dX6_copyFrom_23 kw_242 ?_
  refine ev_aload_n (ev_o 6 a) dX6_copyFrom_26 rfl rfl ?_
  refine gf_6_2 dX6_copyFrom_27 kw_242 ?_
  refine ev_fNn ms_X9_copyRow 1 [ev_y 84 (b0 + 6), ev_y 84 (a + 6)] [] dX6_copyFrom_30 (List.mem_of_getElem? (i := 18) rfl) rfl (by decide) (Nat.le_of_ble_eq_true rfl) (sp_X9_copyRow 84 (b0 + 6) 84 (a + 6) ⟨rfl, by decide⟩) ?_ rfl
  refine ev_sub hQ (fun S3 hS3 hQ => ?_)
  refine ev_E.goal (pc' := 33) (L' := [some (ev_o 6 a), some (ev_o 6 b0)]) (K' := []) (S' := S3) ?_ rfl rfl rfl hS3
  refine ev_aload_n (ev_o 6 b0) dX6_copyFrom_33 rfl rfl ?_
  refine gf_6_3 dX6_copyFrom_34 kw_243 ?_
  refine ev_aload_n (ev_o 6 a) dX6_copyFrom_37 rfl rfl ?_
  refine gf_6_3 dX6_copyFrom_38 kw_243 ?_
  refine ev_fNn ms_X9_copyRow 1 [ev_y 84 (b0 + 7), ev_y 84 (a + 7)] [] dX6_copyFrom_41 (List.mem_of_getElem? (i := 18) rfl) rfl (by decide) (Nat.le_of_ble_eq_true rfl) (sp_X9_copyRow 84 (b0 + 7) 84 (a + 7) ⟨rfl, by decide⟩) ?_ rfl
  refine ev_sub hQ (fun S4 hS4 hQ => ?_)
  refine ev_E.goal (pc' := 44) (L' := [some (ev_o 6 a), some (ev_o 6 b0)]) (K' := []) (S' := S4) ?_ rfl rfl rfl hS4
  refine ev_aload_n (ev_o 6 b0) dX6_copyFrom_44 rfl rfl ?_
  refine gf_6_4 dX6_copyFrom_45 kw_244 ?_
  refine ev_aload_n (ev_o 6 a) dX6_copyFrom_48 rfl rfl ?_
  refine gf_6_4 dX6_copyFrom_49 kw_244 ?_
  refine ev_fNn ms_X9_copyRow 1 [ev_y 84 (b0 + 8), ev_y 84 (a + 8)] [] dX6_copyFrom_52 (List.mem_of_getElem? (i := 18) rfl) rfl (by decide) (Nat.le_of_ble_eq_true rfl) (sp_X9_copyRow 84 (b0 + 8) 84 (a + 8) ⟨rfl, by decide⟩) ?_ rfl
  refine ev_sub hQ (fun S5 hS5 hQ => ?_)
  refine ev_E.goal (pc' := 55) (L' := [some (ev_o 6 a), some (ev_o 6 b0)]) (K' := []) (S' := S5) ?_ rfl rfl rfl hS5
  refine ev_aload_n (ev_o 6 b0) dX6_copyFrom_55 rfl rfl ?_
  refine gf_6_5 dX6_copyFrom_56 kw_245 ?_
  refine ev_aload_n (ev_o 6 a) dX6_copyFrom_59 rfl rfl ?_
  refine gf_6_5 dX6_copyFrom_60 kw_245 ?_
  refine ev_fNn ms_X9_copyRow 1 [ev_y 84 (b0 + 9), ev_y 84 (a + 9)] [] dX6_copyFrom_63 (List.mem_of_getElem? (i := 18) rfl) rfl (by decide) (Nat.le_of_ble_eq_true rfl) (sp_X9_copyRow 84 (b0 + 9) 84 (a + 9) ⟨rfl, by decide⟩) ?_ rfl
  refine ev_sub hQ (fun S6 hS6 hQ => ?_)
  refine ev_E.goal (pc' := 66) (L' := [some (ev_o 6 a), some (ev_o 6 b0)]) (K' := []) (S' := S6) ?_ rfl rfl rfl hS6
  refine ev_aload_n (ev_o 6 b0) dX6_copyFrom_66 rfl rfl ?_
  refine gf_6_6 dX6_copyFrom_67 kw_246 ?_
  refine ev_aload_n (ev_o 6 a) dX6_copyFrom_70 rfl rfl ?_
  refine gf_6_6 dX6_copyFrom_71 kw_246 ?_
  refine ev_fNn ms_X9_copyRow 1 [ev_y 84 (b0 + 10), ev_y 84 (a + 10)] [] dX6_copyFrom_74 (List.mem_of_getElem? (i := 18) rfl) rfl (by decide) (Nat.le_of_ble_eq_true rfl) (sp_X9_copyRow 84 (b0 + 10) 84 (a + 10) ⟨rfl, by decide⟩) ?_ rfl
  refine ev_sub hQ (fun S7 hS7 hQ => ?_)
  refine ev_E.goal (pc' := 77) (L' := [some (ev_o 6 a), some (ev_o 6 b0)]) (K' := []) (S' := S7) ?_ rfl rfl rfl hS7
  refine ev_aload_n (ev_o 6 b0) dX6_copyFrom_77 rfl rfl ?_
  refine gf_6_7 dX6_copyFrom_78 kw_247 ?_
  refine ev_aload_n (ev_o 6 a) dX6_copyFrom_81 rfl rfl ?_
  refine gf_6_7 dX6_copyFrom_82 kw_247 ?_
  refine ev_fNn ms_X9_copyRow 1 [ev_y 84 (b0 + 11), ev_y 84 (a + 11)] [] dX6_copyFrom_85 (List.mem_of_getElem? (i := 18) rfl) rfl (by decide) (Nat.le_of_ble_eq_true rfl) (sp_X9_copyRow 84 (b0 + 11) 84 (a + 11) ⟨rfl, by decide⟩) ?_ rfl
  refine ev_sub hQ (fun S8 hS8 hQ => ?_)
  refine ev_E.goal (pc' := 88) (L' := [some (ev_o 6 a), some (ev_o 6 b0)]) (K' := []) (S' := S8) ?_ rfl rfl rfl hS8
  refine ev_aload_n (ev_o 6 b0) dX6_copyFrom_88 rfl rfl ?_
  refine gf_6_8 dX6_copyFrom_89 kw_248 ?_
  refine ev_aload_n (ev_o 6 a) dX6_copyFrom_92 rfl rfl ?_
  refine gf_6_8 dX6_copyFrom_93 kw_248 ?_
  refine ev_fNn ms_X9_copyRow 1 [ev_y 84 (b0 + 12), ev_y 84 (a + 12)] [] dX6_copyFrom_96 (List.mem_of_getElem? (i := 18) rfl) rfl (by decide) (Nat.le_of_ble_eq_true rfl) (sp_X9_copyRow 84 (b0 + 12) 84 (a + 12) ⟨rfl, by decide⟩) ?_ rfl
  refine ev_sub hQ (fun S9 hS9 hQ => ?_)
  refine ev_E.goal (pc' := 99) (L' := [some (ev_o 6 a), some (ev_o 6 b0)]) (K' := []) (S' := S9) ?_ rfl rfl rfl hS9
  refine ev_aload_n (ev_o 6 b0) dX6_copyFrom_99 rfl rfl ?_
  refine gf_6_9 dX6_copyFrom_100 kw_249 ?_
  refine ev_aload_n (ev_o 6 a) dX6_copyFrom_103 rfl rfl ?_
  refine gf_6_9 dX6_copyFrom_104 kw_249 ?_
  refine ev_fNn ms_X9_copyRow 1 [ev_y 84 (b0 + 13), ev_y 84 (a + 13)] [] dX6_copyFrom_107 (List.mem_of_getElem? (i := 18) rfl) rfl (by decide) (Nat.le_of_ble_eq_true rfl) (sp_X9_copyRow 84 (b0 + 13) 84 (a + 13) ⟨rfl, by decide⟩) ?_ rfl
  refine ev_sub hQ (fun S10 hS10 hQ => ?_)
  refine ev_E.goal (pc' := 110) (L' := [some (ev_o 6 a), some (ev_o 6 b0)]) (K' := []) (S' := S10) ?_ rfl rfl rfl hS10
  refine ev_aload_n (ev_o 6 b0) dX6_copyFrom_110 rfl rfl ?_
  refine gf_6_10 dX6_copyFrom_111 kw_250 ?_
  refine ev_aload_n (ev_o 6 a) dX6_copyFrom_114 rfl rfl ?_
  refine gf_6_10 dX6_copyFrom_115 kw_250 ?_
  refine ev_fNn ms_X9_copyRow 1 [ev_y 84 (b0 + 14), ev_y 84 (a + 14)] [] dX6_copyFrom_118 (List.mem_of_getElem? (i := 18) rfl) rfl (by decide) (Nat.le_of_ble_eq_true rfl) (sp_X9_copyRow 84 (b0 + 14) 84 (a + 14) ⟨rfl, by decide⟩) ?_ rfl
  refine ev_sub hQ (fun S11 hS11 hQ => ?_)
  refine ev_E.goal (pc' := 121) (L' := [some (ev_o 6 a), some (ev_o 6 b0)]) (K' := []) (S' := S11) ?_ rfl rfl rfl hS11
  refine ev_aload_n (ev_o 6 b0) dX6_copyFrom_121 rfl rfl ?_
  refine gf_6_12 dX6_copyFrom_122 kw_252 ?_
  refine ev_aload_n (ev_o 6 a) dX6_copyFrom_125 rfl rfl ?_
  refine gf_6_12 dX6_copyFrom_126 kw_252 ?_
  refine ev_fNn ms_X9_copyRow 1 [ev_y 8 (b0 + 16), ev_y 8 (a + 16)] [] dX6_copyFrom_129 (List.mem_of_getElem? (i := 18) rfl) rfl (by decide) (Nat.le_of_ble_eq_true rfl) (sp_X9_copyRow 8 (b0 + 16) 8 (a + 16) ⟨rfl, by decide⟩) ?_ rfl
  refine ev_sub hQ (fun S12 hS12 hQ => ?_)
  refine ev_E.goal (pc' := 132) (L' := [some (ev_o 6 a), some (ev_o 6 b0)]) (K' := []) (S' := S12) ?_ rfl rfl rfl hS12
  refine ev_aload_n (ev_o 6 a) dX6_copyFrom_132 rfl rfl ?_
  refine ev_aload_n (ev_o 6 b0) dX6_copyFrom_133 rfl rfl ?_
  refine gf_6_13 dX6_copyFrom_134 kw_253 ?_
  refine pf_6_13 dX6_copyFrom_137 kw_253 ?_
  refine ev_sub hQ (fun S13 hS13 hQ => ?_)
  refine ev_E.goal (pc' := 140) (L' := [some (ev_o 6 a), some (ev_o 6 b0)]) (K' := []) (S' := S13) ?_ rfl rfl rfl hS13
  refine ev_aload_n (ev_o 6 a) dX6_copyFrom_140 rfl rfl ?_
  refine ev_aload_n (ev_o 6 b0) dX6_copyFrom_141 rfl rfl ?_
  refine gf_6_14 dX6_copyFrom_142 kw_254 ?_
  refine pf_6_14 dX6_copyFrom_145 kw_254 ?_
  refine ev_sub hQ (fun S14 hS14 hQ => ?_)
  refine ev_E.goal (pc' := 148) (L' := [some (ev_o 6 a), some (ev_o 6 b0)]) (K' := []) (S' := S14) ?_ rfl rfl rfl hS14
  refine ev_aload_n (ev_o 6 a) dX6_copyFrom_148 rfl rfl ?_
  refine ev_aload_n (ev_o 6 b0) dX6_copyFrom_149 rfl rfl ?_
  refine gf_6_16 dX6_copyFrom_150 kw_256 ?_
  refine pf_6_16 dX6_copyFrom_153 kw_256 ?_
  refine ev_sub hQ (fun S15 hS15 hQ => ?_)
  refine ev_E.goal (pc' := 156) (L' := [some (ev_o 6 a), some (ev_o 6 b0)]) (K' := []) (S' := S15) ?_ rfl rfl rfl hS15
  refine ev_aload_n (ev_o 6 a) dX6_copyFrom_156 rfl rfl ?_
  refine ev_aload_n (ev_o 6 b0) dX6_copyFrom_157 rfl rfl ?_
  refine gf_6_17 dX6_copyFrom_158 kw_257 ?_
  refine pf_6_17 dX6_copyFrom_161 kw_257 ?_
  refine ev_sub hQ (fun S16 hS16 hQ => ?_)
  refine ev_E.goal (pc' := 164) (L' := [some (ev_o 6 a), some (ev_o 6 b0)]) (K' := []) (S' := S16) ?_ rfl rfl rfl hS16
  exact ev_return dX6_copyFrom_164 rfl hQ
set_option maxHeartbeats 4000000 in
set_option maxRecDepth 100000 in
theorem sg_X2_copyFrom_0 {g : ev_G} {S : ev_S} {Q : ev_O → ev_S → Prop} (a : Nat) (b0 : Nat) (hQ : ev_Cv g m_X1_copyFrom 3 0 [ev_o 1 (a + 1), ev_o 1 (b0 + 1)] S (fun o S1 => o = .inl none ∧ (
    ev_Cv g m_X1_copyFrom 3 0 [ev_o 1 (a + 10), ev_o 1 (b0 + 10)] S1 (fun o S2 => o = .inl none ∧ (
      ev_Cv g m_X6_copyFrom 3 0 [ev_o 6 (a + 19), ev_o 6 (b0 + 19)] S2 (fun o S3 => o = .inl none ∧ (
        ∀ S4 : ev_S, S4 = (ev_up S3 a 4 (S3.1 b0 4)) → (
          ∀ S5 : ev_S, S5 = (ev_up S4 a 5 (S4.1 b0 5)) → (
            Q (.inl none) S5))))))))) : ev_Cv g m_X2_copyFrom 4 0 [ev_o 2 a, ev_o 2 b0] S Q := by
  refine ev_enter (by decide) rfl rfl (Nat.le_of_ble_eq_true rfl) ?_
  show ev_E g m_X2_copyFrom 4 0 0 [some (ev_o 2 a), some (ev_o 2 b0)] [] S Q
  refine ev_aload_n (ev_o 2 a) dX2_copyFrom_0 rfl rfl ?_
  refine gf_2_0 dX2_copyFrom_1 kw_297 ?_
  refine ev_aload_n (ev_o 2 b0) dX2_copyFrom_4 rfl rfl ?_
  refine gf_2_0 dX2_copyFrom_5 kw_297 ?_
  refine ev_cV mv_X1_copyFrom 3 0 1 [ev_o 1 (b0 + 1)] [] dX2_copyFrom_8 kw_568 rfl (by decide) rfl (by decide) (by decide) (Nat.le_of_ble_eq_true rfl) hQ ?_ rfl
  rintro o S1 ⟨rfl, hQ⟩
  show ev_E g m_X2_copyFrom 4 0 11 [some (ev_o 2 a), some (ev_o 2 b0)] [] S1 Q
  refine ev_aload_n (ev_o 2 a) dX2_copyFrom_11 rfl rfl ?_
  refine gf_2_1 dX2_copyFrom_12 kw_298 ?_
  refine ev_aload_n (ev_o 2 b0) dX2_copyFrom_15 rfl rfl ?_
  refine gf_2_1 dX2_copyFrom_16 kw_298 ?_
  refine ev_cV mv_X1_copyFrom 3 0 1 [ev_o 1 (b0 + 10)] [] dX2_copyFrom_19 kw_568 rfl (by decide) rfl (by decide) (by decide) (Nat.le_of_ble_eq_true rfl) hQ ?_ rfl
  rintro o S2 ⟨rfl, hQ⟩
  show ev_E g m_X2_copyFrom 4 0 22 [some (ev_o 2 a), some (ev_o 2 b0)] [] S2 Q
  refine ev_aload_n (ev_o 2 a) dX2_copyFrom_22 rfl rfl ?_
  refine gf_2_2 dX2_copyFrom_23 kw_299 ?_
  refine ev_aload_n (ev_o 2 b0) dX2_copyFrom_26 rfl rfl ?_
  refine gf_2_2 dX2_copyFrom_27 kw_299 ?_
  refine ev_cV mv_X6_copyFrom 3 0 6 [ev_o 6 (b0 + 19)] [] dX2_copyFrom_30 kw_584 rfl (by decide) rfl (by decide) (by decide) (Nat.le_of_ble_eq_true rfl) hQ ?_ rfl
  rintro o S3 ⟨rfl, hQ⟩
  show ev_E g m_X2_copyFrom 4 0 33 [some (ev_o 2 a), some (ev_o 2 b0)] [] S3 Q
  refine ev_aload_n (ev_o 2 a) dX2_copyFrom_33 rfl rfl ?_
  refine ev_aload_n (ev_o 2 b0) dX2_copyFrom_34 rfl rfl ?_
  refine gf_2_4 dX2_copyFrom_35 kw_301 ?_
  refine pf_2_4 dX2_copyFrom_38 kw_301 ?_
  refine ev_sub hQ (fun S4 hS4 hQ => ?_)
  refine ev_E.goal (pc' := 41) (L' := [some (ev_o 2 a), some (ev_o 2 b0)]) (K' := []) (S' := S4) ?_ rfl rfl rfl hS4
  refine ev_aload_n (ev_o 2 a) dX2_copyFrom_41 rfl rfl ?_
  refine ev_aload_n (ev_o 2 b0) dX2_copyFrom_42 rfl rfl ?_
  refine gf_2_5 dX2_copyFrom_43 kw_302 ?_
  refine pf_2_5 dX2_copyFrom_46 kw_302 ?_
  refine ev_sub hQ (fun S5 hS5 hQ => ?_)
  refine ev_E.goal (pc' := 49) (L' := [some (ev_o 2 a), some (ev_o 2 b0)]) (K' := []) (S' := S5) ?_ rfl rfl rfl hS5
  exact ev_return dX2_copyFrom_49 rfl hQ
set_option maxHeartbeats 4000000 in
set_option maxRecDepth 100000 in
theorem sg_X3_forget_0 {g : ev_G} {S : ev_S} {Q : ev_O → ev_S → Prop} (a : Nat) (hQ : ∀ S1 : ev_S, S1 = (ev_up S a 1 0) → (
    Q (.inl none) S1)) : ev_Cv g m_X3_forget 1 0 [ev_o 3 a] S Q := by
  refine ev_enter (by decide) rfl rfl (Nat.le_of_ble_eq_true rfl) ?_
  show ev_E g m_X3_forget 1 0 0 [some (ev_o 3 a)] [] S Q
  refine ev_aload_n (ev_o 3 a) dX3_forget_0 rfl rfl ?_
  refine ev_iconst (0) dX3_forget_1 rfl ?_
  refine pf_3_1 dX3_forget_2 kw_326 ?_
  refine ev_sub hQ (fun S1 hS1 hQ => ?_)
  refine ev_E.goal (pc' := 5) (L' := [some (ev_o 3 a)]) (K' := []) (S' := S1) ?_ rfl rfl rfl hS1
  exact ev_return dX3_forget_5 rfl hQ
set_option maxHeartbeats 4000000 in
set_option maxRecDepth 100000 in
theorem sp_X3_forget {g : ev_G} {S : ev_S} (a : Nat)  : ev_Fn g m_X3_forget 1 [ev_o 3 a] S none (ev_up S a 1 0) := by
  intro Q hQ
  refine sg_X3_forget_0 a ?_
  intro S1 hS1
  subst hS1
  exact hQ
set_option maxHeartbeats 4000000 in
set_option maxRecDepth 100000 in
theorem sg_X9_load_0 {g : ev_G} {S : ev_S} {Q : ev_O → ev_S → Prop} (a : Nat) (hQ : ev_Cv g m_X9_readSetup 7 0 [ev_o 9 a] S (fun o S1 => o = .inl none ∧ (
    ∀ S2 : ev_S, S2 = (ev_up S1 (a + 1) 1 0) → (
      ∀ S3 : ev_S, S3 = (ev_up (ev_up S2 a 10 (S2.1 (a + 1) 7)) a 11 (S2.1 (a + 1) 8)) → (
        (((ev_up S2 a 10 (S2.1 (a + 1) 7)).1 a 10) = 0 → (
          ev_Cv g m_X2_copyFrom 4 0 [ev_o 2 (a + 11), ev_o 2 (a + 52)] S3 (fun o S4 => o = .inl none ∧ (
            ∀ S5 : ev_S, S5 = (ev_up S4 (a + 93) 1 0) → (
              ∀ S6 : ev_S, S6 = (ev_up S5 a 8 0) → (
                ∀ S7 : ev_S, S7 = (ev_up S6 a 9 0) → (
                  Q (.inl (some (ev_i (S4.1 a 10)))) S7))))))) ∧
        (¬ (((ev_up S2 a 10 (S2.1 (a + 1) 7)).1 a 10) = 0) → (
          Q (.inl (some (ev_i ((ev_up S2 a 10 (S2.1 (a + 1) 7)).1 a 10)))) S3))))))) : ev_Cv g m_X9_load 8 0 [ev_o 9 a] S Q := by
  refine ev_enter (by decide) rfl rfl (Nat.le_of_ble_eq_true rfl) ?_
  show ev_E g m_X9_load 8 0 0 [some (ev_o 9 a)] [] S Q
  refine ev_aload_n (ev_o 9 a) dX9_load_0 rfl rfl ?_
  refine ev_cV mv_X9_readSetup 7 0 9 [] [] dX9_load_1 kw_391 rfl (by decide) rfl (by decide) (by decide) (Nat.le_of_ble_eq_true rfl) hQ ?_ rfl
  rintro o S1 ⟨rfl, hQ⟩
  show ev_E g m_X9_load 8 0 4 [some (ev_o 9 a)] [] S1 Q
  refine ev_aload_n (ev_o 9 a) dX9_load_4 rfl rfl ?_
  refine gf_9_0 dX9_load_5 kw_598 ?_
  refine ev_fVn mv_X8_clear 1 8 [] [] dX9_load_8 kw_594 rfl (by decide) rfl (by decide) (Nat.le_of_ble_eq_true rfl) (sp_X8_clear (a + 1)) ?_ rfl
  refine ev_sub hQ (fun S2 hS2 hQ => ?_)
  refine ev_E.goal (pc' := 11) (L' := [some (ev_o 9 a)]) (K' := []) (S' := S2) ?_ rfl rfl rfl hS2
  refine ev_aload_n (ev_o 9 a) dX9_load_11 rfl rfl ?_
  refine ev_fVn mv_X9_noteError 2 9 [] [] dX9_load_12 kw_1919 rfl (by decide) rfl (by decide) (Nat.le_of_ble_eq_true rfl) (sp_X9_noteError a) ?_ rfl
  refine ev_sub hQ (fun S3 hS3 hQ => ?_)
  refine ev_E.goal (pc' := 15) (L' := [some (ev_o 9 a)]) (K' := []) (S' := S3) ?_ rfl rfl rfl hS3
  refine ev_aload_n (ev_o 9 a) dX9_load_15 rfl rfl ?_
  refine gf_9_10 dX9_load_16 kw_608 ?_
  refine ev_ke (j_rk hS3 (Or.inr (by decide))) ?_
  refine ev_if_ne 50 dX9_load_19 (by decide) (fun c1 => ?_) (fun c1 => ?_)
  · replace hQ := hQ.2 c1
    refine ev_aload_n (ev_o 9 a) dX9_load_50 rfl rfl ?_
    refine gf_9_10 dX9_load_51 kw_608 ?_
    refine ev_ke (j_rk hS3 (Or.inr (by decide))) ?_
    exact ev_ireturn .int dX9_load_54 rfl rfl hQ
  · replace hQ := hQ.1 c1
    refine ev_aload_n (ev_o 9 a) dX9_load_22 rfl rfl ?_
    refine gf_9_3 dX9_load_23 kw_601 ?_
    refine ev_aload_n (ev_o 9 a) dX9_load_26 rfl rfl ?_
    refine gf_9_4 dX9_load_27 kw_602 ?_
    refine ev_cV mv_X2_copyFrom 4 0 2 [ev_o 2 (a + 52)] [] dX9_load_30 kw_564 rfl (by decide) rfl (by decide) (by decide) (Nat.le_of_ble_eq_true rfl) hQ ?_ rfl
    rintro o S4 ⟨rfl, hQ⟩
    show ev_E g m_X9_load 8 0 33 [some (ev_o 9 a)] [] S4 Q
    refine ev_aload_n (ev_o 9 a) dX9_load_33 rfl rfl ?_
    refine gf_9_5 dX9_load_34 kw_603 ?_
    refine ev_fVn mv_X3_forget 1 3 [] [] dX9_load_37 kw_1931 rfl (by decide) rfl (by decide) (Nat.le_of_ble_eq_true rfl) (sp_X3_forget (a + 93)) ?_ rfl
    refine ev_sub hQ (fun S5 hS5 hQ => ?_)
    refine ev_E.goal (pc' := 40) (L' := [some (ev_o 9 a)]) (K' := []) (S' := S5) ?_ rfl rfl rfl hS5
    refine ev_aload_n (ev_o 9 a) dX9_load_40 rfl rfl ?_
    refine ev_iconst (0) dX9_load_41 rfl ?_
    refine pf_9_8 dX9_load_42 kw_606 (by decide) ?_
    refine ev_sub hQ (fun S6 hS6 hQ => ?_)
    refine ev_E.goal (pc' := 45) (L' := [some (ev_o 9 a)]) (K' := []) (S' := S6) ?_ rfl rfl rfl hS6
    refine ev_aload_n (ev_o 9 a) dX9_load_45 rfl rfl ?_
    refine ev_iconst (0) dX9_load_46 rfl ?_
    refine pf_9_9 dX9_load_47 kw_607 (by decide) ?_
    refine ev_sub hQ (fun S7 hS7 hQ => ?_)
    refine ev_E.goal (pc' := 50) (L' := [some (ev_o 9 a)]) (K' := []) (S' := S7) ?_ rfl rfl rfl hS7
    refine ev_aload_n (ev_o 9 a) dX9_load_50 rfl rfl ?_
    refine gf_9_10 dX9_load_51 kw_608 ?_
    refine ev_ke (((j_rk hS7 (Or.inr (by decide))).trans (j_rk hS6 (Or.inr (by decide)))).trans (j_rk hS5 (Or.inl (by omega)))) ?_
    exact ev_ireturn .int dX9_load_54 rfl rfl hQ
set_option maxHeartbeats 4000000 in
set_option maxRecDepth 100000 in
theorem sg_X9_errorPosition_0 {g : ev_G} {S : ev_S} {Q : ev_O → ev_S → Prop} (a : Nat) (hQ : Q (.inl (some (ev_i (S.1 a 11)))) S) : ev_Cv g m_X9_errorPosition 1 0 [ev_o 9 a] S Q := by
  refine ev_enter (by decide) rfl rfl (Nat.le_of_ble_eq_true rfl) ?_
  show ev_E g m_X9_errorPosition 1 0 0 [some (ev_o 9 a)] [] S Q
  refine ev_aload_n (ev_o 9 a) dX9_errorPosition_0 rfl rfl ?_
  refine gf_9_11 dX9_errorPosition_1 kw_609 ?_
  exact ev_ireturn .int dX9_errorPosition_4 rfl rfl hQ
set_option maxHeartbeats 4000000 in
set_option maxRecDepth 100000 in
theorem sp_X9_errorPosition {g : ev_G} {S : ev_S} (a : Nat)  : ev_Fn g m_X9_errorPosition 1 [ev_o 9 a] S (some (ev_i (S.1 a 11))) S := by
  intro Q hQ
  refine sg_X9_errorPosition_0 a ?_
  exact hQ
set_option maxHeartbeats 4000000 in
set_option maxRecDepth 100000 in
theorem sg_X0_size_0 {g : ev_G} {S : ev_S} {Q : ev_O → ev_S → Prop} (a : Nat) (hQ : Q (.inl (some (ev_i (S.1 a 4)))) S) : ev_Cv g m_X0_size 1 0 [ev_o 0 a] S Q := by
  refine ev_enter (by decide) rfl rfl (Nat.le_of_ble_eq_true rfl) ?_
  show ev_E g m_X0_size 1 0 0 [some (ev_o 0 a)] [] S Q
  refine ev_aload_n (ev_o 0 a) dX0_size_0 rfl rfl ?_
  refine gf_0_4 dX0_size_1 kw_154 ?_
  exact ev_ireturn .int dX0_size_4 rfl rfl hQ
set_option maxHeartbeats 4000000 in
set_option maxRecDepth 100000 in
theorem sp_X0_size {g : ev_G} {S : ev_S} (a : Nat)  : ev_Fn g m_X0_size 1 [ev_o 0 a] S (some (ev_i (S.1 a 4))) S := by
  intro Q hQ
  refine sg_X0_size_0 a ?_
  exact hQ
set_option maxHeartbeats 4000000 in
set_option maxRecDepth 100000 in
theorem sg_X9_boardSize_0 {g : ev_G} {S : ev_S} {Q : ev_O → ev_S → Prop} (a : Nat) (hQ : Q (.inl (some (ev_i (S.1 ((a_X2_deskOf (a + 11) 0) + 1) 4)))) S) : ev_Cv g m_X9_boardSize 3 0 [ev_o 9 a] S Q := by
  refine ev_enter (by decide) rfl rfl (Nat.le_of_ble_eq_true rfl) ?_
  show ev_E g m_X9_boardSize 3 0 0 [some (ev_o 9 a)] [] S Q
  refine ev_aload_n (ev_o 9 a) dX9_boardSize_0 rfl rfl ?_
  refine gf_9_3 dX9_boardSize_1 kw_601 ?_
  refine ev_iconst (0) dX9_boardSize_4 rfl ?_
  refine ev_fV mv_X2_boardOf 2 2 [ev_i 0] [] dX9_boardSize_5 kw_488 rfl (by decide) rfl (by decide) (Nat.le_of_ble_eq_true rfl) (sp_X2_boardOf (a + 11) 0) ?_ rfl
  refine ev_fV mv_X0_size 1 0 [] [] dX9_boardSize_8 kw_1239 rfl (by decide) rfl (by decide) (Nat.le_of_ble_eq_true rfl) (sp_X0_size ((a_X2_deskOf (a + 11) 0) + 1)) ?_ rfl
  exact ev_ireturn .int dX9_boardSize_11 rfl rfl hQ
set_option maxHeartbeats 4000000 in
set_option maxRecDepth 100000 in
theorem sp_X9_boardSize {g : ev_G} {S : ev_S} (a : Nat)  : ev_Fn g m_X9_boardSize 3 [ev_o 9 a] S (some (ev_i (S.1 ((a_X2_deskOf (a + 11) 0) + 1) 4))) S := by
  intro Q hQ
  refine sg_X9_boardSize_0 a ?_
  exact hQ
set_option maxHeartbeats 4000000 in
set_option maxRecDepth 100000 in
theorem sg_X0_limit_0 {g : ev_G} {S : ev_S} {Q : ev_O → ev_S → Prop} (a : Nat) (hQ : Q (.inl (some (ev_i (S.1 a 5)))) S) : ev_Cv g m_X0_limit 1 0 [ev_o 0 a] S Q := by
  refine ev_enter (by decide) rfl rfl (Nat.le_of_ble_eq_true rfl) ?_
  show ev_E g m_X0_limit 1 0 0 [some (ev_o 0 a)] [] S Q
  refine ev_aload_n (ev_o 0 a) dX0_limit_0 rfl rfl ?_
  refine gf_0_5 dX0_limit_1 kw_155 ?_
  exact ev_ireturn .int dX0_limit_4 rfl rfl hQ
set_option maxHeartbeats 4000000 in
set_option maxRecDepth 100000 in
theorem sp_X0_limit {g : ev_G} {S : ev_S} (a : Nat)  : ev_Fn g m_X0_limit 1 [ev_o 0 a] S (some (ev_i (S.1 a 5))) S := by
  intro Q hQ
  refine sg_X0_limit_0 a ?_
  exact hQ
set_option maxHeartbeats 4000000 in
set_option maxRecDepth 100000 in
theorem sg_X9_moveLimit_0 {g : ev_G} {S : ev_S} {Q : ev_O → ev_S → Prop} (a : Nat) (hQ : Q (.inl (some (ev_i (S.1 ((a_X2_deskOf (a + 11) 0) + 1) 5)))) S) : ev_Cv g m_X9_moveLimit 3 0 [ev_o 9 a] S Q := by
  refine ev_enter (by decide) rfl rfl (Nat.le_of_ble_eq_true rfl) ?_
  show ev_E g m_X9_moveLimit 3 0 0 [some (ev_o 9 a)] [] S Q
  refine ev_aload_n (ev_o 9 a) dX9_moveLimit_0 rfl rfl ?_
  refine gf_9_3 dX9_moveLimit_1 kw_601 ?_
  refine ev_iconst (0) dX9_moveLimit_4 rfl ?_
  refine ev_fV mv_X2_boardOf 2 2 [ev_i 0] [] dX9_moveLimit_5 kw_488 rfl (by decide) rfl (by decide) (Nat.le_of_ble_eq_true rfl) (sp_X2_boardOf (a + 11) 0) ?_ rfl
  refine ev_fV mv_X0_limit 1 0 [] [] dX9_moveLimit_8 kw_1244 rfl (by decide) rfl (by decide) (Nat.le_of_ble_eq_true rfl) (sp_X0_limit ((a_X2_deskOf (a + 11) 0) + 1)) ?_ rfl
  exact ev_ireturn .int dX9_moveLimit_11 rfl rfl hQ
set_option maxHeartbeats 4000000 in
set_option maxRecDepth 100000 in
theorem sp_X9_moveLimit {g : ev_G} {S : ev_S} (a : Nat)  : ev_Fn g m_X9_moveLimit 3 [ev_o 9 a] S (some (ev_i (S.1 ((a_X2_deskOf (a + 11) 0) + 1) 5))) S := by
  intro Q hQ
  refine sg_X9_moveLimit_0 a ?_
  exact hQ
set_option maxHeartbeats 4000000 in
set_option maxRecDepth 100000 in
theorem sg_X2_today_0 {g : ev_G} {S : ev_S} {Q : ev_O → ev_S → Prop} (a : Nat) (hQ : Q (.inl (some (ev_i (S.1 a 4)))) S) : ev_Cv g m_X2_today 1 0 [ev_o 2 a] S Q := by
  refine ev_enter (by decide) rfl rfl (Nat.le_of_ble_eq_true rfl) ?_
  show ev_E g m_X2_today 1 0 0 [some (ev_o 2 a)] [] S Q
  refine ev_aload_n (ev_o 2 a) dX2_today_0 rfl rfl ?_
  refine gf_2_4 dX2_today_1 kw_301 ?_
  exact ev_ireturn .int dX2_today_4 rfl rfl hQ
set_option maxHeartbeats 4000000 in
set_option maxRecDepth 100000 in
theorem sp_X2_today {g : ev_G} {S : ev_S} (a : Nat)  : ev_Fn g m_X2_today 1 [ev_o 2 a] S (some (ev_i (S.1 a 4))) S := by
  intro Q hQ
  refine sg_X2_today_0 a ?_
  exact hQ
set_option maxHeartbeats 4000000 in
set_option maxRecDepth 100000 in
theorem sg_X9_day_0 {g : ev_G} {S : ev_S} {Q : ev_O → ev_S → Prop} (a : Nat) (hQ : Q (.inl (some (ev_i (S.1 (a + 11) 4)))) S) : ev_Cv g m_X9_day 2 0 [ev_o 9 a] S Q := by
  refine ev_enter (by decide) rfl rfl (Nat.le_of_ble_eq_true rfl) ?_
  show ev_E g m_X9_day 2 0 0 [some (ev_o 9 a)] [] S Q
  refine ev_aload_n (ev_o 9 a) dX9_day_0 rfl rfl ?_
  refine gf_9_3 dX9_day_1 kw_601 ?_
  refine ev_fV mv_X2_today 1 2 [] [] dX9_day_4 kw_1170 rfl (by decide) rfl (by decide) (Nat.le_of_ble_eq_true rfl) (sp_X2_today (a + 11)) ?_ rfl
  exact ev_ireturn .int dX9_day_7 rfl rfl hQ
set_option maxHeartbeats 4000000 in
set_option maxRecDepth 100000 in
theorem sp_X9_day {g : ev_G} {S : ev_S} (a : Nat)  : ev_Fn g m_X9_day 2 [ev_o 9 a] S (some (ev_i (S.1 (a + 11) 4))) S := by
  intro Q hQ
  refine sg_X9_day_0 a ?_
  exact hQ
set_option maxHeartbeats 4000000 in
set_option maxRecDepth 100000 in
theorem sg_X9_monthOf_0 {g : ev_G} {S : ev_S} {Q : ev_O → ev_S → Prop} (x0 : Int32) (hQ : Q (.inl (some (ev_i (ev_rem (x0 / 30) 12)))) S) : ev_Cv g m_X9_monthOf 1 0 [ev_i x0] S Q := by
  refine ev_enter (by decide) rfl rfl (Nat.le_of_ble_eq_true rfl) ?_
  show ev_E g m_X9_monthOf 1 0 0 [some (ev_i x0)] [] S Q
  refine ev_iload_n (x0) dX9_monthOf_0 rfl ?_
  refine ev_bipush (30) dX9_monthOf_1 (by decide) ?_
  refine ev_idiv dX9_monthOf_3 (by decide) ?_
  refine ev_bipush (12) dX9_monthOf_4 (by decide) ?_
  refine ev_irem dX9_monthOf_6 (by decide) ?_
  exact ev_ireturn .int dX9_monthOf_7 rfl rfl hQ
set_option maxHeartbeats 4000000 in
set_option maxRecDepth 100000 in
theorem sp_X9_monthOf {g : ev_G} {S : ev_S} (x0 : Int32)  : ev_Fn g m_X9_monthOf 1 [ev_i x0] S (some (ev_i (ev_rem (x0 / 30) 12))) S := by
  intro Q hQ
  refine sg_X9_monthOf_0 x0 ?_
  exact hQ
set_option maxHeartbeats 4000000 in
set_option maxRecDepth 100000 in
theorem sg_X9_month_0 {g : ev_G} {S : ev_S} {Q : ev_O → ev_S → Prop} (a : Nat) (hQ : Q (.inl (some (ev_i (ev_rem ((S.1 (a + 11) 4) / 30) 12)))) S) : ev_Cv g m_X9_month 2 0 [ev_o 9 a] S Q := by
  refine ev_enter (by decide) rfl rfl (Nat.le_of_ble_eq_true rfl) ?_
  show ev_E g m_X9_month 2 0 0 [some (ev_o 9 a)] [] S Q
  refine ev_aload_n (ev_o 9 a) dX9_month_0 rfl rfl ?_
  refine gf_9_3 dX9_month_1 kw_601 ?_
  refine ev_fV mv_X2_today 1 2 [] [] dX9_month_4 kw_1170 rfl (by decide) rfl (by decide) (Nat.le_of_ble_eq_true rfl) (sp_X2_today (a + 11)) ?_ rfl
  refine ev_fS ms_X9_monthOf 1 [ev_i (S.1 (a + 11) 4)] [] dX9_month_7 kw_1174 rfl (by decide) (Nat.le_of_ble_eq_true rfl) (sp_X9_monthOf (S.1 (a + 11) 4)) ?_ rfl
  exact ev_ireturn .int dX9_month_10 rfl rfl hQ
set_option maxHeartbeats 4000000 in
set_option maxRecDepth 100000 in
theorem sp_X9_month {g : ev_G} {S : ev_S} (a : Nat)  : ev_Fn g m_X9_month 2 [ev_o 9 a] S (some (ev_i (ev_rem ((S.1 (a + 11) 4) / 30) 12))) S := by
  intro Q hQ
  refine sg_X9_month_0 a ?_
  exact hQ
set_option maxHeartbeats 4000000 in
set_option maxRecDepth 100000 in
theorem sg_X9_isPlayer_0 {g : ev_G} {S : ev_S} {Q : ev_O → ev_S → Prop} (x0 : Int32) (hQ : (x0 = 0 → (
    Q (.inl (some (ev_i 1))) S)) ∧
  (¬ (x0 = 0) → (
    (x0 = 1 → (
      Q (.inl (some (ev_i 1))) S)) ∧
    (¬ (x0 = 1) → (
      Q (.inl (some (ev_i 0))) S))))) : ev_Cv g m_X9_isPlayer 1 0 [ev_i x0] S Q := by
  refine ev_enter (by decide) rfl rfl (Nat.le_of_ble_eq_true rfl) ?_
  show ev_E g m_X9_isPlayer 1 0 0 [some (ev_i x0)] [] S Q
  refine ev_iload_n (x0) dX9_isPlayer_0 rfl ?_
  refine ev_if_eq 9 dX9_isPlayer_1 (by decide) (fun c1 => ?_) (fun c1 => ?_)
  · replace hQ := hQ.1 c1
    refine ev_iconst (1) dX9_isPlayer_9 rfl ?_
    refine ev_goto 14 dX9_isPlayer_10 (by decide) ?_
    exact ev_ireturn .boolean dX9_isPlayer_14 rfl rfl hQ
  · replace hQ := hQ.2 c1
    refine ev_iload_n (x0) dX9_isPlayer_4 rfl ?_
    refine ev_iconst (1) dX9_isPlayer_5 rfl ?_
    refine ev_icmp_ne 13 dX9_isPlayer_6 (by decide) (fun c2 => ?_) (fun c2 => ?_)
    · replace hQ := hQ.2 c2
      refine ev_iconst (0) dX9_isPlayer_13 rfl ?_
      exact ev_ireturn .boolean dX9_isPlayer_14 rfl rfl hQ
    · replace hQ := hQ.1 c2
      refine ev_iconst (1) dX9_isPlayer_9 rfl ?_
      refine ev_goto 14 dX9_isPlayer_10 (by decide) ?_
      exact ev_ireturn .boolean dX9_isPlayer_14 rfl rfl hQ
def t_X9_isPlayer (x0 : Int32) : Bool := if x0 = 0 then (true) else (if x0 = 1 then (true) else (false))
set_option maxHeartbeats 4000000 in
set_option maxRecDepth 100000 in
theorem sp_X9_isPlayer {g : ev_G} {S : ev_S} (x0 : Int32)  : ev_Fn g m_X9_isPlayer 1 [ev_i x0] S (some (ev_i (if (t_X9_isPlayer x0) = true then 1 else 0))) S := by
  intro Q hQ
  refine sg_X9_isPlayer_0 x0 ?_
  unfold t_X9_isPlayer at hQ
  refine ⟨fun c1 => ?_, fun c1 => ?_⟩
  · rw [if_pos c1] at hQ
    exact hQ
  · rw [if_neg c1] at hQ
    refine ⟨fun c2 => ?_, fun c2 => ?_⟩
    · rw [if_pos c2] at hQ
      exact hQ
    · rw [if_neg c2] at hQ
      exact hQ
set_option maxHeartbeats 4000000 in
set_option maxRecDepth 100000 in
theorem sg_X2_isSquare_0 {g : ev_G} {S : ev_S} {Q : ev_O → ev_S → Prop} (a : Nat) (x0 : Int32) (hQ : (x0 < 0 → (
    Q (.inl (some (ev_i 0))) S)) ∧
  (¬ (x0 < 0) → (
    (((S.1 ((a_X2_deskOf a 0) + 1) 4) * (S.1 ((a_X2_deskOf a 0) + 1) 4)) ≤ x0 → (
      Q (.inl (some (ev_i 0))) S)) ∧
    (¬ (((S.1 ((a_X2_deskOf a 0) + 1) 4) * (S.1 ((a_X2_deskOf a 0) + 1) 4)) ≤ x0) → (
      Q (.inl (some (ev_i 1))) S))))) : ev_Cv g m_X2_isSquare 3 0 [ev_o 2 a, ev_i x0] S Q := by
  refine ev_enter (by decide) rfl rfl (Nat.le_of_ble_eq_true rfl) ?_
  show ev_E g m_X2_isSquare 3 0 0 [some (ev_o 2 a), some (ev_i x0), none] [] S Q
  refine ev_aload_n (ev_o 2 a) dX2_isSquare_0 rfl rfl ?_
  refine ev_iconst (0) dX2_isSquare_1 rfl ?_
  refine ev_fV mv_X2_boardOf 2 2 [ev_i 0] [] dX2_isSquare_2 kw_961 rfl (by decide) rfl (by decide) (Nat.le_of_ble_eq_true rfl) (sp_X2_boardOf a 0) ?_ rfl
  refine ev_fV mv_X0_size 1 0 [] [] dX2_isSquare_5 kw_962 rfl (by decide) rfl (by decide) (Nat.le_of_ble_eq_true rfl) (sp_X0_size ((a_X2_deskOf a 0) + 1)) ?_ rfl
  refine ev_istore_n dX2_isSquare_8 (Nat.le_of_ble_eq_true rfl) (ev_hw rfl) ?_
  show ev_E g m_X2_isSquare 3 0 9 [some (ev_o 2 a), some (ev_i x0), some (ev_i (S.1 ((a_X2_deskOf a 0) + 1) 4))] [] S Q
  refine ev_iload_n (x0) dX2_isSquare_9 rfl ?_
  refine ev_if_lt 24 dX2_isSquare_10 (by decide) (fun c1 => ?_) (fun c1 => ?_)
  · replace hQ := hQ.1 c1
    refine ev_iconst (0) dX2_isSquare_24 rfl ?_
    exact ev_ireturn .boolean dX2_isSquare_25 rfl rfl hQ
  · replace hQ := hQ.2 c1
    refine ev_iload_n (x0) dX2_isSquare_13 rfl ?_
    refine ev_iload_n ((S.1 ((a_X2_deskOf a 0) + 1) 4)) dX2_isSquare_14 rfl ?_
    refine ev_iload_n ((S.1 ((a_X2_deskOf a 0) + 1) 4)) dX2_isSquare_15 rfl ?_
    refine ev_imul dX2_isSquare_16 ?_
    refine ev_icmp_ge 24 dX2_isSquare_17 (by decide) (fun c2 => ?_) (fun c2 => ?_)
    · replace hQ := hQ.1 c2
      refine ev_iconst (0) dX2_isSquare_24 rfl ?_
      exact ev_ireturn .boolean dX2_isSquare_25 rfl rfl hQ
    · replace hQ := hQ.2 c2
      refine ev_iconst (1) dX2_isSquare_20 rfl ?_
      refine ev_goto 25 dX2_isSquare_21 (by decide) ?_
      exact ev_ireturn .boolean dX2_isSquare_25 rfl rfl hQ
def t_X2_isSquare (S : ev_S) (a : Nat) (x0 : Int32) : Bool := if x0 < 0 then (false) else (if ((S.1 ((a_X2_deskOf a 0) + 1) 4) * (S.1 ((a_X2_deskOf a 0) + 1) 4)) ≤ x0 then (false) else (true))
set_option maxHeartbeats 4000000 in
set_option maxRecDepth 100000 in
theorem sp_X2_isSquare {g : ev_G} {S : ev_S} (a : Nat) (x0 : Int32)  : ev_Fn g m_X2_isSquare 3 [ev_o 2 a, ev_i x0] S (some (ev_i (if (t_X2_isSquare S a x0) = true then 1 else 0))) S := by
  intro Q hQ
  refine sg_X2_isSquare_0 a x0 ?_
  unfold t_X2_isSquare at hQ
  refine ⟨fun c1 => ?_, fun c1 => ?_⟩
  · rw [if_pos c1] at hQ
    exact hQ
  · rw [if_neg c1] at hQ
    refine ⟨fun c2 => ?_, fun c2 => ?_⟩
    · rw [if_pos c2] at hQ
      exact hQ
    · rw [if_neg c2] at hQ
      exact hQ
set_option maxHeartbeats 4000000 in
set_option maxRecDepth 100000 in
theorem sg_X9_require_0 {g : ev_G} {S : ev_S} {Q : ev_O → ev_S → Prop} (x0 : Int32) (hQ : (x0 = 0 → (
    Q (.inr 0) S)) ∧
  (¬ (x0 = 0) → (
    Q (.inl none) S))) : ev_Cv g m_X9_require 1 1 [ev_i x0] S Q := by
  refine ev_enter (by decide) rfl rfl (Nat.le_of_ble_eq_true rfl) ?_
  show ev_E g m_X9_require 1 1 0 [some (ev_i x0)] [] S Q
  refine ev_iload_n (x0) dX9_require_0 rfl ?_
  refine ev_if_ne 15 dX9_require_1 (by decide) (fun c1 => ?_) (fun c1 => ?_)
  · replace hQ := hQ.2 c1
    exact ev_return dX9_require_15 rfl hQ
  · replace hQ := hQ.1 c1
    exact ev_throwW 0 377 379 381 6 "there is no such thing" (by decide) (by decide) rfl (by decide) kw_969 kw_45 (List.mem_of_getElem? (i := 6) rfl) at_X9_381 dX9_require_4 dX9_require_7 dX9_require_8 dX9_require_11 dX9_require_14 (Nat.le_of_ble_eq_true rfl) hQ
set_option maxHeartbeats 4000000 in
set_option maxRecDepth 100000 in
theorem sg_X9_bishopOwner_0 {g : ev_G} {S : ev_S} {Q : ev_O → ev_S → Prop} (a : Nat) (x0 : Int32) (x1 : Int32) (hQ : ((t_X9_isPlayer x0) = true → (
    ((t_X2_isSquare S (a + 11) x1) = true → (
      Q (.inl (some (ev_i (j_at (S.1 ((a_X2_deskOf (a + 11) x0) + 2)) 64 x1)))) S)) ∧
    (¬ ((t_X2_isSquare S (a + 11) x1) = true) → (
      Q (.inr 0) S)))) ∧
  (¬ ((t_X9_isPlayer x0) = true) → (
    Q (.inr 0) S))) : ev_Cv g m_X9_bishopOwner 4 1 [ev_o 9 a, ev_i x0, ev_i x1] S Q := by
  refine ev_enter (by decide) rfl rfl (Nat.le_of_ble_eq_true rfl) ?_
  show ev_E g m_X9_bishopOwner 4 1 0 [some (ev_o 9 a), some (ev_i x0), some (ev_i x1)] [] S Q
  refine ev_iload_n (x0) dX9_bishopOwner_0 rfl ?_
  refine ev_fS ms_X9_isPlayer 1 [ev_i x0] [] dX9_bishopOwner_1 kw_954 rfl (by decide) (Nat.le_of_ble_eq_true rfl) (sp_X9_isPlayer x0) ?_ rfl
  by_cases c1 : (t_X9_isPlayer x0) = true
  · rw [if_pos c1]
    replace hQ := hQ.1 c1
    refine ev_if_eq 22 dX9_bishopOwner_4 (by decide) (fun h9 => absurd h9 (by decide : ¬ ((1 : Int32) = 0))) (fun _ => ?_)
    refine ev_aload_n (ev_o 9 a) dX9_bishopOwner_7 rfl rfl ?_
    refine gf_9_3 dX9_bishopOwner_8 kw_601 ?_
    refine ev_iload_n (x1) dX9_bishopOwner_11 rfl ?_
    refine ev_fV mv_X2_isSquare 3 2 [ev_i x1] [] dX9_bishopOwner_12 kw_957 rfl (by decide) rfl (by decide) (Nat.le_of_ble_eq_true rfl) (sp_X2_isSquare (a + 11) x1) ?_ rfl
    by_cases c2 : (t_X2_isSquare S (a + 11) x1) = true
    · rw [if_pos c2]
      replace hQ := hQ.1 c2
      refine ev_if_eq 22 dX9_bishopOwner_15 (by decide) (fun h9 => absurd h9 (by decide : ¬ ((1 : Int32) = 0))) (fun _ => ?_)
      refine ev_iconst (1) dX9_bishopOwner_18 rfl ?_
      refine ev_goto 23 dX9_bishopOwner_19 (by decide) ?_
      refine ev_cS ms_X9_require 1 1 [ev_i 1] [] dX9_bishopOwner_23 kw_966 rfl (by decide) (by decide) (Nat.le_of_ble_eq_true rfl) (Q' := fun o z => ev_After g m_X9_bishopOwner 4 (1 - 1) 23 [some (ev_o 9 a), some (ev_i x0), some (ev_i x1)] [] z Q o) (sg_X9_require_0 1 ?_) (fun o z h => h) rfl
      refine j_neg (by decide : ¬ ((1 : Int32) = 0)) ?_
      show ev_E g m_X9_bishopOwner 4 0 26 [some (ev_o 9 a), some (ev_i x0), some (ev_i x1)] [] S Q
      refine ev_aload_n (ev_o 9 a) dX9_bishopOwner_26 rfl rfl ?_
      refine gf_9_3 dX9_bishopOwner_27 kw_601 ?_
      refine ev_iload_n (x0) dX9_bishopOwner_30 rfl ?_
      refine ev_fV mv_X2_boardOf 2 2 [ev_i x0] [] dX9_bishopOwner_31 kw_488 rfl (by decide) rfl (by decide) (Nat.le_of_ble_eq_true rfl) (sp_X2_boardOf (a + 11) x0) ?_ rfl
      refine ev_iload_n (x1) dX9_bishopOwner_34 rfl ?_
      refine ev_fV mv_X0_ownerOn 2 0 [ev_i x1] [] dX9_bishopOwner_35 kw_509 rfl (by decide) rfl (by decide) (Nat.le_of_ble_eq_true rfl) (sp_X0_ownerOn ((a_X2_deskOf (a + 11) x0) + 1) x1) ?_ rfl
      exact ev_ireturn .int dX9_bishopOwner_38 rfl rfl hQ
    · rw [if_neg c2]
      replace hQ := hQ.2 c2
      refine ev_if_eq 22 dX9_bishopOwner_15 (by decide) (fun _ => ?_) (fun h9 => absurd (by decide : ((0 : Int32) = 0)) h9)
      refine ev_iconst (0) dX9_bishopOwner_22 rfl ?_
      refine ev_cS ms_X9_require 1 1 [ev_i 0] [] dX9_bishopOwner_23 kw_966 rfl (by decide) (by decide) (Nat.le_of_ble_eq_true rfl) (Q' := fun o z => ev_After g m_X9_bishopOwner 4 (1 - 1) 23 [some (ev_o 9 a), some (ev_i x0), some (ev_i x1)] [] z Q o) (sg_X9_require_0 0 ?_) (fun o z h => h) rfl
      refine j_pos (by decide : ((0 : Int32) = 0)) ?_
      exact ev_T_out (by decide) rfl hQ
  · rw [if_neg c1]
    replace hQ := hQ.2 c1
    refine ev_if_eq 22 dX9_bishopOwner_4 (by decide) (fun _ => ?_) (fun h9 => absurd (by decide : ((0 : Int32) = 0)) h9)
    refine ev_iconst (0) dX9_bishopOwner_22 rfl ?_
    refine ev_cS ms_X9_require 1 1 [ev_i 0] [] dX9_bishopOwner_23 kw_966 rfl (by decide) (by decide) (Nat.le_of_ble_eq_true rfl) (Q' := fun o z => ev_After g m_X9_bishopOwner 4 (1 - 1) 23 [some (ev_o 9 a), some (ev_i x0), some (ev_i x1)] [] z Q o) (sg_X9_require_0 0 ?_) (fun o z h => h) rfl
    refine j_pos (by decide : ((0 : Int32) = 0)) ?_
    exact ev_T_out (by decide) rfl hQ
set_option maxHeartbeats 4000000 in
set_option maxRecDepth 100000 in
theorem sg_X9_bishopCount_0 {g : ev_G} {S : ev_S} {Q : ev_O → ev_S → Prop} (a : Nat) (x0 : Int32) (x1 : Int32) (hQ : ((t_X9_isPlayer x0) = true → (
    ((t_X9_isPlayer x1) = true → (
      Q (.inl (some (ev_i (j_at (S.1 ((a_X2_deskOf (a + 11) x0) + 3)) 2 x1)))) S)) ∧
    (¬ ((t_X9_isPlayer x1) = true) → (
      Q (.inr 0) S)))) ∧
  (¬ ((t_X9_isPlayer x0) = true) → (
    Q (.inr 0) S))) : ev_Cv g m_X9_bishopCount 3 1 [ev_o 9 a, ev_i x0, ev_i x1] S Q := by
  refine ev_enter (by decide) rfl rfl (Nat.le_of_ble_eq_true rfl) ?_
  show ev_E g m_X9_bishopCount 3 1 0 [some (ev_o 9 a), some (ev_i x0), some (ev_i x1)] [] S Q
  refine ev_iload_n (x0) dX9_bishopCount_0 rfl ?_
  refine ev_fS ms_X9_isPlayer 1 [ev_i x0] [] dX9_bishopCount_1 kw_954 rfl (by decide) (Nat.le_of_ble_eq_true rfl) (sp_X9_isPlayer x0) ?_ rfl
  by_cases c1 : (t_X9_isPlayer x0) = true
  · rw [if_pos c1]
    replace hQ := hQ.1 c1
    refine ev_if_eq 18 dX9_bishopCount_4 (by decide) (fun h9 => absurd h9 (by decide : ¬ ((1 : Int32) = 0))) (fun _ => ?_)
    refine ev_iload_n (x1) dX9_bishopCount_7 rfl ?_
    refine ev_fS ms_X9_isPlayer 1 [ev_i x1] [] dX9_bishopCount_8 kw_954 rfl (by decide) (Nat.le_of_ble_eq_true rfl) (sp_X9_isPlayer x1) ?_ rfl
    by_cases c2 : (t_X9_isPlayer x1) = true
    · rw [if_pos c2]
      replace hQ := hQ.1 c2
      refine ev_if_eq 18 dX9_bishopCount_11 (by decide) (fun h9 => absurd h9 (by decide : ¬ ((1 : Int32) = 0))) (fun _ => ?_)
      refine ev_iconst (1) dX9_bishopCount_14 rfl ?_
      refine ev_goto 19 dX9_bishopCount_15 (by decide) ?_
      refine ev_cS ms_X9_require 1 1 [ev_i 1] [] dX9_bishopCount_19 kw_966 rfl (by decide) (by decide) (Nat.le_of_ble_eq_true rfl) (Q' := fun o z => ev_After g m_X9_bishopCount 3 (1 - 1) 19 [some (ev_o 9 a), some (ev_i x0), some (ev_i x1)] [] z Q o) (sg_X9_require_0 1 ?_) (fun o z h => h) rfl
      refine j_neg (by decide : ¬ ((1 : Int32) = 0)) ?_
      show ev_E g m_X9_bishopCount 3 0 22 [some (ev_o 9 a), some (ev_i x0), some (ev_i x1)] [] S Q
      refine ev_aload_n (ev_o 9 a) dX9_bishopCount_22 rfl rfl ?_
      refine gf_9_3 dX9_bishopCount_23 kw_601 ?_
      refine ev_iload_n (x0) dX9_bishopCount_26 rfl ?_
      refine ev_fV mv_X2_boardOf 2 2 [ev_i x0] [] dX9_bishopCount_27 kw_488 rfl (by decide) rfl (by decide) (Nat.le_of_ble_eq_true rfl) (sp_X2_boardOf (a + 11) x0) ?_ rfl
      refine ev_iload_n (x1) dX9_bishopCount_30 rfl ?_
      refine ev_fV mv_X0_bishopsOf 2 0 [ev_i x1] [] dX9_bishopCount_31 kw_500 rfl (by decide) rfl (by decide) (Nat.le_of_ble_eq_true rfl) (sp_X0_bishopsOf ((a_X2_deskOf (a + 11) x0) + 1) x1) ?_ rfl
      exact ev_ireturn .int dX9_bishopCount_34 rfl rfl hQ
    · rw [if_neg c2]
      replace hQ := hQ.2 c2
      refine ev_if_eq 18 dX9_bishopCount_11 (by decide) (fun _ => ?_) (fun h9 => absurd (by decide : ((0 : Int32) = 0)) h9)
      refine ev_iconst (0) dX9_bishopCount_18 rfl ?_
      refine ev_cS ms_X9_require 1 1 [ev_i 0] [] dX9_bishopCount_19 kw_966 rfl (by decide) (by decide) (Nat.le_of_ble_eq_true rfl) (Q' := fun o z => ev_After g m_X9_bishopCount 3 (1 - 1) 19 [some (ev_o 9 a), some (ev_i x0), some (ev_i x1)] [] z Q o) (sg_X9_require_0 0 ?_) (fun o z h => h) rfl
      refine j_pos (by decide : ((0 : Int32) = 0)) ?_
      exact ev_T_out (by decide) rfl hQ
  · rw [if_neg c1]
    replace hQ := hQ.2 c1
    refine ev_if_eq 18 dX9_bishopCount_4 (by decide) (fun _ => ?_) (fun h9 => absurd (by decide : ((0 : Int32) = 0)) h9)
    refine ev_iconst (0) dX9_bishopCount_18 rfl ?_
    refine ev_cS ms_X9_require 1 1 [ev_i 0] [] dX9_bishopCount_19 kw_966 rfl (by decide) (by decide) (Nat.le_of_ble_eq_true rfl) (Q' := fun o z => ev_After g m_X9_bishopCount 3 (1 - 1) 19 [some (ev_o 9 a), some (ev_i x0), some (ev_i x1)] [] z Q o) (sg_X9_require_0 0 ?_) (fun o z h => h) rfl
    refine j_pos (by decide : ((0 : Int32) = 0)) ?_
    exact ev_T_out (by decide) rfl hQ
set_option maxHeartbeats 4000000 in
set_option maxRecDepth 100000 in
theorem sg_X0_made_0 {g : ev_G} {S : ev_S} {Q : ev_O → ev_S → Prop} (a : Nat) (hQ : Q (.inl (some (ev_i (S.1 a 6)))) S) : ev_Cv g m_X0_made 1 0 [ev_o 0 a] S Q := by
  refine ev_enter (by decide) rfl rfl (Nat.le_of_ble_eq_true rfl) ?_
  show ev_E g m_X0_made 1 0 0 [some (ev_o 0 a)] [] S Q
  refine ev_aload_n (ev_o 0 a) dX0_made_0 rfl rfl ?_
  refine gf_0_6 dX0_made_1 kw_156 ?_
  exact ev_ireturn .int dX0_made_4 rfl rfl hQ
set_option maxHeartbeats 4000000 in
set_option maxRecDepth 100000 in
theorem sp_X0_made {g : ev_G} {S : ev_S} (a : Nat)  : ev_Fn g m_X0_made 1 [ev_o 0 a] S (some (ev_i (S.1 a 6))) S := by
  intro Q hQ
  refine sg_X0_made_0 a ?_
  exact hQ
set_option maxHeartbeats 4000000 in
set_option maxRecDepth 100000 in
theorem sg_X9_moveCount_0 {g : ev_G} {S : ev_S} {Q : ev_O → ev_S → Prop} (a : Nat) (x0 : Int32) (hQ : ((t_X9_isPlayer x0) = true → (
    Q (.inl (some (ev_i (S.1 ((a_X2_deskOf (a + 11) x0) + 1) 6)))) S)) ∧
  (¬ ((t_X9_isPlayer x0) = true) → (
    Q (.inr 0) S))) : ev_Cv g m_X9_moveCount 3 1 [ev_o 9 a, ev_i x0] S Q := by
  refine ev_enter (by decide) rfl rfl (Nat.le_of_ble_eq_true rfl) ?_
  show ev_E g m_X9_moveCount 3 1 0 [some (ev_o 9 a), some (ev_i x0)] [] S Q
  refine ev_iload_n (x0) dX9_moveCount_0 rfl ?_
  refine ev_fS ms_X9_isPlayer 1 [ev_i x0] [] dX9_moveCount_1 kw_954 rfl (by decide) (Nat.le_of_ble_eq_true rfl) (sp_X9_isPlayer x0) ?_ rfl
  by_cases c1 : (t_X9_isPlayer x0) = true
  · rw [if_pos c1]
    replace hQ := hQ.1 c1
    refine ev_cS ms_X9_require 1 1 [ev_i 1] [] dX9_moveCount_4 kw_966 rfl (by decide) (by decide) (Nat.le_of_ble_eq_true rfl) (Q' := fun o z => ev_After g m_X9_moveCount 3 (1 - 1) 4 [some (ev_o 9 a), some (ev_i x0)] [] z Q o) (sg_X9_require_0 1 ?_) (fun o z h => h) rfl
    refine j_neg (by decide : ¬ ((1 : Int32) = 0)) ?_
    show ev_E g m_X9_moveCount 3 0 7 [some (ev_o 9 a), some (ev_i x0)] [] S Q
    refine ev_aload_n (ev_o 9 a) dX9_moveCount_7 rfl rfl ?_
    refine gf_9_3 dX9_moveCount_8 kw_601 ?_
    refine ev_iload_n (x0) dX9_moveCount_11 rfl ?_
    refine ev_fV mv_X2_boardOf 2 2 [ev_i x0] [] dX9_moveCount_12 kw_488 rfl (by decide) rfl (by decide) (Nat.le_of_ble_eq_true rfl) (sp_X2_boardOf (a + 11) x0) ?_ rfl
    refine ev_fV mv_X0_made 1 0 [] [] dX9_moveCount_15 kw_1049 rfl (by decide) rfl (by decide) (Nat.le_of_ble_eq_true rfl) (sp_X0_made ((a_X2_deskOf (a + 11) x0) + 1)) ?_ rfl
    exact ev_ireturn .int dX9_moveCount_18 rfl rfl hQ
  · rw [if_neg c1]
    replace hQ := hQ.2 c1
    refine ev_cS ms_X9_require 1 1 [ev_i 0] [] dX9_moveCount_4 kw_966 rfl (by decide) (by decide) (Nat.le_of_ble_eq_true rfl) (Q' := fun o z => ev_After g m_X9_moveCount 3 (1 - 1) 4 [some (ev_o 9 a), some (ev_i x0)] [] z Q o) (sg_X9_require_0 0 ?_) (fun o z h => h) rfl
    refine j_pos (by decide : ((0 : Int32) = 0)) ?_
    exact ev_T_out (by decide) rfl hQ
