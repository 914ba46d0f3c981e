set_option maxHeartbeats 4000000 in
set_option maxRecDepth 100000 in
theorem sg_X10_moving_0 {g : ev_G} {S : ev_S} {Q : ev_O → ev_S → Prop} (a : Nat) (x0 : Int32) (x1 : Int32) (x2 : Int32) (x3 : Int32) (hQ : ((t_X10_in x0 0 1) = true → (
    ((t_X10_in x1 0 (((S.1 (a + 1) 0) * (S.1 (a + 1) 0)) - 1)) = true → (
      ((t_X10_in x2 0 (((S.1 (a + 1) 0) * (S.1 (a + 1) 0)) - 1)) = true → (
        ((t_X10_in x3 0 ((S.1 (a + 1) 3) - 1)) = true → (
          ((S.1 a 7) = 0 → (
            ev_Cv g m_X10_turnOf 4 0 [ev_o 10 a, ev_i x0] S (fun o S1 => ∃ v1_ : Bool, o = .inl (some (ev_i (if v1_ = true then 1 else 0))) ∧ (
              (v1_ = true → (
                (80 ≤ (S1.1 (a + 1) 4) → (
                  ((S1.1 a 7) = 0 → (
                    ∀ S2 : ev_S, S2 = (ev_up S1 a 7 2) → (
                      Q (.inl (some (ev_i 0))) S2))) ∧
                  (¬ ((S1.1 a 7) = 0) → (
                    Q (.inl (some (ev_i 0))) S1)))) ∧
                (¬ (80 ≤ (S1.1 (a + 1) 4)) → (
                  ((S1.1 a 7) = 0 → (
                    ev_Cv g m_X10_moves 3 0 [ev_o 10 a, ev_i x0, ev_i x0, ev_i x1, ev_i x2] S1 (fun o S3 => ∃ v2_ : Bool, o = .inl (some (ev_i (if v2_ = true then 1 else 0))) ∧ (
                      (v2_ = true → (
                        ((S3.1 a 7) = 0 → (
                          ev_Cv g m_X10_changes 2 0 [ev_o 10 a] S3 (fun o S4 => o = .inl none ∧ (
                            (vp_in ((12 + (7 * x0)) + 0) 2091) ∧ (
                              ev_Cv g m_X10_applies 3 0 [ev_o 10 a, ev_i x0, ev_i x1, ev_i x2] S4 (fun o S5 => o = .inl none ∧ (
                                ev_Cv g m_X10_posts 2 0 [ev_o 10 a, ev_i x0, ev_i x3, ev_i 0, ev_i ((S4.1 (a + 1) ((12 + (7 * x0)) + 0).toNatClampNeg) + 1), ev_i x1, ev_i x2] S5 (fun o S6 => ∃ v5_ : Int32, o = .inl (some (ev_i v5_)) ∧ (
                                  ev_Cv g m_X10_appliesAll 4 0 [ev_o 10 a, ev_i x0] S6 (fun o S7 => o = .inl none ∧ (
                                    Q (.inl (some (ev_i ((S4.1 (a + 1) ((12 + (7 * x0)) + 0).toNatClampNeg) + 1)))) S7))))))))))) ∧
                        (¬ ((S3.1 a 7) = 0) → (
                          Q (.inl (some (ev_i 0))) S3)))) ∧
                      (¬ (v2_ = true) → (
                        ((S3.1 a 7) = 0 → (
                          ∀ S8 : ev_S, S8 = (ev_up S3 a 7 3) → (
                            Q (.inl (some (ev_i 0))) S8))) ∧
                        (¬ ((S3.1 a 7) = 0) → (
                          Q (.inl (some (ev_i 0))) S3)))))))) ∧
                  (¬ ((S1.1 a 7) = 0) → (
                    Q (.inl (some (ev_i 0))) S1)))))) ∧
              (¬ (v1_ = true) → (
                ((S1.1 a 7) = 0 → (
                  ∀ S9 : ev_S, S9 = (ev_up S1 a 7 2) → (
                    Q (.inl (some (ev_i 0))) S9))) ∧
                (¬ ((S1.1 a 7) = 0) → (
                  Q (.inl (some (ev_i 0))) S1)))))))) ∧
          (¬ ((S.1 a 7) = 0) → (
            Q (.inl (some (ev_i 0))) S)))) ∧
        (¬ ((t_X10_in x3 0 ((S.1 (a + 1) 3) - 1)) = true) → (
          ((S.1 a 7) = 0 → (
            ∀ S10 : ev_S, S10 = (ev_up S a 7 1) → (
              Q (.inl (some (ev_i 0))) S10))) ∧
          (¬ ((S.1 a 7) = 0) → (
            Q (.inl (some (ev_i 0))) S)))))) ∧
      (¬ ((t_X10_in x2 0 (((S.1 (a + 1) 0) * (S.1 (a + 1) 0)) - 1)) = true) → (
        ((S.1 a 7) = 0 → (
          ∀ S11 : ev_S, S11 = (ev_up S a 7 1) → (
            Q (.inl (some (ev_i 0))) S11))) ∧
        (¬ ((S.1 a 7) = 0) → (
          Q (.inl (some (ev_i 0))) S)))))) ∧
    (¬ ((t_X10_in x1 0 (((S.1 (a + 1) 0) * (S.1 (a + 1) 0)) - 1)) = true) → (
      ((S.1 a 7) = 0 → (
        ∀ S12 : ev_S, S12 = (ev_up S a 7 1) → (
          Q (.inl (some (ev_i 0))) S12))) ∧
      (¬ ((S.1 a 7) = 0) → (
        Q (.inl (some (ev_i 0))) S)))))) ∧
  (¬ ((t_X10_in x0 0 1) = true) → (
    ((S.1 a 7) = 0 → (
      ∀ S13 : ev_S, S13 = (ev_up S a 7 1) → (
        Q (.inl (some (ev_i 0))) S13))) ∧
    (¬ ((S.1 a 7) = 0) → (
      Q (.inl (some (ev_i 0))) S))))) : ev_Cv g m_X10_moving 5 0 [ev_o 10 a, ev_i x0, ev_i x1, ev_i x2, ev_i x3] S Q := by
  refine ev_enter (by decide) rfl rfl (Nat.le_of_ble_eq_true rfl) ?_
  show ev_E g m_X10_moving 5 0 0 [some (ev_o 10 a), some (ev_i x0), some (ev_i x1), some (ev_i x2), some (ev_i x3), none, none] [] S Q
  refine ev_aload_n (ev_o 10 a) dX10_moving_0 rfl rfl ?_
  refine ev_iload_n (x0) dX10_moving_1 rfl ?_
  refine ev_fS ms_X10_isPlayer 2 [ev_i x0] [ev_o 10 a] dX10_moving_2 kw_2029 rfl (by decide) (Nat.le_of_ble_eq_true rfl) (sp_X10_isPlayer x0) ?_ rfl
  by_cases c1 : (t_X10_in x0 0 1) = true
  · rw [if_pos c1]
    replace hQ := hQ.1 c1
    refine ev_if_eq 37 dX10_moving_5 (by decide) (fun h9 => absurd h9 (by decide : ¬ ((1 : Int32) = 0))) (fun _ => ?_)
    refine ev_aload_n (ev_o 10 a) dX10_moving_8 rfl rfl ?_
    refine ev_iload_n (x1) dX10_moving_9 rfl ?_
    refine ev_fV mv_X10_isSquare 2 10 [ev_i x1] [ev_o 10 a] dX10_moving_10 kw_2032 rfl (by decide) rfl (by decide) (Nat.le_of_ble_eq_true rfl) (sp_X10_isSquare a x1) ?_ rfl
    by_cases c2 : (t_X10_in x1 0 (((S.1 (a + 1) 0) * (S.1 (a + 1) 0)) - 1)) = true
    · rw [if_pos c2]
      replace hQ := hQ.1 c2
      refine ev_if_eq 37 dX10_moving_13 (by decide) (fun h9 => absurd h9 (by decide : ¬ ((1 : Int32) = 0))) (fun _ => ?_)
      refine ev_aload_n (ev_o 10 a) dX10_moving_16 rfl rfl ?_
      refine ev_iload_n (x2) dX10_moving_17 rfl ?_
      refine ev_fV mv_X10_isSquare 2 10 [ev_i x2] [ev_o 10 a] dX10_moving_18 kw_2032 rfl (by decide) rfl (by decide) (Nat.le_of_ble_eq_true rfl) (sp_X10_isSquare a x2) ?_ rfl
      by_cases c3 : (t_X10_in x2 0 (((S.1 (a + 1) 0) * (S.1 (a + 1) 0)) - 1)) = true
      · rw [if_pos c3]
        replace hQ := hQ.1 c3
        refine ev_if_eq 37 dX10_moving_21 (by decide) (fun h9 => absurd h9 (by decide : ¬ ((1 : Int32) = 0))) (fun _ => ?_)
        refine ev_aload_n (ev_o 10 a) dX10_moving_24 rfl rfl ?_
        refine ev_iload (x3) dX10_moving_25 rfl ?_
        refine ev_fV mv_X10_isPass 2 10 [ev_i x3] [ev_o 10 a] dX10_moving_27 kw_2036 rfl (by decide) rfl (by decide) (Nat.le_of_ble_eq_true rfl) (sp_X10_isPass a x3) ?_ rfl
        by_cases c4 : (t_X10_in x3 0 ((S.1 (a + 1) 3) - 1)) = true
        · rw [if_pos c4]
          replace hQ := hQ.1 c4
          refine ev_if_eq 37 dX10_moving_30 (by decide) (fun h9 => absurd h9 (by decide : ¬ ((1 : Int32) = 0))) (fun _ => ?_)
          refine ev_iconst (1) dX10_moving_33 rfl ?_
          refine ev_goto 38 dX10_moving_34 (by decide) ?_
          refine ev_iconst (1) dX10_moving_38 rfl ?_
          refine ev_cV mv_X10_right 1 0 10 [ev_i 1, ev_i 1] [] dX10_moving_39 kw_1951 rfl (by decide) rfl (by decide) (by decide) (Nat.le_of_ble_eq_true rfl) (Q' := fun o z => ev_After g m_X10_moving 5 (0 - 0) 39 [some (ev_o 10 a), some (ev_i x0), some (ev_i x1), some (ev_i x2), some (ev_i x3), none, none] [] z Q o) (sg_X10_right_0 a 1 1 ?_) (fun o z h => h) rfl
          refine ⟨fun c5 => ?_, fun c5 => ?_⟩
          · replace hQ := hQ.1 c5
            refine j_neg (by decide : ¬ ((1 : Int32) = 0)) ?_
            show ev_E g m_X10_moving 5 0 42 [some (ev_o 10 a), some (ev_i x0), some (ev_i x1), some (ev_i x2), some (ev_i x3), none, none] [ev_i 1] S Q
            refine ev_if_eq 93 dX10_moving_42 (by decide) (fun h9 => absurd h9 (by decide : ¬ ((1 : Int32) = 0))) (fun _ => ?_)
            refine ev_aload_n (ev_o 10 a) dX10_moving_45 rfl rfl ?_
            refine ev_aload_n (ev_o 10 a) dX10_moving_46 rfl rfl ?_
            refine ev_iload_n (x0) dX10_moving_47 rfl ?_
            refine ev_cV mv_X10_turnOf 4 0 10 [ev_i x0] [ev_o 10 a] dX10_moving_48 kw_2040 rfl (by decide) rfl (by decide) (by decide) (Nat.le_of_ble_eq_true rfl) hQ ?_ rfl
            rintro o S1 ⟨v1_, rfl, hQ⟩
            show ev_E g m_X10_moving 5 0 51 [some (ev_o 10 a), some (ev_i x0), some (ev_i x1), some (ev_i x2), some (ev_i x3), none, none] [ev_i (if v1_ = true then 1 else 0), ev_o 10 a] S1 Q
            by_cases c6 : v1_ = true
            · rw [if_pos c6]
              replace hQ := hQ.1 c6
              refine ev_if_eq 69 dX10_moving_51 (by decide) (fun h9 => absurd h9 (by decide : ¬ ((1 : Int32) = 0))) (fun _ => ?_)
              refine ev_aload_n (ev_o 10 a) dX10_moving_54 rfl rfl ?_
              refine gf_10_0 dX10_moving_55 kw_1853 ?_
              refine ev_iconst (4) dX10_moving_58 rfl ?_
              refine ev_iaload dX10_moving_59 (j_vin (by decide)) ?_
              refine ev_bipush (80) dX10_moving_60 (by decide) ?_
              refine ev_icmp_ge 69 dX10_moving_62 (by decide) (fun c7 => ?_) (fun c7 => ?_)
              · replace hQ := hQ.1 c7
                refine ev_iconst (0) dX10_moving_69 rfl ?_
                refine ev_iconst (2) dX10_moving_70 rfl ?_
                refine ev_cV mv_X10_right 1 0 10 [ev_i 0, ev_i 2] [] dX10_moving_71 kw_1951 rfl (by decide) rfl (by decide) (by decide) (Nat.le_of_ble_eq_true rfl) (Q' := fun o z => ev_After g m_X10_moving 5 (0 - 0) 71 [some (ev_o 10 a), some (ev_i x0), some (ev_i x1), some (ev_i x2), some (ev_i x3), none, none] [] z Q o) (sg_X10_right_0 a 0 2 ?_) (fun o z h => h) rfl
                refine ⟨fun c8 => ?_, fun c8 => ?_⟩
                · replace hQ := hQ.1 c8
                  refine j_pos (by decide : ((0 : Int32) = 0)) ?_
                  intro S2 hS2
                  refine ev_sub1 hQ hS2 (fun hQ => ?_)
                  refine j_neg (by decide : ¬ ((2 : Int32) = 0)) ?_
                  show ev_E g m_X10_moving 5 0 74 [some (ev_o 10 a), some (ev_i x0), some (ev_i x1), some (ev_i x2), some (ev_i x3), none, none] [ev_i 0] S2 Q
                  refine ev_if_eq 93 dX10_moving_74 (by decide) (fun _ => ?_) (fun h9 => absurd (by decide : ((0 : Int32) = 0)) h9)
                  refine ev_iconst (0) dX10_moving_93 rfl ?_
                  exact ev_ireturn .int dX10_moving_94 rfl rfl hQ
                · replace hQ := hQ.2 c8
                  show ev_E g m_X10_moving 5 0 74 [some (ev_o 10 a), some (ev_i x0), some (ev_i x1), some (ev_i x2), some (ev_i x3), none, none] [ev_i 0] S1 Q
                  refine ev_if_eq 93 dX10_moving_74 (by decide) (fun _ => ?_) (fun h9 => absurd (by decide : ((0 : Int32) = 0)) h9)
                  refine ev_iconst (0) dX10_moving_93 rfl ?_
                  exact ev_ireturn .int dX10_moving_94 rfl rfl hQ
              · replace hQ := hQ.2 c7
                refine ev_iconst (1) dX10_moving_65 rfl ?_
                refine ev_goto 70 dX10_moving_66 (by decide) ?_
                refine ev_iconst (2) dX10_moving_70 rfl ?_
                refine ev_cV mv_X10_right 1 0 10 [ev_i 1, ev_i 2] [] dX10_moving_71 kw_1951 rfl (by decide) rfl (by decide) (by decide) (Nat.le_of_ble_eq_true rfl) (Q' := fun o z => ev_After g m_X10_moving 5 (0 - 0) 71 [some (ev_o 10 a), some (ev_i x0), some (ev_i x1), some (ev_i x2), some (ev_i x3), none, none] [] z Q o) (sg_X10_right_0 a 1 2 ?_) (fun o z h => h) rfl
                refine ⟨fun c9 => ?_, fun c9 => ?_⟩
                · replace hQ := hQ.1 c9
                  refine j_neg (by decide : ¬ ((1 : Int32) = 0)) ?_
                  show ev_E g m_X10_moving 5 0 74 [some (ev_o 10 a), some (ev_i x0), some (ev_i x1), some (ev_i x2), some (ev_i x3), none, none] [ev_i 1] S1 Q
                  refine ev_if_eq 93 dX10_moving_74 (by decide) (fun h9 => absurd h9 (by decide : ¬ ((1 : Int32) = 0))) (fun _ => ?_)
                  refine ev_aload_n (ev_o 10 a) dX10_moving_77 rfl rfl ?_
                  refine ev_aload_n (ev_o 10 a) dX10_moving_78 rfl rfl ?_
                  refine ev_iload_n (x0) dX10_moving_79 rfl ?_
                  refine ev_iload_n (x0) dX10_moving_80 rfl ?_
                  refine ev_iload_n (x1) dX10_moving_81 rfl ?_
                  refine ev_iload_n (x2) dX10_moving_82 rfl ?_
                  refine ev_cV mv_X10_moves 3 0 10 [ev_i x0, ev_i x0, ev_i x1, ev_i x2] [ev_o 10 a] dX10_moving_83 kw_2059 rfl (by decide) rfl (by decide) (by decide) (Nat.le_of_ble_eq_true rfl) hQ ?_ rfl
                  rintro o S3 ⟨v2_, rfl, hQ⟩
                  show ev_E g m_X10_moving 5 0 86 [some (ev_o 10 a), some (ev_i x0), some (ev_i x1), some (ev_i x2), some (ev_i x3), none, none] [ev_i (if v2_ = true then 1 else 0), ev_o 10 a] S3 Q
                  by_cases c10 : v2_ = true
                  · rw [if_pos c10]
                    replace hQ := hQ.1 c10
                    refine ev_iconst (3) dX10_moving_86 rfl ?_
                    refine ev_cV mv_X10_right 1 0 10 [ev_i 1, ev_i 3] [] dX10_moving_87 kw_1951 rfl (by decide) rfl (by decide) (by decide) (Nat.le_of_ble_eq_true rfl) (Q' := fun o z => ev_After g m_X10_moving 5 (0 - 0) 87 [some (ev_o 10 a), some (ev_i x0), some (ev_i x1), some (ev_i x2), some (ev_i x3), none, none] [] z Q o) (sg_X10_right_0 a 1 3 ?_) (fun o z h => h) rfl
                    refine ⟨fun c11 => ?_, fun c11 => ?_⟩
                    · replace hQ := hQ.1 c11
                      refine j_neg (by decide : ¬ ((1 : Int32) = 0)) ?_
                      show ev_E g m_X10_moving 5 0 90 [some (ev_o 10 a), some (ev_i x0), some (ev_i x1), some (ev_i x2), some (ev_i x3), none, none] [ev_i 1] S3 Q
                      refine ev_if_ne 95 dX10_moving_90 (by decide) (fun _ => ?_) (fun h9 => absurd h9 (by decide : ¬ ((1 : Int32) = 0)))
                      refine ev_aload_n (ev_o 10 a) dX10_moving_95 rfl rfl ?_
                      refine ev_cV mv_X10_changes 2 0 10 [] [] dX10_moving_96 kw_2068 rfl (by decide) rfl (by decide) (by decide) (Nat.le_of_ble_eq_true rfl) hQ ?_ rfl
                      rintro o S4 ⟨rfl, hQ⟩
                      show ev_E g m_X10_moving 5 0 99 [some (ev_o 10 a), some (ev_i x0), some (ev_i x1), some (ev_i x2), some (ev_i x3), none, none] [] S4 Q
                      refine ev_aload_n (ev_o 10 a) dX10_moving_99 rfl rfl ?_
                      refine ev_iload_n (x0) dX10_moving_100 rfl ?_
                      obtain ⟨h1, hQ⟩ := hQ
                      refine ev_fV mv_X10_nextNumber 2 10 [ev_i x0] [] dX10_moving_101 kw_2052 rfl (by decide) rfl (by decide) (Nat.le_of_ble_eq_true rfl) (sp_X10_nextNumber a x0 h1) ?_ rfl
                      refine ev_istore dX10_moving_104 (Nat.le_of_ble_eq_true rfl) (ev_hw rfl) ?_
                      show ev_E g m_X10_moving 5 0 106 [some (ev_o 10 a), some (ev_i x0), some (ev_i x1), some (ev_i x2), some (ev_i x3), some (ev_i ((S4.1 (a + 1) ((12 + (7 * x0)) + 0).toNatClampNeg) + 1)), none] [] S4 Q
                      refine ev_aload_n (ev_o 10 a) dX10_moving_106 rfl rfl ?_
                      refine ev_iload_n (x0) dX10_moving_107 rfl ?_
                      refine ev_iload_n (x1) dX10_moving_108 rfl ?_
                      refine ev_iload_n (x2) dX10_moving_109 rfl ?_
                      refine ev_cV mv_X10_applies 3 0 10 [ev_i x0, ev_i x1, ev_i x2] [] dX10_moving_110 kw_2072 rfl (by decide) rfl (by decide) (by decide) (Nat.le_of_ble_eq_true rfl) hQ ?_ rfl
                      rintro o S5 ⟨rfl, hQ⟩
                      show ev_E g m_X10_moving 5 0 113 [some (ev_o 10 a), some (ev_i x0), some (ev_i x1), some (ev_i x2), some (ev_i x3), some (ev_i ((S4.1 (a + 1) ((12 + (7 * x0)) + 0).toNatClampNeg) + 1)), none] [] S5 Q
                      refine ev_aload_n (ev_o 10 a) dX10_moving_113 rfl rfl ?_
                      refine ev_iload_n (x0) dX10_moving_114 rfl ?_
                      refine ev_iload (x3) dX10_moving_115 rfl ?_
                      refine ev_iconst (0) dX10_moving_117 rfl ?_
                      refine ev_iload (((S4.1 (a + 1) ((12 + (7 * x0)) + 0).toNatClampNeg) + 1)) dX10_moving_118 rfl ?_
                      refine ev_iload_n (x1) dX10_moving_120 rfl ?_
                      refine ev_iload_n (x2) dX10_moving_121 rfl ?_
                      refine ev_cV mv_X10_posts 2 0 10 [ev_i x0, ev_i x3, ev_i 0, ev_i ((S4.1 (a + 1) ((12 + (7 * x0)) + 0).toNatClampNeg) + 1), ev_i x1, ev_i x2] [] dX10_moving_122 kw_2081 rfl (by decide) rfl (by decide) (by decide) (Nat.le_of_ble_eq_true rfl) hQ ?_ rfl
                      rintro o S6 ⟨v5_, rfl, hQ⟩
                      show ev_E g m_X10_moving 5 0 125 [some (ev_o 10 a), some (ev_i x0), some (ev_i x1), some (ev_i x2), some (ev_i x3), some (ev_i ((S4.1 (a + 1) ((12 + (7 * x0)) + 0).toNatClampNeg) + 1)), none] [ev_i v5_] S6 Q
                      refine ev_istore dX10_moving_125 (Nat.le_of_ble_eq_true rfl) (ev_hw rfl) ?_
                      show ev_E g m_X10_moving 5 0 127 [some (ev_o 10 a), some (ev_i x0), some (ev_i x1), some (ev_i x2), some (ev_i x3), some (ev_i ((S4.1 (a + 1) ((12 + (7 * x0)) + 0).toNatClampNeg) + 1)), some (ev_i v5_)] [] S6 Q
                      refine ev_aload_n (ev_o 10 a) dX10_moving_127 rfl rfl ?_
                      refine ev_iload_n (x0) dX10_moving_128 rfl ?_
                      refine ev_cV mv_X10_appliesAll 4 0 10 [ev_i x0] [] dX10_moving_129 kw_2089 rfl (by decide) rfl (by decide) (by decide) (Nat.le_of_ble_eq_true rfl) hQ ?_ rfl
                      rintro o S7 ⟨rfl, hQ⟩
                      show ev_E g m_X10_moving 5 0 132 [some (ev_o 10 a), some (ev_i x0), some (ev_i x1), some (ev_i x2), some (ev_i x3), some (ev_i ((S4.1 (a + 1) ((12 + (7 * x0)) + 0).toNatClampNeg) + 1)), some (ev_i v5_)] [] S7 Q
                      refine ev_iload (((S4.1 (a + 1) ((12 + (7 * x0)) + 0).toNatClampNeg) + 1)) dX10_moving_132 rfl ?_
                      exact ev_ireturn .int dX10_moving_134 rfl rfl hQ
                    · replace hQ := hQ.2 c11
                      show ev_E g m_X10_moving 5 0 90 [some (ev_o 10 a), some (ev_i x0), some (ev_i x1), some (ev_i x2), some (ev_i x3), none, none] [ev_i 0] S3 Q
                      refine ev_if_ne 95 dX10_moving_90 (by decide) (fun h9 => absurd (by decide : ((0 : Int32) = 0)) h9) (fun _ => ?_)
                      refine ev_iconst (0) dX10_moving_93 rfl ?_
                      exact ev_ireturn .int dX10_moving_94 rfl rfl hQ
                  · rw [if_neg c10]
                    replace hQ := hQ.2 c10
                    refine ev_iconst (3) dX10_moving_86 rfl ?_
                    refine ev_cV mv_X10_right 1 0 10 [ev_i 0, ev_i 3] [] dX10_moving_87 kw_1951 rfl (by decide) rfl (by decide) (by decide) (Nat.le_of_ble_eq_true rfl) (Q' := fun o z => ev_After g m_X10_moving 5 (0 - 0) 87 [some (ev_o 10 a), some (ev_i x0), some (ev_i x1), some (ev_i x2), some (ev_i x3), none, none] [] z Q o) (sg_X10_right_0 a 0 3 ?_) (fun o z h => h) rfl
                    refine ⟨fun c12 => ?_, fun c12 => ?_⟩
                    · replace hQ := hQ.1 c12
                      refine j_pos (by decide : ((0 : Int32) = 0)) ?_
                      intro S8 hS8
                      refine ev_sub1 hQ hS8 (fun hQ => ?_)
                      refine j_neg (by decide : ¬ ((3 : Int32) = 0)) ?_
                      show ev_E g m_X10_moving 5 0 90 [some (ev_o 10 a), some (ev_i x0), some (ev_i x1), some (ev_i x2), some (ev_i x3), none, none] [ev_i 0] S8 Q
                      refine ev_if_ne 95 dX10_moving_90 (by decide) (fun h9 => absurd (by decide : ((0 : Int32) = 0)) h9) (fun _ => ?_)
                      refine ev_iconst (0) dX10_moving_93 rfl ?_
                      exact ev_ireturn .int dX10_moving_94 rfl rfl hQ
                    · replace hQ := hQ.2 c12
                      show ev_E g m_X10_moving 5 0 90 [some (ev_o 10 a), some (ev_i x0), some (ev_i x1), some (ev_i x2), some (ev_i x3), none, none] [ev_i 0] S3 Q
                      refine ev_if_ne 95 dX10_moving_90 (by decide) (fun h9 => absurd (by decide : ((0 : Int32) = 0)) h9) (fun _ => ?_)
                      refine ev_iconst (0) dX10_moving_93 rfl ?_
                      exact ev_ireturn .int dX10_moving_94 rfl rfl hQ
                · replace hQ := hQ.2 c9
                  show ev_E g m_X10_moving 5 0 74 [some (ev_o 10 a), some (ev_i x0), some (ev_i x1), some (ev_i x2), some (ev_i x3), none, none] [ev_i 0] S1 Q
                  refine ev_if_eq 93 dX10_moving_74 (by decide) (fun _ => ?_) (fun h9 => absurd (by decide : ((0 : Int32) = 0)) h9)
                  refine ev_iconst (0) dX10_moving_93 rfl ?_
                  exact ev_ireturn .int dX10_moving_94 rfl rfl hQ
            · rw [if_neg c6]
              replace hQ := hQ.2 c6
              refine ev_if_eq 69 dX10_moving_51 (by decide) (fun _ => ?_) (fun h9 => absurd (by decide : ((0 : Int32) = 0)) h9)
              refine ev_iconst (0) dX10_moving_69 rfl ?_
              refine ev_iconst (2) dX10_moving_70 rfl ?_
              refine ev_cV mv_X10_right 1 0 10 [ev_i 0, ev_i 2] [] dX10_moving_71 kw_1951 rfl (by decide) rfl (by decide) (by decide) (Nat.le_of_ble_eq_true rfl) (Q' := fun o z => ev_After g m_X10_moving 5 (0 - 0) 71 [some (ev_o 10 a), some (ev_i x0), some (ev_i x1), some (ev_i x2), some (ev_i x3), none, none] [] z Q o) (sg_X10_right_0 a 0 2 ?_) (fun o z h => h) rfl
              refine ⟨fun c13 => ?_, fun c13 => ?_⟩
              · replace hQ := hQ.1 c13
                refine j_pos (by decide : ((0 : Int32) = 0)) ?_
                intro S9 hS9
                refine ev_sub1 hQ hS9 (fun hQ => ?_)
                refine j_neg (by decide : ¬ ((2 : Int32) = 0)) ?_
                show ev_E g m_X10_moving 5 0 74 [some (ev_o 10 a), some (ev_i x0), some (ev_i x1), some (ev_i x2), some (ev_i x3), none, none] [ev_i 0] S9 Q
                refine ev_if_eq 93 dX10_moving_74 (by decide) (fun _ => ?_) (fun h9 => absurd (by decide : ((0 : Int32) = 0)) h9)
                refine ev_iconst (0) dX10_moving_93 rfl ?_
                exact ev_ireturn .int dX10_moving_94 rfl rfl hQ
              · replace hQ := hQ.2 c13
                show ev_E g m_X10_moving 5 0 74 [some (ev_o 10 a), some (ev_i x0), some (ev_i x1), some (ev_i x2), some (ev_i x3), none, none] [ev_i 0] S1 Q
                refine ev_if_eq 93 dX10_moving_74 (by decide) (fun _ => ?_) (fun h9 => absurd (by decide : ((0 : Int32) = 0)) h9)
                refine ev_iconst (0) dX10_moving_93 rfl ?_
                exact ev_ireturn .int dX10_moving_94 rfl rfl hQ
          · replace hQ := hQ.2 c5
            show ev_E g m_X10_moving 5 0 42 [some (ev_o 10 a), some (ev_i x0), some (ev_i x1), some (ev_i x2), some (ev_i x3), none, none] [ev_i 0] S Q
            refine ev_if_eq 93 dX10_moving_42 (by decide) (fun _ => ?_) (fun h9 => absurd (by decide : ((0 : Int32) = 0)) h9)
            refine ev_iconst (0) dX10_moving_93 rfl ?_
            exact ev_ireturn .int dX10_moving_94 rfl rfl hQ
        · rw [if_neg c4]
          replace hQ := hQ.2 c4
          refine ev_if_eq 37 dX10_moving_30 (by decide) (fun _ => ?_) (fun h9 => absurd (by decide : ((0 : Int32) = 0)) h9)
          refine ev_iconst (0) dX10_moving_37 rfl ?_
          refine ev_iconst (1) dX10_moving_38 rfl ?_
          refine ev_cV mv_X10_right 1 0 10 [ev_i 0, ev_i 1] [] dX10_moving_39 kw_1951 rfl (by decide) rfl (by decide) (by decide) (Nat.le_of_ble_eq_true rfl) (Q' := fun o z => ev_After g m_X10_moving 5 (0 - 0) 39 [some (ev_o 10 a), some (ev_i x0), some (ev_i x1), some (ev_i x2), some (ev_i x3), none, none] [] z Q o) (sg_X10_right_0 a 0 1 ?_) (fun o z h => h) rfl
          refine ⟨fun c14 => ?_, fun c14 => ?_⟩
          · replace hQ := hQ.1 c14
            refine j_pos (by decide : ((0 : Int32) = 0)) ?_
            intro S10 hS10
            refine ev_sub1 hQ hS10 (fun hQ => ?_)
            refine j_neg (by decide : ¬ ((1 : Int32) = 0)) ?_
            show ev_E g m_X10_moving 5 0 42 [some (ev_o 10 a), some (ev_i x0), some (ev_i x1), some (ev_i x2), some (ev_i x3), none, none] [ev_i 0] S10 Q
            refine ev_if_eq 93 dX10_moving_42 (by decide) (fun _ => ?_) (fun h9 => absurd (by decide : ((0 : Int32) = 0)) h9)
            refine ev_iconst (0) dX10_moving_93 rfl ?_
            exact ev_ireturn .int dX10_moving_94 rfl rfl hQ
          · replace hQ := hQ.2 c14
            show ev_E g m_X10_moving 5 0 42 [some (ev_o 10 a), some (ev_i x0), some (ev_i x1), some (ev_i x2), some (ev_i x3), none, none] [ev_i 0] S Q
            refine ev_if_eq 93 dX10_moving_42 (by decide) (fun _ => ?_) (fun h9 => absurd (by decide : ((0 : Int32) = 0)) h9)
            refine ev_iconst (0) dX10_moving_93 rfl ?_
            exact ev_ireturn .int dX10_moving_94 rfl rfl hQ
      · rw [if_neg c3]
        replace hQ := hQ.2 c3
        refine ev_if_eq 37 dX10_moving_21 (by decide) (fun _ => ?_) (fun h9 => absurd (by decide : ((0 : Int32) = 0)) h9)
        refine ev_iconst (0) dX10_moving_37 rfl ?_
        refine ev_iconst (1) dX10_moving_38 rfl ?_
        refine ev_cV mv_X10_right 1 0 10 [ev_i 0, ev_i 1] [] dX10_moving_39 kw_1951 rfl (by decide) rfl (by decide) (by decide) (Nat.le_of_ble_eq_true rfl) (Q' := fun o z => ev_After g m_X10_moving 5 (0 - 0) 39 [some (ev_o 10 a), some (ev_i x0), some (ev_i x1), some (ev_i x2), some (ev_i x3), none, none] [] z Q o) (sg_X10_right_0 a 0 1 ?_) (fun o z h => h) rfl
        refine ⟨fun c15 => ?_, fun c15 => ?_⟩
        · replace hQ := hQ.1 c15
          refine j_pos (by decide : ((0 : Int32) = 0)) ?_
          intro S11 hS11
          refine ev_sub1 hQ hS11 (fun hQ => ?_)
          refine j_neg (by decide : ¬ ((1 : Int32) = 0)) ?_
          show ev_E g m_X10_moving 5 0 42 [some (ev_o 10 a), some (ev_i x0), some (ev_i x1), some (ev_i x2), some (ev_i x3), none, none] [ev_i 0] S11 Q
          refine ev_if_eq 93 dX10_moving_42 (by decide) (fun _ => ?_) (fun h9 => absurd (by decide : ((0 : Int32) = 0)) h9)
          refine ev_iconst (0) dX10_moving_93 rfl ?_
          exact ev_ireturn .int dX10_moving_94 rfl rfl hQ
        · replace hQ := hQ.2 c15
          show ev_E g m_X10_moving 5 0 42 [some (ev_o 10 a), some (ev_i x0), some (ev_i x1), some (ev_i x2), some (ev_i x3), none, none] [ev_i 0] S Q
          refine ev_if_eq 93 dX10_moving_42 (by decide) (fun _ => ?_) (fun h9 => absurd (by decide : ((0 : Int32) = 0)) h9)
          refine ev_iconst (0) dX10_moving_93 rfl ?_
          exact ev_ireturn .int dX10_moving_94 rfl rfl hQ
    · rw [if_neg c2]
      replace hQ := hQ.2 c2
      refine ev_if_eq 37 dX10_moving_13 (by decide) (fun _ => ?_) (fun h9 => absurd (by decide : ((0 : Int32) = 0)) h9)
      refine ev_iconst (0) dX10_moving_37 rfl ?_
      refine ev_iconst (1) dX10_moving_38 rfl ?_
      refine ev_cV mv_X10_right 1 0 10 [ev_i 0, ev_i 1] [] dX10_moving_39 kw_1951 rfl (by decide) rfl (by decide) (by decide) (Nat.le_of_ble_eq_true rfl) (Q' := fun o z => ev_After g m_X10_moving 5 (0 - 0) 39 [some (ev_o 10 a), some (ev_i x0), some (ev_i x1), some (ev_i x2), some (ev_i x3), none, none] [] z Q o) (sg_X10_right_0 a 0 1 ?_) (fun o z h => h) rfl
      refine ⟨fun c16 => ?_, fun c16 => ?_⟩
      · replace hQ := hQ.1 c16
        refine j_pos (by decide : ((0 : Int32) = 0)) ?_
        intro S12 hS12
        refine ev_sub1 hQ hS12 (fun hQ => ?_)
        refine j_neg (by decide : ¬ ((1 : Int32) = 0)) ?_
        show ev_E g m_X10_moving 5 0 42 [some (ev_o 10 a), some (ev_i x0), some (ev_i x1), some (ev_i x2), some (ev_i x3), none, none] [ev_i 0] S12 Q
        refine ev_if_eq 93 dX10_moving_42 (by decide) (fun _ => ?_) (fun h9 => absurd (by decide : ((0 : Int32) = 0)) h9)
        refine ev_iconst (0) dX10_moving_93 rfl ?_
        exact ev_ireturn .int dX10_moving_94 rfl rfl hQ
      · replace hQ := hQ.2 c16
        show ev_E g m_X10_moving 5 0 42 [some (ev_o 10 a), some (ev_i x0), some (ev_i x1), some (ev_i x2), some (ev_i x3), none, none] [ev_i 0] S Q
        refine ev_if_eq 93 dX10_moving_42 (by decide) (fun _ => ?_) (fun h9 => absurd (by decide : ((0 : Int32) = 0)) h9)
        refine ev_iconst (0) dX10_moving_93 rfl ?_
        exact ev_ireturn .int dX10_moving_94 rfl rfl hQ
  · rw [if_neg c1]
    replace hQ := hQ.2 c1
    refine ev_if_eq 37 dX10_moving_5 (by decide) (fun _ => ?_) (fun h9 => absurd (by decide : ((0 : Int32) = 0)) h9)
    refine ev_iconst (0) dX10_moving_37 rfl ?_
    refine ev_iconst (1) dX10_moving_38 rfl ?_
    refine ev_cV mv_X10_right 1 0 10 [ev_i 0, ev_i 1] [] dX10_moving_39 kw_1951 rfl (by decide) rfl (by decide) (by decide) (Nat.le_of_ble_eq_true rfl) (Q' := fun o z => ev_After g m_X10_moving 5 (0 - 0) 39 [some (ev_o 10 a), some (ev_i x0), some (ev_i x1), some (ev_i x2), some (ev_i x3), none, none] [] z Q o) (sg_X10_right_0 a 0 1 ?_) (fun o z h => h) rfl
    refine ⟨fun c17 => ?_, fun c17 => ?_⟩
    · replace hQ := hQ.1 c17
      refine j_pos (by decide : ((0 : Int32) = 0)) ?_
      intro S13 hS13
      refine ev_sub1 hQ hS13 (fun hQ => ?_)
      refine j_neg (by decide : ¬ ((1 : Int32) = 0)) ?_
      show ev_E g m_X10_moving 5 0 42 [some (ev_o 10 a), some (ev_i x0), some (ev_i x1), some (ev_i x2), some (ev_i x3), none, none] [ev_i 0] S13 Q
      refine ev_if_eq 93 dX10_moving_42 (by decide) (fun _ => ?_) (fun h9 => absurd (by decide : ((0 : Int32) = 0)) h9)
      refine ev_iconst (0) dX10_moving_93 rfl ?_
      exact ev_ireturn .int dX10_moving_94 rfl rfl hQ
    · replace hQ := hQ.2 c17
      show ev_E g m_X10_moving 5 0 42 [some (ev_o 10 a), some (ev_i x0), some (ev_i x1), some (ev_i x2), some (ev_i x3), none, none] [ev_i 0] S Q
      refine ev_if_eq 93 dX10_moving_42 (by decide) (fun _ => ?_) (fun h9 => absurd (by decide : ((0 : Int32) = 0)) h9)
      refine ev_iconst (0) dX10_moving_93 rfl ?_
      exact ev_ireturn .int dX10_moving_94 rfl rfl hQ
set_option maxHeartbeats 4000000 in
set_option maxRecDepth 100000 in
theorem sg_X10_areMoves_0 {g : ev_G} {S : ev_S} {Q : ev_O → ev_S → Prop} (a : Nat) (x0 : Int32) (x1 : Int32) (x2 : Int32) (x3 : Int32) (x4 : Int32) (hQ : ev_Cv g m_X10_moves 3 0 [ev_o 10 a, ev_i x0, ev_i (1 - x0), ev_i x1, ev_i x2] S (fun o S1 => ∃ v1_ : Bool, o = .inl (some (ev_i (if v1_ = true then 1 else 0))) ∧ (
    (v1_ = true → (
      (vp_in ((12 + (7 * x0)) + 0) 2091) ∧ (
        (((S1.1 (a + 1) ((12 + (7 * x0)) + 0).toNatClampNeg) + 1) = (S1.1 (a + 1) 1) → (
          Q (.inl (some (ev_i 0))) S1)) ∧
        (¬ (((S1.1 (a + 1) ((12 + (7 * x0)) + 0).toNatClampNeg) + 1) = (S1.1 (a + 1) 1)) → (
          (vp_in ((26 + (64 * x0)) + x1) 2091) ∧ (
            ∀ S2 : ev_S, S2 = (ev_up S1 a 24 (S1.1 (a + 1) ((26 + (64 * x0)) + x1).toNatClampNeg)) → (
              (vp_in ((26 + (64 * x0)) + x2) 2091) ∧ (
                ∀ S3 : ev_S, S3 = (ev_up S2 a 25 (S1.1 (a + 1) ((26 + (64 * x0)) + x2).toNatClampNeg)) → (
                  ∀ S4 : ev_S, S4 = (ev_up S3 (a + 1) ((26 + (64 * x0)) + x2).toNatClampNeg (S1.1 (a + 1) ((26 + (64 * x0)) + x1).toNatClampNeg)) → (
                    ∀ S5 : ev_S, S5 = (ev_up S4 (a + 1) ((26 + (64 * x0)) + x1).toNatClampNeg (-1)) → (
                      ev_Cv g m_X10_bishopsOf 2 0 [ev_o 10 a, ev_i x0, ev_i x0] S5 (fun o S6 => ∃ v2_ : Int32, o = .inl (some (ev_i v2_)) ∧ (
                        (v2_ ≤ 0 → (
                          ∀ S7 : ev_S, S7 = (ev_up S6 (a + 1) ((26 + (64 * x0)) + x1).toNatClampNeg (S6.1 a 24)) → (
                            ∀ S8 : ev_S, S8 = (ev_up S7 (a + 1) ((26 + (64 * x0)) + x2).toNatClampNeg (S6.1 a 25)) → (
                              Q (.inl (some (ev_i 0))) S8)))) ∧
                        (¬ (v2_ ≤ 0) → (
                          ev_Cv g m_X10_moves 3 0 [ev_o 10 a, ev_i x0, ev_i x0, ev_i x3, ev_i x4] S6 (fun o S9 => ∃ v3_ : Bool, o = .inl (some (ev_i (if v3_ = true then 1 else 0))) ∧ (
                            (v3_ = true → (
                              ∀ S10 : ev_S, S10 = (ev_up S9 (a + 1) ((26 + (64 * x0)) + x1).toNatClampNeg (S9.1 a 24)) → (
                                ∀ S11 : ev_S, S11 = (ev_up S10 (a + 1) ((26 + (64 * x0)) + x2).toNatClampNeg (S9.1 a 25)) → (
                                  Q (.inl (some (ev_i 1))) S11)))) ∧
                            (¬ (v3_ = true) → (
                              ∀ S12 : ev_S, S12 = (ev_up S9 (a + 1) ((26 + (64 * x0)) + x1).toNatClampNeg (S9.1 a 24)) → (
                                ∀ S13 : ev_S, S13 = (ev_up S12 (a + 1) ((26 + (64 * x0)) + x2).toNatClampNeg (S9.1 a 25)) → (
                                  Q (.inl (some (ev_i 0))) S13))))))))))))))))))))) ∧
    (¬ (v1_ = true) → (
      Q (.inl (some (ev_i 0))) S1))))) : ev_Cv g m_X10_areMoves 4 0 [ev_o 10 a, ev_i x0, ev_i x1, ev_i x2, ev_i x3, ev_i x4] S Q := by
  refine ev_enter (by decide) rfl rfl (Nat.le_of_ble_eq_true rfl) ?_
  show ev_E g m_X10_areMoves 4 0 0 [some (ev_o 10 a), some (ev_i x0), some (ev_i x1), some (ev_i x2), some (ev_i x3), some (ev_i x4), none] [] S Q
  refine ev_aload_n (ev_o 10 a) dX10_areMoves_0 rfl rfl ?_
  refine ev_iload_n (x0) dX10_areMoves_1 rfl ?_
  refine ev_iconst (1) dX10_areMoves_2 rfl ?_
  refine ev_iload_n (x0) dX10_areMoves_3 rfl ?_
  refine ev_isub dX10_areMoves_4 ?_
  refine ev_iload_n (x1) dX10_areMoves_5 rfl ?_
  refine ev_iload_n (x2) dX10_areMoves_6 rfl ?_
  refine ev_cV mv_X10_moves 3 0 10 [ev_i x0, ev_i (1 - x0), ev_i x1, ev_i x2] [] dX10_areMoves_7 kw_2059 rfl (by decide) rfl (by decide) (by decide) (Nat.le_of_ble_eq_true rfl) hQ ?_ rfl
  rintro o S1 ⟨v1_, rfl, hQ⟩
  show ev_E g m_X10_areMoves 4 0 10 [some (ev_o 10 a), some (ev_i x0), some (ev_i x1), some (ev_i x2), some (ev_i x3), some (ev_i x4), none] [ev_i (if v1_ = true then 1 else 0)] S1 Q
  by_cases c1 : v1_ = true
  · rw [if_pos c1]
    replace hQ := hQ.1 c1
    refine ev_if_eq 27 dX10_areMoves_10 (by decide) (fun h9 => absurd h9 (by decide : ¬ ((1 : Int32) = 0))) (fun _ => ?_)
    refine ev_aload_n (ev_o 10 a) dX10_areMoves_13 rfl rfl ?_
    refine ev_iload_n (x0) dX10_areMoves_14 rfl ?_
    obtain ⟨h1, hQ⟩ := hQ
    refine ev_fV mv_X10_nextNumber 2 10 [ev_i x0] [] dX10_areMoves_15 kw_2052 rfl (by decide) rfl (by decide) (Nat.le_of_ble_eq_true rfl) (sp_X10_nextNumber a x0 h1) ?_ rfl
    refine ev_aload_n (ev_o 10 a) dX10_areMoves_18 rfl rfl ?_
    refine gf_10_0 dX10_areMoves_19 kw_1853 ?_
    refine ev_iconst (1) dX10_areMoves_22 rfl ?_
    refine ev_iaload dX10_areMoves_23 (j_vin (by decide)) ?_
    refine ev_icmp_ne 29 dX10_areMoves_24 (by decide) (fun c2 => ?_) (fun c2 => ?_)
    · replace hQ := hQ.2 c2
      refine ev_aload_n (ev_o 10 a) dX10_areMoves_29 rfl rfl ?_
      refine ev_aload_n (ev_o 10 a) dX10_areMoves_30 rfl rfl ?_
      refine ev_iload_n (x0) dX10_areMoves_31 rfl ?_
      refine ev_iload_n (x1) dX10_areMoves_32 rfl ?_
      obtain ⟨h2, hQ⟩ := hQ
      refine ev_fV mv_X10_owner 1 10 [ev_i x0, ev_i x1] [ev_o 10 a] dX10_areMoves_33 kw_1831 rfl (by decide) rfl (by decide) (Nat.le_of_ble_eq_true rfl) (sp_X10_owner a x0 x1 h2) ?_ rfl
      refine pf_10_24 dX10_areMoves_36 kw_1877 ?_
      refine ev_sub hQ (fun S2 hS2 hQ => ?_)
      refine ev_E.goal (pc' := 39) (L' := [some (ev_o 10 a), some (ev_i x0), some (ev_i x1), some (ev_i x2), some (ev_i x3), some (ev_i x4), none]) (K' := []) (S' := S2) ?_ rfl rfl rfl hS2
      refine ev_aload_n (ev_o 10 a) dX10_areMoves_39 rfl rfl ?_
      refine ev_aload_n (ev_o 10 a) dX10_areMoves_40 rfl rfl ?_
      refine ev_iload_n (x0) dX10_areMoves_41 rfl ?_
      refine ev_iload_n (x2) dX10_areMoves_42 rfl ?_
      obtain ⟨h3, hQ⟩ := hQ
      refine ev_fV mv_X10_owner 1 10 [ev_i x0, ev_i x2] [ev_o 10 a] dX10_areMoves_43 kw_1831 rfl (by decide) rfl (by decide) (Nat.le_of_ble_eq_true rfl) (sp_X10_owner a x0 x2 h3) ?_ rfl
      refine ev_ke (j_rk hS2 (Or.inl (by omega))) ?_
      refine pf_10_25 dX10_areMoves_46 kw_1878 ?_
      refine ev_sub hQ (fun S3 hS3 hQ => ?_)
      refine ev_E.goal (pc' := 49) (L' := [some (ev_o 10 a), some (ev_i x0), some (ev_i x1), some (ev_i x2), some (ev_i x3), some (ev_i x4), none]) (K' := []) (S' := S3) ?_ rfl rfl rfl hS3
      refine ev_aload_n (ev_o 10 a) dX10_areMoves_49 rfl rfl ?_
      refine ev_iload_n (x0) dX10_areMoves_50 rfl ?_
      refine ev_iload_n (x2) dX10_areMoves_51 rfl ?_
      refine ev_aload_n (ev_o 10 a) dX10_areMoves_52 rfl rfl ?_
      refine gf_10_24 dX10_areMoves_53 kw_1877 ?_
      refine ev_ke ((j_rk hS3 (Or.inr (by decide))).trans (j_rs hS2)) ?_
      refine ev_fVn mv_X10_lays 1 10 [ev_i x0, ev_i x2, ev_i (S1.1 (a + 1) ((26 + (64 * x0)) + x1).toNatClampNeg)] [] dX10_areMoves_56 kw_1835 rfl (by decide) rfl (by decide) (Nat.le_of_ble_eq_true rfl) (sp_X10_lays a x0 x2 (S1.1 (a + 1) ((26 + (64 * x0)) + x1).toNatClampNeg) h3) ?_ rfl
      refine ev_sub hQ (fun S4 hS4 hQ => ?_)
      refine ev_E.goal (pc' := 59) (L' := [some (ev_o 10 a), some (ev_i x0), some (ev_i x1), some (ev_i x2), some (ev_i x3), some (ev_i x4), none]) (K' := []) (S' := S4) ?_ rfl rfl rfl hS4
      refine ev_aload_n (ev_o 10 a) dX10_areMoves_59 rfl rfl ?_
      refine ev_iload_n (x0) dX10_areMoves_60 rfl ?_
      refine ev_iload_n (x1) dX10_areMoves_61 rfl ?_
      refine ev_iconst (-1) dX10_areMoves_62 rfl ?_
      refine ev_fVn mv_X10_lays 1 10 [ev_i x0, ev_i x1, ev_i (-1)] [] dX10_areMoves_63 kw_1835 rfl (by decide) rfl (by decide) (Nat.le_of_ble_eq_true rfl) (sp_X10_lays a x0 x1 (-1) h2) ?_ rfl
      refine ev_sub hQ (fun S5 hS5 hQ => ?_)
      refine ev_E.goal (pc' := 66) (L' := [some (ev_o 10 a), some (ev_i x0), some (ev_i x1), some (ev_i x2), some (ev_i x3), some (ev_i x4), none]) (K' := []) (S' := S5) ?_ rfl rfl rfl hS5
      refine ev_aload_n (ev_o 10 a) dX10_areMoves_66 rfl rfl ?_
      refine ev_iload_n (x0) dX10_areMoves_67 rfl ?_
      refine ev_iload_n (x0) dX10_areMoves_68 rfl ?_
      refine ev_cV mv_X10_bishopsOf 2 0 10 [ev_i x0, ev_i x0] [] dX10_areMoves_69 kw_1823 rfl (by decide) rfl (by decide) (by decide) (Nat.le_of_ble_eq_true rfl) hQ ?_ rfl
      rintro o S6 ⟨v2_, rfl, hQ⟩
      show ev_E g m_X10_areMoves 4 0 72 [some (ev_o 10 a), some (ev_i x0), some (ev_i x1), some (ev_i x2), some (ev_i x3), some (ev_i x4), none] [ev_i v2_] S6 Q
      refine ev_if_le 92 dX10_areMoves_72 (by decide) (fun c3 => ?_) (fun c3 => ?_)
      · replace hQ := hQ.1 c3
        refine ev_iconst (0) dX10_areMoves_92 rfl ?_
        refine ev_istore dX10_areMoves_93 (Nat.le_of_ble_eq_true rfl) (ev_hw rfl) ?_
        show ev_E g m_X10_areMoves 4 0 95 [some (ev_o 10 a), some (ev_i x0), some (ev_i x1), some (ev_i x2), some (ev_i x3), some (ev_i x4), some (ev_i 0)] [] S6 Q
        refine ev_aload_n (ev_o 10 a) dX10_areMoves_95 rfl rfl ?_
        refine ev_iload_n (x0) dX10_areMoves_96 rfl ?_
        refine ev_iload_n (x1) dX10_areMoves_97 rfl ?_
        refine ev_aload_n (ev_o 10 a) dX10_areMoves_98 rfl rfl ?_
        refine gf_10_24 dX10_areMoves_99 kw_1877 ?_
        refine ev_fVn mv_X10_lays 1 10 [ev_i x0, ev_i x1, ev_i (S6.1 a 24)] [] dX10_areMoves_102 kw_1835 rfl (by decide) rfl (by decide) (Nat.le_of_ble_eq_true rfl) (sp_X10_lays a x0 x1 (S6.1 a 24) h2) ?_ rfl
        refine ev_sub hQ (fun S7 hS7 hQ => ?_)
        refine ev_E.goal (pc' := 105) (L' := [some (ev_o 10 a), some (ev_i x0), some (ev_i x1), some (ev_i x2), some (ev_i x3), some (ev_i x4), some (ev_i 0)]) (K' := []) (S' := S7) ?_ rfl rfl rfl hS7
        refine ev_aload_n (ev_o 10 a) dX10_areMoves_105 rfl rfl ?_
        refine ev_iload_n (x0) dX10_areMoves_106 rfl ?_
        refine ev_iload_n (x2) dX10_areMoves_107 rfl ?_
        refine ev_aload_n (ev_o 10 a) dX10_areMoves_108 rfl rfl ?_
        refine gf_10_25 dX10_areMoves_109 kw_1878 ?_
        refine ev_ke (j_rk hS7 (Or.inl (by omega))) ?_
        refine ev_fVn mv_X10_lays 1 10 [ev_i x0, ev_i x2, ev_i (S6.1 a 25)] [] dX10_areMoves_112 kw_1835 rfl (by decide) rfl (by decide) (Nat.le_of_ble_eq_true rfl) (sp_X10_lays a x0 x2 (S6.1 a 25) h3) ?_ rfl
        refine ev_sub hQ (fun S8 hS8 hQ => ?_)
        refine ev_E.goal (pc' := 115) (L' := [some (ev_o 10 a), some (ev_i x0), some (ev_i x1), some (ev_i x2), some (ev_i x3), some (ev_i x4), some (ev_i 0)]) (K' := []) (S' := S8) ?_ rfl rfl rfl hS8
        refine ev_iload (0) dX10_areMoves_115 rfl ?_
        exact ev_ireturn .boolean dX10_areMoves_117 rfl rfl hQ
      · replace hQ := hQ.2 c3
        refine ev_aload_n (ev_o 10 a) dX10_areMoves_75 rfl rfl ?_
        refine ev_iload_n (x0) dX10_areMoves_76 rfl ?_
        refine ev_iload_n (x0) dX10_areMoves_77 rfl ?_
        refine ev_iload (x3) dX10_areMoves_78 rfl ?_
        refine ev_iload (x4) dX10_areMoves_80 rfl ?_
        refine ev_cV mv_X10_moves 3 0 10 [ev_i x0, ev_i x0, ev_i x3, ev_i x4] [] dX10_areMoves_82 kw_2059 rfl (by decide) rfl (by decide) (by decide) (Nat.le_of_ble_eq_true rfl) hQ ?_ rfl
        rintro o S9 ⟨v3_, rfl, hQ⟩
        show ev_E g m_X10_areMoves 4 0 85 [some (ev_o 10 a), some (ev_i x0), some (ev_i x1), some (ev_i x2), some (ev_i x3), some (ev_i x4), none] [ev_i (if v3_ = true then 1 else 0)] S9 Q
        by_cases c4 : v3_ = true
        · rw [if_pos c4]
          replace hQ := hQ.1 c4
          refine ev_if_eq 92 dX10_areMoves_85 (by decide) (fun h9 => absurd h9 (by decide : ¬ ((1 : Int32) = 0))) (fun _ => ?_)
          refine ev_iconst (1) dX10_areMoves_88 rfl ?_
          refine ev_goto 93 dX10_areMoves_89 (by decide) ?_
          refine ev_istore dX10_areMoves_93 (Nat.le_of_ble_eq_true rfl) (ev_hw rfl) ?_
          show ev_E g m_X10_areMoves 4 0 95 [some (ev_o 10 a), some (ev_i x0), some (ev_i x1), some (ev_i x2), some (ev_i x3), some (ev_i x4), some (ev_i 1)] [] S9 Q
          refine ev_aload_n (ev_o 10 a) dX10_areMoves_95 rfl rfl ?_
          refine ev_iload_n (x0) dX10_areMoves_96 rfl ?_
          refine ev_iload_n (x1) dX10_areMoves_97 rfl ?_
          refine ev_aload_n (ev_o 10 a) dX10_areMoves_98 rfl rfl ?_
          refine gf_10_24 dX10_areMoves_99 kw_1877 ?_
          refine ev_fVn mv_X10_lays 1 10 [ev_i x0, ev_i x1, ev_i (S9.1 a 24)] [] dX10_areMoves_102 kw_1835 rfl (by decide) rfl (by decide) (Nat.le_of_ble_eq_true rfl) (sp_X10_lays a x0 x1 (S9.1 a 24) h2) ?_ rfl
          refine ev_sub hQ (fun S10 hS10 hQ => ?_)
          refine ev_E.goal (pc' := 105) (L' := [some (ev_o 10 a), some (ev_i x0), some (ev_i x1), some (ev_i x2), some (ev_i x3), some (ev_i x4), some (ev_i 1)]) (K' := []) (S' := S10) ?_ rfl rfl rfl hS10
          refine ev_aload_n (ev_o 10 a) dX10_areMoves_105 rfl rfl ?_
          refine ev_iload_n (x0) dX10_areMoves_106 rfl ?_
          refine ev_iload_n (x2) dX10_areMoves_107 rfl ?_
          refine ev_aload_n (ev_o 10 a) dX10_areMoves_108 rfl rfl ?_
          refine gf_10_25 dX10_areMoves_109 kw_1878 ?_
          refine ev_ke (j_rk hS10 (Or.inl (by omega))) ?_
          refine ev_fVn mv_X10_lays 1 10 [ev_i x0, ev_i x2, ev_i (S9.1 a 25)] [] dX10_areMoves_112 kw_1835 rfl (by decide) rfl (by decide) (Nat.le_of_ble_eq_true rfl) (sp_X10_lays a x0 x2 (S9.1 a 25) h3) ?_ rfl
          refine ev_sub hQ (fun S11 hS11 hQ => ?_)
          refine ev_E.goal (pc' := 115) (L' := [some (ev_o 10 a), some (ev_i x0), some (ev_i x1), some (ev_i x2), some (ev_i x3), some (ev_i x4), some (ev_i 1)]) (K' := []) (S' := S11) ?_ rfl rfl rfl hS11
          refine ev_iload (1) dX10_areMoves_115 rfl ?_
          exact ev_ireturn .boolean dX10_areMoves_117 rfl rfl hQ
        · rw [if_neg c4]
          replace hQ := hQ.2 c4
          refine ev_if_eq 92 dX10_areMoves_85 (by decide) (fun _ => ?_) (fun h9 => absurd (by decide : ((0 : Int32) = 0)) h9)
          refine ev_iconst (0) dX10_areMoves_92 rfl ?_
          refine ev_istore dX10_areMoves_93 (Nat.le_of_ble_eq_true rfl) (ev_hw rfl) ?_
          show ev_E g m_X10_areMoves 4 0 95 [some (ev_o 10 a), some (ev_i x0), some (ev_i x1), some (ev_i x2), some (ev_i x3), some (ev_i x4), some (ev_i 0)] [] S9 Q
          refine ev_aload_n (ev_o 10 a) dX10_areMoves_95 rfl rfl ?_
          refine ev_iload_n (x0) dX10_areMoves_96 rfl ?_
          refine ev_iload_n (x1) dX10_areMoves_97 rfl ?_
          refine ev_aload_n (ev_o 10 a) dX10_areMoves_98 rfl rfl ?_
          refine gf_10_24 dX10_areMoves_99 kw_1877 ?_
          refine ev_fVn mv_X10_lays 1 10 [ev_i x0, ev_i x1, ev_i (S9.1 a 24)] [] dX10_areMoves_102 kw_1835 rfl (by decide) rfl (by decide) (Nat.le_of_ble_eq_true rfl) (sp_X10_lays a x0 x1 (S9.1 a 24) h2) ?_ rfl
          refine ev_sub hQ (fun S12 hS12 hQ => ?_)
          refine ev_E.goal (pc' := 105) (L' := [some (ev_o 10 a), some (ev_i x0), some (ev_i x1), some (ev_i x2), some (ev_i x3), some (ev_i x4), some (ev_i 0)]) (K' := []) (S' := S12) ?_ rfl rfl rfl hS12
          refine ev_aload_n (ev_o 10 a) dX10_areMoves_105 rfl rfl ?_
          refine ev_iload_n (x0) dX10_areMoves_106 rfl ?_
          refine ev_iload_n (x2) dX10_areMoves_107 rfl ?_
          refine ev_aload_n (ev_o 10 a) dX10_areMoves_108 rfl rfl ?_
          refine gf_10_25 dX10_areMoves_109 kw_1878 ?_
          refine ev_ke (j_rk hS12 (Or.inl (by omega))) ?_
          refine ev_fVn mv_X10_lays 1 10 [ev_i x0, ev_i x2, ev_i (S9.1 a 25)] [] dX10_areMoves_112 kw_1835 rfl (by decide) rfl (by decide) (Nat.le_of_ble_eq_true rfl) (sp_X10_lays a x0 x2 (S9.1 a 25) h3) ?_ rfl
          refine ev_sub hQ (fun S13 hS13 hQ => ?_)
          refine ev_E.goal (pc' := 115) (L' := [some (ev_o 10 a), some (ev_i x0), some (ev_i x1), some (ev_i x2), some (ev_i x3), some (ev_i x4), some (ev_i 0)]) (K' := []) (S' := S13) ?_ rfl rfl rfl hS13
          refine ev_iload (0) dX10_areMoves_115 rfl ?_
          exact ev_ireturn .boolean dX10_areMoves_117 rfl rfl hQ
    · replace hQ := hQ.1 c2
      refine ev_iconst (0) dX10_areMoves_27 rfl ?_
      exact ev_ireturn .boolean dX10_areMoves_28 rfl rfl hQ
  · rw [if_neg c1]
    replace hQ := hQ.2 c1
    refine ev_if_eq 27 dX10_areMoves_10 (by decide) (fun _ => ?_) (fun h9 => absurd (by decide : ((0 : Int32) = 0)) h9)
    refine ev_iconst (0) dX10_areMoves_27 rfl ?_
    exact ev_ireturn .boolean dX10_areMoves_28 rfl rfl hQ
set_option maxHeartbeats 4000000 in
set_option maxRecDepth 100000 in
theorem sg_X10_promising_0 {g : ev_G} {S : ev_S} {Q : ev_O → ev_S → Prop} (a : Nat) (x0 : Int32) (x1 : Int32) (x2 : Int32) (x3 : Int32) (x4 : Int32) (x5 : Int32) (hQ : ((t_X10_in x0 0 1) = true → (
    ((t_X10_in x1 0 ((S.1 (a + 1) 3) - 1)) = true → (
      ((t_X10_in x2 0 (((S.1 (a + 1) 0) * (S.1 (a + 1) 0)) - 1)) = true → (
        ((t_X10_in x3 0 (((S.1 (a + 1) 0) * (S.1 (a + 1) 0)) - 1)) = true → (
          ((t_X10_in x4 0 (((S.1 (a + 1) 0) * (S.1 (a + 1) 0)) - 1)) = true → (
            ((t_X10_in x5 0 (((S.1 (a + 1) 0) * (S.1 (a + 1) 0)) - 1)) = true → (
              ((S.1 a 7) = 0 → (
                (vp_in ((12 + (7 * x0)) + 0) 2091) ∧ (
                  ev_Cv g m_X10_overOn 3 0 [ev_o 10 a, ev_i x0] S (fun o S1 => ∃ v1_ : Bool, o = .inl (some (ev_i (if v1_ = true then 1 else 0))) ∧ (
                    (v1_ = true → (
                      ((S1.1 a 7) = 0 → (
                        ∀ S2 : ev_S, S2 = (ev_up S1 a 7 2) → (
                          Q (.inl (some (ev_i 0))) S2))) ∧
                      (¬ ((S1.1 a 7) = 0) → (
                        Q (.inl (some (ev_i 0))) S1)))) ∧
                    (¬ (v1_ = true) → (
                      ev_Cv g m_X10_turnOf 4 0 [ev_o 10 a, ev_i x0] S1 (fun o S3 => ∃ v2_ : Bool, o = .inl (some (ev_i (if v2_ = true then 1 else 0))) ∧ (
                        (v2_ = true → (
                          ((S3.1 a 7) = 0 → (
                            ∀ S4 : ev_S, S4 = (ev_up S3 a 7 2) → (
                              Q (.inl (some (ev_i 0))) S4))) ∧
                          (¬ ((S3.1 a 7) = 0) → (
                            Q (.inl (some (ev_i 0))) S3)))) ∧
                        (¬ (v2_ = true) → (
                          (vp_in ((762 + (6 * (((S.1 (a + 1) ((12 + (7 * x0)) + 0).toNatClampNeg) + 1) + 1))) + 4) 2091) ∧ (
                            ((S3.1 (a + 1) ((762 + (6 * (((S.1 (a + 1) ((12 + (7 * x0)) + 0).toNatClampNeg) + 1) + 1))) + 4).toNatClampNeg) = 0 → (
                              (80 ≤ (S3.1 (a + 1) 4) → (
                                ((S3.1 a 7) = 0 → (
                                  ∀ S6 : ev_S, S6 = (ev_up S3 a 7 2) → (
                                    Q (.inl (some (ev_i 0))) S6))) ∧
                                (¬ ((S3.1 a 7) = 0) → (
                                  Q (.inl (some (ev_i 0))) S3)))) ∧
                              (¬ (80 ≤ (S3.1 (a + 1) 4)) → (
                                ((S3.1 a 7) = 0 → (
                                  ev_Cv g m_X10_areMoves 4 0 [ev_o 10 a, ev_i x0, ev_i x2, ev_i x3, ev_i x4, ev_i x5] S3 (fun o S7 => ∃ v3_ : Bool, o = .inl (some (ev_i (if v3_ = true then 1 else 0))) ∧ (
                                    (v3_ = true → (
                                      ((S7.1 a 7) = 0 → (
                                        ev_Cv g m_X10_changes 2 0 [ev_o 10 a] S7 (fun o S8 => o = .inl none ∧ (
                                          (vp_in ((762 + (6 * (((S.1 (a + 1) ((12 + (7 * x0)) + 0).toNatClampNeg) + 1) + 1))) + 0) 2091) ∧ (
                                            ∀ S9 : ev_S, S9 = (ev_up S8 (a + 1) ((762 + (6 * (((S.1 (a + 1) ((12 + (7 * x0)) + 0).toNatClampNeg) + 1) + 1))) + 0).toNatClampNeg x2) → (
                                              (vp_in ((762 + (6 * (((S.1 (a + 1) ((12 + (7 * x0)) + 0).toNatClampNeg) + 1) + 1))) + 1) 2091) ∧ (
                                                ∀ S10 : ev_S, S10 = (ev_up S9 (a + 1) ((762 + (6 * (((S.1 (a + 1) ((12 + (7 * x0)) + 0).toNatClampNeg) + 1) + 1))) + 1).toNatClampNeg x3) → (
                                                  (vp_in ((762 + (6 * (((S.1 (a + 1) ((12 + (7 * x0)) + 0).toNatClampNeg) + 1) + 1))) + 2) 2091) ∧ (
                                                    ∀ S11 : ev_S, S11 = (ev_up S10 (a + 1) ((762 + (6 * (((S.1 (a + 1) ((12 + (7 * x0)) + 0).toNatClampNeg) + 1) + 1))) + 2).toNatClampNeg x4) → (
                                                      (vp_in ((762 + (6 * (((S.1 (a + 1) ((12 + (7 * x0)) + 0).toNatClampNeg) + 1) + 1))) + 3) 2091) ∧ (
                                                        ∀ S12 : ev_S, S12 = (ev_up S11 (a + 1) ((762 + (6 * (((S.1 (a + 1) ((12 + (7 * x0)) + 0).toNatClampNeg) + 1) + 1))) + 3).toNatClampNeg x5) → (
                                                          ∀ S13 : ev_S, S13 = (ev_up S12 (a + 1) ((762 + (6 * (((S.1 (a + 1) ((12 + (7 * x0)) + 0).toNatClampNeg) + 1) + 1))) + 4).toNatClampNeg 1) → (
                                                            ev_Cv g m_X10_posts 2 0 [ev_o 10 a, ev_i x0, ev_i x1, ev_i 1, ev_i (((S.1 (a + 1) ((12 + (7 * x0)) + 0).toNatClampNeg) + 1) + 1), ev_i x4, ev_i x5] S13 (fun o S14 => ∃ v5_ : Int32, o = .inl (some (ev_i v5_)) ∧ (
                                                              Q (.inl (some (ev_i (((S.1 (a + 1) ((12 + (7 * x0)) + 0).toNatClampNeg) + 1) + 1)))) S14))))))))))))))) ∧
                                      (¬ ((S7.1 a 7) = 0) → (
                                        Q (.inl (some (ev_i 0))) S7)))) ∧
                                    (¬ (v3_ = true) → (
                                      ((S7.1 a 7) = 0 → (
                                        ∀ S15 : ev_S, S15 = (ev_up S7 a 7 3) → (
                                          Q (.inl (some (ev_i 0))) S15))) ∧
                                      (¬ ((S7.1 a 7) = 0) → (
                                        Q (.inl (some (ev_i 0))) S7)))))))) ∧
                                (¬ ((S3.1 a 7) = 0) → (
                                  Q (.inl (some (ev_i 0))) S3)))))) ∧
                            (¬ ((S3.1 (a + 1) ((762 + (6 * (((S.1 (a + 1) ((12 + (7 * x0)) + 0).toNatClampNeg) + 1) + 1))) + 4).toNatClampNeg) = 0) → (
                              ((S3.1 a 7) = 0 → (
                                ∀ S5 : ev_S, S5 = (ev_up S3 a 7 2) → (
                                  Q (.inl (some (ev_i 0))) S5))) ∧
                              (¬ ((S3.1 a 7) = 0) → (
                                Q (.inl (some (ev_i 0))) S3)))))))))))))))) ∧
              (¬ ((S.1 a 7) = 0) → (
                Q (.inl (some (ev_i 0))) S)))) ∧
            (¬ ((t_X10_in x5 0 (((S.1 (a + 1) 0) * (S.1 (a + 1) 0)) - 1)) = true) → (
              ((S.1 a 7) = 0 → (
                ∀ S16 : ev_S, S16 = (ev_up S a 7 1) → (
                  Q (.inl (some (ev_i 0))) S16))) ∧
              (¬ ((S.1 a 7) = 0) → (
                Q (.inl (some (ev_i 0))) S)))))) ∧
          (¬ ((t_X10_in x4 0 (((S.1 (a + 1) 0) * (S.1 (a + 1) 0)) - 1)) = true) → (
            ((S.1 a 7) = 0 → (
              ∀ S17 : ev_S, S17 = (ev_up S a 7 1) → (
                Q (.inl (some (ev_i 0))) S17))) ∧
            (¬ ((S.1 a 7) = 0) → (
              Q (.inl (some (ev_i 0))) S)))))) ∧
        (¬ ((t_X10_in x3 0 (((S.1 (a + 1) 0) * (S.1 (a + 1) 0)) - 1)) = true) → (
          ((S.1 a 7) = 0 → (
            ∀ S18 : ev_S, S18 = (ev_up S a 7 1) → (
              Q (.inl (some (ev_i 0))) S18))) ∧
          (¬ ((S.1 a 7) = 0) → (
            Q (.inl (some (ev_i 0))) S)))))) ∧
      (¬ ((t_X10_in x2 0 (((S.1 (a + 1) 0) * (S.1 (a + 1) 0)) - 1)) = true) → (
        ((S.1 a 7) = 0 → (
          ∀ S19 : ev_S, S19 = (ev_up S a 7 1) → (
            Q (.inl (some (ev_i 0))) S19))) ∧
        (¬ ((S.1 a 7) = 0) → (
          Q (.inl (some (ev_i 0))) S)))))) ∧
    (¬ ((t_X10_in x1 0 ((S.1 (a + 1) 3) - 1)) = true) → (
      ((S.1 a 7) = 0 → (
        ∀ S20 : ev_S, S20 = (ev_up S a 7 1) → (
          Q (.inl (some (ev_i 0))) S20))) ∧
      (¬ ((S.1 a 7) = 0) → (
        Q (.inl (some (ev_i 0))) S)))))) ∧
  (¬ ((t_X10_in x0 0 1) = true) → (
    ((S.1 a 7) = 0 → (
      ∀ S21 : ev_S, S21 = (ev_up S a 7 1) → (
        Q (.inl (some (ev_i 0))) S21))) ∧
    (¬ ((S.1 a 7) = 0) → (
      Q (.inl (some (ev_i 0))) S))))) : ev_Cv g m_X10_promising 5 0 [ev_o 10 a, ev_i x0, ev_i x1, ev_i x2, ev_i x3, ev_i x4, ev_i x5] S Q := by
  refine ev_enter (by decide) rfl rfl (Nat.le_of_ble_eq_true rfl) ?_
  show ev_E g m_X10_promising 5 0 0 [some (ev_o 10 a), some (ev_i x0), some (ev_i x1), some (ev_i x2), some (ev_i x3), some (ev_i x4), some (ev_i x5), none, none, none, none] [] S Q
  refine ev_aload_n (ev_o 10 a) dX10_promising_0 rfl rfl ?_
  refine ev_iload_n (x0) dX10_promising_1 rfl ?_
  refine ev_fS ms_X10_isPlayer 2 [ev_i x0] [ev_o 10 a] dX10_promising_2 kw_2029 rfl (by decide) (Nat.le_of_ble_eq_true rfl) (sp_X10_isPlayer x0) ?_ rfl
  by_cases c1 : (t_X10_in x0 0 1) = true
  · rw [if_pos c1]
    replace hQ := hQ.1 c1
    refine ev_if_eq 55 dX10_promising_5 (by decide) (fun h9 => absurd h9 (by decide : ¬ ((1 : Int32) = 0))) (fun _ => ?_)
    refine ev_aload_n (ev_o 10 a) dX10_promising_8 rfl rfl ?_
    refine ev_iload_n (x1) dX10_promising_9 rfl ?_
    refine ev_fV mv_X10_isPass 2 10 [ev_i x1] [ev_o 10 a] dX10_promising_10 kw_2036 rfl (by decide) rfl (by decide) (Nat.le_of_ble_eq_true rfl) (sp_X10_isPass a x1) ?_ rfl
    by_cases c2 : (t_X10_in x1 0 ((S.1 (a + 1) 3) - 1)) = true
    · rw [if_pos c2]
      replace hQ := hQ.1 c2
      refine ev_if_eq 55 dX10_promising_13 (by decide) (fun h9 => absurd h9 (by decide : ¬ ((1 : Int32) = 0))) (fun _ => ?_)
      refine ev_aload_n (ev_o 10 a) dX10_promising_16 rfl rfl ?_
      refine ev_iload_n (x2) dX10_promising_17 rfl ?_
      refine ev_fV mv_X10_isSquare 2 10 [ev_i x2] [ev_o 10 a] dX10_promising_18 kw_2032 rfl (by decide) rfl (by decide) (Nat.le_of_ble_eq_true rfl) (sp_X10_isSquare a x2) ?_ rfl
      by_cases c3 : (t_X10_in x2 0 (((S.1 (a + 1) 0) * (S.1 (a + 1) 0)) - 1)) = true
      · rw [if_pos c3]
        replace hQ := hQ.1 c3
        refine ev_if_eq 55 dX10_promising_21 (by decide) (fun h9 => absurd h9 (by decide : ¬ ((1 : Int32) = 0))) (fun _ => ?_)
        refine ev_aload_n (ev_o 10 a) dX10_promising_24 rfl rfl ?_
        refine ev_iload (x3) dX10_promising_25 rfl ?_
        refine ev_fV mv_X10_isSquare 2 10 [ev_i x3] [ev_o 10 a] dX10_promising_27 kw_2032 rfl (by decide) rfl (by decide) (Nat.le_of_ble_eq_true rfl) (sp_X10_isSquare a x3) ?_ rfl
        by_cases c4 : (t_X10_in x3 0 (((S.1 (a + 1) 0) * (S.1 (a + 1) 0)) - 1)) = true
        · rw [if_pos c4]
          replace hQ := hQ.1 c4
          refine ev_if_eq 55 dX10_promising_30 (by decide) (fun h9 => absurd h9 (by decide : ¬ ((1 : Int32) = 0))) (fun _ => ?_)
          refine ev_aload_n (ev_o 10 a) dX10_promising_33 rfl rfl ?_
          refine ev_iload (x4) dX10_promising_34 rfl ?_
          refine ev_fV mv_X10_isSquare 2 10 [ev_i x4] [ev_o 10 a] dX10_promising_36 kw_2032 rfl (by decide) rfl (by decide) (Nat.le_of_ble_eq_true rfl) (sp_X10_isSquare a x4) ?_ rfl
          by_cases c5 : (t_X10_in x4 0 (((S.1 (a + 1) 0) * (S.1 (a + 1) 0)) - 1)) = true
          · rw [if_pos c5]
            replace hQ := hQ.1 c5
            refine ev_if_eq 55 dX10_promising_39 (by decide) (fun h9 => absurd h9 (by decide : ¬ ((1 : Int32) = 0))) (fun _ => ?_)
            refine ev_aload_n (ev_o 10 a) dX10_promising_42 rfl rfl ?_
            refine ev_iload (x5) dX10_promising_43 rfl ?_
            refine ev_fV mv_X10_isSquare 2 10 [ev_i x5] [ev_o 10 a] dX10_promising_45 kw_2032 rfl (by decide) rfl (by decide) (Nat.le_of_ble_eq_true rfl) (sp_X10_isSquare a x5) ?_ rfl
            by_cases c6 : (t_X10_in x5 0 (((S.1 (a + 1) 0) * (S.1 (a + 1) 0)) - 1)) = true
            · rw [if_pos c6]
              replace hQ := hQ.1 c6
              refine ev_if_eq 55 dX10_promising_48 (by decide) (fun h9 => absurd h9 (by decide : ¬ ((1 : Int32) = 0))) (fun _ => ?_)
              refine ev_iconst (1) dX10_promising_51 rfl ?_
              refine ev_goto 56 dX10_promising_52 (by decide) ?_
              refine ev_iconst (1) dX10_promising_56 rfl ?_
              refine ev_cV mv_X10_right 1 0 10 [ev_i 1, ev_i 1] [] dX10_promising_57 kw_1951 rfl (by decide) rfl (by decide) (by decide) (Nat.le_of_ble_eq_true rfl) (Q' := fun o z => ev_After g m_X10_promising 5 (0 - 0) 57 [some (ev_o 10 a), some (ev_i x0), some (ev_i x1), some (ev_i x2), some (ev_i x3), some (ev_i x4), some (ev_i x5), none, none, none, none] [] z Q o) (sg_X10_right_0 a 1 1 ?_) (fun o z h => h) rfl
              refine ⟨fun c7 => ?_, fun c7 => ?_⟩
              · replace hQ := hQ.1 c7
                refine j_neg (by decide : ¬ ((1 : Int32) = 0)) ?_
                show ev_E g m_X10_promising 5 0 60 [some (ev_o 10 a), some (ev_i x0), some (ev_i x1), some (ev_i x2), some (ev_i x3), some (ev_i x4), some (ev_i x5), none, none, none, none] [ev_i 1] S Q
                refine ev_if_ne 65 dX10_promising_60 (by decide) (fun _ => ?_) (fun h9 => absurd h9 (by decide : ¬ ((1 : Int32) = 0)))
                refine ev_aload_n (ev_o 10 a) dX10_promising_65 rfl rfl ?_
                refine ev_iload_n (x0) dX10_promising_66 rfl ?_
                obtain ⟨h1, hQ⟩ := hQ
                refine ev_fV mv_X10_nextNumber 2 10 [ev_i x0] [] dX10_promising_67 kw_2052 rfl (by decide) rfl (by decide) (Nat.le_of_ble_eq_true rfl) (sp_X10_nextNumber a x0 h1) ?_ rfl
                refine ev_iconst (1) dX10_promising_70 rfl ?_
                refine ev_iadd dX10_promising_71 ?_
                refine ev_istore dX10_promising_72 (Nat.le_of_ble_eq_true rfl) (ev_hw rfl) ?_
                show ev_E g m_X10_promising 5 0 74 [some (ev_o 10 a), some (ev_i x0), some (ev_i x1), some (ev_i x2), some (ev_i x3), some (ev_i x4), some (ev_i x5), some (ev_i (((S.1 (a + 1) ((12 + (7 * x0)) + 0).toNatClampNeg) + 1) + 1)), none, none, none] [] S Q
                refine ev_aload_n (ev_o 10 a) dX10_promising_74 rfl rfl ?_
                refine ev_iload_n (x0) dX10_promising_75 rfl ?_
                refine ev_cV mv_X10_overOn 3 0 10 [ev_i x0] [] dX10_promising_76 kw_2044 rfl (by decide) rfl (by decide) (by decide) (Nat.le_of_ble_eq_true rfl) hQ ?_ rfl
                rintro o S1 ⟨v1_, rfl, hQ⟩
                show ev_E g m_X10_promising 5 0 79 [some (ev_o 10 a), some (ev_i x0), some (ev_i x1), some (ev_i x2), some (ev_i x3), some (ev_i x4), some (ev_i x5), some (ev_i (((S.1 (a + 1) ((12 + (7 * x0)) + 0).toNatClampNeg) + 1) + 1)), none, none, none] [ev_i (if v1_ = true then 1 else 0)] S1 Q
                by_cases c8 : v1_ = true
                · rw [if_pos c8]
                  replace hQ := hQ.1 c8
                  refine ev_if_ne 94 dX10_promising_79 (by decide) (fun _ => ?_) (fun h9 => absurd h9 (by decide : ¬ ((1 : Int32) = 0)))
                  refine ev_iconst (0) dX10_promising_94 rfl ?_
                  refine ev_istore dX10_promising_95 (Nat.le_of_ble_eq_true rfl) (ev_hw rfl) ?_
                  show ev_E g m_X10_promising 5 0 97 [some (ev_o 10 a), some (ev_i x0), some (ev_i x1), some (ev_i x2), some (ev_i x3), some (ev_i x4), some (ev_i x5), some (ev_i (((S.1 (a + 1) ((12 + (7 * x0)) + 0).toNatClampNeg) + 1) + 1)), some (ev_i 0), none, none] [] S1 Q
                  refine ev_aload_n (ev_o 10 a) dX10_promising_97 rfl rfl ?_
                  refine ev_iload (0) dX10_promising_98 rfl ?_
                  refine ev_if_eq 128 dX10_promising_100 (by decide) (fun _ => ?_) (fun h9 => absurd (by decide : ((0 : Int32) = 0)) h9)
                  refine ev_iconst (0) dX10_promising_128 rfl ?_
                  refine ev_iconst (2) dX10_promising_129 rfl ?_
                  refine ev_cV mv_X10_right 1 0 10 [ev_i 0, ev_i 2] [] dX10_promising_130 kw_1951 rfl (by decide) rfl (by decide) (by decide) (Nat.le_of_ble_eq_true rfl) (Q' := fun o z => ev_After g m_X10_promising 5 (0 - 0) 130 [some (ev_o 10 a), some (ev_i x0), some (ev_i x1), some (ev_i x2), some (ev_i x3), some (ev_i x4), some (ev_i x5), some (ev_i (((S.1 (a + 1) ((12 + (7 * x0)) + 0).toNatClampNeg) + 1) + 1)), some (ev_i 0), none, none] [] z Q o) (sg_X10_right_0 a 0 2 ?_) (fun o z h => h) rfl
                  refine ⟨fun c9 => ?_, fun c9 => ?_⟩
                  · replace hQ := hQ.1 c9
                    refine j_pos (by decide : ((0 : Int32) = 0)) ?_
                    intro S2 hS2
                    refine ev_sub1 hQ hS2 (fun hQ => ?_)
                    refine j_neg (by decide : ¬ ((2 : Int32) = 0)) ?_
                    show ev_E g m_X10_promising 5 0 133 [some (ev_o 10 a), some (ev_i x0), some (ev_i x1), some (ev_i x2), some (ev_i x3), some (ev_i x4), some (ev_i x5), some (ev_i (((S.1 (a + 1) ((12 + (7 * x0)) + 0).toNatClampNeg) + 1) + 1)), some (ev_i 0), none, none] [ev_i 0] S2 Q
                    refine ev_if_eq 156 dX10_promising_133 (by decide) (fun _ => ?_) (fun h9 => absurd (by decide : ((0 : Int32) = 0)) h9)
                    refine ev_iconst (0) dX10_promising_156 rfl ?_
                    exact ev_ireturn .int dX10_promising_157 rfl rfl hQ
                  · replace hQ := hQ.2 c9
                    show ev_E g m_X10_promising 5 0 133 [some (ev_o 10 a), some (ev_i x0), some (ev_i x1), some (ev_i x2), some (ev_i x3), some (ev_i x4), some (ev_i x5), some (ev_i (((S.1 (a + 1) ((12 + (7 * x0)) + 0).toNatClampNeg) + 1) + 1)), some (ev_i 0), none, none] [ev_i 0] S1 Q
                    refine ev_if_eq 156 dX10_promising_133 (by decide) (fun _ => ?_) (fun h9 => absurd (by decide : ((0 : Int32) = 0)) h9)
                    refine ev_iconst (0) dX10_promising_156 rfl ?_
                    exact ev_ireturn .int dX10_promising_157 rfl rfl hQ
                · rw [if_neg c8]
                  replace hQ := hQ.2 c8
                  refine ev_if_ne 94 dX10_promising_79 (by decide) (fun h9 => absurd (by decide : ((0 : Int32) = 0)) h9) (fun _ => ?_)
                  refine ev_aload_n (ev_o 10 a) dX10_promising_82 rfl rfl ?_
                  refine ev_iload_n (x0) dX10_promising_83 rfl ?_
                  refine ev_cV mv_X10_turnOf 4 0 10 [ev_i x0] [] dX10_promising_84 kw_2040 rfl (by decide) rfl (by decide) (by decide) (Nat.le_of_ble_eq_true rfl) hQ ?_ rfl
                  rintro o S3 ⟨v2_, rfl, hQ⟩
                  show ev_E g m_X10_promising 5 0 87 [some (ev_o 10 a), some (ev_i x0), some (ev_i x1), some (ev_i x2), some (ev_i x3), some (ev_i x4), some (ev_i x5), some (ev_i (((S.1 (a + 1) ((12 + (7 * x0)) + 0).toNatClampNeg) + 1) + 1)), none, none, none] [ev_i (if v2_ = true then 1 else 0)] S3 Q
                  by_cases c10 : v2_ = true
                  · rw [if_pos c10]
                    replace hQ := hQ.1 c10
                    refine ev_if_ne 94 dX10_promising_87 (by decide) (fun _ => ?_) (fun h9 => absurd h9 (by decide : ¬ ((1 : Int32) = 0)))
                    refine ev_iconst (0) dX10_promising_94 rfl ?_
                    refine ev_istore dX10_promising_95 (Nat.le_of_ble_eq_true rfl) (ev_hw rfl) ?_
                    show ev_E g m_X10_promising 5 0 97 [some (ev_o 10 a), some (ev_i x0), some (ev_i x1), some (ev_i x2), some (ev_i x3), some (ev_i x4), some (ev_i x5), some (ev_i (((S.1 (a + 1) ((12 + (7 * x0)) + 0).toNatClampNeg) + 1) + 1)), some (ev_i 0), none, none] [] S3 Q
                    refine ev_aload_n (ev_o 10 a) dX10_promising_97 rfl rfl ?_
                    refine ev_iload (0) dX10_promising_98 rfl ?_
                    refine ev_if_eq 128 dX10_promising_100 (by decide) (fun _ => ?_) (fun h9 => absurd (by decide : ((0 : Int32) = 0)) h9)
                    refine ev_iconst (0) dX10_promising_128 rfl ?_
                    refine ev_iconst (2) dX10_promising_129 rfl ?_
                    refine ev_cV mv_X10_right 1 0 10 [ev_i 0, ev_i 2] [] dX10_promising_130 kw_1951 rfl (by decide) rfl (by decide) (by decide) (Nat.le_of_ble_eq_true rfl) (Q' := fun o z => ev_After g m_X10_promising 5 (0 - 0) 130 [some (ev_o 10 a), some (ev_i x0), some (ev_i x1), some (ev_i x2), some (ev_i x3), some (ev_i x4), some (ev_i x5), some (ev_i (((S.1 (a + 1) ((12 + (7 * x0)) + 0).toNatClampNeg) + 1) + 1)), some (ev_i 0), none, none] [] z Q o) (sg_X10_right_0 a 0 2 ?_) (fun o z h => h) rfl
                    refine ⟨fun c11 => ?_, fun c11 => ?_⟩
                    · replace hQ := hQ.1 c11
                      refine j_pos (by decide : ((0 : Int32) = 0)) ?_
                      intro S4 hS4
                      refine ev_sub1 hQ hS4 (fun hQ => ?_)
                      refine j_neg (by decide : ¬ ((2 : Int32) = 0)) ?_
                      show ev_E g m_X10_promising 5 0 133 [some (ev_o 10 a), some (ev_i x0), some (ev_i x1), some (ev_i x2), some (ev_i x3), some (ev_i x4), some (ev_i x5), some (ev_i (((S.1 (a + 1) ((12 + (7 * x0)) + 0).toNatClampNeg) + 1) + 1)), some (ev_i 0), none, none] [ev_i 0] S4 Q
                      refine ev_if_eq 156 dX10_promising_133 (by decide) (fun _ => ?_) (fun h9 => absurd (by decide : ((0 : Int32) = 0)) h9)
                      refine ev_iconst (0) dX10_promising_156 rfl ?_
                      exact ev_ireturn .int dX10_promising_157 rfl rfl hQ
                    · replace hQ := hQ.2 c11
                      show ev_E g m_X10_promising 5 0 133 [some (ev_o 10 a), some (ev_i x0), some (ev_i x1), some (ev_i x2), some (ev_i x3), some (ev_i x4), some (ev_i x5), some (ev_i (((S.1 (a + 1) ((12 + (7 * x0)) + 0).toNatClampNeg) + 1) + 1)), some (ev_i 0), none, none] [ev_i 0] S3 Q
                      refine ev_if_eq 156 dX10_promising_133 (by decide) (fun _ => ?_) (fun h9 => absurd (by decide : ((0 : Int32) = 0)) h9)
                      refine ev_iconst (0) dX10_promising_156 rfl ?_
                      exact ev_ireturn .int dX10_promising_157 rfl rfl hQ
                  · rw [if_neg c10]
                    replace hQ := hQ.2 c10
                    refine ev_if_ne 94 dX10_promising_87 (by decide) (fun h9 => absurd (by decide : ((0 : Int32) = 0)) h9) (fun _ => ?_)
                    refine ev_iconst (1) dX10_promising_90 rfl ?_
                    refine ev_goto 95 dX10_promising_91 (by decide) ?_
                    refine ev_istore dX10_promising_95 (Nat.le_of_ble_eq_true rfl) (ev_hw rfl) ?_
                    show ev_E g m_X10_promising 5 0 97 [some (ev_o 10 a), some (ev_i x0), some (ev_i x1), some (ev_i x2), some (ev_i x3), some (ev_i x4), some (ev_i x5), some (ev_i (((S.1 (a + 1) ((12 + (7 * x0)) + 0).toNatClampNeg) + 1) + 1)), some (ev_i 1), none, none] [] S3 Q
                    refine ev_aload_n (ev_o 10 a) dX10_promising_97 rfl rfl ?_
                    refine ev_iload (1) dX10_promising_98 rfl ?_
                    refine ev_if_eq 128 dX10_promising_100 (by decide) (fun h9 => absurd h9 (by decide : ¬ ((1 : Int32) = 0))) (fun _ => ?_)
                    refine ev_aload_n (ev_o 10 a) dX10_promising_103 rfl rfl ?_
                    refine ev_iload ((((S.1 (a + 1) ((12 + (7 * x0)) + 0).toNatClampNeg) + 1) + 1)) dX10_promising_104 rfl ?_
                    refine ev_iconst (4) dX10_promising_106 rfl ?_
                    obtain ⟨h2, hQ⟩ := hQ
                    refine ev_fV mv_X10_promised 1 10 [ev_i (((S.1 (a + 1) ((12 + (7 * x0)) + 0).toNatClampNeg) + 1) + 1), ev_i 4] [ev_o 10 a] dX10_promising_107 kw_2101 rfl (by decide) rfl (by decide) (Nat.le_of_ble_eq_true rfl) (sp_X10_promised a (((S.1 (a + 1) ((12 + (7 * x0)) + 0).toNatClampNeg) + 1) + 1) 4 h2) ?_ rfl
                    refine ev_if_ne 128 dX10_promising_110 (by decide) (fun c12 => ?_) (fun c12 => ?_)
                    · replace hQ := hQ.2 c12
                      refine ev_iconst (0) dX10_promising_128 rfl ?_
                      refine ev_iconst (2) dX10_promising_129 rfl ?_
                      refine ev_cV mv_X10_right 1 0 10 [ev_i 0, ev_i 2] [] dX10_promising_130 kw_1951 rfl (by decide) rfl (by decide) (by decide) (Nat.le_of_ble_eq_true rfl) (Q' := fun o z => ev_After g m_X10_promising 5 (0 - 0) 130 [some (ev_o 10 a), some (ev_i x0), some (ev_i x1), some (ev_i x2), some (ev_i x3), some (ev_i x4), some (ev_i x5), some (ev_i (((S.1 (a + 1) ((12 + (7 * x0)) + 0).toNatClampNeg) + 1) + 1)), some (ev_i 1), none, none] [] z Q o) (sg_X10_right_0 a 0 2 ?_) (fun o z h => h) rfl
                      refine ⟨fun c13 => ?_, fun c13 => ?_⟩
                      · replace hQ := hQ.1 c13
                        refine j_pos (by decide : ((0 : Int32) = 0)) ?_
                        intro S5 hS5
                        refine ev_sub1 hQ hS5 (fun hQ => ?_)
                        refine j_neg (by decide : ¬ ((2 : Int32) = 0)) ?_
                        show ev_E g m_X10_promising 5 0 133 [some (ev_o 10 a), some (ev_i x0), some (ev_i x1), some (ev_i x2), some (ev_i x3), some (ev_i x4), some (ev_i x5), some (ev_i (((S.1 (a + 1) ((12 + (7 * x0)) + 0).toNatClampNeg) + 1) + 1)), some (ev_i 1), none, none] [ev_i 0] S5 Q
                        refine ev_if_eq 156 dX10_promising_133 (by decide) (fun _ => ?_) (fun h9 => absurd (by decide : ((0 : Int32) = 0)) h9)
                        refine ev_iconst (0) dX10_promising_156 rfl ?_
                        exact ev_ireturn .int dX10_promising_157 rfl rfl hQ
                      · replace hQ := hQ.2 c13
                        show ev_E g m_X10_promising 5 0 133 [some (ev_o 10 a), some (ev_i x0), some (ev_i x1), some (ev_i x2), some (ev_i x3), some (ev_i x4), some (ev_i x5), some (ev_i (((S.1 (a + 1) ((12 + (7 * x0)) + 0).toNatClampNeg) + 1) + 1)), some (ev_i 1), none, none] [ev_i 0] S3 Q
                        refine ev_if_eq 156 dX10_promising_133 (by decide) (fun _ => ?_) (fun h9 => absurd (by decide : ((0 : Int32) = 0)) h9)
                        refine ev_iconst (0) dX10_promising_156 rfl ?_
                        exact ev_ireturn .int dX10_promising_157 rfl rfl hQ
                    · replace hQ := hQ.1 c12
                      refine ev_aload_n (ev_o 10 a) dX10_promising_113 rfl rfl ?_
                      refine gf_10_0 dX10_promising_114 kw_1853 ?_
                      refine ev_iconst (4) dX10_promising_117 rfl ?_
                      refine ev_iaload dX10_promising_118 (j_vin (by decide)) ?_
                      refine ev_bipush (80) dX10_promising_119 (by decide) ?_
                      refine ev_icmp_ge 128 dX10_promising_121 (by decide) (fun c14 => ?_) (fun c14 => ?_)
                      · replace hQ := hQ.1 c14
                        refine ev_iconst (0) dX10_promising_128 rfl ?_
                        refine ev_iconst (2) dX10_promising_129 rfl ?_
                        refine ev_cV mv_X10_right 1 0 10 [ev_i 0, ev_i 2] [] dX10_promising_130 kw_1951 rfl (by decide) rfl (by decide) (by decide) (Nat.le_of_ble_eq_true rfl) (Q' := fun o z => ev_After g m_X10_promising 5 (0 - 0) 130 [some (ev_o 10 a), some (ev_i x0), some (ev_i x1), some (ev_i x2), some (ev_i x3), some (ev_i x4), some (ev_i x5), some (ev_i (((S.1 (a + 1) ((12 + (7 * x0)) + 0).toNatClampNeg) + 1) + 1)), some (ev_i 1), none, none] [] z Q o) (sg_X10_right_0 a 0 2 ?_) (fun o z h => h) rfl
                        refine ⟨fun c15 => ?_, fun c15 => ?_⟩
                        · replace hQ := hQ.1 c15
                          refine j_pos (by decide : ((0 : Int32) = 0)) ?_
                          intro S6 hS6
                          refine ev_sub1 hQ hS6 (fun hQ => ?_)
                          refine j_neg (by decide : ¬ ((2 : Int32) = 0)) ?_
                          show ev_E g m_X10_promising 5 0 133 [some (ev_o 10 a), some (ev_i x0), some (ev_i x1), some (ev_i x2), some (ev_i x3), some (ev_i x4), some (ev_i x5), some (ev_i (((S.1 (a + 1) ((12 + (7 * x0)) + 0).toNatClampNeg) + 1) + 1)), some (ev_i 1), none, none] [ev_i 0] S6 Q
                          refine ev_if_eq 156 dX10_promising_133 (by decide) (fun _ => ?_) (fun h9 => absurd (by decide : ((0 : Int32) = 0)) h9)
                          refine ev_iconst (0) dX10_promising_156 rfl ?_
                          exact ev_ireturn .int dX10_promising_157 rfl rfl hQ
                        · replace hQ := hQ.2 c15
                          show ev_E g m_X10_promising 5 0 133 [some (ev_o 10 a), some (ev_i x0), some (ev_i x1), some (ev_i x2), some (ev_i x3), some (ev_i x4), some (ev_i x5), some (ev_i (((S.1 (a + 1) ((12 + (7 * x0)) + 0).toNatClampNeg) + 1) + 1)), some (ev_i 1), none, none] [ev_i 0] S3 Q
                          refine ev_if_eq 156 dX10_promising_133 (by decide) (fun _ => ?_) (fun h9 => absurd (by decide : ((0 : Int32) = 0)) h9)
                          refine ev_iconst (0) dX10_promising_156 rfl ?_
                          exact ev_ireturn .int dX10_promising_157 rfl rfl hQ
                      · replace hQ := hQ.2 c14
                        refine ev_iconst (1) dX10_promising_124 rfl ?_
                        refine ev_goto 129 dX10_promising_125 (by decide) ?_
                        refine ev_iconst (2) dX10_promising_129 rfl ?_
                        refine ev_cV mv_X10_right 1 0 10 [ev_i 1, ev_i 2] [] dX10_promising_130 kw_1951 rfl (by decide) rfl (by decide) (by decide) (Nat.le_of_ble_eq_true rfl) (Q' := fun o z => ev_After g m_X10_promising 5 (0 - 0) 130 [some (ev_o 10 a), some (ev_i x0), some (ev_i x1), some (ev_i x2), some (ev_i x3), some (ev_i x4), some (ev_i x5), some (ev_i (((S.1 (a + 1) ((12 + (7 * x0)) + 0).toNatClampNeg) + 1) + 1)), some (ev_i 1), none, none] [] z Q o) (sg_X10_right_0 a 1 2 ?_) (fun o z h => h) rfl
                        refine ⟨fun c16 => ?_, fun c16 => ?_⟩
                        · replace hQ := hQ.1 c16
                          refine j_neg (by decide : ¬ ((1 : Int32) = 0)) ?_
                          show ev_E g m_X10_promising 5 0 133 [some (ev_o 10 a), some (ev_i x0), some (ev_i x1), some (ev_i x2), some (ev_i x3), some (ev_i x4), some (ev_i x5), some (ev_i (((S.1 (a + 1) ((12 + (7 * x0)) + 0).toNatClampNeg) + 1) + 1)), some (ev_i 1), none, none] [ev_i 1] S3 Q
                          refine ev_if_eq 156 dX10_promising_133 (by decide) (fun h9 => absurd h9 (by decide : ¬ ((1 : Int32) = 0))) (fun _ => ?_)
                          refine ev_aload_n (ev_o 10 a) dX10_promising_136 rfl rfl ?_
                          refine ev_aload_n (ev_o 10 a) dX10_promising_137 rfl rfl ?_
                          refine ev_iload_n (x0) dX10_promising_138 rfl ?_
                          refine ev_iload_n (x2) dX10_promising_139 rfl ?_
                          refine ev_iload (x3) dX10_promising_140 rfl ?_
                          refine ev_iload (x4) dX10_promising_142 rfl ?_
                          refine ev_iload (x5) dX10_promising_144 rfl ?_
                          refine ev_cV mv_X10_areMoves 4 0 10 [ev_i x0, ev_i x2, ev_i x3, ev_i x4, ev_i x5] [ev_o 10 a] dX10_promising_146 kw_2117 rfl (by decide) rfl (by decide) (by decide) (Nat.le_of_ble_eq_true rfl) hQ ?_ rfl
                          rintro o S7 ⟨v3_, rfl, hQ⟩
                          show ev_E g m_X10_promising 5 0 149 [some (ev_o 10 a), some (ev_i x0), some (ev_i x1), some (ev_i x2), some (ev_i x3), some (ev_i x4), some (ev_i x5), some (ev_i (((S.1 (a + 1) ((12 + (7 * x0)) + 0).toNatClampNeg) + 1) + 1)), some (ev_i 1), none, none] [ev_i (if v3_ = true then 1 else 0), ev_o 10 a] S7 Q
                          by_cases c17 : v3_ = true
                          · rw [if_pos c17]
                            replace hQ := hQ.1 c17
                            refine ev_iconst (3) dX10_promising_149 rfl ?_
                            refine ev_cV mv_X10_right 1 0 10 [ev_i 1, ev_i 3] [] dX10_promising_150 kw_1951 rfl (by decide) rfl (by decide) (by decide) (Nat.le_of_ble_eq_true rfl) (Q' := fun o z => ev_After g m_X10_promising 5 (0 - 0) 150 [some (ev_o 10 a), some (ev_i x0), some (ev_i x1), some (ev_i x2), some (ev_i x3), some (ev_i x4), some (ev_i x5), some (ev_i (((S.1 (a + 1) ((12 + (7 * x0)) + 0).toNatClampNeg) + 1) + 1)), some (ev_i 1), none, none] [] z Q o) (sg_X10_right_0 a 1 3 ?_) (fun o z h => h) rfl
                            refine ⟨fun c18 => ?_, fun c18 => ?_⟩
                            · replace hQ := hQ.1 c18
                              refine j_neg (by decide : ¬ ((1 : Int32) = 0)) ?_
                              show ev_E g m_X10_promising 5 0 153 [some (ev_o 10 a), some (ev_i x0), some (ev_i x1), some (ev_i x2), some (ev_i x3), some (ev_i x4), some (ev_i x5), some (ev_i (((S.1 (a + 1) ((12 + (7 * x0)) + 0).toNatClampNeg) + 1) + 1)), some (ev_i 1), none, none] [ev_i 1] S7 Q
                              refine ev_if_ne 158 dX10_promising_153 (by decide) (fun _ => ?_) (fun h9 => absurd h9 (by decide : ¬ ((1 : Int32) = 0)))
                              refine ev_aload_n (ev_o 10 a) dX10_promising_158 rfl rfl ?_
                              refine ev_cV mv_X10_changes 2 0 10 [] [] dX10_promising_159 kw_2068 rfl (by decide) rfl (by decide) (by decide) (Nat.le_of_ble_eq_true rfl) hQ ?_ rfl
                              rintro o S8 ⟨rfl, hQ⟩
                              show ev_E g m_X10_promising 5 0 162 [some (ev_o 10 a), some (ev_i x0), some (ev_i x1), some (ev_i x2), some (ev_i x3), some (ev_i x4), some (ev_i x5), some (ev_i (((S.1 (a + 1) ((12 + (7 * x0)) + 0).toNatClampNeg) + 1) + 1)), some (ev_i 1), none, none] [] S8 Q
                              refine ev_sipush (762) dX10_promising_162 (by decide) ?_
                              refine ev_bipush (6) dX10_promising_165 (by decide) ?_
                              refine ev_iload ((((S.1 (a + 1) ((12 + (7 * x0)) + 0).toNatClampNeg) + 1) + 1)) dX10_promising_167 rfl ?_
                              refine ev_imul dX10_promising_169 ?_
                              refine ev_iadd dX10_promising_170 ?_
                              refine ev_istore dX10_promising_171 (Nat.le_of_ble_eq_true rfl) (ev_hw rfl) ?_
                              show ev_E g m_X10_promising 5 0 173 [some (ev_o 10 a), some (ev_i x0), some (ev_i x1), some (ev_i x2), some (ev_i x3), some (ev_i x4), some (ev_i x5), some (ev_i (((S.1 (a + 1) ((12 + (7 * x0)) + 0).toNatClampNeg) + 1) + 1)), some (ev_i 1), some (ev_i (762 + (6 * (((S.1 (a + 1) ((12 + (7 * x0)) + 0).toNatClampNeg) + 1) + 1)))), none] [] S8 Q
                              refine ev_aload_n (ev_o 10 a) dX10_promising_173 rfl rfl ?_
                              refine gf_10_0 dX10_promising_174 kw_1853 ?_
                              refine ev_iload ((762 + (6 * (((S.1 (a + 1) ((12 + (7 * x0)) + 0).toNatClampNeg) + 1) + 1)))) dX10_promising_177 rfl ?_
                              refine ev_iconst (0) dX10_promising_179 rfl ?_
                              refine ev_iadd dX10_promising_180 ?_
                              refine ev_iload_n (x2) dX10_promising_181 rfl ?_
                              obtain ⟨h3, hQ⟩ := hQ
                              refine ev_iastore dX10_promising_182 h3 ?_
                              refine ev_sub hQ (fun S9 hS9 hQ => ?_)
                              refine ev_E.goal (pc' := 183) (L' := [some (ev_o 10 a), some (ev_i x0), some (ev_i x1), some (ev_i x2), some (ev_i x3), some (ev_i x4), some (ev_i x5), some (ev_i (((S.1 (a + 1) ((12 + (7 * x0)) + 0).toNatClampNeg) + 1) + 1)), some (ev_i 1), some (ev_i (762 + (6 * (((S.1 (a + 1) ((12 + (7 * x0)) + 0).toNatClampNeg) + 1) + 1)))), none]) (K' := []) (S' := S9) ?_ rfl rfl rfl hS9
                              refine ev_aload_n (ev_o 10 a) dX10_promising_183 rfl rfl ?_
                              refine gf_10_0 dX10_promising_184 kw_1853 ?_
                              refine ev_iload ((762 + (6 * (((S.1 (a + 1) ((12 + (7 * x0)) + 0).toNatClampNeg) + 1) + 1)))) dX10_promising_187 rfl ?_
                              refine ev_iconst (1) dX10_promising_189 rfl ?_
                              refine ev_iadd dX10_promising_190 ?_
                              refine ev_iload (x3) dX10_promising_191 rfl ?_
                              obtain ⟨h4, hQ⟩ := hQ
                              refine ev_iastore dX10_promising_193 h4 ?_
                              refine ev_sub hQ (fun S10 hS10 hQ => ?_)
                              refine ev_E.goal (pc' := 194) (L' := [some (ev_o 10 a), some (ev_i x0), some (ev_i x1), some (ev_i x2), some (ev_i x3), some (ev_i x4), some (ev_i x5), some (ev_i (((S.1 (a + 1) ((12 + (7 * x0)) + 0).toNatClampNeg) + 1) + 1)), some (ev_i 1), some (ev_i (762 + (6 * (((S.1 (a + 1) ((12 + (7 * x0)) + 0).toNatClampNeg) + 1) + 1)))), none]) (K' := []) (S' := S10) ?_ rfl rfl rfl hS10
                              refine ev_aload_n (ev_o 10 a) dX10_promising_194 rfl rfl ?_
                              refine gf_10_0 dX10_promising_195 kw_1853 ?_
                              refine ev_iload ((762 + (6 * (((S.1 (a + 1) ((12 + (7 * x0)) + 0).toNatClampNeg) + 1) + 1)))) dX10_promising_198 rfl ?_
                              refine ev_iconst (2) dX10_promising_200 rfl ?_
                              refine ev_iadd dX10_promising_201 ?_
                              refine ev_iload (x4) dX10_promising_202 rfl ?_
                              obtain ⟨h5, hQ⟩ := hQ
                              refine ev_iastore dX10_promising_204 h5 ?_
                              refine ev_sub hQ (fun S11 hS11 hQ => ?_)
                              refine ev_E.goal (pc' := 205) (L' := [some (ev_o 10 a), some (ev_i x0), some (ev_i x1), some (ev_i x2), some (ev_i x3), some (ev_i x4), some (ev_i x5), some (ev_i (((S.1 (a + 1) ((12 + (7 * x0)) + 0).toNatClampNeg) + 1) + 1)), some (ev_i 1), some (ev_i (762 + (6 * (((S.1 (a + 1) ((12 + (7 * x0)) + 0).toNatClampNeg) + 1) + 1)))), none]) (K' := []) (S' := S11) ?_ rfl rfl rfl hS11
                              refine ev_aload_n (ev_o 10 a) dX10_promising_205 rfl rfl ?_
                              refine gf_10_0 dX10_promising_206 kw_1853 ?_
                              refine ev_iload ((762 + (6 * (((S.1 (a + 1) ((12 + (7 * x0)) + 0).toNatClampNeg) + 1) + 1)))) dX10_promising_209 rfl ?_
                              refine ev_iconst (3) dX10_promising_211 rfl ?_
                              refine ev_iadd dX10_promising_212 ?_
                              refine ev_iload (x5) dX10_promising_213 rfl ?_
                              obtain ⟨h6, hQ⟩ := hQ
                              refine ev_iastore dX10_promising_215 h6 ?_
                              refine ev_sub hQ (fun S12 hS12 hQ => ?_)
                              refine ev_E.goal (pc' := 216) (L' := [some (ev_o 10 a), some (ev_i x0), some (ev_i x1), some (ev_i x2), some (ev_i x3), some (ev_i x4), some (ev_i x5), some (ev_i (((S.1 (a + 1) ((12 + (7 * x0)) + 0).toNatClampNeg) + 1) + 1)), some (ev_i 1), some (ev_i (762 + (6 * (((S.1 (a + 1) ((12 + (7 * x0)) + 0).toNatClampNeg) + 1) + 1)))), none]) (K' := []) (S' := S12) ?_ rfl rfl rfl hS12
                              refine ev_aload_n (ev_o 10 a) dX10_promising_216 rfl rfl ?_
                              refine gf_10_0 dX10_promising_217 kw_1853 ?_
                              refine ev_iload ((762 + (6 * (((S.1 (a + 1) ((12 + (7 * x0)) + 0).toNatClampNeg) + 1) + 1)))) dX10_promising_220 rfl ?_
                              refine ev_iconst (4) dX10_promising_222 rfl ?_
                              refine ev_iadd dX10_promising_223 ?_
                              refine ev_iconst (1) dX10_promising_224 rfl ?_
                              refine ev_iastore dX10_promising_225 h2 ?_
                              refine ev_sub hQ (fun S13 hS13 hQ => ?_)
                              refine ev_E.goal (pc' := 226) (L' := [some (ev_o 10 a), some (ev_i x0), some (ev_i x1), some (ev_i x2), some (ev_i x3), some (ev_i x4), some (ev_i x5), some (ev_i (((S.1 (a + 1) ((12 + (7 * x0)) + 0).toNatClampNeg) + 1) + 1)), some (ev_i 1), some (ev_i (762 + (6 * (((S.1 (a + 1) ((12 + (7 * x0)) + 0).toNatClampNeg) + 1) + 1)))), none]) (K' := []) (S' := S13) ?_ rfl rfl rfl hS13
                              refine ev_aload_n (ev_o 10 a) dX10_promising_226 rfl rfl ?_
                              refine ev_iload_n (x0) dX10_promising_227 rfl ?_
                              refine ev_iload_n (x1) dX10_promising_228 rfl ?_
                              refine ev_iconst (1) dX10_promising_229 rfl ?_
                              refine ev_iload ((((S.1 (a + 1) ((12 + (7 * x0)) + 0).toNatClampNeg) + 1) + 1)) dX10_promising_230 rfl ?_
                              refine ev_iload (x4) dX10_promising_232 rfl ?_
                              refine ev_iload (x5) dX10_promising_234 rfl ?_
                              refine ev_cV mv_X10_posts 2 0 10 [ev_i x0, ev_i x1, ev_i 1, ev_i (((S.1 (a + 1) ((12 + (7 * x0)) + 0).toNatClampNeg) + 1) + 1), ev_i x4, ev_i x5] [] dX10_promising_236 kw_2081 rfl (by decide) rfl (by decide) (by decide) (Nat.le_of_ble_eq_true rfl) hQ ?_ rfl
                              rintro o S14 ⟨v5_, rfl, hQ⟩
                              show ev_E g m_X10_promising 5 0 239 [some (ev_o 10 a), some (ev_i x0), some (ev_i x1), some (ev_i x2), some (ev_i x3), some (ev_i x4), some (ev_i x5), some (ev_i (((S.1 (a + 1) ((12 + (7 * x0)) + 0).toNatClampNeg) + 1) + 1)), some (ev_i 1), some (ev_i (762 + (6 * (((S.1 (a + 1) ((12 + (7 * x0)) + 0).toNatClampNeg) + 1) + 1)))), none] [ev_i v5_] S14 Q
                              refine ev_istore dX10_promising_239 (Nat.le_of_ble_eq_true rfl) (ev_hw rfl) ?_
                              show ev_E g m_X10_promising 5 0 241 [some (ev_o 10 a), some (ev_i x0), some (ev_i x1), some (ev_i x2), some (ev_i x3), some (ev_i x4), some (ev_i x5), some (ev_i (((S.1 (a + 1) ((12 + (7 * x0)) + 0).toNatClampNeg) + 1) + 1)), some (ev_i 1), some (ev_i (762 + (6 * (((S.1 (a + 1) ((12 + (7 * x0)) + 0).toNatClampNeg) + 1) + 1)))), some (ev_i v5_)] [] S14 Q
                              refine ev_iload ((((S.1 (a + 1) ((12 + (7 * x0)) + 0).toNatClampNeg) + 1) + 1)) dX10_promising_241 rfl ?_
                              exact ev_ireturn .int dX10_promising_243 rfl rfl hQ
                            · replace hQ := hQ.2 c18
                              show ev_E g m_X10_promising 5 0 153 [some (ev_o 10 a), some (ev_i x0), some (ev_i x1), some (ev_i x2), some (ev_i x3), some (ev_i x4), some (ev_i x5), some (ev_i (((S.1 (a + 1) ((12 + (7 * x0)) + 0).toNatClampNeg) + 1) + 1)), some (ev_i 1), none, none] [ev_i 0] S7 Q
                              refine ev_if_ne 158 dX10_promising_153 (by decide) (fun h9 => absurd (by decide : ((0 : Int32) = 0)) h9) (fun _ => ?_)
                              refine ev_iconst (0) dX10_promising_156 rfl ?_
                              exact ev_ireturn .int dX10_promising_157 rfl rfl hQ
                          · rw [if_neg c17]
                            replace hQ := hQ.2 c17
                            refine ev_iconst (3) dX10_promising_149 rfl ?_
                            refine ev_cV mv_X10_right 1 0 10 [ev_i 0, ev_i 3] [] dX10_promising_150 kw_1951 rfl (by decide) rfl (by decide) (by decide) (Nat.le_of_ble_eq_true rfl) (Q' := fun o z => ev_After g m_X10_promising 5 (0 - 0) 150 [some (ev_o 10 a), some (ev_i x0), some (ev_i x1), some (ev_i x2), some (ev_i x3), some (ev_i x4), some (ev_i x5), some (ev_i (((S.1 (a + 1) ((12 + (7 * x0)) + 0).toNatClampNeg) + 1) + 1)), some (ev_i 1), none, none] [] z Q o) (sg_X10_right_0 a 0 3 ?_) (fun o z h => h) rfl
                            refine ⟨fun c19 => ?_, fun c19 => ?_⟩
                            · replace hQ := hQ.1 c19
                              refine j_pos (by decide : ((0 : Int32) = 0)) ?_
                              intro S15 hS15
                              refine ev_sub1 hQ hS15 (fun hQ => ?_)
                              refine j_neg (by decide : ¬ ((3 : Int32) = 0)) ?_
                              show ev_E g m_X10_promising 5 0 153 [some (ev_o 10 a), some (ev_i x0), some (ev_i x1), some (ev_i x2), some (ev_i x3), some (ev_i x4), some (ev_i x5), some (ev_i (((S.1 (a + 1) ((12 + (7 * x0)) + 0).toNatClampNeg) + 1) + 1)), some (ev_i 1), none, none] [ev_i 0] S15 Q
                              refine ev_if_ne 158 dX10_promising_153 (by decide) (fun h9 => absurd (by decide : ((0 : Int32) = 0)) h9) (fun _ => ?_)
                              refine ev_iconst (0) dX10_promising_156 rfl ?_
                              exact ev_ireturn .int dX10_promising_157 rfl rfl hQ
                            · replace hQ := hQ.2 c19
                              show ev_E g m_X10_promising 5 0 153 [some (ev_o 10 a), some (ev_i x0), some (ev_i x1), some (ev_i x2), some (ev_i x3), some (ev_i x4), some (ev_i x5), some (ev_i (((S.1 (a + 1) ((12 + (7 * x0)) + 0).toNatClampNeg) + 1) + 1)), some (ev_i 1), none, none] [ev_i 0] S7 Q
                              refine ev_if_ne 158 dX10_promising_153 (by decide) (fun h9 => absurd (by decide : ((0 : Int32) = 0)) h9) (fun _ => ?_)
                              refine ev_iconst (0) dX10_promising_156 rfl ?_
                              exact ev_ireturn .int dX10_promising_157 rfl rfl hQ
                        · replace hQ := hQ.2 c16
                          show ev_E g m_X10_promising 5 0 133 [some (ev_o 10 a), some (ev_i x0), some (ev_i x1), some (ev_i x2), some (ev_i x3), some (ev_i x4), some (ev_i x5), some (ev_i (((S.1 (a + 1) ((12 + (7 * x0)) + 0).toNatClampNeg) + 1) + 1)), some (ev_i 1), none, none] [ev_i 0] S3 Q
                          refine ev_if_eq 156 dX10_promising_133 (by decide) (fun _ => ?_) (fun h9 => absurd (by decide : ((0 : Int32) = 0)) h9)
                          refine ev_iconst (0) dX10_promising_156 rfl ?_
                          exact ev_ireturn .int dX10_promising_157 rfl rfl hQ
              · replace hQ := hQ.2 c7
                show ev_E g m_X10_promising 5 0 60 [some (ev_o 10 a), some (ev_i x0), some (ev_i x1), some (ev_i x2), some (ev_i x3), some (ev_i x4), some (ev_i x5), none, none, none, none] [ev_i 0] S Q
                refine ev_if_ne 65 dX10_promising_60 (by decide) (fun h9 => absurd (by decide : ((0 : Int32) = 0)) h9) (fun _ => ?_)
                refine ev_iconst (0) dX10_promising_63 rfl ?_
                exact ev_ireturn .int dX10_promising_64 rfl rfl hQ
            · rw [if_neg c6]
              replace hQ := hQ.2 c6
              refine ev_if_eq 55 dX10_promising_48 (by decide) (fun _ => ?_) (fun h9 => absurd (by decide : ((0 : Int32) = 0)) h9)
              refine ev_iconst (0) dX10_promising_55 rfl ?_
              refine ev_iconst (1) dX10_promising_56 rfl ?_
              refine ev_cV mv_X10_right 1 0 10 [ev_i 0, ev_i 1] [] dX10_promising_57 kw_1951 rfl (by decide) rfl (by decide) (by decide) (Nat.le_of_ble_eq_true rfl) (Q' := fun o z => ev_After g m_X10_promising 5 (0 - 0) 57 [some (ev_o 10 a), some (ev_i x0), some (ev_i x1), some (ev_i x2), some (ev_i x3), some (ev_i x4), some (ev_i x5), none, none, none, none] [] z Q o) (sg_X10_right_0 a 0 1 ?_) (fun o z h => h) rfl
              refine ⟨fun c20 => ?_, fun c20 => ?_⟩
              · replace hQ := hQ.1 c20
                refine j_pos (by decide : ((0 : Int32) = 0)) ?_
                intro S16 hS16
                refine ev_sub1 hQ hS16 (fun hQ => ?_)
                refine j_neg (by decide : ¬ ((1 : Int32) = 0)) ?_
                show ev_E g m_X10_promising 5 0 60 [some (ev_o 10 a), some (ev_i x0), some (ev_i x1), some (ev_i x2), some (ev_i x3), some (ev_i x4), some (ev_i x5), none, none, none, none] [ev_i 0] S16 Q
                refine ev_if_ne 65 dX10_promising_60 (by decide) (fun h9 => absurd (by decide : ((0 : Int32) = 0)) h9) (fun _ => ?_)
                refine ev_iconst (0) dX10_promising_63 rfl ?_
                exact ev_ireturn .int dX10_promising_64 rfl rfl hQ
              · replace hQ := hQ.2 c20
                show ev_E g m_X10_promising 5 0 60 [some (ev_o 10 a), some (ev_i x0), some (ev_i x1), some (ev_i x2), some (ev_i x3), some (ev_i x4), some (ev_i x5), none, none, none, none] [ev_i 0] S Q
                refine ev_if_ne 65 dX10_promising_60 (by decide) (fun h9 => absurd (by decide : ((0 : Int32) = 0)) h9) (fun _ => ?_)
                refine ev_iconst (0) dX10_promising_63 rfl ?_
                exact ev_ireturn .int dX10_promising_64 rfl rfl hQ
          · rw [if_neg c5]
            replace hQ := hQ.2 c5
            refine ev_if_eq 55 dX10_promising_39 (by decide) (fun _ => ?_) (fun h9 => absurd (by decide : ((0 : Int32) = 0)) h9)
            refine ev_iconst (0) dX10_promising_55 rfl ?_
            refine ev_iconst (1) dX10_promising_56 rfl ?_
            refine ev_cV mv_X10_right 1 0 10 [ev_i 0, ev_i 1] [] dX10_promising_57 kw_1951 rfl (by decide) rfl (by decide) (by decide) (Nat.le_of_ble_eq_true rfl) (Q' := fun o z => ev_After g m_X10_promising 5 (0 - 0) 57 [some (ev_o 10 a), some (ev_i x0), some (ev_i x1), some (ev_i x2), some (ev_i x3), some (ev_i x4), some (ev_i x5), none, none, none, none] [] z Q o) (sg_X10_right_0 a 0 1 ?_) (fun o z h => h) rfl
            refine ⟨fun c21 => ?_, fun c21 => ?_⟩
            · replace hQ := hQ.1 c21
              refine j_pos (by decide : ((0 : Int32) = 0)) ?_
              intro S17 hS17
              refine ev_sub1 hQ hS17 (fun hQ => ?_)
              refine j_neg (by decide : ¬ ((1 : Int32) = 0)) ?_
              show ev_E g m_X10_promising 5 0 60 [some (ev_o 10 a), some (ev_i x0), some (ev_i x1), some (ev_i x2), some (ev_i x3), some (ev_i x4), some (ev_i x5), none, none, none, none] [ev_i 0] S17 Q
              refine ev_if_ne 65 dX10_promising_60 (by decide) (fun h9 => absurd (by decide : ((0 : Int32) = 0)) h9) (fun _ => ?_)
              refine ev_iconst (0) dX10_promising_63 rfl ?_
              exact ev_ireturn .int dX10_promising_64 rfl rfl hQ
            · replace hQ := hQ.2 c21
              show ev_E g m_X10_promising 5 0 60 [some (ev_o 10 a), some (ev_i x0), some (ev_i x1), some (ev_i x2), some (ev_i x3), some (ev_i x4), some (ev_i x5), none, none, none, none] [ev_i 0] S Q
              refine ev_if_ne 65 dX10_promising_60 (by decide) (fun h9 => absurd (by decide : ((0 : Int32) = 0)) h9) (fun _ => ?_)
              refine ev_iconst (0) dX10_promising_63 rfl ?_
              exact ev_ireturn .int dX10_promising_64 rfl rfl hQ
        · rw [if_neg c4]
          replace hQ := hQ.2 c4
          refine ev_if_eq 55 dX10_promising_30 (by decide) (fun _ => ?_) (fun h9 => absurd (by decide : ((0 : Int32) = 0)) h9)
          refine ev_iconst (0) dX10_promising_55 rfl ?_
          refine ev_iconst (1) dX10_promising_56 rfl ?_
          refine ev_cV mv_X10_right 1 0 10 [ev_i 0, ev_i 1] [] dX10_promising_57 kw_1951 rfl (by decide) rfl (by decide) (by decide) (Nat.le_of_ble_eq_true rfl) (Q' := fun o z => ev_After g m_X10_promising 5 (0 - 0) 57 [some (ev_o 10 a), some (ev_i x0), some (ev_i x1), some (ev_i x2), some (ev_i x3), some (ev_i x4), some (ev_i x5), none, none, none, none] [] z Q o) (sg_X10_right_0 a 0 1 ?_) (fun o z h => h) rfl
          refine ⟨fun c22 => ?_, fun c22 => ?_⟩
          · replace hQ := hQ.1 c22
            refine j_pos (by decide : ((0 : Int32) = 0)) ?_
            intro S18 hS18
            refine ev_sub1 hQ hS18 (fun hQ => ?_)
            refine j_neg (by decide : ¬ ((1 : Int32) = 0)) ?_
            show ev_E g m_X10_promising 5 0 60 [some (ev_o 10 a), some (ev_i x0), some (ev_i x1), some (ev_i x2), some (ev_i x3), some (ev_i x4), some (ev_i x5), none, none, none, none] [ev_i 0] S18 Q
            refine ev_if_ne 65 dX10_promising_60 (by decide) (fun h9 => absurd (by decide : ((0 : Int32) = 0)) h9) (fun _ => ?_)
            refine ev_iconst (0) dX10_promising_63 rfl ?_
            exact ev_ireturn .int dX10_promising_64 rfl rfl hQ
          · replace hQ := hQ.2 c22
            show ev_E g m_X10_promising 5 0 60 [some (ev_o 10 a), some (ev_i x0), some (ev_i x1), some (ev_i x2), some (ev_i x3), some (ev_i x4), some (ev_i x5), none, none, none, none] [ev_i 0] S Q
            refine ev_if_ne 65 dX10_promising_60 (by decide) (fun h9 => absurd (by decide : ((0 : Int32) = 0)) h9) (fun _ => ?_)
            refine ev_iconst (0) dX10_promising_63 rfl ?_
            exact ev_ireturn .int dX10_promising_64 rfl rfl hQ
      · rw [if_neg c3]
        replace hQ := hQ.2 c3
        refine ev_if_eq 55 dX10_promising_21 (by decide) (fun _ => ?_) (fun h9 => absurd (by decide : ((0 : Int32) = 0)) h9)
        refine ev_iconst (0) dX10_promising_55 rfl ?_
        refine ev_iconst (1) dX10_promising_56 rfl ?_
        refine ev_cV mv_X10_right 1 0 10 [ev_i 0, ev_i 1] [] dX10_promising_57 kw_1951 rfl (by decide) rfl (by decide) (by decide) (Nat.le_of_ble_eq_true rfl) (Q' := fun o z => ev_After g m_X10_promising 5 (0 - 0) 57 [some (ev_o 10 a), some (ev_i x0), some (ev_i x1), some (ev_i x2), some (ev_i x3), some (ev_i x4), some (ev_i x5), none, none, none, none] [] z Q o) (sg_X10_right_0 a 0 1 ?_) (fun o z h => h) rfl
        refine ⟨fun c23 => ?_, fun c23 => ?_⟩
        · replace hQ := hQ.1 c23
          refine j_pos (by decide : ((0 : Int32) = 0)) ?_
          intro S19 hS19
          refine ev_sub1 hQ hS19 (fun hQ => ?_)
          refine j_neg (by decide : ¬ ((1 : Int32) = 0)) ?_
          show ev_E g m_X10_promising 5 0 60 [some (ev_o 10 a), some (ev_i x0), some (ev_i x1), some (ev_i x2), some (ev_i x3), some (ev_i x4), some (ev_i x5), none, none, none, none] [ev_i 0] S19 Q
          refine ev_if_ne 65 dX10_promising_60 (by decide) (fun h9 => absurd (by decide : ((0 : Int32) = 0)) h9) (fun _ => ?_)
          refine ev_iconst (0) dX10_promising_63 rfl ?_
          exact ev_ireturn .int dX10_promising_64 rfl rfl hQ
        · replace hQ := hQ.2 c23
          show ev_E g m_X10_promising 5 0 60 [some (ev_o 10 a), some (ev_i x0), some (ev_i x1), some (ev_i x2), some (ev_i x3), some (ev_i x4), some (ev_i x5), none, none, none, none] [ev_i 0] S Q
          refine ev_if_ne 65 dX10_promising_60 (by decide) (fun h9 => absurd (by decide : ((0 : Int32) = 0)) h9) (fun _ => ?_)
          refine ev_iconst (0) dX10_promising_63 rfl ?_
          exact ev_ireturn .int dX10_promising_64 rfl rfl hQ
    · rw [if_neg c2]
      replace hQ := hQ.2 c2
      refine ev_if_eq 55 dX10_promising_13 (by decide) (fun _ => ?_) (fun h9 => absurd (by decide : ((0 : Int32) = 0)) h9)
      refine ev_iconst (0) dX10_promising_55 rfl ?_
      refine ev_iconst (1) dX10_promising_56 rfl ?_
      refine ev_cV mv_X10_right 1 0 10 [ev_i 0, ev_i 1] [] dX10_promising_57 kw_1951 rfl (by decide) rfl (by decide) (by decide) (Nat.le_of_ble_eq_true rfl) (Q' := fun o z => ev_After g m_X10_promising 5 (0 - 0) 57 [some (ev_o 10 a), some (ev_i x0), some (ev_i x1), some (ev_i x2), some (ev_i x3), some (ev_i x4), some (ev_i x5), none, none, none, none] [] z Q o) (sg_X10_right_0 a 0 1 ?_) (fun o z h => h) rfl
      refine ⟨fun c24 => ?_, fun c24 => ?_⟩
      · replace hQ := hQ.1 c24
        refine j_pos (by decide : ((0 : Int32) = 0)) ?_
        intro S20 hS20
        refine ev_sub1 hQ hS20 (fun hQ => ?_)
        refine j_neg (by decide : ¬ ((1 : Int32) = 0)) ?_
        show ev_E g m_X10_promising 5 0 60 [some (ev_o 10 a), some (ev_i x0), some (ev_i x1), some (ev_i x2), some (ev_i x3), some (ev_i x4), some (ev_i x5), none, none, none, none] [ev_i 0] S20 Q
        refine ev_if_ne 65 dX10_promising_60 (by decide) (fun h9 => absurd (by decide : ((0 : Int32) = 0)) h9) (fun _ => ?_)
        refine ev_iconst (0) dX10_promising_63 rfl ?_
        exact ev_ireturn .int dX10_promising_64 rfl rfl hQ
      · replace hQ := hQ.2 c24
        show ev_E g m_X10_promising 5 0 60 [some (ev_o 10 a), some (ev_i x0), some (ev_i x1), some (ev_i x2), some (ev_i x3), some (ev_i x4), some (ev_i x5), none, none, none, none] [ev_i 0] S Q
        refine ev_if_ne 65 dX10_promising_60 (by decide) (fun h9 => absurd (by decide : ((0 : Int32) = 0)) h9) (fun _ => ?_)
        refine ev_iconst (0) dX10_promising_63 rfl ?_
        exact ev_ireturn .int dX10_promising_64 rfl rfl hQ
  · rw [if_neg c1]
    replace hQ := hQ.2 c1
    refine ev_if_eq 55 dX10_promising_5 (by decide) (fun _ => ?_) (fun h9 => absurd (by decide : ((0 : Int32) = 0)) h9)
    refine ev_iconst (0) dX10_promising_55 rfl ?_
    refine ev_iconst (1) dX10_promising_56 rfl ?_
    refine ev_cV mv_X10_right 1 0 10 [ev_i 0, ev_i 1] [] dX10_promising_57 kw_1951 rfl (by decide) rfl (by decide) (by decide) (Nat.le_of_ble_eq_true rfl) (Q' := fun o z => ev_After g m_X10_promising 5 (0 - 0) 57 [some (ev_o 10 a), some (ev_i x0), some (ev_i x1), some (ev_i x2), some (ev_i x3), some (ev_i x4), some (ev_i x5), none, none, none, none] [] z Q o) (sg_X10_right_0 a 0 1 ?_) (fun o z h => h) rfl
    refine ⟨fun c25 => ?_, fun c25 => ?_⟩
    · replace hQ := hQ.1 c25
      refine j_pos (by decide : ((0 : Int32) = 0)) ?_
      intro S21 hS21
      refine ev_sub1 hQ hS21 (fun hQ => ?_)
      refine j_neg (by decide : ¬ ((1 : Int32) = 0)) ?_
      show ev_E g m_X10_promising 5 0 60 [some (ev_o 10 a), some (ev_i x0), some (ev_i x1), some (ev_i x2), some (ev_i x3), some (ev_i x4), some (ev_i x5), none, none, none, none] [ev_i 0] S21 Q
      refine ev_if_ne 65 dX10_promising_60 (by decide) (fun h9 => absurd (by decide : ((0 : Int32) = 0)) h9) (fun _ => ?_)
      refine ev_iconst (0) dX10_promising_63 rfl ?_
      exact ev_ireturn .int dX10_promising_64 rfl rfl hQ
    · replace hQ := hQ.2 c25
      show ev_E g m_X10_promising 5 0 60 [some (ev_o 10 a), some (ev_i x0), some (ev_i x1), some (ev_i x2), some (ev_i x3), some (ev_i x4), some (ev_i x5), none, none, none, none] [ev_i 0] S Q
      refine ev_if_ne 65 dX10_promising_60 (by decide) (fun h9 => absurd (by decide : ((0 : Int32) = 0)) h9) (fun _ => ?_)
      refine ev_iconst (0) dX10_promising_63 rfl ?_
      exact ev_ireturn .int dX10_promising_64 rfl rfl hQ
set_option maxHeartbeats 4000000 in
set_option maxRecDepth 100000 in
theorem sg_X10_resending_0 {g : ev_G} {S : ev_S} {Q : ev_O → ev_S → Prop} (a : Nat) (x0 : Int32) (x1 : Int32) (hQ : ((t_X10_in x0 0 ((S.1 (a + 1) 4) - 1)) = true → (
    ((t_X10_in x1 0 ((S.1 (a + 1) 3) - 1)) = true → (
      ((S.1 a 7) = 0 → (
        (80 ≤ (S.1 (a + 1) 4) → (
          ∀ S1 : ev_S, S1 = (ev_up S a 7 2) → (
            Q (.inl (some (ev_i 0))) S1))) ∧
        (¬ (80 ≤ (S.1 (a + 1) 4)) → (
          ev_Cv g m_X10_changes 2 0 [ev_o 10 a] S (fun o S2 => o = .inl none ∧ (
            (vp_in ((1200 + (11 * x0)) + 0) 2091) ∧ (
              (vp_in ((1200 + (11 * x0)) + 2) 2091) ∧ (
                ((S2.1 (a + 1) ((1200 + (11 * x0)) + 2).toNatClampNeg) = 1 → (
                  (vp_in ((1200 + (11 * x0)) + 3) 2091) ∧ (
                    (vp_in ((1200 + (11 * x0)) + 4) 2091) ∧ (
                      (vp_in ((1200 + (11 * x0)) + 5) 2091) ∧ (
                        ev_Cv g m_X10_posts 2 0 [ev_o 10 a, ev_i (S2.1 (a + 1) ((1200 + (11 * x0)) + 0).toNatClampNeg), ev_i x1, ev_i 1, ev_i (S2.1 (a + 1) ((1200 + (11 * x0)) + 3).toNatClampNeg), ev_i (S2.1 (a + 1) ((1200 + (11 * x0)) + 4).toNatClampNeg), ev_i (S2.1 (a + 1) ((1200 + (11 * x0)) + 5).toNatClampNeg)] S2 (fun o S4 => ∃ v3_ : Int32, o = .inl (some (ev_i v3_)) ∧ (
                          Q (.inl (some (ev_i v3_))) S4))))))) ∧
                (¬ ((S2.1 (a + 1) ((1200 + (11 * x0)) + 2).toNatClampNeg) = 1) → (
                  (vp_in ((1200 + (11 * x0)) + 3) 2091) ∧ (
                    (vp_in ((1200 + (11 * x0)) + 4) 2091) ∧ (
                      (vp_in ((1200 + (11 * x0)) + 5) 2091) ∧ (
                        ev_Cv g m_X10_posts 2 0 [ev_o 10 a, ev_i (S2.1 (a + 1) ((1200 + (11 * x0)) + 0).toNatClampNeg), ev_i x1, ev_i 0, ev_i (S2.1 (a + 1) ((1200 + (11 * x0)) + 3).toNatClampNeg), ev_i (S2.1 (a + 1) ((1200 + (11 * x0)) + 4).toNatClampNeg), ev_i (S2.1 (a + 1) ((1200 + (11 * x0)) + 5).toNatClampNeg)] S2 (fun o S3 => ∃ v2_ : Int32, o = .inl (some (ev_i v2_)) ∧ (
                          Q (.inl (some (ev_i v2_))) S3))))))))))))))) ∧
      (¬ ((S.1 a 7) = 0) → (
        Q (.inl (some (ev_i 0))) S)))) ∧
    (¬ ((t_X10_in x1 0 ((S.1 (a + 1) 3) - 1)) = true) → (
      ((S.1 a 7) = 0 → (
        ∀ S5 : ev_S, S5 = (ev_up S a 7 1) → (
          Q (.inl (some (ev_i 0))) S5))) ∧
      (¬ ((S.1 a 7) = 0) → (
        Q (.inl (some (ev_i 0))) S)))))) ∧
  (¬ ((t_X10_in x0 0 ((S.1 (a + 1) 4) - 1)) = true) → (
    ((S.1 a 7) = 0 → (
      ∀ S6 : ev_S, S6 = (ev_up S a 7 1) → (
        Q (.inl (some (ev_i 0))) S6))) ∧
    (¬ ((S.1 a 7) = 0) → (
      Q (.inl (some (ev_i 0))) S))))) : ev_Cv g m_X10_resending 3 0 [ev_o 10 a, ev_i x0, ev_i x1] S Q := by
  refine ev_enter (by decide) rfl rfl (Nat.le_of_ble_eq_true rfl) ?_
  show ev_E g m_X10_resending 3 0 0 [some (ev_o 10 a), some (ev_i x0), some (ev_i x1)] [] S Q
  refine ev_aload_n (ev_o 10 a) dX10_resending_0 rfl rfl ?_
  refine ev_aload_n (ev_o 10 a) dX10_resending_1 rfl rfl ?_
  refine ev_iload_n (x0) dX10_resending_2 rfl ?_
  refine ev_fV mv_X10_isLetter 2 10 [ev_i x0] [ev_o 10 a] dX10_resending_3 kw_2125 rfl (by decide) rfl (by decide) (Nat.le_of_ble_eq_true rfl) (sp_X10_isLetter a x0) ?_ rfl
  by_cases c1 : (t_X10_in x0 0 ((S.1 (a + 1) 4) - 1)) = true
  · rw [if_pos c1]
    replace hQ := hQ.1 c1
    refine ev_if_eq 21 dX10_resending_6 (by decide) (fun h9 => absurd h9 (by decide : ¬ ((1 : Int32) = 0))) (fun _ => ?_)
    refine ev_aload_n (ev_o 10 a) dX10_resending_9 rfl rfl ?_
    refine ev_iload_n (x1) dX10_resending_10 rfl ?_
    refine ev_fV mv_X10_isPass 2 10 [ev_i x1] [ev_o 10 a] dX10_resending_11 kw_2036 rfl (by decide) rfl (by decide) (Nat.le_of_ble_eq_true rfl) (sp_X10_isPass a x1) ?_ rfl
    by_cases c2 : (t_X10_in x1 0 ((S.1 (a + 1) 3) - 1)) = true
    · rw [if_pos c2]
      replace hQ := hQ.1 c2
      refine ev_if_eq 21 dX10_resending_14 (by decide) (fun h9 => absurd h9 (by decide : ¬ ((1 : Int32) = 0))) (fun _ => ?_)
      refine ev_iconst (1) dX10_resending_17 rfl ?_
      refine ev_goto 22 dX10_resending_18 (by decide) ?_
      refine ev_iconst (1) dX10_resending_22 rfl ?_
      refine ev_cV mv_X10_right 1 0 10 [ev_i 1, ev_i 1] [] dX10_resending_23 kw_1951 rfl (by decide) rfl (by decide) (by decide) (Nat.le_of_ble_eq_true rfl) (Q' := fun o z => ev_After g m_X10_resending 3 (0 - 0) 23 [some (ev_o 10 a), some (ev_i x0), some (ev_i x1)] [] z Q o) (sg_X10_right_0 a 1 1 ?_) (fun o z h => h) rfl
      refine ⟨fun c3 => ?_, fun c3 => ?_⟩
      · replace hQ := hQ.1 c3
        refine j_neg (by decide : ¬ ((1 : Int32) = 0)) ?_
        show ev_E g m_X10_resending 3 0 26 [some (ev_o 10 a), some (ev_i x0), some (ev_i x1)] [ev_i 1] S Q
        refine ev_if_eq 53 dX10_resending_26 (by decide) (fun h9 => absurd h9 (by decide : ¬ ((1 : Int32) = 0))) (fun _ => ?_)
        refine ev_aload_n (ev_o 10 a) dX10_resending_29 rfl rfl ?_
        refine ev_aload_n (ev_o 10 a) dX10_resending_30 rfl rfl ?_
        refine gf_10_0 dX10_resending_31 kw_1853 ?_
        refine ev_iconst (4) dX10_resending_34 rfl ?_
        refine ev_iaload dX10_resending_35 (j_vin (by decide)) ?_
        refine ev_bipush (80) dX10_resending_36 (by decide) ?_
        refine ev_icmp_ge 45 dX10_resending_38 (by decide) (fun c4 => ?_) (fun c4 => ?_)
        · replace hQ := hQ.1 c4
          refine ev_iconst (0) dX10_resending_45 rfl ?_
          refine ev_iconst (2) dX10_resending_46 rfl ?_
          refine ev_cV mv_X10_right 1 0 10 [ev_i 0, ev_i 2] [] dX10_resending_47 kw_1951 rfl (by decide) rfl (by decide) (by decide) (Nat.le_of_ble_eq_true rfl) (Q' := fun o z => ev_After g m_X10_resending 3 (0 - 0) 47 [some (ev_o 10 a), some (ev_i x0), some (ev_i x1)] [] z Q o) (sg_X10_right_0 a 0 2 ?_) (fun o z h => h) rfl
          refine j_pos c3 ?_
          refine j_pos (by decide : ((0 : Int32) = 0)) ?_
          intro S1 hS1
          refine ev_sub1 hQ hS1 (fun hQ => ?_)
          refine j_neg (by decide : ¬ ((2 : Int32) = 0)) ?_
          show ev_E g m_X10_resending 3 0 50 [some (ev_o 10 a), some (ev_i x0), some (ev_i x1)] [ev_i 0] S1 Q
          refine ev_if_ne 55 dX10_resending_50 (by decide) (fun h9 => absurd (by decide : ((0 : Int32) = 0)) h9) (fun _ => ?_)
          refine ev_iconst (0) dX10_resending_53 rfl ?_
          exact ev_ireturn .int dX10_resending_54 rfl rfl hQ
        · replace hQ := hQ.2 c4
          refine ev_iconst (1) dX10_resending_41 rfl ?_
          refine ev_goto 46 dX10_resending_42 (by decide) ?_
          refine ev_iconst (2) dX10_resending_46 rfl ?_
          refine ev_cV mv_X10_right 1 0 10 [ev_i 1, ev_i 2] [] dX10_resending_47 kw_1951 rfl (by decide) rfl (by decide) (by decide) (Nat.le_of_ble_eq_true rfl) (Q' := fun o z => ev_After g m_X10_resending 3 (0 - 0) 47 [some (ev_o 10 a), some (ev_i x0), some (ev_i x1)] [] z Q o) (sg_X10_right_0 a 1 2 ?_) (fun o z h => h) rfl
          refine j_pos c3 ?_
          refine j_neg (by decide : ¬ ((1 : Int32) = 0)) ?_
          show ev_E g m_X10_resending 3 0 50 [some (ev_o 10 a), some (ev_i x0), some (ev_i x1)] [ev_i 1] S Q
          refine ev_if_ne 55 dX10_resending_50 (by decide) (fun _ => ?_) (fun h9 => absurd h9 (by decide : ¬ ((1 : Int32) = 0)))
          refine ev_aload_n (ev_o 10 a) dX10_resending_55 rfl rfl ?_
          refine ev_cV mv_X10_changes 2 0 10 [] [] dX10_resending_56 kw_2068 rfl (by decide) rfl (by decide) (by decide) (Nat.le_of_ble_eq_true rfl) hQ ?_ rfl
          rintro o S2 ⟨rfl, hQ⟩
          show ev_E g m_X10_resending 3 0 59 [some (ev_o 10 a), some (ev_i x0), some (ev_i x1)] [] S2 Q
          refine ev_aload_n (ev_o 10 a) dX10_resending_59 rfl rfl ?_
          refine ev_aload_n (ev_o 10 a) dX10_resending_60 rfl rfl ?_
          refine ev_iload_n (x0) dX10_resending_61 rfl ?_
          refine ev_iconst (0) dX10_resending_62 rfl ?_
          obtain ⟨h1, hQ⟩ := hQ
          refine ev_fV mv_X10_ofL 1 10 [ev_i x0, ev_i 0] [ev_o 10 a] dX10_resending_63 kw_2129 rfl (by decide) rfl (by decide) (Nat.le_of_ble_eq_true rfl) (sp_X10_ofL a x0 0 h1) ?_ rfl
          refine ev_iload_n (x1) dX10_resending_66 rfl ?_
          refine ev_aload_n (ev_o 10 a) dX10_resending_67 rfl rfl ?_
          refine ev_iload_n (x0) dX10_resending_68 rfl ?_
          refine ev_iconst (2) dX10_resending_69 rfl ?_
          obtain ⟨h2, hQ⟩ := hQ
          refine ev_fV mv_X10_ofL 1 10 [ev_i x0, ev_i 2] [ev_i x1, ev_i (S2.1 (a + 1) ((1200 + (11 * x0)) + 0).toNatClampNeg), ev_o 10 a] dX10_resending_70 kw_2129 rfl (by decide) rfl (by decide) (Nat.le_of_ble_eq_true rfl) (sp_X10_ofL a x0 2 h2) ?_ rfl
          refine ev_iconst (1) dX10_resending_73 rfl ?_
          refine ev_icmp_ne 81 dX10_resending_74 (by decide) (fun c5 => ?_) (fun c5 => ?_)
          · replace hQ := hQ.2 c5
            refine ev_iconst (0) dX10_resending_81 rfl ?_
            refine ev_aload_n (ev_o 10 a) dX10_resending_82 rfl rfl ?_
            refine ev_iload_n (x0) dX10_resending_83 rfl ?_
            refine ev_iconst (3) dX10_resending_84 rfl ?_
            obtain ⟨h3, hQ⟩ := hQ
            refine ev_fV mv_X10_ofL 1 10 [ev_i x0, ev_i 3] [ev_i 0, ev_i x1, ev_i (S2.1 (a + 1) ((1200 + (11 * x0)) + 0).toNatClampNeg), ev_o 10 a] dX10_resending_85 kw_2129 rfl (by decide) rfl (by decide) (Nat.le_of_ble_eq_true rfl) (sp_X10_ofL a x0 3 h3) ?_ rfl
            refine ev_aload_n (ev_o 10 a) dX10_resending_88 rfl rfl ?_
            refine ev_iload_n (x0) dX10_resending_89 rfl ?_
            refine ev_iconst (4) dX10_resending_90 rfl ?_
            obtain ⟨h4, hQ⟩ := hQ
            refine ev_fV mv_X10_ofL 1 10 [ev_i x0, ev_i 4] [ev_i (S2.1 (a + 1) ((1200 + (11 * x0)) + 3).toNatClampNeg), ev_i 0, ev_i x1, ev_i (S2.1 (a + 1) ((1200 + (11 * x0)) + 0).toNatClampNeg), ev_o 10 a] dX10_resending_91 kw_2129 rfl (by decide) rfl (by decide) (Nat.le_of_ble_eq_true rfl) (sp_X10_ofL a x0 4 h4) ?_ rfl
            refine ev_aload_n (ev_o 10 a) dX10_resending_94 rfl rfl ?_
            refine ev_iload_n (x0) dX10_resending_95 rfl ?_
            refine ev_iconst (5) dX10_resending_96 rfl ?_
            obtain ⟨h5, hQ⟩ := hQ
            refine ev_fV mv_X10_ofL 1 10 [ev_i x0, ev_i 5] [ev_i (S2.1 (a + 1) ((1200 + (11 * x0)) + 4).toNatClampNeg), ev_i (S2.1 (a + 1) ((1200 + (11 * x0)) + 3).toNatClampNeg), ev_i 0, ev_i x1, ev_i (S2.1 (a + 1) ((1200 + (11 * x0)) + 0).toNatClampNeg), ev_o 10 a] dX10_resending_97 kw_2129 rfl (by decide) rfl (by decide) (Nat.le_of_ble_eq_true rfl) (sp_X10_ofL a x0 5 h5) ?_ rfl
            refine ev_cV mv_X10_posts 2 0 10 [ev_i (S2.1 (a + 1) ((1200 + (11 * x0)) + 0).toNatClampNeg), ev_i x1, ev_i 0, ev_i (S2.1 (a + 1) ((1200 + (11 * x0)) + 3).toNatClampNeg), ev_i (S2.1 (a + 1) ((1200 + (11 * x0)) + 4).toNatClampNeg), ev_i (S2.1 (a + 1) ((1200 + (11 * x0)) + 5).toNatClampNeg)] [] dX10_resending_100 kw_2081 rfl (by decide) rfl (by decide) (by decide) (Nat.le_of_ble_eq_true rfl) hQ ?_ rfl
            rintro o S3 ⟨v2_, rfl, hQ⟩
            show ev_E g m_X10_resending 3 0 103 [some (ev_o 10 a), some (ev_i x0), some (ev_i x1)] [ev_i v2_] S3 Q
            exact ev_ireturn .int dX10_resending_103 rfl rfl hQ
          · replace hQ := hQ.1 c5
            refine ev_iconst (1) dX10_resending_77 rfl ?_
            refine ev_goto 82 dX10_resending_78 (by decide) ?_
            refine ev_aload_n (ev_o 10 a) dX10_resending_82 rfl rfl ?_
            refine ev_iload_n (x0) dX10_resending_83 rfl ?_
            refine ev_iconst (3) dX10_resending_84 rfl ?_
            obtain ⟨h6, hQ⟩ := hQ
            refine ev_fV mv_X10_ofL 1 10 [ev_i x0, ev_i 3] [ev_i 1, ev_i x1, ev_i (S2.1 (a + 1) ((1200 + (11 * x0)) + 0).toNatClampNeg), ev_o 10 a] dX10_resending_85 kw_2129 rfl (by decide) rfl (by decide) (Nat.le_of_ble_eq_true rfl) (sp_X10_ofL a x0 3 h6) ?_ rfl
            refine ev_aload_n (ev_o 10 a) dX10_resending_88 rfl rfl ?_
            refine ev_iload_n (x0) dX10_resending_89 rfl ?_
            refine ev_iconst (4) dX10_resending_90 rfl ?_
            obtain ⟨h7, hQ⟩ := hQ
            refine ev_fV mv_X10_ofL 1 10 [ev_i x0, ev_i 4] [ev_i (S2.1 (a + 1) ((1200 + (11 * x0)) + 3).toNatClampNeg), ev_i 1, ev_i x1, ev_i (S2.1 (a + 1) ((1200 + (11 * x0)) + 0).toNatClampNeg), ev_o 10 a] dX10_resending_91 kw_2129 rfl (by decide) rfl (by decide) (Nat.le_of_ble_eq_true rfl) (sp_X10_ofL a x0 4 h7) ?_ rfl
            refine ev_aload_n (ev_o 10 a) dX10_resending_94 rfl rfl ?_
            refine ev_iload_n (x0) dX10_resending_95 rfl ?_
            refine ev_iconst (5) dX10_resending_96 rfl ?_
            obtain ⟨h8, hQ⟩ := hQ
            refine ev_fV mv_X10_ofL 1 10 [ev_i x0, ev_i 5] [ev_i (S2.1 (a + 1) ((1200 + (11 * x0)) + 4).toNatClampNeg), ev_i (S2.1 (a + 1) ((1200 + (11 * x0)) + 3).toNatClampNeg), ev_i 1, ev_i x1, ev_i (S2.1 (a + 1) ((1200 + (11 * x0)) + 0).toNatClampNeg), ev_o 10 a] dX10_resending_97 kw_2129 rfl (by decide) rfl (by decide) (Nat.le_of_ble_eq_true rfl) (sp_X10_ofL a x0 5 h8) ?_ rfl
            refine ev_cV mv_X10_posts 2 0 10 [ev_i (S2.1 (a + 1) ((1200 + (11 * x0)) + 0).toNatClampNeg), ev_i x1, ev_i 1, ev_i (S2.1 (a + 1) ((1200 + (11 * x0)) + 3).toNatClampNeg), ev_i (S2.1 (a + 1) ((1200 + (11 * x0)) + 4).toNatClampNeg), ev_i (S2.1 (a + 1) ((1200 + (11 * x0)) + 5).toNatClampNeg)] [] dX10_resending_100 kw_2081 rfl (by decide) rfl (by decide) (by decide) (Nat.le_of_ble_eq_true rfl) hQ ?_ rfl
            rintro o S4 ⟨v3_, rfl, hQ⟩
            show ev_E g m_X10_resending 3 0 103 [some (ev_o 10 a), some (ev_i x0), some (ev_i x1)] [ev_i v3_] S4 Q
            exact ev_ireturn .int dX10_resending_103 rfl rfl hQ
      · replace hQ := hQ.2 c3
        show ev_E g m_X10_resending 3 0 26 [some (ev_o 10 a), some (ev_i x0), some (ev_i x1)] [ev_i 0] S Q
        refine ev_if_eq 53 dX10_resending_26 (by decide) (fun _ => ?_) (fun h9 => absurd (by decide : ((0 : Int32) = 0)) h9)
        refine ev_iconst (0) dX10_resending_53 rfl ?_
        exact ev_ireturn .int dX10_resending_54 rfl rfl hQ
    · rw [if_neg c2]
      replace hQ := hQ.2 c2
      refine ev_if_eq 21 dX10_resending_14 (by decide) (fun _ => ?_) (fun h9 => absurd (by decide : ((0 : Int32) = 0)) h9)
      refine ev_iconst (0) dX10_resending_21 rfl ?_
      refine ev_iconst (1) dX10_resending_22 rfl ?_
      refine ev_cV mv_X10_right 1 0 10 [ev_i 0, ev_i 1] [] dX10_resending_23 kw_1951 rfl (by decide) rfl (by decide) (by decide) (Nat.le_of_ble_eq_true rfl) (Q' := fun o z => ev_After g m_X10_resending 3 (0 - 0) 23 [some (ev_o 10 a), some (ev_i x0), some (ev_i x1)] [] z Q o) (sg_X10_right_0 a 0 1 ?_) (fun o z h => h) rfl
      refine ⟨fun c6 => ?_, fun c6 => ?_⟩
      · replace hQ := hQ.1 c6
        refine j_pos (by decide : ((0 : Int32) = 0)) ?_
        intro S5 hS5
        refine ev_sub1 hQ hS5 (fun hQ => ?_)
        refine j_neg (by decide : ¬ ((1 : Int32) = 0)) ?_
        show ev_E g m_X10_resending 3 0 26 [some (ev_o 10 a), some (ev_i x0), some (ev_i x1)] [ev_i 0] S5 Q
        refine ev_if_eq 53 dX10_resending_26 (by decide) (fun _ => ?_) (fun h9 => absurd (by decide : ((0 : Int32) = 0)) h9)
        refine ev_iconst (0) dX10_resending_53 rfl ?_
        exact ev_ireturn .int dX10_resending_54 rfl rfl hQ
      · replace hQ := hQ.2 c6
        show ev_E g m_X10_resending 3 0 26 [some (ev_o 10 a), some (ev_i x0), some (ev_i x1)] [ev_i 0] S Q
        refine ev_if_eq 53 dX10_resending_26 (by decide) (fun _ => ?_) (fun h9 => absurd (by decide : ((0 : Int32) = 0)) h9)
        refine ev_iconst (0) dX10_resending_53 rfl ?_
        exact ev_ireturn .int dX10_resending_54 rfl rfl hQ
  · rw [if_neg c1]
    replace hQ := hQ.2 c1
    refine ev_if_eq 21 dX10_resending_6 (by decide) (fun _ => ?_) (fun h9 => absurd (by decide : ((0 : Int32) = 0)) h9)
    refine ev_iconst (0) dX10_resending_21 rfl ?_
    refine ev_iconst (1) dX10_resending_22 rfl ?_
    refine ev_cV mv_X10_right 1 0 10 [ev_i 0, ev_i 1] [] dX10_resending_23 kw_1951 rfl (by decide) rfl (by decide) (by decide) (Nat.le_of_ble_eq_true rfl) (Q' := fun o z => ev_After g m_X10_resending 3 (0 - 0) 23 [some (ev_o 10 a), some (ev_i x0), some (ev_i x1)] [] z Q o) (sg_X10_right_0 a 0 1 ?_) (fun o z h => h) rfl
    refine ⟨fun c7 => ?_, fun c7 => ?_⟩
    · replace hQ := hQ.1 c7
      refine j_pos (by decide : ((0 : Int32) = 0)) ?_
      intro S6 hS6
      refine ev_sub1 hQ hS6 (fun hQ => ?_)
      refine j_neg (by decide : ¬ ((1 : Int32) = 0)) ?_
      show ev_E g m_X10_resending 3 0 26 [some (ev_o 10 a), some (ev_i x0), some (ev_i x1)] [ev_i 0] S6 Q
      refine ev_if_eq 53 dX10_resending_26 (by decide) (fun _ => ?_) (fun h9 => absurd (by decide : ((0 : Int32) = 0)) h9)
      refine ev_iconst (0) dX10_resending_53 rfl ?_
      exact ev_ireturn .int dX10_resending_54 rfl rfl hQ
    · replace hQ := hQ.2 c7
      show ev_E g m_X10_resending 3 0 26 [some (ev_o 10 a), some (ev_i x0), some (ev_i x1)] [ev_i 0] S Q
      refine ev_if_eq 53 dX10_resending_26 (by decide) (fun _ => ?_) (fun h9 => absurd (by decide : ((0 : Int32) = 0)) h9)
      refine ev_iconst (0) dX10_resending_53 rfl ?_
      exact ev_ireturn .int dX10_resending_54 rfl rfl hQ
set_option maxHeartbeats 4000000 in
set_option maxRecDepth 100000 in
theorem sg_X10_advancing_0 {g : ev_G} {S : ev_S} {Q : ev_O → ev_S → Prop} (a : Nat) (x0 : Int32) (hQ : ((t_X10_in x0 1 60) = true → (
    ((S.1 a 7) = 0 → (
      (9999 < ((S.1 (a + 1) 2) + x0) → (
        ∀ S1 : ev_S, S1 = (ev_up S a 7 2) → (
          Q (.inl (some (ev_i 0))) S1))) ∧
      (¬ (9999 < ((S.1 (a + 1) 2) + x0)) → (
        ev_Cv g m_X10_changes 2 0 [ev_o 10 a] S (fun o S2 => o = .inl none ∧ (
          ev_E g m_X10_advancing 9 0 58 [some (ev_o 10 a), some (ev_i x0), some (ev_i (S2.1 (a + 1) 8)), some (ev_i 0)] [] S2 Q)))))) ∧
    (¬ ((S.1 a 7) = 0) → (
      Q (.inl (some (ev_i 0))) S)))) ∧
  (¬ ((t_X10_in x0 1 60) = true) → (
    ((S.1 a 7) = 0 → (
      ∀ S3 : ev_S, S3 = (ev_up S a 7 1) → (
        Q (.inl (some (ev_i 0))) S3))) ∧
    (¬ ((S.1 a 7) = 0) → (
      Q (.inl (some (ev_i 0))) S))))) : ev_Cv g m_X10_advancing 9 0 [ev_o 10 a, ev_i x0] S Q := by
  refine ev_enter (by decide) rfl rfl (Nat.le_of_ble_eq_true rfl) ?_
  show ev_E g m_X10_advancing 9 0 0 [some (ev_o 10 a), some (ev_i x0), none, none] [] S Q
  refine ev_aload_n (ev_o 10 a) dX10_advancing_0 rfl rfl ?_
  refine ev_iload_n (x0) dX10_advancing_1 rfl ?_
  refine ev_iconst (1) dX10_advancing_2 rfl ?_
  refine ev_bipush (60) dX10_advancing_3 (by decide) ?_
  refine ev_fS ms_X10_in 1 [ev_i x0, ev_i 1, ev_i 60] [ev_o 10 a] dX10_advancing_5 kw_1781 rfl (by decide) (Nat.le_of_ble_eq_true rfl) (sp_X10_in x0 1 60) ?_ rfl
  by_cases c1 : (t_X10_in x0 1 60) = true
  · rw [if_pos c1]
    replace hQ := hQ.1 c1
    refine ev_iconst (1) dX10_advancing_8 rfl ?_
    refine ev_cV mv_X10_right 1 0 10 [ev_i 1, ev_i 1] [] dX10_advancing_9 kw_1951 rfl (by decide) rfl (by decide) (by decide) (Nat.le_of_ble_eq_true rfl) (Q' := fun o z => ev_After g m_X10_advancing 9 (0 - 0) 9 [some (ev_o 10 a), some (ev_i x0), none, none] [] z Q o) (sg_X10_right_0 a 1 1 ?_) (fun o z h => h) rfl
    refine ⟨fun c2 => ?_, fun c2 => ?_⟩
    · replace hQ := hQ.1 c2
      refine j_neg (by decide : ¬ ((1 : Int32) = 0)) ?_
      show ev_E g m_X10_advancing 9 0 12 [some (ev_o 10 a), some (ev_i x0), none, none] [ev_i 1] S Q
      refine ev_if_eq 42 dX10_advancing_12 (by decide) (fun h9 => absurd h9 (by decide : ¬ ((1 : Int32) = 0))) (fun _ => ?_)
      refine ev_aload_n (ev_o 10 a) dX10_advancing_15 rfl rfl ?_
      refine ev_aload_n (ev_o 10 a) dX10_advancing_16 rfl rfl ?_
      refine gf_10_0 dX10_advancing_17 kw_1853 ?_
      refine ev_iconst (2) dX10_advancing_20 rfl ?_
      refine ev_iaload dX10_advancing_21 (j_vin (by decide)) ?_
      refine ev_iload_n (x0) dX10_advancing_22 rfl ?_
      refine ev_iadd dX10_advancing_23 ?_
      refine ev_sipush (9999) dX10_advancing_24 (by decide) ?_
      refine ev_icmp_gt 34 dX10_advancing_27 (by decide) (fun c3 => ?_) (fun c3 => ?_)
      · replace hQ := hQ.1 c3
        refine ev_iconst (0) dX10_advancing_34 rfl ?_
        refine ev_iconst (2) dX10_advancing_35 rfl ?_
        refine ev_cV mv_X10_right 1 0 10 [ev_i 0, ev_i 2] [] dX10_advancing_36 kw_1951 rfl (by decide) rfl (by decide) (by decide) (Nat.le_of_ble_eq_true rfl) (Q' := fun o z => ev_After g m_X10_advancing 9 (0 - 0) 36 [some (ev_o 10 a), some (ev_i x0), none, none] [] z Q o) (sg_X10_right_0 a 0 2 ?_) (fun o z h => h) rfl
        refine j_pos c2 ?_
        refine j_pos (by decide : ((0 : Int32) = 0)) ?_
        intro S1 hS1
        refine ev_sub1 hQ hS1 (fun hQ => ?_)
        refine j_neg (by decide : ¬ ((2 : Int32) = 0)) ?_
        show ev_E g m_X10_advancing 9 0 39 [some (ev_o 10 a), some (ev_i x0), none, none] [ev_i 0] S1 Q
        refine ev_if_ne 44 dX10_advancing_39 (by decide) (fun h9 => absurd (by decide : ((0 : Int32) = 0)) h9) (fun _ => ?_)
        refine ev_iconst (0) dX10_advancing_42 rfl ?_
        exact ev_ireturn .int dX10_advancing_43 rfl rfl hQ
      · replace hQ := hQ.2 c3
        refine ev_iconst (1) dX10_advancing_30 rfl ?_
        refine ev_goto 35 dX10_advancing_31 (by decide) ?_
        refine ev_iconst (2) dX10_advancing_35 rfl ?_
        refine ev_cV mv_X10_right 1 0 10 [ev_i 1, ev_i 2] [] dX10_advancing_36 kw_1951 rfl (by decide) rfl (by decide) (by decide) (Nat.le_of_ble_eq_true rfl) (Q' := fun o z => ev_After g m_X10_advancing 9 (0 - 0) 36 [some (ev_o 10 a), some (ev_i x0), none, none] [] z Q o) (sg_X10_right_0 a 1 2 ?_) (fun o z h => h) rfl
        refine j_pos c2 ?_
        refine j_neg (by decide : ¬ ((1 : Int32) = 0)) ?_
        show ev_E g m_X10_advancing 9 0 39 [some (ev_o 10 a), some (ev_i x0), none, none] [ev_i 1] S Q
        refine ev_if_ne 44 dX10_advancing_39 (by decide) (fun _ => ?_) (fun h9 => absurd h9 (by decide : ¬ ((1 : Int32) = 0)))
        refine ev_aload_n (ev_o 10 a) dX10_advancing_44 rfl rfl ?_
        refine ev_cV mv_X10_changes 2 0 10 [] [] dX10_advancing_45 kw_2068 rfl (by decide) rfl (by decide) (by decide) (Nat.le_of_ble_eq_true rfl) hQ ?_ rfl
        rintro o S2 ⟨rfl, hQ⟩
        show ev_E g m_X10_advancing 9 0 48 [some (ev_o 10 a), some (ev_i x0), none, none] [] S2 Q
        refine ev_aload_n (ev_o 10 a) dX10_advancing_48 rfl rfl ?_
        refine gf_10_0 dX10_advancing_49 kw_1853 ?_
        refine ev_bipush (8) dX10_advancing_52 (by decide) ?_
        refine ev_iaload dX10_advancing_54 (j_vin (by decide)) ?_
        refine ev_istore_n dX10_advancing_55 (Nat.le_of_ble_eq_true rfl) (ev_hw rfl) ?_
        show ev_E g m_X10_advancing 9 0 56 [some (ev_o 10 a), some (ev_i x0), some (ev_i (S2.1 (a + 1) 8)), none] [] S2 Q
        refine ev_iconst (0) dX10_advancing_56 rfl ?_
        refine ev_istore_n dX10_advancing_57 (Nat.le_of_ble_eq_true rfl) (ev_hw rfl) ?_
        show ev_E g m_X10_advancing 9 0 58 [some (ev_o 10 a), some (ev_i x0), some (ev_i (S2.1 (a + 1) 8)), some (ev_i 0)] [] S2 Q
        exact hQ
    · replace hQ := hQ.2 c2
      show ev_E g m_X10_advancing 9 0 12 [some (ev_o 10 a), some (ev_i x0), none, none] [ev_i 0] S Q
      refine ev_if_eq 42 dX10_advancing_12 (by decide) (fun _ => ?_) (fun h9 => absurd (by decide : ((0 : Int32) = 0)) h9)
      refine ev_iconst (0) dX10_advancing_42 rfl ?_
      exact ev_ireturn .int dX10_advancing_43 rfl rfl hQ
  · rw [if_neg c1]
    replace hQ := hQ.2 c1
    refine ev_iconst (1) dX10_advancing_8 rfl ?_
    refine ev_cV mv_X10_right 1 0 10 [ev_i 0, ev_i 1] [] dX10_advancing_9 kw_1951 rfl (by decide) rfl (by decide) (by decide) (Nat.le_of_ble_eq_true rfl) (Q' := fun o z => ev_After g m_X10_advancing 9 (0 - 0) 9 [some (ev_o 10 a), some (ev_i x0), none, none] [] z Q o) (sg_X10_right_0 a 0 1 ?_) (fun o z h => h) rfl
    refine ⟨fun c4 => ?_, fun c4 => ?_⟩
    · replace hQ := hQ.1 c4
      refine j_pos (by decide : ((0 : Int32) = 0)) ?_
      intro S3 hS3
      refine ev_sub1 hQ hS3 (fun hQ => ?_)
      refine j_neg (by decide : ¬ ((1 : Int32) = 0)) ?_
      show ev_E g m_X10_advancing 9 0 12 [some (ev_o 10 a), some (ev_i x0), none, none] [ev_i 0] S3 Q
      refine ev_if_eq 42 dX10_advancing_12 (by decide) (fun _ => ?_) (fun h9 => absurd (by decide : ((0 : Int32) = 0)) h9)
      refine ev_iconst (0) dX10_advancing_42 rfl ?_
      exact ev_ireturn .int dX10_advancing_43 rfl rfl hQ
    · replace hQ := hQ.2 c4
      show ev_E g m_X10_advancing 9 0 12 [some (ev_o 10 a), some (ev_i x0), none, none] [ev_i 0] S Q
      refine ev_if_eq 42 dX10_advancing_12 (by decide) (fun _ => ?_) (fun h9 => absurd (by decide : ((0 : Int32) = 0)) h9)
      refine ev_iconst (0) dX10_advancing_42 rfl ?_
      exact ev_ireturn .int dX10_advancing_43 rfl rfl hQ
set_option maxHeartbeats 4000000 in
set_option maxRecDepth 100000 in
theorem sg_X10_advancing_58 {g : ev_G} {S : ev_S} {Q : ev_O → ev_S → Prop} (a : Nat) (u1 : Int32) (u2 : Int32) (u3 : Int32) (hQ : (u1 ≤ u3 → (
    Q (.inl (some (ev_i ((S.1 (a + 1) 8) - u2)))) S)) ∧
  (¬ (u1 ≤ u3) → (
    ev_Cv g m_X10_dayPasses 8 0 [ev_o 10 a] S (fun o S1 => o = .inl none ∧ (
      ev_E g m_X10_advancing 9 0 58 [some (ev_o 10 a), some (ev_i u1), some (ev_i u2), some (ev_i (u3 + 1))] [] S1 Q))))) : ev_E g m_X10_advancing 9 0 58 [some (ev_o 10 a), some (ev_i u1), some (ev_i u2), some (ev_i u3)] [] S Q := by
  refine ev_iload_n (u3) dX10_advancing_58 rfl ?_
  refine ev_iload_n (u1) dX10_advancing_59 rfl ?_
  refine ev_icmp_ge 73 dX10_advancing_60 (by decide) (fun c1 => ?_) (fun c1 => ?_)
  · replace hQ := hQ.1 c1
    refine ev_aload_n (ev_o 10 a) dX10_advancing_73 rfl rfl ?_
    refine gf_10_0 dX10_advancing_74 kw_1853 ?_
    refine ev_bipush (8) dX10_advancing_77 (by decide) ?_
    refine ev_iaload dX10_advancing_79 (j_vin (by decide)) ?_
    refine ev_iload_n (u2) dX10_advancing_80 rfl ?_
    refine ev_isub dX10_advancing_81 ?_
    exact ev_ireturn .int dX10_advancing_82 rfl rfl hQ
  · replace hQ := hQ.2 c1
    refine ev_aload_n (ev_o 10 a) dX10_advancing_63 rfl rfl ?_
    refine ev_cV mv_X10_dayPasses 8 0 10 [] [] dX10_advancing_64 kw_2137 rfl (by decide) rfl (by decide) (by decide) (Nat.le_of_ble_eq_true rfl) hQ ?_ rfl
    rintro o S1 ⟨rfl, hQ⟩
    show ev_E g m_X10_advancing 9 0 67 [some (ev_o 10 a), some (ev_i u1), some (ev_i u2), some (ev_i u3)] [] S1 Q
    refine ev_iinc u3 (1) dX10_advancing_67 rfl (by decide) (ev_hw rfl) ?_
    show ev_E g m_X10_advancing 9 0 70 [some (ev_o 10 a), some (ev_i u1), some (ev_i u2), some (ev_i (u3 + 1))] [] S1 Q
    refine ev_goto 58 dX10_advancing_70 (by decide) ?_
    exact hQ
