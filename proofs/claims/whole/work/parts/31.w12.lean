set_option maxHeartbeats 4000000 in
set_option maxRecDepth 100000 in
theorem sg_X10_muling_0 {g : ev_G} {S : ev_S} {Q : ev_O → ev_S → Prop} (a : Nat) (x0 : Int32) (x1 : Int32) (hQ : ((t_X10_in x0 0 ((S.1 (a + 1) 3) - 1)) = true → (
    ((t_X10_in x1 0 1) = true → (
      ((S.1 a 7) = 0 → (
        (vp_in ((1140 + (15 * x0)) + (1 + x1)) 2091) ∧ (
          (9 ≤ (S.1 (a + 1) ((1140 + (15 * x0)) + (1 + x1)).toNatClampNeg) → (
            ∀ S1 : ev_S, S1 = (ev_up S a 7 2) → (
              Q (.inl (some (ev_i 0))) S1))) ∧
          (¬ (9 ≤ (S.1 (a + 1) ((1140 + (15 * x0)) + (1 + x1)).toNatClampNeg)) → (
            ev_Cv g m_X10_changes 2 0 [ev_o 10 a] S (fun o S2 => o = .inl none ∧ (
              ∀ S3 : ev_S, S3 = (ev_up S2 (a + 1) ((1140 + (15 * x0)) + (1 + x1)).toNatClampNeg ((S2.1 (a + 1) ((1140 + (15 * x0)) + (1 + x1)).toNatClampNeg) + 1)) → (
                ∀ S4 : ev_S, S4 = (ev_up S3 (a + 1) 11 ((S3.1 (a + 1) 11) + 1)) → (
                  Q (.inl (some (ev_i (S4.1 (a + 1) ((1140 + (15 * x0)) + (1 + x1)).toNatClampNeg)))) S4))))))))) ∧
      (¬ ((S.1 a 7) = 0) → (
        Q (.inl (some (ev_i 0))) S)))) ∧
    (¬ ((t_X10_in x1 0 1) = true) → (
      ((S.1 a 7) = 0 → (
        ∀ S5 : ev_S, S5 = (ev_up S a 7 1) → (
          Q (.inl (some (ev_i 0))) S5))) ∧
      (¬ ((S.1 a 7) = 0) → (
        Q (.inl (some (ev_i 0))) S)))))) ∧
  (¬ ((t_X10_in x0 0 ((S.1 (a + 1) 3) - 1)) = true) → (
    ((S.1 a 7) = 0 → (
      ∀ S6 : ev_S, S6 = (ev_up S a 7 1) → (
        Q (.inl (some (ev_i 0))) S6))) ∧
    (¬ ((S.1 a 7) = 0) → (
      Q (.inl (some (ev_i 0))) S))))) : ev_Cv g m_X10_muling 3 0 [ev_o 10 a, ev_i x0, ev_i x1] S Q := by
  refine ev_enter (by decide) rfl rfl (Nat.le_of_ble_eq_true rfl) ?_
  show ev_E g m_X10_muling 3 0 0 [some (ev_o 10 a), some (ev_i x0), some (ev_i x1)] [] S Q
  refine ev_aload_n (ev_o 10 a) dX10_muling_0 rfl rfl ?_
  refine ev_aload_n (ev_o 10 a) dX10_muling_1 rfl rfl ?_
  refine ev_iload_n (x0) dX10_muling_2 rfl ?_
  refine ev_fV mv_X10_isPass 2 10 [ev_i x0] [ev_o 10 a] dX10_muling_3 kw_2036 rfl (by decide) rfl (by decide) (Nat.le_of_ble_eq_true rfl) (sp_X10_isPass a x0) ?_ rfl
  by_cases c1 : (t_X10_in x0 0 ((S.1 (a + 1) 3) - 1)) = true
  · rw [if_pos c1]
    replace hQ := hQ.1 c1
    refine ev_if_eq 20 dX10_muling_6 (by decide) (fun h9 => absurd h9 (by decide : ¬ ((1 : Int32) = 0))) (fun _ => ?_)
    refine ev_iload_n (x1) dX10_muling_9 rfl ?_
    refine ev_fS ms_X10_isPlayer 2 [ev_i x1] [ev_o 10 a] dX10_muling_10 kw_2029 rfl (by decide) (Nat.le_of_ble_eq_true rfl) (sp_X10_isPlayer x1) ?_ rfl
    by_cases c2 : (t_X10_in x1 0 1) = true
    · rw [if_pos c2]
      replace hQ := hQ.1 c2
      refine ev_if_eq 20 dX10_muling_13 (by decide) (fun h9 => absurd h9 (by decide : ¬ ((1 : Int32) = 0))) (fun _ => ?_)
      refine ev_iconst (1) dX10_muling_16 rfl ?_
      refine ev_goto 21 dX10_muling_17 (by decide) ?_
      refine ev_iconst (1) dX10_muling_21 rfl ?_
      refine ev_cV mv_X10_right 1 0 10 [ev_i 1, ev_i 1] [] dX10_muling_22 kw_1951 rfl (by decide) rfl (by decide) (by decide) (Nat.le_of_ble_eq_true rfl) (Q' := fun o z => ev_After g m_X10_muling 3 (0 - 0) 22 [some (ev_o 10 a), some (ev_i x0), some (ev_i x1)] [] z Q o) (sg_X10_right_0 a 1 1 ?_) (fun o z h => h) rfl
      refine ⟨fun c3 => ?_, fun c3 => ?_⟩
      · replace hQ := hQ.1 c3
        refine j_neg (by decide : ¬ ((1 : Int32) = 0)) ?_
        show ev_E g m_X10_muling 3 0 25 [some (ev_o 10 a), some (ev_i x0), some (ev_i x1)] [ev_i 1] S Q
        refine ev_if_eq 54 dX10_muling_25 (by decide) (fun h9 => absurd h9 (by decide : ¬ ((1 : Int32) = 0))) (fun _ => ?_)
        refine ev_aload_n (ev_o 10 a) dX10_muling_28 rfl rfl ?_
        refine ev_aload_n (ev_o 10 a) dX10_muling_29 rfl rfl ?_
        refine ev_iload_n (x0) dX10_muling_30 rfl ?_
        refine ev_iconst (1) dX10_muling_31 rfl ?_
        refine ev_iload_n (x1) dX10_muling_32 rfl ?_
        refine ev_iadd dX10_muling_33 ?_
        obtain ⟨h1, hQ⟩ := hQ
        refine ev_fV mv_X10_ofPass 1 10 [ev_i x0, ev_i (1 + x1)] [ev_o 10 a] dX10_muling_34 kw_2161 rfl (by decide) rfl (by decide) (Nat.le_of_ble_eq_true rfl) (sp_X10_ofPass a x0 (1 + x1) h1) ?_ rfl
        refine ev_bipush (9) dX10_muling_37 (by decide) ?_
        refine ev_icmp_ge 46 dX10_muling_39 (by decide) (fun c4 => ?_) (fun c4 => ?_)
        · replace hQ := hQ.1 c4
          refine ev_iconst (0) dX10_muling_46 rfl ?_
          refine ev_iconst (2) dX10_muling_47 rfl ?_
          refine ev_cV mv_X10_right 1 0 10 [ev_i 0, ev_i 2] [] dX10_muling_48 kw_1951 rfl (by decide) rfl (by decide) (by decide) (Nat.le_of_ble_eq_true rfl) (Q' := fun o z => ev_After g m_X10_muling 3 (0 - 0) 48 [some (ev_o 10 a), some (ev_i x0), some (ev_i x1)] [] z Q o) (sg_X10_right_0 a 0 2 ?_) (fun o z h => h) rfl
          refine j_pos c3 ?_
          refine j_pos (by decide : ((0 : Int32) = 0)) ?_
          intro S1 hS1
          refine ev_sub1 hQ hS1 (fun hQ => ?_)
          refine j_neg (by decide : ¬ ((2 : Int32) = 0)) ?_
          show ev_E g m_X10_muling 3 0 51 [some (ev_o 10 a), some (ev_i x0), some (ev_i x1)] [ev_i 0] S1 Q
          refine ev_if_ne 56 dX10_muling_51 (by decide) (fun h9 => absurd (by decide : ((0 : Int32) = 0)) h9) (fun _ => ?_)
          refine ev_iconst (0) dX10_muling_54 rfl ?_
          exact ev_ireturn .int dX10_muling_55 rfl rfl hQ
        · replace hQ := hQ.2 c4
          refine ev_iconst (1) dX10_muling_42 rfl ?_
          refine ev_goto 47 dX10_muling_43 (by decide) ?_
          refine ev_iconst (2) dX10_muling_47 rfl ?_
          refine ev_cV mv_X10_right 1 0 10 [ev_i 1, ev_i 2] [] dX10_muling_48 kw_1951 rfl (by decide) rfl (by decide) (by decide) (Nat.le_of_ble_eq_true rfl) (Q' := fun o z => ev_After g m_X10_muling 3 (0 - 0) 48 [some (ev_o 10 a), some (ev_i x0), some (ev_i x1)] [] z Q o) (sg_X10_right_0 a 1 2 ?_) (fun o z h => h) rfl
          refine j_pos c3 ?_
          refine j_neg (by decide : ¬ ((1 : Int32) = 0)) ?_
          show ev_E g m_X10_muling 3 0 51 [some (ev_o 10 a), some (ev_i x0), some (ev_i x1)] [ev_i 1] S Q
          refine ev_if_ne 56 dX10_muling_51 (by decide) (fun _ => ?_) (fun h9 => absurd h9 (by decide : ¬ ((1 : Int32) = 0)))
          refine ev_aload_n (ev_o 10 a) dX10_muling_56 rfl rfl ?_
          refine ev_cV mv_X10_changes 2 0 10 [] [] dX10_muling_57 kw_2068 rfl (by decide) rfl (by decide) (by decide) (Nat.le_of_ble_eq_true rfl) hQ ?_ rfl
          rintro o S2 ⟨rfl, hQ⟩
          show ev_E g m_X10_muling 3 0 60 [some (ev_o 10 a), some (ev_i x0), some (ev_i x1)] [] S2 Q
          refine ev_aload_n (ev_o 10 a) dX10_muling_60 rfl rfl ?_
          refine ev_iload_n (x0) dX10_muling_61 rfl ?_
          refine ev_iconst (1) dX10_muling_62 rfl ?_
          refine ev_iload_n (x1) dX10_muling_63 rfl ?_
          refine ev_iadd dX10_muling_64 ?_
          refine ev_aload_n (ev_o 10 a) dX10_muling_65 rfl rfl ?_
          refine ev_iload_n (x0) dX10_muling_66 rfl ?_
          refine ev_iconst (1) dX10_muling_67 rfl ?_
          refine ev_iload_n (x1) dX10_muling_68 rfl ?_
          refine ev_iadd dX10_muling_69 ?_
          refine ev_fV mv_X10_ofPass 1 10 [ev_i x0, ev_i (1 + x1)] [ev_i (1 + x1), ev_i x0, ev_o 10 a] dX10_muling_70 kw_2161 rfl (by decide) rfl (by decide) (Nat.le_of_ble_eq_true rfl) (sp_X10_ofPass a x0 (1 + x1) h1) ?_ rfl
          refine ev_iconst (1) dX10_muling_73 rfl ?_
          refine ev_iadd dX10_muling_74 ?_
          refine ev_fVn mv_X10_putPass 1 10 [ev_i x0, ev_i (1 + x1), ev_i ((S2.1 (a + 1) ((1140 + (15 * x0)) + (1 + x1)).toNatClampNeg) + 1)] [] dX10_muling_75 kw_1844 rfl (by decide) rfl (by decide) (Nat.le_of_ble_eq_true rfl) (sp_X10_putPass a x0 (1 + x1) ((S2.1 (a + 1) ((1140 + (15 * x0)) + (1 + x1)).toNatClampNeg) + 1) h1) ?_ rfl
          refine ev_sub hQ (fun S3 hS3 hQ => ?_)
          refine ev_E.goal (pc' := 78) (L' := [some (ev_o 10 a), some (ev_i x0), some (ev_i x1)]) (K' := []) (S' := S3) ?_ rfl rfl rfl hS3
          refine ev_aload_n (ev_o 10 a) dX10_muling_78 rfl rfl ?_
          refine gf_10_0 dX10_muling_79 kw_1853 ?_
          refine ev_bipush (11) dX10_muling_82 (by decide) ?_
          refine ev_dup2 dX10_muling_84 rfl rfl ?_
          refine ev_iaload dX10_muling_85 (j_vin (by decide)) ?_
          refine ev_iconst (1) dX10_muling_86 rfl ?_
          refine ev_iadd dX10_muling_87 ?_
          refine ev_iastore dX10_muling_88 (j_vin (by decide)) ?_
          refine ev_sub hQ (fun S4 hS4 hQ => ?_)
          refine ev_E.goal (pc' := 89) (L' := [some (ev_o 10 a), some (ev_i x0), some (ev_i x1)]) (K' := []) (S' := S4) ?_ rfl rfl rfl hS4
          refine ev_aload_n (ev_o 10 a) dX10_muling_89 rfl rfl ?_
          refine ev_iload_n (x0) dX10_muling_90 rfl ?_
          refine ev_iconst (1) dX10_muling_91 rfl ?_
          refine ev_iload_n (x1) dX10_muling_92 rfl ?_
          refine ev_iadd dX10_muling_93 ?_
          refine ev_fV mv_X10_ofPass 1 10 [ev_i x0, ev_i (1 + x1)] [] dX10_muling_94 kw_2161 rfl (by decide) rfl (by decide) (Nat.le_of_ble_eq_true rfl) (sp_X10_ofPass a x0 (1 + x1) h1) ?_ rfl
          exact ev_ireturn .int dX10_muling_97 rfl rfl hQ
      · replace hQ := hQ.2 c3
        show ev_E g m_X10_muling 3 0 25 [some (ev_o 10 a), some (ev_i x0), some (ev_i x1)] [ev_i 0] S Q
        refine ev_if_eq 54 dX10_muling_25 (by decide) (fun _ => ?_) (fun h9 => absurd (by decide : ((0 : Int32) = 0)) h9)
        refine ev_iconst (0) dX10_muling_54 rfl ?_
        exact ev_ireturn .int dX10_muling_55 rfl rfl hQ
    · rw [if_neg c2]
      replace hQ := hQ.2 c2
      refine ev_if_eq 20 dX10_muling_13 (by decide) (fun _ => ?_) (fun h9 => absurd (by decide : ((0 : Int32) = 0)) h9)
      refine ev_iconst (0) dX10_muling_20 rfl ?_
      refine ev_iconst (1) dX10_muling_21 rfl ?_
      refine ev_cV mv_X10_right 1 0 10 [ev_i 0, ev_i 1] [] dX10_muling_22 kw_1951 rfl (by decide) rfl (by decide) (by decide) (Nat.le_of_ble_eq_true rfl) (Q' := fun o z => ev_After g m_X10_muling 3 (0 - 0) 22 [some (ev_o 10 a), some (ev_i x0), some (ev_i x1)] [] z Q o) (sg_X10_right_0 a 0 1 ?_) (fun o z h => h) rfl
      refine ⟨fun c5 => ?_, fun c5 => ?_⟩
      · replace hQ := hQ.1 c5
        refine j_pos (by decide : ((0 : Int32) = 0)) ?_
        intro S5 hS5
        refine ev_sub1 hQ hS5 (fun hQ => ?_)
        refine j_neg (by decide : ¬ ((1 : Int32) = 0)) ?_
        show ev_E g m_X10_muling 3 0 25 [some (ev_o 10 a), some (ev_i x0), some (ev_i x1)] [ev_i 0] S5 Q
        refine ev_if_eq 54 dX10_muling_25 (by decide) (fun _ => ?_) (fun h9 => absurd (by decide : ((0 : Int32) = 0)) h9)
        refine ev_iconst (0) dX10_muling_54 rfl ?_
        exact ev_ireturn .int dX10_muling_55 rfl rfl hQ
      · replace hQ := hQ.2 c5
        show ev_E g m_X10_muling 3 0 25 [some (ev_o 10 a), some (ev_i x0), some (ev_i x1)] [ev_i 0] S Q
        refine ev_if_eq 54 dX10_muling_25 (by decide) (fun _ => ?_) (fun h9 => absurd (by decide : ((0 : Int32) = 0)) h9)
        refine ev_iconst (0) dX10_muling_54 rfl ?_
        exact ev_ireturn .int dX10_muling_55 rfl rfl hQ
  · rw [if_neg c1]
    replace hQ := hQ.2 c1
    refine ev_if_eq 20 dX10_muling_6 (by decide) (fun _ => ?_) (fun h9 => absurd (by decide : ((0 : Int32) = 0)) h9)
    refine ev_iconst (0) dX10_muling_20 rfl ?_
    refine ev_iconst (1) dX10_muling_21 rfl ?_
    refine ev_cV mv_X10_right 1 0 10 [ev_i 0, ev_i 1] [] dX10_muling_22 kw_1951 rfl (by decide) rfl (by decide) (by decide) (Nat.le_of_ble_eq_true rfl) (Q' := fun o z => ev_After g m_X10_muling 3 (0 - 0) 22 [some (ev_o 10 a), some (ev_i x0), some (ev_i x1)] [] z Q o) (sg_X10_right_0 a 0 1 ?_) (fun o z h => h) rfl
    refine ⟨fun c6 => ?_, fun c6 => ?_⟩
    · replace hQ := hQ.1 c6
      refine j_pos (by decide : ((0 : Int32) = 0)) ?_
      intro S6 hS6
      refine ev_sub1 hQ hS6 (fun hQ => ?_)
      refine j_neg (by decide : ¬ ((1 : Int32) = 0)) ?_
      show ev_E g m_X10_muling 3 0 25 [some (ev_o 10 a), some (ev_i x0), some (ev_i x1)] [ev_i 0] S6 Q
      refine ev_if_eq 54 dX10_muling_25 (by decide) (fun _ => ?_) (fun h9 => absurd (by decide : ((0 : Int32) = 0)) h9)
      refine ev_iconst (0) dX10_muling_54 rfl ?_
      exact ev_ireturn .int dX10_muling_55 rfl rfl hQ
    · replace hQ := hQ.2 c6
      show ev_E g m_X10_muling 3 0 25 [some (ev_o 10 a), some (ev_i x0), some (ev_i x1)] [ev_i 0] S Q
      refine ev_if_eq 54 dX10_muling_25 (by decide) (fun _ => ?_) (fun h9 => absurd (by decide : ((0 : Int32) = 0)) h9)
      refine ev_iconst (0) dX10_muling_54 rfl ?_
      exact ev_ireturn .int dX10_muling_55 rfl rfl hQ
set_option maxHeartbeats 4000000 in
set_option maxRecDepth 100000 in
theorem sg_X10_snowing_0 {g : ev_G} {S : ev_S} {Q : ev_O → ev_S → Prop} (a : Nat) (x0 : Int32) (x1 : Int32) (x2 : Int32) (hQ : ((t_X10_in x0 0 ((S.1 (a + 1) 3) - 1)) = true → (
    ((t_X10_in x1 0 11) = true → (
      ((S.1 a 7) = 0 → (
        ((t_X10_in x2 0 9) = true → (
          ev_Cv g m_X10_changes 2 0 [ev_o 10 a] S (fun o S1 => o = .inl none ∧ (
            (vp_in ((1140 + (15 * x0)) + (3 + x1)) 2091) ∧ (
              ∀ S2 : ev_S, S2 = (ev_up S1 (a + 1) ((1140 + (15 * x0)) + (3 + x1)).toNatClampNeg x2) → (
                Q (.inl (some (ev_i (S1.1 (a + 1) ((1140 + (15 * x0)) + (3 + x1)).toNatClampNeg)))) S2)))))) ∧
        (¬ ((t_X10_in x2 0 9) = true) → (
          ∀ S3 : ev_S, S3 = (ev_up S a 7 2) → (
            Q (.inl (some (ev_i 0))) S3))))) ∧
      (¬ ((S.1 a 7) = 0) → (
        Q (.inl (some (ev_i 0))) S)))) ∧
    (¬ ((t_X10_in x1 0 11) = true) → (
      ((S.1 a 7) = 0 → (
        ∀ S4 : ev_S, S4 = (ev_up S a 7 1) → (
          Q (.inl (some (ev_i 0))) S4))) ∧
      (¬ ((S.1 a 7) = 0) → (
        Q (.inl (some (ev_i 0))) S)))))) ∧
  (¬ ((t_X10_in x0 0 ((S.1 (a + 1) 3) - 1)) = true) → (
    ((S.1 a 7) = 0 → (
      ∀ S5 : ev_S, S5 = (ev_up S a 7 1) → (
        Q (.inl (some (ev_i 0))) S5))) ∧
    (¬ ((S.1 a 7) = 0) → (
      Q (.inl (some (ev_i 0))) S))))) : ev_Cv g m_X10_snowing 3 0 [ev_o 10 a, ev_i x0, ev_i x1, ev_i x2] S Q := by
  refine ev_enter (by decide) rfl rfl (Nat.le_of_ble_eq_true rfl) ?_
  show ev_E g m_X10_snowing 3 0 0 [some (ev_o 10 a), some (ev_i x0), some (ev_i x1), some (ev_i x2), none] [] S Q
  refine ev_aload_n (ev_o 10 a) dX10_snowing_0 rfl rfl ?_
  refine ev_aload_n (ev_o 10 a) dX10_snowing_1 rfl rfl ?_
  refine ev_iload_n (x0) dX10_snowing_2 rfl ?_
  refine ev_fV mv_X10_isPass 2 10 [ev_i x0] [ev_o 10 a] dX10_snowing_3 kw_2036 rfl (by decide) rfl (by decide) (Nat.le_of_ble_eq_true rfl) (sp_X10_isPass a x0) ?_ rfl
  by_cases c1 : (t_X10_in x0 0 ((S.1 (a + 1) 3) - 1)) = true
  · rw [if_pos c1]
    replace hQ := hQ.1 c1
    refine ev_if_eq 23 dX10_snowing_6 (by decide) (fun h9 => absurd h9 (by decide : ¬ ((1 : Int32) = 0))) (fun _ => ?_)
    refine ev_iload_n (x1) dX10_snowing_9 rfl ?_
    refine ev_iconst (0) dX10_snowing_10 rfl ?_
    refine ev_bipush (11) dX10_snowing_11 (by decide) ?_
    refine ev_fS ms_X10_in 1 [ev_i x1, ev_i 0, ev_i 11] [ev_o 10 a] dX10_snowing_13 kw_1781 rfl (by decide) (Nat.le_of_ble_eq_true rfl) (sp_X10_in x1 0 11) ?_ rfl
    by_cases c2 : (t_X10_in x1 0 11) = true
    · rw [if_pos c2]
      replace hQ := hQ.1 c2
      refine ev_if_eq 23 dX10_snowing_16 (by decide) (fun h9 => absurd h9 (by decide : ¬ ((1 : Int32) = 0))) (fun _ => ?_)
      refine ev_iconst (1) dX10_snowing_19 rfl ?_
      refine ev_goto 24 dX10_snowing_20 (by decide) ?_
      refine ev_iconst (1) dX10_snowing_24 rfl ?_
      refine ev_cV mv_X10_right 1 0 10 [ev_i 1, ev_i 1] [] dX10_snowing_25 kw_1951 rfl (by decide) rfl (by decide) (by decide) (Nat.le_of_ble_eq_true rfl) (Q' := fun o z => ev_After g m_X10_snowing 3 (0 - 0) 25 [some (ev_o 10 a), some (ev_i x0), some (ev_i x1), some (ev_i x2), none] [] z Q o) (sg_X10_right_0 a 1 1 ?_) (fun o z h => h) rfl
      refine ⟨fun c3 => ?_, fun c3 => ?_⟩
      · replace hQ := hQ.1 c3
        refine j_neg (by decide : ¬ ((1 : Int32) = 0)) ?_
        show ev_E g m_X10_snowing 3 0 28 [some (ev_o 10 a), some (ev_i x0), some (ev_i x1), some (ev_i x2), none] [ev_i 1] S Q
        refine ev_if_eq 46 dX10_snowing_28 (by decide) (fun h9 => absurd h9 (by decide : ¬ ((1 : Int32) = 0))) (fun _ => ?_)
        refine ev_aload_n (ev_o 10 a) dX10_snowing_31 rfl rfl ?_
        refine ev_iload_n (x2) dX10_snowing_32 rfl ?_
        refine ev_iconst (0) dX10_snowing_33 rfl ?_
        refine ev_bipush (9) dX10_snowing_34 (by decide) ?_
        refine ev_fS ms_X10_in 1 [ev_i x2, ev_i 0, ev_i 9] [ev_o 10 a] dX10_snowing_36 kw_1781 rfl (by decide) (Nat.le_of_ble_eq_true rfl) (sp_X10_in x2 0 9) ?_ rfl
        by_cases c4 : (t_X10_in x2 0 9) = true
        · rw [if_pos c4]
          replace hQ := hQ.1 c4
          refine ev_iconst (2) dX10_snowing_39 rfl ?_
          refine ev_cV mv_X10_right 1 0 10 [ev_i 1, ev_i 2] [] dX10_snowing_40 kw_1951 rfl (by decide) rfl (by decide) (by decide) (Nat.le_of_ble_eq_true rfl) (Q' := fun o z => ev_After g m_X10_snowing 3 (0 - 0) 40 [some (ev_o 10 a), some (ev_i x0), some (ev_i x1), some (ev_i x2), none] [] z Q o) (sg_X10_right_0 a 1 2 ?_) (fun o z h => h) rfl
          refine j_pos c3 ?_
          refine j_neg (by decide : ¬ ((1 : Int32) = 0)) ?_
          show ev_E g m_X10_snowing 3 0 43 [some (ev_o 10 a), some (ev_i x0), some (ev_i x1), some (ev_i x2), none] [ev_i 1] S Q
          refine ev_if_ne 48 dX10_snowing_43 (by decide) (fun _ => ?_) (fun h9 => absurd h9 (by decide : ¬ ((1 : Int32) = 0)))
          refine ev_aload_n (ev_o 10 a) dX10_snowing_48 rfl rfl ?_
          refine ev_cV mv_X10_changes 2 0 10 [] [] dX10_snowing_49 kw_2068 rfl (by decide) rfl (by decide) (by decide) (Nat.le_of_ble_eq_true rfl) hQ ?_ rfl
          rintro o S1 ⟨rfl, hQ⟩
          show ev_E g m_X10_snowing 3 0 52 [some (ev_o 10 a), some (ev_i x0), some (ev_i x1), some (ev_i x2), none] [] S1 Q
          refine ev_aload_n (ev_o 10 a) dX10_snowing_52 rfl rfl ?_
          refine ev_iload_n (x0) dX10_snowing_53 rfl ?_
          refine ev_iconst (3) dX10_snowing_54 rfl ?_
          refine ev_iload_n (x1) dX10_snowing_55 rfl ?_
          refine ev_iadd dX10_snowing_56 ?_
          obtain ⟨h1, hQ⟩ := hQ
          refine ev_fV mv_X10_ofPass 1 10 [ev_i x0, ev_i (3 + x1)] [] dX10_snowing_57 kw_2161 rfl (by decide) rfl (by decide) (Nat.le_of_ble_eq_true rfl) (sp_X10_ofPass a x0 (3 + x1) h1) ?_ rfl
          refine ev_istore dX10_snowing_60 (Nat.le_of_ble_eq_true rfl) (ev_hw rfl) ?_
          show ev_E g m_X10_snowing 3 0 62 [some (ev_o 10 a), some (ev_i x0), some (ev_i x1), some (ev_i x2), some (ev_i (S1.1 (a + 1) ((1140 + (15 * x0)) + (3 + x1)).toNatClampNeg))] [] S1 Q
          refine ev_aload_n (ev_o 10 a) dX10_snowing_62 rfl rfl ?_
          refine ev_iload_n (x0) dX10_snowing_63 rfl ?_
          refine ev_iconst (3) dX10_snowing_64 rfl ?_
          refine ev_iload_n (x1) dX10_snowing_65 rfl ?_
          refine ev_iadd dX10_snowing_66 ?_
          refine ev_iload_n (x2) dX10_snowing_67 rfl ?_
          refine ev_fVn mv_X10_putPass 1 10 [ev_i x0, ev_i (3 + x1), ev_i x2] [] dX10_snowing_68 kw_1844 rfl (by decide) rfl (by decide) (Nat.le_of_ble_eq_true rfl) (sp_X10_putPass a x0 (3 + x1) x2 h1) ?_ rfl
          refine ev_sub hQ (fun S2 hS2 hQ => ?_)
          refine ev_E.goal (pc' := 71) (L' := [some (ev_o 10 a), some (ev_i x0), some (ev_i x1), some (ev_i x2), some (ev_i (S1.1 (a + 1) ((1140 + (15 * x0)) + (3 + x1)).toNatClampNeg))]) (K' := []) (S' := S2) ?_ rfl rfl rfl hS2
          refine ev_iload ((S1.1 (a + 1) ((1140 + (15 * x0)) + (3 + x1)).toNatClampNeg)) dX10_snowing_71 rfl ?_
          exact ev_ireturn .int dX10_snowing_73 rfl rfl hQ
        · rw [if_neg c4]
          replace hQ := hQ.2 c4
          refine ev_iconst (2) dX10_snowing_39 rfl ?_
          refine ev_cV mv_X10_right 1 0 10 [ev_i 0, ev_i 2] [] dX10_snowing_40 kw_1951 rfl (by decide) rfl (by decide) (by decide) (Nat.le_of_ble_eq_true rfl) (Q' := fun o z => ev_After g m_X10_snowing 3 (0 - 0) 40 [some (ev_o 10 a), some (ev_i x0), some (ev_i x1), some (ev_i x2), none] [] z Q o) (sg_X10_right_0 a 0 2 ?_) (fun o z h => h) rfl
          refine j_pos c3 ?_
          refine j_pos (by decide : ((0 : Int32) = 0)) ?_
          intro S3 hS3
          refine ev_sub1 hQ hS3 (fun hQ => ?_)
          refine j_neg (by decide : ¬ ((2 : Int32) = 0)) ?_
          show ev_E g m_X10_snowing 3 0 43 [some (ev_o 10 a), some (ev_i x0), some (ev_i x1), some (ev_i x2), none] [ev_i 0] S3 Q
          refine ev_if_ne 48 dX10_snowing_43 (by decide) (fun h9 => absurd (by decide : ((0 : Int32) = 0)) h9) (fun _ => ?_)
          refine ev_iconst (0) dX10_snowing_46 rfl ?_
          exact ev_ireturn .int dX10_snowing_47 rfl rfl hQ
      · replace hQ := hQ.2 c3
        show ev_E g m_X10_snowing 3 0 28 [some (ev_o 10 a), some (ev_i x0), some (ev_i x1), some (ev_i x2), none] [ev_i 0] S Q
        refine ev_if_eq 46 dX10_snowing_28 (by decide) (fun _ => ?_) (fun h9 => absurd (by decide : ((0 : Int32) = 0)) h9)
        refine ev_iconst (0) dX10_snowing_46 rfl ?_
        exact ev_ireturn .int dX10_snowing_47 rfl rfl hQ
    · rw [if_neg c2]
      replace hQ := hQ.2 c2
      refine ev_if_eq 23 dX10_snowing_16 (by decide) (fun _ => ?_) (fun h9 => absurd (by decide : ((0 : Int32) = 0)) h9)
      refine ev_iconst (0) dX10_snowing_23 rfl ?_
      refine ev_iconst (1) dX10_snowing_24 rfl ?_
      refine ev_cV mv_X10_right 1 0 10 [ev_i 0, ev_i 1] [] dX10_snowing_25 kw_1951 rfl (by decide) rfl (by decide) (by decide) (Nat.le_of_ble_eq_true rfl) (Q' := fun o z => ev_After g m_X10_snowing 3 (0 - 0) 25 [some (ev_o 10 a), some (ev_i x0), some (ev_i x1), some (ev_i x2), none] [] z Q o) (sg_X10_right_0 a 0 1 ?_) (fun o z h => h) rfl
      refine ⟨fun c5 => ?_, fun c5 => ?_⟩
      · replace hQ := hQ.1 c5
        refine j_pos (by decide : ((0 : Int32) = 0)) ?_
        intro S4 hS4
        refine ev_sub1 hQ hS4 (fun hQ => ?_)
        refine j_neg (by decide : ¬ ((1 : Int32) = 0)) ?_
        show ev_E g m_X10_snowing 3 0 28 [some (ev_o 10 a), some (ev_i x0), some (ev_i x1), some (ev_i x2), none] [ev_i 0] S4 Q
        refine ev_if_eq 46 dX10_snowing_28 (by decide) (fun _ => ?_) (fun h9 => absurd (by decide : ((0 : Int32) = 0)) h9)
        refine ev_iconst (0) dX10_snowing_46 rfl ?_
        exact ev_ireturn .int dX10_snowing_47 rfl rfl hQ
      · replace hQ := hQ.2 c5
        show ev_E g m_X10_snowing 3 0 28 [some (ev_o 10 a), some (ev_i x0), some (ev_i x1), some (ev_i x2), none] [ev_i 0] S Q
        refine ev_if_eq 46 dX10_snowing_28 (by decide) (fun _ => ?_) (fun h9 => absurd (by decide : ((0 : Int32) = 0)) h9)
        refine ev_iconst (0) dX10_snowing_46 rfl ?_
        exact ev_ireturn .int dX10_snowing_47 rfl rfl hQ
  · rw [if_neg c1]
    replace hQ := hQ.2 c1
    refine ev_if_eq 23 dX10_snowing_6 (by decide) (fun _ => ?_) (fun h9 => absurd (by decide : ((0 : Int32) = 0)) h9)
    refine ev_iconst (0) dX10_snowing_23 rfl ?_
    refine ev_iconst (1) dX10_snowing_24 rfl ?_
    refine ev_cV mv_X10_right 1 0 10 [ev_i 0, ev_i 1] [] dX10_snowing_25 kw_1951 rfl (by decide) rfl (by decide) (by decide) (Nat.le_of_ble_eq_true rfl) (Q' := fun o z => ev_After g m_X10_snowing 3 (0 - 0) 25 [some (ev_o 10 a), some (ev_i x0), some (ev_i x1), some (ev_i x2), none] [] z Q o) (sg_X10_right_0 a 0 1 ?_) (fun o z h => h) rfl
    refine ⟨fun c6 => ?_, fun c6 => ?_⟩
    · replace hQ := hQ.1 c6
      refine j_pos (by decide : ((0 : Int32) = 0)) ?_
      intro S5 hS5
      refine ev_sub1 hQ hS5 (fun hQ => ?_)
      refine j_neg (by decide : ¬ ((1 : Int32) = 0)) ?_
      show ev_E g m_X10_snowing 3 0 28 [some (ev_o 10 a), some (ev_i x0), some (ev_i x1), some (ev_i x2), none] [ev_i 0] S5 Q
      refine ev_if_eq 46 dX10_snowing_28 (by decide) (fun _ => ?_) (fun h9 => absurd (by decide : ((0 : Int32) = 0)) h9)
      refine ev_iconst (0) dX10_snowing_46 rfl ?_
      exact ev_ireturn .int dX10_snowing_47 rfl rfl hQ
    · replace hQ := hQ.2 c6
      show ev_E g m_X10_snowing 3 0 28 [some (ev_o 10 a), some (ev_i x0), some (ev_i x1), some (ev_i x2), none] [ev_i 0] S Q
      refine ev_if_eq 46 dX10_snowing_28 (by decide) (fun _ => ?_) (fun h9 => absurd (by decide : ((0 : Int32) = 0)) h9)
      refine ev_iconst (0) dX10_snowing_46 rfl ?_
      exact ev_ireturn .int dX10_snowing_47 rfl rfl hQ
set_option maxHeartbeats 4000000 in
set_option maxRecDepth 100000 in
theorem sg_X10_does_0 {g : ev_G} {S : ev_S} {Q : ev_O → ev_S → Prop} (a : Nat) (x0 : Int32) (hQ : ∀ S1 : ev_S, S1 = (ev_up S a 7 0) → (
    (vp_in x0 30) ∧ (
      ((S.1 (a + 8) x0.toNatClampNeg) = 0 → (
        (vp_in ((6 * x0) + 0) 180) ∧ (
          (vp_in ((6 * x0) + 1) 180) ∧ (
            (vp_in ((6 * x0) + 2) 180) ∧ (
              (vp_in ((6 * x0) + 3) 180) ∧ (
                ev_Cv g m_X10_moving 5 0 [ev_o 10 a, ev_i (S.1 (a + 9) ((6 * x0) + 0).toNatClampNeg), ev_i (S.1 (a + 9) ((6 * x0) + 1).toNatClampNeg), ev_i (S.1 (a + 9) ((6 * x0) + 2).toNatClampNeg), ev_i (S.1 (a + 9) ((6 * x0) + 3).toNatClampNeg)] S1 (fun o S2 => ∃ v1_ : Int32, o = .inl (some (ev_i v1_)) ∧ (
                  Q (.inl (some (ev_i v1_))) S2)))))))) ∧
      (¬ ((S.1 (a + 8) x0.toNatClampNeg) = 0) → (
        ((S.1 (a + 8) x0.toNatClampNeg) = 1 → (
          (vp_in ((6 * x0) + 0) 180) ∧ (
            (vp_in ((6 * x0) + 1) 180) ∧ (
              (vp_in ((6 * x0) + 2) 180) ∧ (
                (vp_in ((6 * x0) + 3) 180) ∧ (
                  (vp_in ((6 * x0) + 4) 180) ∧ (
                    (vp_in ((6 * x0) + 5) 180) ∧ (
                      ev_Cv g m_X10_promising 5 0 [ev_o 10 a, ev_i (S.1 (a + 9) ((6 * x0) + 0).toNatClampNeg), ev_i (S.1 (a + 9) ((6 * x0) + 1).toNatClampNeg), ev_i (S.1 (a + 9) ((6 * x0) + 2).toNatClampNeg), ev_i (S.1 (a + 9) ((6 * x0) + 3).toNatClampNeg), ev_i (S.1 (a + 9) ((6 * x0) + 4).toNatClampNeg), ev_i (S.1 (a + 9) ((6 * x0) + 5).toNatClampNeg)] S1 (fun o S3 => ∃ v2_ : Int32, o = .inl (some (ev_i v2_)) ∧ (
                        Q (.inl (some (ev_i v2_))) S3)))))))))) ∧
        (¬ ((S.1 (a + 8) x0.toNatClampNeg) = 1) → (
          ((S.1 (a + 8) x0.toNatClampNeg) = 2 → (
            (vp_in ((6 * x0) + 0) 180) ∧ (
              (vp_in ((6 * x0) + 1) 180) ∧ (
                ev_Cv g m_X10_resending 3 0 [ev_o 10 a, ev_i (S.1 (a + 9) ((6 * x0) + 0).toNatClampNeg), ev_i (S.1 (a + 9) ((6 * x0) + 1).toNatClampNeg)] S1 (fun o S4 => ∃ v3_ : Int32, o = .inl (some (ev_i v3_)) ∧ (
                  Q (.inl (some (ev_i v3_))) S4)))))) ∧
          (¬ ((S.1 (a + 8) x0.toNatClampNeg) = 2) → (
            ((S.1 (a + 8) x0.toNatClampNeg) = 3 → (
              (vp_in ((6 * x0) + 0) 180) ∧ (
                ev_Cv g m_X10_advancing 9 0 [ev_o 10 a, ev_i (S.1 (a + 9) ((6 * x0) + 0).toNatClampNeg)] S1 (fun o S5 => ∃ v4_ : Int32, o = .inl (some (ev_i v4_)) ∧ (
                  Q (.inl (some (ev_i v4_))) S5))))) ∧
            (¬ ((S.1 (a + 8) x0.toNatClampNeg) = 3) → (
              ((S.1 (a + 8) x0.toNatClampNeg) = 4 → (
                (vp_in ((6 * x0) + 0) 180) ∧ (
                  (vp_in ((6 * x0) + 1) 180) ∧ (
                    ev_Cv g m_X10_muling 3 0 [ev_o 10 a, ev_i (S.1 (a + 9) ((6 * x0) + 0).toNatClampNeg), ev_i (S.1 (a + 9) ((6 * x0) + 1).toNatClampNeg)] S1 (fun o S6 => ∃ v5_ : Int32, o = .inl (some (ev_i v5_)) ∧ (
                      Q (.inl (some (ev_i v5_))) S6)))))) ∧
              (¬ ((S.1 (a + 8) x0.toNatClampNeg) = 4) → (
                (vp_in ((6 * x0) + 0) 180) ∧ (
                  (vp_in ((6 * x0) + 1) 180) ∧ (
                    (vp_in ((6 * x0) + 2) 180) ∧ (
                      ev_Cv g m_X10_snowing 3 0 [ev_o 10 a, ev_i (S.1 (a + 9) ((6 * x0) + 0).toNatClampNeg), ev_i (S.1 (a + 9) ((6 * x0) + 1).toNatClampNeg), ev_i (S.1 (a + 9) ((6 * x0) + 2).toNatClampNeg)] S1 (fun o S7 => ∃ v6_ : Int32, o = .inl (some (ev_i v6_)) ∧ (
                        Q (.inl (some (ev_i v6_))) S7)))))))))))))))))) : ev_Cv g m_X10_does 10 0 [ev_o 10 a, ev_i x0] S Q := by
  refine ev_enter (by decide) rfl rfl (Nat.le_of_ble_eq_true rfl) ?_
  show ev_E g m_X10_does 10 0 0 [some (ev_o 10 a), some (ev_i x0)] [] S Q
  refine ev_aload_n (ev_o 10 a) dX10_does_0 rfl rfl ?_
  refine ev_iconst (0) dX10_does_1 rfl ?_
  refine pf_10_7 dX10_does_2 kw_1860 ?_
  refine ev_sub hQ (fun S1 hS1 hQ => ?_)
  refine ev_E.goal (pc' := 5) (L' := [some (ev_o 10 a), some (ev_i x0)]) (K' := []) (S' := S1) ?_ rfl rfl rfl hS1
  refine ev_aload_n (ev_o 10 a) dX10_does_5 rfl rfl ?_
  refine gf_10_19 dX10_does_6 kw_1872 ?_
  refine ev_iload_n (x0) dX10_does_9 rfl ?_
  obtain ⟨h1, hQ⟩ := hQ
  refine ev_iaload dX10_does_10 h1 ?_
  refine ev_ke (j_rk hS1 (Or.inl (by omega))) ?_
  by_cases c1 : (S.1 (a + 8) x0.toNatClampNeg) = 0
  · replace hQ := hQ.1 c1
    refine ev_tableIn (off := 33) 44 dX10_does_11 (by rw [c1]; decide) (by rw [c1]; decide) (by rw [c1]; rfl) (by decide) ?_
    refine ev_aload_n (ev_o 10 a) dX10_does_44 rfl rfl ?_
    refine ev_aload_n (ev_o 10 a) dX10_does_45 rfl rfl ?_
    refine ev_iload_n (x0) dX10_does_46 rfl ?_
    refine ev_iconst (0) dX10_does_47 rfl ?_
    obtain ⟨h2, hQ⟩ := hQ
    refine ev_fV mv_X10_at 1 10 [ev_i x0, ev_i 0] [ev_o 10 a] dX10_does_48 kw_2017 rfl (by decide) rfl (by decide) (Nat.le_of_ble_eq_true rfl) (sp_X10_at a x0 0 h2) ?_ rfl
    refine ev_ke (j_rk hS1 (Or.inl (by omega))) ?_
    refine ev_aload_n (ev_o 10 a) dX10_does_51 rfl rfl ?_
    refine ev_iload_n (x0) dX10_does_52 rfl ?_
    refine ev_iconst (1) dX10_does_53 rfl ?_
    obtain ⟨h3, hQ⟩ := hQ
    refine ev_fV mv_X10_at 1 10 [ev_i x0, ev_i 1] [ev_i (S.1 (a + 9) ((6 * x0) + 0).toNatClampNeg), ev_o 10 a] dX10_does_54 kw_2017 rfl (by decide) rfl (by decide) (Nat.le_of_ble_eq_true rfl) (sp_X10_at a x0 1 h3) ?_ rfl
    refine ev_ke (j_rk hS1 (Or.inl (by omega))) ?_
    refine ev_aload_n (ev_o 10 a) dX10_does_57 rfl rfl ?_
    refine ev_iload_n (x0) dX10_does_58 rfl ?_
    refine ev_iconst (2) dX10_does_59 rfl ?_
    obtain ⟨h4, hQ⟩ := hQ
    refine ev_fV mv_X10_at 1 10 [ev_i x0, ev_i 2] [ev_i (S.1 (a + 9) ((6 * x0) + 1).toNatClampNeg), ev_i (S.1 (a + 9) ((6 * x0) + 0).toNatClampNeg), ev_o 10 a] dX10_does_60 kw_2017 rfl (by decide) rfl (by decide) (Nat.le_of_ble_eq_true rfl) (sp_X10_at a x0 2 h4) ?_ rfl
    refine ev_ke (j_rk hS1 (Or.inl (by omega))) ?_
    refine ev_aload_n (ev_o 10 a) dX10_does_63 rfl rfl ?_
    refine ev_iload_n (x0) dX10_does_64 rfl ?_
    refine ev_iconst (3) dX10_does_65 rfl ?_
    obtain ⟨h5, hQ⟩ := hQ
    refine ev_fV mv_X10_at 1 10 [ev_i x0, ev_i 3] [ev_i (S.1 (a + 9) ((6 * x0) + 2).toNatClampNeg), ev_i (S.1 (a + 9) ((6 * x0) + 1).toNatClampNeg), ev_i (S.1 (a + 9) ((6 * x0) + 0).toNatClampNeg), ev_o 10 a] dX10_does_66 kw_2017 rfl (by decide) rfl (by decide) (Nat.le_of_ble_eq_true rfl) (sp_X10_at a x0 3 h5) ?_ rfl
    refine ev_ke (j_rk hS1 (Or.inl (by omega))) ?_
    refine ev_cV mv_X10_moving 5 0 10 [ev_i (S.1 (a + 9) ((6 * x0) + 0).toNatClampNeg), ev_i (S.1 (a + 9) ((6 * x0) + 1).toNatClampNeg), ev_i (S.1 (a + 9) ((6 * x0) + 2).toNatClampNeg), ev_i (S.1 (a + 9) ((6 * x0) + 3).toNatClampNeg)] [] dX10_does_69 kw_2025 rfl (by decide) rfl (by decide) (by decide) (Nat.le_of_ble_eq_true rfl) hQ ?_ rfl
    rintro o S2 ⟨v1_, rfl, hQ⟩
    show ev_E g m_X10_does 10 0 72 [some (ev_o 10 a), some (ev_i x0)] [ev_i v1_] S2 Q
    exact ev_ireturn .int dX10_does_72 rfl rfl hQ
  · replace hQ := hQ.2 c1
    by_cases c2 : (S.1 (a + 8) x0.toNatClampNeg) = 1
    · replace hQ := hQ.1 c2
      refine ev_tableIn (off := 62) 73 dX10_does_11 (by rw [c2]; decide) (by rw [c2]; decide) (by rw [c2]; rfl) (by decide) ?_
      refine ev_aload_n (ev_o 10 a) dX10_does_73 rfl rfl ?_
      refine ev_aload_n (ev_o 10 a) dX10_does_74 rfl rfl ?_
      refine ev_iload_n (x0) dX10_does_75 rfl ?_
      refine ev_iconst (0) dX10_does_76 rfl ?_
      obtain ⟨h6, hQ⟩ := hQ
      refine ev_fV mv_X10_at 1 10 [ev_i x0, ev_i 0] [ev_o 10 a] dX10_does_77 kw_2017 rfl (by decide) rfl (by decide) (Nat.le_of_ble_eq_true rfl) (sp_X10_at a x0 0 h6) ?_ rfl
      refine ev_ke (j_rk hS1 (Or.inl (by omega))) ?_
      refine ev_aload_n (ev_o 10 a) dX10_does_80 rfl rfl ?_
      refine ev_iload_n (x0) dX10_does_81 rfl ?_
      refine ev_iconst (1) dX10_does_82 rfl ?_
      obtain ⟨h7, hQ⟩ := hQ
      refine ev_fV mv_X10_at 1 10 [ev_i x0, ev_i 1] [ev_i (S.1 (a + 9) ((6 * x0) + 0).toNatClampNeg), ev_o 10 a] dX10_does_83 kw_2017 rfl (by decide) rfl (by decide) (Nat.le_of_ble_eq_true rfl) (sp_X10_at a x0 1 h7) ?_ rfl
      refine ev_ke (j_rk hS1 (Or.inl (by omega))) ?_
      refine ev_aload_n (ev_o 10 a) dX10_does_86 rfl rfl ?_
      refine ev_iload_n (x0) dX10_does_87 rfl ?_
      refine ev_iconst (2) dX10_does_88 rfl ?_
      obtain ⟨h8, hQ⟩ := hQ
      refine ev_fV mv_X10_at 1 10 [ev_i x0, ev_i 2] [ev_i (S.1 (a + 9) ((6 * x0) + 1).toNatClampNeg), ev_i (S.1 (a + 9) ((6 * x0) + 0).toNatClampNeg), ev_o 10 a] dX10_does_89 kw_2017 rfl (by decide) rfl (by decide) (Nat.le_of_ble_eq_true rfl) (sp_X10_at a x0 2 h8) ?_ rfl
      refine ev_ke (j_rk hS1 (Or.inl (by omega))) ?_
      refine ev_aload_n (ev_o 10 a) dX10_does_92 rfl rfl ?_
      refine ev_iload_n (x0) dX10_does_93 rfl ?_
      refine ev_iconst (3) dX10_does_94 rfl ?_
      obtain ⟨h9, hQ⟩ := hQ
      refine ev_fV mv_X10_at 1 10 [ev_i x0, ev_i 3] [ev_i (S.1 (a + 9) ((6 * x0) + 2).toNatClampNeg), ev_i (S.1 (a + 9) ((6 * x0) + 1).toNatClampNeg), ev_i (S.1 (a + 9) ((6 * x0) + 0).toNatClampNeg), ev_o 10 a] dX10_does_95 kw_2017 rfl (by decide) rfl (by decide) (Nat.le_of_ble_eq_true rfl) (sp_X10_at a x0 3 h9) ?_ rfl
      refine ev_ke (j_rk hS1 (Or.inl (by omega))) ?_
      refine ev_aload_n (ev_o 10 a) dX10_does_98 rfl rfl ?_
      refine ev_iload_n (x0) dX10_does_99 rfl ?_
      refine ev_iconst (4) dX10_does_100 rfl ?_
      obtain ⟨h10, hQ⟩ := hQ
      refine ev_fV mv_X10_at 1 10 [ev_i x0, ev_i 4] [ev_i (S.1 (a + 9) ((6 * x0) + 3).toNatClampNeg), ev_i (S.1 (a + 9) ((6 * x0) + 2).toNatClampNeg), ev_i (S.1 (a + 9) ((6 * x0) + 1).toNatClampNeg), ev_i (S.1 (a + 9) ((6 * x0) + 0).toNatClampNeg), ev_o 10 a] dX10_does_101 kw_2017 rfl (by decide) rfl (by decide) (Nat.le_of_ble_eq_true rfl) (sp_X10_at a x0 4 h10) ?_ rfl
      refine ev_ke (j_rk hS1 (Or.inl (by omega))) ?_
      refine ev_aload_n (ev_o 10 a) dX10_does_104 rfl rfl ?_
      refine ev_iload_n (x0) dX10_does_105 rfl ?_
      refine ev_iconst (5) dX10_does_106 rfl ?_
      obtain ⟨h11, hQ⟩ := hQ
      refine ev_fV mv_X10_at 1 10 [ev_i x0, ev_i 5] [ev_i (S.1 (a + 9) ((6 * x0) + 4).toNatClampNeg), ev_i (S.1 (a + 9) ((6 * x0) + 3).toNatClampNeg), ev_i (S.1 (a + 9) ((6 * x0) + 2).toNatClampNeg), ev_i (S.1 (a + 9) ((6 * x0) + 1).toNatClampNeg), ev_i (S.1 (a + 9) ((6 * x0) + 0).toNatClampNeg), ev_o 10 a] dX10_does_107 kw_2017 rfl (by decide) rfl (by decide) (Nat.le_of_ble_eq_true rfl) (sp_X10_at a x0 5 h11) ?_ rfl
      refine ev_ke (j_rk hS1 (Or.inl (by omega))) ?_
      refine ev_cV mv_X10_promising 5 0 10 [ev_i (S.1 (a + 9) ((6 * x0) + 0).toNatClampNeg), ev_i (S.1 (a + 9) ((6 * x0) + 1).toNatClampNeg), ev_i (S.1 (a + 9) ((6 * x0) + 2).toNatClampNeg), ev_i (S.1 (a + 9) ((6 * x0) + 3).toNatClampNeg), ev_i (S.1 (a + 9) ((6 * x0) + 4).toNatClampNeg), ev_i (S.1 (a + 9) ((6 * x0) + 5).toNatClampNeg)] [] dX10_does_110 kw_2113 rfl (by decide) rfl (by decide) (by decide) (Nat.le_of_ble_eq_true rfl) hQ ?_ rfl
      rintro o S3 ⟨v2_, rfl, hQ⟩
      show ev_E g m_X10_does 10 0 113 [some (ev_o 10 a), some (ev_i x0)] [ev_i v2_] S3 Q
      exact ev_ireturn .int dX10_does_113 rfl rfl hQ
    · replace hQ := hQ.2 c2
      by_cases c3 : (S.1 (a + 8) x0.toNatClampNeg) = 2
      · replace hQ := hQ.1 c3
        refine ev_tableIn (off := 103) 114 dX10_does_11 (by rw [c3]; decide) (by rw [c3]; decide) (by rw [c3]; rfl) (by decide) ?_
        refine ev_aload_n (ev_o 10 a) dX10_does_114 rfl rfl ?_
        refine ev_aload_n (ev_o 10 a) dX10_does_115 rfl rfl ?_
        refine ev_iload_n (x0) dX10_does_116 rfl ?_
        refine ev_iconst (0) dX10_does_117 rfl ?_
        obtain ⟨h12, hQ⟩ := hQ
        refine ev_fV mv_X10_at 1 10 [ev_i x0, ev_i 0] [ev_o 10 a] dX10_does_118 kw_2017 rfl (by decide) rfl (by decide) (Nat.le_of_ble_eq_true rfl) (sp_X10_at a x0 0 h12) ?_ rfl
        refine ev_ke (j_rk hS1 (Or.inl (by omega))) ?_
        refine ev_aload_n (ev_o 10 a) dX10_does_121 rfl rfl ?_
        refine ev_iload_n (x0) dX10_does_122 rfl ?_
        refine ev_iconst (1) dX10_does_123 rfl ?_
        obtain ⟨h13, hQ⟩ := hQ
        refine ev_fV mv_X10_at 1 10 [ev_i x0, ev_i 1] [ev_i (S.1 (a + 9) ((6 * x0) + 0).toNatClampNeg), ev_o 10 a] dX10_does_124 kw_2017 rfl (by decide) rfl (by decide) (Nat.le_of_ble_eq_true rfl) (sp_X10_at a x0 1 h13) ?_ rfl
        refine ev_ke (j_rk hS1 (Or.inl (by omega))) ?_
        refine ev_cV mv_X10_resending 3 0 10 [ev_i (S.1 (a + 9) ((6 * x0) + 0).toNatClampNeg), ev_i (S.1 (a + 9) ((6 * x0) + 1).toNatClampNeg)] [] dX10_does_127 kw_2121 rfl (by decide) rfl (by decide) (by decide) (Nat.le_of_ble_eq_true rfl) hQ ?_ rfl
        rintro o S4 ⟨v3_, rfl, hQ⟩
        show ev_E g m_X10_does 10 0 130 [some (ev_o 10 a), some (ev_i x0)] [ev_i v3_] S4 Q
        exact ev_ireturn .int dX10_does_130 rfl rfl hQ
      · replace hQ := hQ.2 c3
        by_cases c4 : (S.1 (a + 8) x0.toNatClampNeg) = 3
        · replace hQ := hQ.1 c4
          refine ev_tableIn (off := 120) 131 dX10_does_11 (by rw [c4]; decide) (by rw [c4]; decide) (by rw [c4]; rfl) (by decide) ?_
          refine ev_aload_n (ev_o 10 a) dX10_does_131 rfl rfl ?_
          refine ev_aload_n (ev_o 10 a) dX10_does_132 rfl rfl ?_
          refine ev_iload_n (x0) dX10_does_133 rfl ?_
          refine ev_iconst (0) dX10_does_134 rfl ?_
          obtain ⟨h14, hQ⟩ := hQ
          refine ev_fV mv_X10_at 1 10 [ev_i x0, ev_i 0] [ev_o 10 a] dX10_does_135 kw_2017 rfl (by decide) rfl (by decide) (Nat.le_of_ble_eq_true rfl) (sp_X10_at a x0 0 h14) ?_ rfl
          refine ev_ke (j_rk hS1 (Or.inl (by omega))) ?_
          refine ev_cV mv_X10_advancing 9 0 10 [ev_i (S.1 (a + 9) ((6 * x0) + 0).toNatClampNeg)] [] dX10_does_138 kw_2133 rfl (by decide) rfl (by decide) (by decide) (Nat.le_of_ble_eq_true rfl) hQ ?_ rfl
          rintro o S5 ⟨v4_, rfl, hQ⟩
          show ev_E g m_X10_does 10 0 141 [some (ev_o 10 a), some (ev_i x0)] [ev_i v4_] S5 Q
          exact ev_ireturn .int dX10_does_141 rfl rfl hQ
        · replace hQ := hQ.2 c4
          by_cases c5 : (S.1 (a + 8) x0.toNatClampNeg) = 4
          · replace hQ := hQ.1 c5
            refine ev_tableIn (off := 131) 142 dX10_does_11 (by rw [c5]; decide) (by rw [c5]; decide) (by rw [c5]; rfl) (by decide) ?_
            refine ev_aload_n (ev_o 10 a) dX10_does_142 rfl rfl ?_
            refine ev_aload_n (ev_o 10 a) dX10_does_143 rfl rfl ?_
            refine ev_iload_n (x0) dX10_does_144 rfl ?_
            refine ev_iconst (0) dX10_does_145 rfl ?_
            obtain ⟨h15, hQ⟩ := hQ
            refine ev_fV mv_X10_at 1 10 [ev_i x0, ev_i 0] [ev_o 10 a] dX10_does_146 kw_2017 rfl (by decide) rfl (by decide) (Nat.le_of_ble_eq_true rfl) (sp_X10_at a x0 0 h15) ?_ rfl
            refine ev_ke (j_rk hS1 (Or.inl (by omega))) ?_
            refine ev_aload_n (ev_o 10 a) dX10_does_149 rfl rfl ?_
            refine ev_iload_n (x0) dX10_does_150 rfl ?_
            refine ev_iconst (1) dX10_does_151 rfl ?_
            obtain ⟨h16, hQ⟩ := hQ
            refine ev_fV mv_X10_at 1 10 [ev_i x0, ev_i 1] [ev_i (S.1 (a + 9) ((6 * x0) + 0).toNatClampNeg), ev_o 10 a] dX10_does_152 kw_2017 rfl (by decide) rfl (by decide) (Nat.le_of_ble_eq_true rfl) (sp_X10_at a x0 1 h16) ?_ rfl
            refine ev_ke (j_rk hS1 (Or.inl (by omega))) ?_
            refine ev_cV mv_X10_muling 3 0 10 [ev_i (S.1 (a + 9) ((6 * x0) + 0).toNatClampNeg), ev_i (S.1 (a + 9) ((6 * x0) + 1).toNatClampNeg)] [] dX10_does_155 kw_2181 rfl (by decide) rfl (by decide) (by decide) (Nat.le_of_ble_eq_true rfl) hQ ?_ rfl
            rintro o S6 ⟨v5_, rfl, hQ⟩
            show ev_E g m_X10_does 10 0 158 [some (ev_o 10 a), some (ev_i x0)] [ev_i v5_] S6 Q
            exact ev_ireturn .int dX10_does_158 rfl rfl hQ
          · replace hQ := hQ.2 c5
            refine ev_tableOut 159 dX10_does_11 (j_out0 (fun k h1 h2 h3 => by
                have h4 : k = 0 ∨ k = 1 ∨ k = 2 ∨ k = 3 ∨ k = 4 := by omega
                rcases h4 with rfl | rfl | rfl | rfl | rfl
                · exact c1 (h3.trans (by decide))
                · exact c2 (h3.trans (by decide))
                · exact c3 (h3.trans (by decide))
                · exact c4 (h3.trans (by decide))
                · exact c5 (h3.trans (by decide)))) (by decide) ?_
            refine ev_aload_n (ev_o 10 a) dX10_does_159 rfl rfl ?_
            refine ev_aload_n (ev_o 10 a) dX10_does_160 rfl rfl ?_
            refine ev_iload_n (x0) dX10_does_161 rfl ?_
            refine ev_iconst (0) dX10_does_162 rfl ?_
            obtain ⟨h17, hQ⟩ := hQ
            refine ev_fV mv_X10_at 1 10 [ev_i x0, ev_i 0] [ev_o 10 a] dX10_does_163 kw_2017 rfl (by decide) rfl (by decide) (Nat.le_of_ble_eq_true rfl) (sp_X10_at a x0 0 h17) ?_ rfl
            refine ev_ke (j_rk hS1 (Or.inl (by omega))) ?_
            refine ev_aload_n (ev_o 10 a) dX10_does_166 rfl rfl ?_
            refine ev_iload_n (x0) dX10_does_167 rfl ?_
            refine ev_iconst (1) dX10_does_168 rfl ?_
            obtain ⟨h18, hQ⟩ := hQ
            refine ev_fV mv_X10_at 1 10 [ev_i x0, ev_i 1] [ev_i (S.1 (a + 9) ((6 * x0) + 0).toNatClampNeg), ev_o 10 a] dX10_does_169 kw_2017 rfl (by decide) rfl (by decide) (Nat.le_of_ble_eq_true rfl) (sp_X10_at a x0 1 h18) ?_ rfl
            refine ev_ke (j_rk hS1 (Or.inl (by omega))) ?_
            refine ev_aload_n (ev_o 10 a) dX10_does_172 rfl rfl ?_
            refine ev_iload_n (x0) dX10_does_173 rfl ?_
            refine ev_iconst (2) dX10_does_174 rfl ?_
            obtain ⟨h19, hQ⟩ := hQ
            refine ev_fV mv_X10_at 1 10 [ev_i x0, ev_i 2] [ev_i (S.1 (a + 9) ((6 * x0) + 1).toNatClampNeg), ev_i (S.1 (a + 9) ((6 * x0) + 0).toNatClampNeg), ev_o 10 a] dX10_does_175 kw_2017 rfl (by decide) rfl (by decide) (Nat.le_of_ble_eq_true rfl) (sp_X10_at a x0 2 h19) ?_ rfl
            refine ev_ke (j_rk hS1 (Or.inl (by omega))) ?_
            refine ev_cV mv_X10_snowing 3 0 10 [ev_i (S.1 (a + 9) ((6 * x0) + 0).toNatClampNeg), ev_i (S.1 (a + 9) ((6 * x0) + 1).toNatClampNeg), ev_i (S.1 (a + 9) ((6 * x0) + 2).toNatClampNeg)] [] dX10_does_178 kw_2185 rfl (by decide) rfl (by decide) (by decide) (Nat.le_of_ble_eq_true rfl) hQ ?_ rfl
            rintro o S7 ⟨v6_, rfl, hQ⟩
            show ev_E g m_X10_does 10 0 181 [some (ev_o 10 a), some (ev_i x0)] [ev_i v6_] S7 Q
            exact ev_ireturn .int dX10_does_181 rfl rfl hQ
set_option maxHeartbeats 4000000 in
set_option maxRecDepth 100000 in
theorem sg_X10_doesAll_0 {g : ev_G} {S : ev_S} {Q : ev_O → ev_S → Prop} {D : Nat} (hD : 20 ≤ D) (a : Nat) (x0 : Int32) (x1 : Int32) (hQ : ev_E g m_X10_doesAll (D + 1) 0 2 [some (ev_o 10 a), none, some (ev_i x1), some (ev_i x0), none] [] S Q) : ev_Cv g m_X10_doesAll (D + 1) 0 [ev_o 10 a, ev_i x0, ev_i x1] S Q := by
  refine ev_enter (by decide) rfl rfl (Nat.le_of_ble_eq_true rfl) ?_
  show ev_E g m_X10_doesAll (D + 1) 0 0 [some (ev_o 10 a), some (ev_i x0), some (ev_i x1), none, none] [] S Q
  refine ev_iload_n (x0) dX10_doesAll_0 rfl ?_
  refine ev_istore_n dX10_doesAll_1 (Nat.le_of_ble_eq_true rfl) (ev_hw rfl) ?_
  show ev_E g m_X10_doesAll (D + 1) 0 2 [some (ev_o 10 a), some (ev_i x0), some (ev_i x1), some (ev_i x0), none] [] S Q
  refine ev_fgm [true, false, true, true, false] ?_
  exact hQ
set_option maxHeartbeats 4000000 in
set_option maxRecDepth 100000 in
theorem sg_X10_doesAll_2 {g : ev_G} {S : ev_S} {Q : ev_O → ev_S → Prop} {D : Nat} (hD : 20 ≤ D) (a : Nat) (u2 : Int32) (u3 : Int32) (hQ : (u2 ≤ u3 → (
    Q (.inl (some (ev_i 1))) S)) ∧
  (¬ (u2 ≤ u3) → (
    (vp_in u3 30) ∧ (
      ((S.1 (a + 8) u3.toNatClampNeg) = 6 → (
        ev_E g m_X10_doesAll (D + 1) 0 21 [some (ev_o 10 a), none, some (ev_i u2), some (ev_i u3), some (ev_i 0)] [] S Q)) ∧
      (¬ ((S.1 (a + 8) u3.toNatClampNeg) = 6) → (
        ((S.1 a 22) = 40 → (
          Q (.inl (some (ev_i 0))) S)) ∧
        (¬ ((S.1 a 22) = 40) → (
          ev_Cv g m_X10_does 10 0 [ev_o 10 a, ev_i u3] S (fun o S1 => ∃ v1_ : Int32, o = .inl (some (ev_i v1_)) ∧ (
            ((S1.1 a 7) = 0 → (
              ∀ S2 : ev_S, S2 = (ev_up S1 a 22 ((S1.1 a 22) + 1)) → (
                ev_E g m_X10_doesAll (D + 1) 0 2 [some (ev_o 10 a), none, some (ev_i u2), some (ev_i (u3 + 1)), none] [] S2 Q))) ∧
            (¬ ((S1.1 a 7) = 0) → (
              Q (.inl (some (ev_i 0))) S1)))))))))))) : ev_E g m_X10_doesAll (D + 1) 0 2 [some (ev_o 10 a), none, some (ev_i u2), some (ev_i u3), none] [] S Q := by
  refine ev_iload_n (u3) dX10_doesAll_2 rfl ?_
  refine ev_iload_n (u2) dX10_doesAll_3 rfl ?_
  refine ev_icmp_ge 109 dX10_doesAll_4 (by decide) (fun c1 => ?_) (fun c1 => ?_)
  · replace hQ := hQ.1 c1
    refine ev_iconst (1) dX10_doesAll_109 rfl ?_
    exact ev_ireturn .boolean dX10_doesAll_110 rfl rfl hQ
  · replace hQ := hQ.2 c1
    refine ev_aload_n (ev_o 10 a) dX10_doesAll_7 rfl rfl ?_
    refine gf_10_19 dX10_doesAll_8 kw_1872 ?_
    refine ev_iload_n (u3) dX10_doesAll_11 rfl ?_
    obtain ⟨h1, hQ⟩ := hQ
    refine ev_iaload dX10_doesAll_12 h1 ?_
    refine ev_bipush (6) dX10_doesAll_13 (by decide) ?_
    refine ev_icmp_ne 66 dX10_doesAll_15 (by decide) (fun c2 => ?_) (fun c2 => ?_)
    · replace hQ := hQ.2 c2
      refine ev_aload_n (ev_o 10 a) dX10_doesAll_66 rfl rfl ?_
      refine gf_10_22 dX10_doesAll_67 kw_1875 ?_
      refine ev_bipush (40) dX10_doesAll_70 (by decide) ?_
      refine ev_icmp_ne 77 dX10_doesAll_72 (by decide) (fun c3 => ?_) (fun c3 => ?_)
      · replace hQ := hQ.2 c3
        refine ev_aload_n (ev_o 10 a) dX10_doesAll_77 rfl rfl ?_
        refine ev_iload_n (u3) dX10_doesAll_78 rfl ?_
        refine ev_cV mv_X10_does 10 0 10 [ev_i u3] [] dX10_doesAll_79 kw_2021 rfl (by decide) rfl (by omega) (by decide) (Nat.le_of_ble_eq_true rfl) hQ ?_ rfl
        rintro o S1 ⟨v1_, rfl, hQ⟩
        show ev_E g m_X10_doesAll (D + 1) 0 82 [some (ev_o 10 a), none, some (ev_i u2), some (ev_i u3), none] [ev_i v1_] S1 Q
        refine ev_istore dX10_doesAll_82 (Nat.le_of_ble_eq_true rfl) (ev_hw rfl) ?_
        show ev_E g m_X10_doesAll (D + 1) 0 84 [some (ev_o 10 a), none, some (ev_i u2), some (ev_i u3), some (ev_i v1_)] [] S1 Q
        refine ev_aload_n (ev_o 10 a) dX10_doesAll_84 rfl rfl ?_
        refine gf_10_7 dX10_doesAll_85 kw_1860 ?_
        refine ev_if_eq 93 dX10_doesAll_88 (by decide) (fun c4 => ?_) (fun c4 => ?_)
        · replace hQ := hQ.1 c4
          refine ev_aload_n (ev_o 10 a) dX10_doesAll_93 rfl rfl ?_
          refine ev_dup dX10_doesAll_94 rfl ?_
          refine gf_10_22 dX10_doesAll_95 kw_1875 ?_
          refine ev_iconst (1) dX10_doesAll_98 rfl ?_
          refine ev_iadd dX10_doesAll_99 ?_
          refine pf_10_22 dX10_doesAll_100 kw_1875 ?_
          refine ev_sub hQ (fun S2 hS2 hQ => ?_)
          refine ev_E.goal (pc' := 103) (L' := [some (ev_o 10 a), none, some (ev_i u2), some (ev_i u3), some (ev_i v1_)]) (K' := []) (S' := S2) ?_ rfl rfl rfl hS2
          refine ev_iinc u3 (1) dX10_doesAll_103 rfl (by decide) (ev_hw rfl) ?_
          show ev_E g m_X10_doesAll (D + 1) 0 106 [some (ev_o 10 a), none, some (ev_i u2), some (ev_i (u3 + 1)), some (ev_i v1_)] [] S2 Q
          refine ev_goto 2 dX10_doesAll_106 (by decide) ?_
          refine ev_fgm [true, false, true, true, false] ?_
          exact hQ
        · replace hQ := hQ.2 c4
          refine ev_iconst (0) dX10_doesAll_91 rfl ?_
          exact ev_ireturn .boolean dX10_doesAll_92 rfl rfl hQ
      · replace hQ := hQ.1 c3
        refine ev_iconst (0) dX10_doesAll_75 rfl ?_
        exact ev_ireturn .boolean dX10_doesAll_76 rfl rfl hQ
    · replace hQ := hQ.1 c2
      refine ev_iconst (0) dX10_doesAll_18 rfl ?_
      refine ev_istore dX10_doesAll_19 (Nat.le_of_ble_eq_true rfl) (ev_hw rfl) ?_
      show ev_E g m_X10_doesAll (D + 1) 0 21 [some (ev_o 10 a), none, some (ev_i u2), some (ev_i u3), some (ev_i 0)] [] S Q
      exact hQ
set_option maxHeartbeats 4000000 in
set_option maxRecDepth 100000 in
theorem sg_X10_doesAll_21 {g : ev_G} {S : ev_S} {Q : ev_O → ev_S → Prop} {D : Nat} (hD : 20 ≤ D) (a : Nat) (u2 : Int32) (u3 : Int32) (u4 : Int32) (hQ : (vp_in ((6 * u3) + 0) 180) ∧ (
    ((S.1 (a + 9) ((6 * u3) + 0).toNatClampNeg) ≤ u4 → (
      (vp_in ((6 * u3) + 1) 180) ∧ (
        ev_E g m_X10_doesAll (D + 1) 0 2 [some (ev_o 10 a), none, some (ev_i u2), some (ev_i (S.1 (a + 9) ((6 * u3) + 1).toNatClampNeg)), none] [] S Q))) ∧
    (¬ ((S.1 (a + 9) ((6 * u3) + 0).toNatClampNeg) ≤ u4) → (
      (vp_in ((6 * u3) + 1) 180) ∧ (
        ev_Cv g m_X10_doesAll D 0 [ev_o 10 a, ev_i (u3 + 1), ev_i (S.1 (a + 9) ((6 * u3) + 1).toNatClampNeg)] S (fun o S1 => ∃ v1_ : Bool, o = .inl (some (ev_i (if v1_ = true then 1 else 0))) ∧ (
          (v1_ = true → (
            ev_E g m_X10_doesAll (D + 1) 0 21 [some (ev_o 10 a), none, some (ev_i u2), some (ev_i u3), some (ev_i (u4 + 1))] [] S1 Q)) ∧
          (¬ (v1_ = true) → (
            Q (.inl (some (ev_i 0))) S1))))))))) : ev_E g m_X10_doesAll (D + 1) 0 21 [some (ev_o 10 a), none, some (ev_i u2), some (ev_i u3), some (ev_i u4)] [] S Q := by
  refine ev_iload (u4) dX10_doesAll_21 rfl ?_
  refine ev_aload_n (ev_o 10 a) dX10_doesAll_23 rfl rfl ?_
  refine ev_iload_n (u3) dX10_doesAll_24 rfl ?_
  refine ev_iconst (0) dX10_doesAll_25 rfl ?_
  obtain ⟨h1, hQ⟩ := hQ
  refine ev_fV mv_X10_at 1 10 [ev_i u3, ev_i 0] [ev_i u4] dX10_doesAll_26 kw_2017 rfl (by decide) rfl (by omega) (Nat.le_of_ble_eq_true rfl) (sp_X10_at a u3 0 h1) ?_ rfl
  refine ev_icmp_ge 56 dX10_doesAll_29 (by decide) (fun c1 => ?_) (fun c1 => ?_)
  · replace hQ := hQ.1 c1
    refine ev_aload_n (ev_o 10 a) dX10_doesAll_56 rfl rfl ?_
    refine ev_iload_n (u3) dX10_doesAll_57 rfl ?_
    refine ev_iconst (1) dX10_doesAll_58 rfl ?_
    obtain ⟨h2, hQ⟩ := hQ
    refine ev_fV mv_X10_at 1 10 [ev_i u3, ev_i 1] [] dX10_doesAll_59 kw_2017 rfl (by decide) rfl (by omega) (Nat.le_of_ble_eq_true rfl) (sp_X10_at a u3 1 h2) ?_ rfl
    refine ev_istore_n dX10_doesAll_62 (Nat.le_of_ble_eq_true rfl) (ev_hw rfl) ?_
    show ev_E g m_X10_doesAll (D + 1) 0 63 [some (ev_o 10 a), none, some (ev_i u2), some (ev_i (S.1 (a + 9) ((6 * u3) + 1).toNatClampNeg)), some (ev_i u4)] [] S Q
    refine ev_goto 2 dX10_doesAll_63 (by decide) ?_
    refine ev_fgm [true, false, true, true, false] ?_
    exact hQ
  · replace hQ := hQ.2 c1
    refine ev_aload_n (ev_o 10 a) dX10_doesAll_32 rfl rfl ?_
    refine ev_iload_n (u3) dX10_doesAll_33 rfl ?_
    refine ev_iconst (1) dX10_doesAll_34 rfl ?_
    refine ev_iadd dX10_doesAll_35 ?_
    refine ev_aload_n (ev_o 10 a) dX10_doesAll_36 rfl rfl ?_
    refine ev_iload_n (u3) dX10_doesAll_37 rfl ?_
    refine ev_iconst (1) dX10_doesAll_38 rfl ?_
    obtain ⟨h3, hQ⟩ := hQ
    refine ev_fV mv_X10_at 1 10 [ev_i u3, ev_i 1] [ev_i (u3 + 1), ev_o 10 a] dX10_doesAll_39 kw_2017 rfl (by decide) rfl (by omega) (Nat.le_of_ble_eq_true rfl) (sp_X10_at a u3 1 h3) ?_ rfl
    refine ev_cV mv_X10_doesAll D 0 10 [ev_i (u3 + 1), ev_i (S.1 (a + 9) ((6 * u3) + 1).toNatClampNeg)] [] dX10_doesAll_42 kw_2013 rfl (by decide) rfl (by omega) (by decide) (Nat.le_of_ble_eq_true rfl) hQ ?_ rfl
    rintro o S1 ⟨v1_, rfl, hQ⟩
    show ev_E g m_X10_doesAll (D + 1) 0 45 [some (ev_o 10 a), none, some (ev_i u2), some (ev_i u3), some (ev_i u4)] [ev_i (if v1_ = true then 1 else 0)] S1 Q
    by_cases c2 : v1_ = true
    · rw [if_pos c2]
      replace hQ := hQ.1 c2
      refine ev_if_ne 50 dX10_doesAll_45 (by decide) (fun _ => ?_) (fun h9 => absurd h9 (by decide : ¬ ((1 : Int32) = 0)))
      refine ev_iinc u4 (1) dX10_doesAll_50 rfl (by decide) (ev_hw rfl) ?_
      show ev_E g m_X10_doesAll (D + 1) 0 53 [some (ev_o 10 a), none, some (ev_i u2), some (ev_i u3), some (ev_i (u4 + 1))] [] S1 Q
      refine ev_goto 21 dX10_doesAll_53 (by decide) ?_
      exact hQ
    · rw [if_neg c2]
      replace hQ := hQ.2 c2
      refine ev_if_ne 50 dX10_doesAll_45 (by decide) (fun h9 => absurd (by decide : ((0 : Int32) = 0)) h9) (fun _ => ?_)
      refine ev_iconst (0) dX10_doesAll_48 rfl ?_
      exact ev_ireturn .boolean dX10_doesAll_49 rfl rfl hQ
set_option maxHeartbeats 4000000 in
set_option maxRecDepth 100000 in
theorem sg_X10_runScript_0 {g : ev_G} {S : ev_S} {Q : ev_O → ev_S → Prop} (a : Nat) (hQ : ∀ S1 : ev_S, S1 = (ev_up S a 7 0) → (
    ev_Cv g m_X10_starts 3 0 [ev_o 10 a] S1 (fun o S2 => o = .inl none ∧ (
      ∀ S3 : ev_S, S3 = (ev_up S2 a 21 0) → (
        ev_Cv g m_X10_readsCommands 50 0 [ev_o 10 a, ev_i 0] S3 (fun o S4 => o = .inl none ∧ (
          ((S4.1 a 15) = 0 → (
            ev_Cv g m_X10_must 1 0 [ev_o 10 a, ev_i 1, ev_i 1] S4 (fun o S15 => ∃ v7_ : Bool, o = .inl (some (ev_i (if v7_ = true then 1 else 0))) ∧ (
              ev_Cv g m_X10_isWhole 1 0 [ev_o 10 a] S15 (fun o S16 => ∃ v8_ : Bool, o = .inl (some (ev_i (if v8_ = true then 1 else 0))) ∧ (
                (v8_ = true → (
                  ev_Cv g m_X10_keeps 1 0 [ev_o 10 a] S16 (fun o S17 => o = .inl none ∧ (
                    ∀ S18 : ev_S, S18 = (ev_up S17 a 23 1) → (
                      ∀ S19 : ev_S, S19 = (ev_up S18 a 22 0) → (
                        ev_Cv g m_X10_doesAll 50 0 [ev_o 10 a, ev_i 0, ev_i (S17.1 a 21)] S19 (fun o S20 => ∃ v10_ : Bool, o = .inl (some (ev_i (if v10_ = true then 1 else 0))) ∧ (
                          (v10_ = true → (
                            ∀ S21 : ev_S, S21 = (ev_up S20 a 23 0) → (
                              ∀ S22 : ev_S, S22 = (ev_up S21 a 7 0) → (
                                Q (.inl (some (ev_i (S20.1 a 22)))) S22)))) ∧
                          (¬ (v10_ = true) → (
                            ∀ S23 : ev_S, S23 = (ev_up S20 a 23 0) → (
                              ∀ S24 : ev_S, S24 = (ev_up S23 a 7 0) → (
                                Q (.inl (some (ev_i (S20.1 a 22)))) S24)))))))))))) ∧
                (¬ (v8_ = true) → (
                  Q (.inl (some (ev_i (-1)))) S16)))))))) ∧
          (¬ ((S4.1 a 15) = 0) → (
            ev_Cv g m_X10_must 1 0 [ev_o 10 a, ev_i 0, ev_i 1] S4 (fun o S5 => ∃ v3_ : Bool, o = .inl (some (ev_i (if v3_ = true then 1 else 0))) ∧ (
              ev_Cv g m_X10_isWhole 1 0 [ev_o 10 a] S5 (fun o S6 => ∃ v4_ : Bool, o = .inl (some (ev_i (if v4_ = true then 1 else 0))) ∧ (
                (v4_ = true → (
                  ev_Cv g m_X10_keeps 1 0 [ev_o 10 a] S6 (fun o S7 => o = .inl none ∧ (
                    ∀ S8 : ev_S, S8 = (ev_up S7 a 23 1) → (
                      ∀ S9 : ev_S, S9 = (ev_up S8 a 22 0) → (
                        ev_Cv g m_X10_doesAll 50 0 [ev_o 10 a, ev_i 0, ev_i (S7.1 a 21)] S9 (fun o S10 => ∃ v6_ : Bool, o = .inl (some (ev_i (if v6_ = true then 1 else 0))) ∧ (
                          (v6_ = true → (
                            ∀ S11 : ev_S, S11 = (ev_up S10 a 23 0) → (
                              ∀ S12 : ev_S, S12 = (ev_up S11 a 7 0) → (
                                Q (.inl (some (ev_i (S10.1 a 22)))) S12)))) ∧
                          (¬ (v6_ = true) → (
                            ∀ S13 : ev_S, S13 = (ev_up S10 a 23 0) → (
                              ∀ S14 : ev_S, S14 = (ev_up S13 a 7 0) → (
                                Q (.inl (some (ev_i (S10.1 a 22)))) S14)))))))))))) ∧
                (¬ (v4_ = true) → (
                  Q (.inl (some (ev_i (-1)))) S6))))))))))))))) : ev_Cv g m_X10_runScript 51 0 [ev_o 10 a] S Q := by
  refine ev_enter (by decide) rfl rfl (Nat.le_of_ble_eq_true rfl) ?_
  show ev_E g m_X10_runScript 51 0 0 [some (ev_o 10 a), none] [] S Q
  refine ev_aload_n (ev_o 10 a) dX10_runScript_0 rfl rfl ?_
  refine ev_iconst (0) dX10_runScript_1 rfl ?_
  refine pf_10_7 dX10_runScript_2 kw_1860 ?_
  refine ev_sub hQ (fun S1 hS1 hQ => ?_)
  refine ev_E.goal (pc' := 5) (L' := [some (ev_o 10 a), none]) (K' := []) (S' := S1) ?_ rfl rfl rfl hS1
  refine ev_aload_n (ev_o 10 a) dX10_runScript_5 rfl rfl ?_
  refine ev_cV mv_X10_starts 3 0 10 [] [] dX10_runScript_6 kw_1769 rfl (by decide) rfl (by decide) (by decide) (Nat.le_of_ble_eq_true rfl) hQ ?_ rfl
  rintro o S2 ⟨rfl, hQ⟩
  show ev_E g m_X10_runScript 51 0 9 [some (ev_o 10 a), none] [] S2 Q
  refine ev_aload_n (ev_o 10 a) dX10_runScript_9 rfl rfl ?_
  refine ev_iconst (0) dX10_runScript_10 rfl ?_
  refine pf_10_21 dX10_runScript_11 kw_1874 ?_
  refine ev_sub hQ (fun S3 hS3 hQ => ?_)
  refine ev_E.goal (pc' := 14) (L' := [some (ev_o 10 a), none]) (K' := []) (S' := S3) ?_ rfl rfl rfl hS3
  refine ev_aload_n (ev_o 10 a) dX10_runScript_14 rfl rfl ?_
  refine ev_iconst (0) dX10_runScript_15 rfl ?_
  refine ev_cV mv_X10_readsCommands 50 0 10 [ev_i 0] [] dX10_runScript_16 kw_1979 rfl (by decide) rfl (by decide) (by decide) (Nat.le_of_ble_eq_true rfl) hQ ?_ rfl
  rintro o S4 ⟨rfl, hQ⟩
  show ev_E g m_X10_runScript 51 0 19 [some (ev_o 10 a), none] [] S4 Q
  refine ev_aload_n (ev_o 10 a) dX10_runScript_19 rfl rfl ?_
  refine ev_aload_n (ev_o 10 a) dX10_runScript_20 rfl rfl ?_
  refine gf_10_15 dX10_runScript_21 kw_1868 ?_
  refine ev_if_ne 31 dX10_runScript_24 (by decide) (fun c1 => ?_) (fun c1 => ?_)
  · replace hQ := hQ.2 c1
    refine ev_iconst (0) dX10_runScript_31 rfl ?_
    refine ev_iconst (1) dX10_runScript_32 rfl ?_
    refine ev_cV mv_X10_must 1 0 10 [ev_i 0, ev_i 1] [] dX10_runScript_33 kw_1794 rfl (by decide) rfl (by decide) (by decide) (Nat.le_of_ble_eq_true rfl) hQ ?_ rfl
    rintro o S5 ⟨v3_, rfl, hQ⟩
    show ev_E g m_X10_runScript 51 0 36 [some (ev_o 10 a), none] [ev_i (if v3_ = true then 1 else 0)] S5 Q
    refine ev_pop dX10_runScript_36 rfl ?_
    refine ev_aload_n (ev_o 10 a) dX10_runScript_37 rfl rfl ?_
    refine ev_cV mv_X10_isWhole 1 0 10 [] [] dX10_runScript_38 kw_1971 rfl (by decide) rfl (by decide) (by decide) (Nat.le_of_ble_eq_true rfl) hQ ?_ rfl
    rintro o S6 ⟨v4_, rfl, hQ⟩
    show ev_E g m_X10_runScript 51 0 41 [some (ev_o 10 a), none] [ev_i (if v4_ = true then 1 else 0)] S6 Q
    by_cases c2 : v4_ = true
    · rw [if_pos c2]
      replace hQ := hQ.1 c2
      refine ev_if_ne 46 dX10_runScript_41 (by decide) (fun _ => ?_) (fun h9 => absurd h9 (by decide : ¬ ((1 : Int32) = 0)))
      refine ev_aload_n (ev_o 10 a) dX10_runScript_46 rfl rfl ?_
      refine ev_cV mv_X10_keeps 1 0 10 [] [] dX10_runScript_47 kw_2009 rfl (by decide) rfl (by decide) (by decide) (Nat.le_of_ble_eq_true rfl) hQ ?_ rfl
      rintro o S7 ⟨rfl, hQ⟩
      show ev_E g m_X10_runScript 51 0 50 [some (ev_o 10 a), none] [] S7 Q
      refine ev_aload_n (ev_o 10 a) dX10_runScript_50 rfl rfl ?_
      refine ev_iconst (1) dX10_runScript_51 rfl ?_
      refine pf_10_23 dX10_runScript_52 kw_1876 (by decide) ?_
      refine ev_sub hQ (fun S8 hS8 hQ => ?_)
      refine ev_E.goal (pc' := 55) (L' := [some (ev_o 10 a), none]) (K' := []) (S' := S8) ?_ rfl rfl rfl hS8
      refine ev_aload_n (ev_o 10 a) dX10_runScript_55 rfl rfl ?_
      refine ev_iconst (0) dX10_runScript_56 rfl ?_
      refine pf_10_22 dX10_runScript_57 kw_1875 ?_
      refine ev_sub hQ (fun S9 hS9 hQ => ?_)
      refine ev_E.goal (pc' := 60) (L' := [some (ev_o 10 a), none]) (K' := []) (S' := S9) ?_ rfl rfl rfl hS9
      refine ev_aload_n (ev_o 10 a) dX10_runScript_60 rfl rfl ?_
      refine ev_iconst (0) dX10_runScript_61 rfl ?_
      refine ev_aload_n (ev_o 10 a) dX10_runScript_62 rfl rfl ?_
      refine gf_10_21 dX10_runScript_63 kw_1874 ?_
      refine ev_ke ((j_rk hS9 (Or.inr (by decide))).trans (j_rk hS8 (Or.inr (by decide)))) ?_
      refine ev_cV mv_X10_doesAll 50 0 10 [ev_i 0, ev_i (S7.1 a 21)] [] dX10_runScript_66 kw_2013 rfl (by decide) rfl (by decide) (by decide) (Nat.le_of_ble_eq_true rfl) hQ ?_ rfl
      rintro o S10 ⟨v6_, rfl, hQ⟩
      show ev_E g m_X10_runScript 51 0 69 [some (ev_o 10 a), none] [ev_i (if v6_ = true then 1 else 0)] S10 Q
      by_cases c3 : v6_ = true
      · rw [if_pos c3]
        replace hQ := hQ.1 c3
        refine ev_istore_n dX10_runScript_69 (Nat.le_of_ble_eq_true rfl) (ev_hw rfl) ?_
        show ev_E g m_X10_runScript 51 0 70 [some (ev_o 10 a), some (ev_i 1)] [] S10 Q
        refine ev_aload_n (ev_o 10 a) dX10_runScript_70 rfl rfl ?_
        refine ev_iconst (0) dX10_runScript_71 rfl ?_
        refine pf_10_23 dX10_runScript_72 kw_1876 (by decide) ?_
        refine ev_sub hQ (fun S11 hS11 hQ => ?_)
        refine ev_E.goal (pc' := 75) (L' := [some (ev_o 10 a), some (ev_i 1)]) (K' := []) (S' := S11) ?_ rfl rfl rfl hS11
        refine ev_aload_n (ev_o 10 a) dX10_runScript_75 rfl rfl ?_
        refine ev_iconst (0) dX10_runScript_76 rfl ?_
        refine pf_10_7 dX10_runScript_77 kw_1860 ?_
        refine ev_sub hQ (fun S12 hS12 hQ => ?_)
        refine ev_E.goal (pc' := 80) (L' := [some (ev_o 10 a), some (ev_i 1)]) (K' := []) (S' := S12) ?_ rfl rfl rfl hS12
        refine ev_aload_n (ev_o 10 a) dX10_runScript_80 rfl rfl ?_
        refine gf_10_22 dX10_runScript_81 kw_1875 ?_
        refine ev_ke ((j_rk hS12 (Or.inr (by decide))).trans (j_rk hS11 (Or.inr (by decide)))) ?_
        exact ev_ireturn .int dX10_runScript_84 rfl rfl hQ
      · rw [if_neg c3]
        replace hQ := hQ.2 c3
        refine ev_istore_n dX10_runScript_69 (Nat.le_of_ble_eq_true rfl) (ev_hw rfl) ?_
        show ev_E g m_X10_runScript 51 0 70 [some (ev_o 10 a), some (ev_i 0)] [] S10 Q
        refine ev_aload_n (ev_o 10 a) dX10_runScript_70 rfl rfl ?_
        refine ev_iconst (0) dX10_runScript_71 rfl ?_
        refine pf_10_23 dX10_runScript_72 kw_1876 (by decide) ?_
        refine ev_sub hQ (fun S13 hS13 hQ => ?_)
        refine ev_E.goal (pc' := 75) (L' := [some (ev_o 10 a), some (ev_i 0)]) (K' := []) (S' := S13) ?_ rfl rfl rfl hS13
        refine ev_aload_n (ev_o 10 a) dX10_runScript_75 rfl rfl ?_
        refine ev_iconst (0) dX10_runScript_76 rfl ?_
        refine pf_10_7 dX10_runScript_77 kw_1860 ?_
        refine ev_sub hQ (fun S14 hS14 hQ => ?_)
        refine ev_E.goal (pc' := 80) (L' := [some (ev_o 10 a), some (ev_i 0)]) (K' := []) (S' := S14) ?_ rfl rfl rfl hS14
        refine ev_aload_n (ev_o 10 a) dX10_runScript_80 rfl rfl ?_
        refine gf_10_22 dX10_runScript_81 kw_1875 ?_
        refine ev_ke ((j_rk hS14 (Or.inr (by decide))).trans (j_rk hS13 (Or.inr (by decide)))) ?_
        exact ev_ireturn .int dX10_runScript_84 rfl rfl hQ
    · rw [if_neg c2]
      replace hQ := hQ.2 c2
      refine ev_if_ne 46 dX10_runScript_41 (by decide) (fun h9 => absurd (by decide : ((0 : Int32) = 0)) h9) (fun _ => ?_)
      refine ev_iconst (-1) dX10_runScript_44 rfl ?_
      exact ev_ireturn .int dX10_runScript_45 rfl rfl hQ
  · replace hQ := hQ.1 c1
    refine ev_iconst (1) dX10_runScript_27 rfl ?_
    refine ev_goto 32 dX10_runScript_28 (by decide) ?_
    refine ev_iconst (1) dX10_runScript_32 rfl ?_
    refine ev_cV mv_X10_must 1 0 10 [ev_i 1, ev_i 1] [] dX10_runScript_33 kw_1794 rfl (by decide) rfl (by decide) (by decide) (Nat.le_of_ble_eq_true rfl) hQ ?_ rfl
    rintro o S15 ⟨v7_, rfl, hQ⟩
    show ev_E g m_X10_runScript 51 0 36 [some (ev_o 10 a), none] [ev_i (if v7_ = true then 1 else 0)] S15 Q
    refine ev_pop dX10_runScript_36 rfl ?_
    refine ev_aload_n (ev_o 10 a) dX10_runScript_37 rfl rfl ?_
    refine ev_cV mv_X10_isWhole 1 0 10 [] [] dX10_runScript_38 kw_1971 rfl (by decide) rfl (by decide) (by decide) (Nat.le_of_ble_eq_true rfl) hQ ?_ rfl
    rintro o S16 ⟨v8_, rfl, hQ⟩
    show ev_E g m_X10_runScript 51 0 41 [some (ev_o 10 a), none] [ev_i (if v8_ = true then 1 else 0)] S16 Q
    by_cases c4 : v8_ = true
    · rw [if_pos c4]
      replace hQ := hQ.1 c4
      refine ev_if_ne 46 dX10_runScript_41 (by decide) (fun _ => ?_) (fun h9 => absurd h9 (by decide : ¬ ((1 : Int32) = 0)))
      refine ev_aload_n (ev_o 10 a) dX10_runScript_46 rfl rfl ?_
      refine ev_cV mv_X10_keeps 1 0 10 [] [] dX10_runScript_47 kw_2009 rfl (by decide) rfl (by decide) (by decide) (Nat.le_of_ble_eq_true rfl) hQ ?_ rfl
      rintro o S17 ⟨rfl, hQ⟩
      show ev_E g m_X10_runScript 51 0 50 [some (ev_o 10 a), none] [] S17 Q
      refine ev_aload_n (ev_o 10 a) dX10_runScript_50 rfl rfl ?_
      refine ev_iconst (1) dX10_runScript_51 rfl ?_
      refine pf_10_23 dX10_runScript_52 kw_1876 (by decide) ?_
      refine ev_sub hQ (fun S18 hS18 hQ => ?_)
      refine ev_E.goal (pc' := 55) (L' := [some (ev_o 10 a), none]) (K' := []) (S' := S18) ?_ rfl rfl rfl hS18
      refine ev_aload_n (ev_o 10 a) dX10_runScript_55 rfl rfl ?_
      refine ev_iconst (0) dX10_runScript_56 rfl ?_
      refine pf_10_22 dX10_runScript_57 kw_1875 ?_
      refine ev_sub hQ (fun S19 hS19 hQ => ?_)
      refine ev_E.goal (pc' := 60) (L' := [some (ev_o 10 a), none]) (K' := []) (S' := S19) ?_ rfl rfl rfl hS19
      refine ev_aload_n (ev_o 10 a) dX10_runScript_60 rfl rfl ?_
      refine ev_iconst (0) dX10_runScript_61 rfl ?_
      refine ev_aload_n (ev_o 10 a) dX10_runScript_62 rfl rfl ?_
      refine gf_10_21 dX10_runScript_63 kw_1874 ?_
      refine ev_ke ((j_rk hS19 (Or.inr (by decide))).trans (j_rk hS18 (Or.inr (by decide)))) ?_
      refine ev_cV mv_X10_doesAll 50 0 10 [ev_i 0, ev_i (S17.1 a 21)] [] dX10_runScript_66 kw_2013 rfl (by decide) rfl (by decide) (by decide) (Nat.le_of_ble_eq_true rfl) hQ ?_ rfl
      rintro o S20 ⟨v10_, rfl, hQ⟩
      show ev_E g m_X10_runScript 51 0 69 [some (ev_o 10 a), none] [ev_i (if v10_ = true then 1 else 0)] S20 Q
      by_cases c5 : v10_ = true
      · rw [if_pos c5]
        replace hQ := hQ.1 c5
        refine ev_istore_n dX10_runScript_69 (Nat.le_of_ble_eq_true rfl) (ev_hw rfl) ?_
        show ev_E g m_X10_runScript 51 0 70 [some (ev_o 10 a), some (ev_i 1)] [] S20 Q
        refine ev_aload_n (ev_o 10 a) dX10_runScript_70 rfl rfl ?_
        refine ev_iconst (0) dX10_runScript_71 rfl ?_
        refine pf_10_23 dX10_runScript_72 kw_1876 (by decide) ?_
        refine ev_sub hQ (fun S21 hS21 hQ => ?_)
        refine ev_E.goal (pc' := 75) (L' := [some (ev_o 10 a), some (ev_i 1)]) (K' := []) (S' := S21) ?_ rfl rfl rfl hS21
        refine ev_aload_n (ev_o 10 a) dX10_runScript_75 rfl rfl ?_
        refine ev_iconst (0) dX10_runScript_76 rfl ?_
        refine pf_10_7 dX10_runScript_77 kw_1860 ?_
        refine ev_sub hQ (fun S22 hS22 hQ => ?_)
        refine ev_E.goal (pc' := 80) (L' := [some (ev_o 10 a), some (ev_i 1)]) (K' := []) (S' := S22) ?_ rfl rfl rfl hS22
        refine ev_aload_n (ev_o 10 a) dX10_runScript_80 rfl rfl ?_
        refine gf_10_22 dX10_runScript_81 kw_1875 ?_
        refine ev_ke ((j_rk hS22 (Or.inr (by decide))).trans (j_rk hS21 (Or.inr (by decide)))) ?_
        exact ev_ireturn .int dX10_runScript_84 rfl rfl hQ
      · rw [if_neg c5]
        replace hQ := hQ.2 c5
        refine ev_istore_n dX10_runScript_69 (Nat.le_of_ble_eq_true rfl) (ev_hw rfl) ?_
        show ev_E g m_X10_runScript 51 0 70 [some (ev_o 10 a), some (ev_i 0)] [] S20 Q
        refine ev_aload_n (ev_o 10 a) dX10_runScript_70 rfl rfl ?_
        refine ev_iconst (0) dX10_runScript_71 rfl ?_
        refine pf_10_23 dX10_runScript_72 kw_1876 (by decide) ?_
        refine ev_sub hQ (fun S23 hS23 hQ => ?_)
        refine ev_E.goal (pc' := 75) (L' := [some (ev_o 10 a), some (ev_i 0)]) (K' := []) (S' := S23) ?_ rfl rfl rfl hS23
        refine ev_aload_n (ev_o 10 a) dX10_runScript_75 rfl rfl ?_
        refine ev_iconst (0) dX10_runScript_76 rfl ?_
        refine pf_10_7 dX10_runScript_77 kw_1860 ?_
        refine ev_sub hQ (fun S24 hS24 hQ => ?_)
        refine ev_E.goal (pc' := 80) (L' := [some (ev_o 10 a), some (ev_i 0)]) (K' := []) (S' := S24) ?_ rfl rfl rfl hS24
        refine ev_aload_n (ev_o 10 a) dX10_runScript_80 rfl rfl ?_
        refine gf_10_22 dX10_runScript_81 kw_1875 ?_
        refine ev_ke ((j_rk hS24 (Or.inr (by decide))).trans (j_rk hS23 (Or.inr (by decide)))) ?_
        exact ev_ireturn .int dX10_runScript_84 rfl rfl hQ
    · rw [if_neg c4]
      replace hQ := hQ.2 c4
      refine ev_if_ne 46 dX10_runScript_41 (by decide) (fun h9 => absurd (by decide : ((0 : Int32) = 0)) h9) (fun _ => ?_)
      refine ev_iconst (-1) dX10_runScript_44 rfl ?_
      exact ev_ireturn .int dX10_runScript_45 rfl rfl hQ
set_option maxHeartbeats 4000000 in
set_option maxRecDepth 100000 in
theorem sg_X10_boardSize_0 {g : ev_G} {S : ev_S} {Q : ev_O → ev_S → Prop} (a : Nat) (hQ : ∀ S1 : ev_S, S1 = (ev_up S a 7 0) → (
    Q (.inl (some (ev_i (S.1 (a + 1) 0)))) S1)) : ev_Cv g m_X10_boardSize 1 0 [ev_o 10 a] S Q := by
  refine ev_enter (by decide) rfl rfl (Nat.le_of_ble_eq_true rfl) ?_
  show ev_E g m_X10_boardSize 1 0 0 [some (ev_o 10 a)] [] S Q
  refine ev_aload_n (ev_o 10 a) dX10_boardSize_0 rfl rfl ?_
  refine ev_iconst (0) dX10_boardSize_1 rfl ?_
  refine pf_10_7 dX10_boardSize_2 kw_1860 ?_
  refine ev_sub hQ (fun S1 hS1 hQ => ?_)
  refine ev_E.goal (pc' := 5) (L' := [some (ev_o 10 a)]) (K' := []) (S' := S1) ?_ rfl rfl rfl hS1
  refine ev_aload_n (ev_o 10 a) dX10_boardSize_5 rfl rfl ?_
  refine gf_10_0 dX10_boardSize_6 kw_1853 ?_
  refine ev_iconst (0) dX10_boardSize_9 rfl ?_
  refine ev_iaload dX10_boardSize_10 (j_vin (by decide)) ?_
  refine ev_ke (j_rk hS1 (Or.inl (by omega))) ?_
  exact ev_ireturn .int dX10_boardSize_11 rfl rfl hQ
set_option maxHeartbeats 4000000 in
set_option maxRecDepth 100000 in
theorem sp_X10_boardSize {g : ev_G} {S : ev_S} (a : Nat)  : ev_Fn g m_X10_boardSize 1 [ev_o 10 a] S (some (ev_i (S.1 (a + 1) 0))) (ev_up S a 7 0) := by
  intro Q hQ
  refine sg_X10_boardSize_0 a ?_
  intro S1 hS1
  subst hS1
  exact hQ
set_option maxHeartbeats 4000000 in
set_option maxRecDepth 100000 in
theorem sg_X10_moveLimit_0 {g : ev_G} {S : ev_S} {Q : ev_O → ev_S → Prop} (a : Nat) (hQ : ∀ S1 : ev_S, S1 = (ev_up S a 7 0) → (
    Q (.inl (some (ev_i (S.1 (a + 1) 1)))) S1)) : ev_Cv g m_X10_moveLimit 1 0 [ev_o 10 a] S Q := by
  refine ev_enter (by decide) rfl rfl (Nat.le_of_ble_eq_true rfl) ?_
  show ev_E g m_X10_moveLimit 1 0 0 [some (ev_o 10 a)] [] S Q
  refine ev_aload_n (ev_o 10 a) dX10_moveLimit_0 rfl rfl ?_
  refine ev_iconst (0) dX10_moveLimit_1 rfl ?_
  refine pf_10_7 dX10_moveLimit_2 kw_1860 ?_
  refine ev_sub hQ (fun S1 hS1 hQ => ?_)
  refine ev_E.goal (pc' := 5) (L' := [some (ev_o 10 a)]) (K' := []) (S' := S1) ?_ rfl rfl rfl hS1
  refine ev_aload_n (ev_o 10 a) dX10_moveLimit_5 rfl rfl ?_
  refine gf_10_0 dX10_moveLimit_6 kw_1853 ?_
  refine ev_iconst (1) dX10_moveLimit_9 rfl ?_
  refine ev_iaload dX10_moveLimit_10 (j_vin (by decide)) ?_
  refine ev_ke (j_rk hS1 (Or.inl (by omega))) ?_
  exact ev_ireturn .int dX10_moveLimit_11 rfl rfl hQ
set_option maxHeartbeats 4000000 in
set_option maxRecDepth 100000 in
theorem sp_X10_moveLimit {g : ev_G} {S : ev_S} (a : Nat)  : ev_Fn g m_X10_moveLimit 1 [ev_o 10 a] S (some (ev_i (S.1 (a + 1) 1))) (ev_up S a 7 0) := by
  intro Q hQ
  refine sg_X10_moveLimit_0 a ?_
  intro S1 hS1
  subst hS1
  exact hQ
set_option maxHeartbeats 4000000 in
set_option maxRecDepth 100000 in
theorem sg_X10_day_0 {g : ev_G} {S : ev_S} {Q : ev_O → ev_S → Prop} (a : Nat) (hQ : ∀ S1 : ev_S, S1 = (ev_up S a 7 0) → (
    Q (.inl (some (ev_i (S.1 (a + 1) 2)))) S1)) : ev_Cv g m_X10_day 1 0 [ev_o 10 a] S Q := by
  refine ev_enter (by decide) rfl rfl (Nat.le_of_ble_eq_true rfl) ?_
  show ev_E g m_X10_day 1 0 0 [some (ev_o 10 a)] [] S Q
  refine ev_aload_n (ev_o 10 a) dX10_day_0 rfl rfl ?_
  refine ev_iconst (0) dX10_day_1 rfl ?_
  refine pf_10_7 dX10_day_2 kw_1860 ?_
  refine ev_sub hQ (fun S1 hS1 hQ => ?_)
  refine ev_E.goal (pc' := 5) (L' := [some (ev_o 10 a)]) (K' := []) (S' := S1) ?_ rfl rfl rfl hS1
  refine ev_aload_n (ev_o 10 a) dX10_day_5 rfl rfl ?_
  refine gf_10_0 dX10_day_6 kw_1853 ?_
  refine ev_iconst (2) dX10_day_9 rfl ?_
  refine ev_iaload dX10_day_10 (j_vin (by decide)) ?_
  refine ev_ke (j_rk hS1 (Or.inl (by omega))) ?_
  exact ev_ireturn .int dX10_day_11 rfl rfl hQ
set_option maxHeartbeats 4000000 in
set_option maxRecDepth 100000 in
theorem sp_X10_day {g : ev_G} {S : ev_S} (a : Nat)  : ev_Fn g m_X10_day 1 [ev_o 10 a] S (some (ev_i (S.1 (a + 1) 2))) (ev_up S a 7 0) := by
  intro Q hQ
  refine sg_X10_day_0 a ?_
  intro S1 hS1
  subst hS1
  exact hQ
set_option maxHeartbeats 4000000 in
set_option maxRecDepth 100000 in
theorem sg_X10_month_0 {g : ev_G} {S : ev_S} {Q : ev_O → ev_S → Prop} (a : Nat) (hQ : ∀ S1 : ev_S, S1 = (ev_up S a 7 0) → (
    Q (.inl (some (ev_i (ev_rem ((S1.1 (a + 1) 2) / 30) 12)))) S1)) : ev_Cv g m_X10_month 2 0 [ev_o 10 a] S Q := by
  refine ev_enter (by decide) rfl rfl (Nat.le_of_ble_eq_true rfl) ?_
  show ev_E g m_X10_month 2 0 0 [some (ev_o 10 a)] [] S Q
  refine ev_aload_n (ev_o 10 a) dX10_month_0 rfl rfl ?_
  refine ev_iconst (0) dX10_month_1 rfl ?_
  refine pf_10_7 dX10_month_2 kw_1860 ?_
  refine ev_sub hQ (fun S1 hS1 hQ => ?_)
  refine ev_E.goal (pc' := 5) (L' := [some (ev_o 10 a)]) (K' := []) (S' := S1) ?_ rfl rfl rfl hS1
  refine ev_aload_n (ev_o 10 a) dX10_month_5 rfl rfl ?_
  refine ev_fV mv_X10_monthNow 1 10 [] [] dX10_month_6 kw_2157 rfl (by decide) rfl (by decide) (Nat.le_of_ble_eq_true rfl) (sp_X10_monthNow a) ?_ rfl
  exact ev_ireturn .int dX10_month_9 rfl rfl hQ
set_option maxHeartbeats 4000000 in
set_option maxRecDepth 100000 in
theorem sp_X10_month {g : ev_G} {S : ev_S} (a : Nat)  : ev_Fn g m_X10_month 2 [ev_o 10 a] S (some (ev_i (ev_rem (((ev_up S a 7 0).1 (a + 1) 2) / 30) 12))) (ev_up S a 7 0) := by
  intro Q hQ
  refine sg_X10_month_0 a ?_
  intro S1 hS1
  subst hS1
  exact hQ
set_option maxHeartbeats 4000000 in
set_option maxRecDepth 100000 in
theorem sg_X10_bishopOwner_0 {g : ev_G} {S : ev_S} {Q : ev_O → ev_S → Prop} (a : Nat) (x0 : Int32) (x1 : Int32) (hQ : ∀ S1 : ev_S, S1 = (ev_up S a 7 0) → (
    ((t_X10_in x0 0 1) = true → (
      ((t_X10_in x1 0 (((S1.1 (a + 1) 0) * (S1.1 (a + 1) 0)) - 1)) = true → (
        (vp_in ((26 + (64 * x0)) + x1) 2091) ∧ (
          Q (.inl (some (ev_i (S.1 (a + 1) ((26 + (64 * x0)) + x1).toNatClampNeg)))) S1))) ∧
      (¬ ((t_X10_in x1 0 (((S1.1 (a + 1) 0) * (S1.1 (a + 1) 0)) - 1)) = true) → (
        ∀ S2 : ev_S, S2 = (ev_up S1 a 7 1) → (
          Q (.inl (some (ev_i 0))) S2))))) ∧
    (¬ ((t_X10_in x0 0 1) = true) → (
      ∀ S3 : ev_S, S3 = (ev_up S1 a 7 1) → (
        Q (.inl (some (ev_i 0))) S3))))) : ev_Cv g m_X10_bishopOwner 3 0 [ev_o 10 a, ev_i x0, ev_i x1] S Q := by
  refine ev_enter (by decide) rfl rfl (Nat.le_of_ble_eq_true rfl) ?_
  show ev_E g m_X10_bishopOwner 3 0 0 [some (ev_o 10 a), some (ev_i x0), some (ev_i x1)] [] S Q
  refine ev_aload_n (ev_o 10 a) dX10_bishopOwner_0 rfl rfl ?_
  refine ev_iconst (0) dX10_bishopOwner_1 rfl ?_
  refine pf_10_7 dX10_bishopOwner_2 kw_1860 ?_
  refine ev_sub hQ (fun S1 hS1 hQ => ?_)
  refine ev_E.goal (pc' := 5) (L' := [some (ev_o 10 a), some (ev_i x0), some (ev_i x1)]) (K' := []) (S' := S1) ?_ rfl rfl rfl hS1
  refine ev_aload_n (ev_o 10 a) dX10_bishopOwner_5 rfl rfl ?_
  refine ev_iload_n (x0) dX10_bishopOwner_6 rfl ?_
  refine ev_fS ms_X10_isPlayer 2 [ev_i x0] [ev_o 10 a] dX10_bishopOwner_7 kw_2029 rfl (by decide) (Nat.le_of_ble_eq_true rfl) (sp_X10_isPlayer x0) ?_ rfl
  by_cases c1 : (t_X10_in x0 0 1) = true
  · rw [if_pos c1]
    replace hQ := hQ.1 c1
    refine ev_if_eq 25 dX10_bishopOwner_10 (by decide) (fun h9 => absurd h9 (by decide : ¬ ((1 : Int32) = 0))) (fun _ => ?_)
    refine ev_aload_n (ev_o 10 a) dX10_bishopOwner_13 rfl rfl ?_
    refine ev_iload_n (x1) dX10_bishopOwner_14 rfl ?_
    refine ev_fV mv_X10_isSquare 2 10 [ev_i x1] [ev_o 10 a] dX10_bishopOwner_15 kw_2032 rfl (by decide) rfl (by decide) (Nat.le_of_ble_eq_true rfl) (sp_X10_isSquare a x1) ?_ rfl
    by_cases c2 : (t_X10_in x1 0 (((S1.1 (a + 1) 0) * (S1.1 (a + 1) 0)) - 1)) = true
    · rw [if_pos c2]
      replace hQ := hQ.1 c2
      refine ev_if_eq 25 dX10_bishopOwner_18 (by decide) (fun h9 => absurd h9 (by decide : ¬ ((1 : Int32) = 0))) (fun _ => ?_)
      refine ev_iconst (1) dX10_bishopOwner_21 rfl ?_
      refine ev_goto 26 dX10_bishopOwner_22 (by decide) ?_
      refine ev_iconst (1) dX10_bishopOwner_26 rfl ?_
      refine ev_cV mv_X10_right 1 0 10 [ev_i 1, ev_i 1] [] dX10_bishopOwner_27 kw_1951 rfl (by decide) rfl (by decide) (by decide) (Nat.le_of_ble_eq_true rfl) (Q' := fun o z => ev_After g m_X10_bishopOwner 3 (0 - 0) 27 [some (ev_o 10 a), some (ev_i x0), some (ev_i x1)] [] z Q o) (sg_X10_right_0 a 1 1 ?_) (fun o z h => h) rfl
      refine j_pos (by rw [j_rs hS1] <;> decide : ((S1.1 a 7) = 0)) ?_
      refine j_neg (by decide : ¬ ((1 : Int32) = 0)) ?_
      show ev_E g m_X10_bishopOwner 3 0 30 [some (ev_o 10 a), some (ev_i x0), some (ev_i x1)] [ev_i 1] S1 Q
      refine ev_if_eq 42 dX10_bishopOwner_30 (by decide) (fun h9 => absurd h9 (by decide : ¬ ((1 : Int32) = 0))) (fun _ => ?_)
      refine ev_aload_n (ev_o 10 a) dX10_bishopOwner_33 rfl rfl ?_
      refine ev_iload_n (x0) dX10_bishopOwner_34 rfl ?_
      refine ev_iload_n (x1) dX10_bishopOwner_35 rfl ?_
      obtain ⟨h1, hQ⟩ := hQ
      refine ev_fV mv_X10_owner 1 10 [ev_i x0, ev_i x1] [] dX10_bishopOwner_36 kw_1831 rfl (by decide) rfl (by decide) (Nat.le_of_ble_eq_true rfl) (sp_X10_owner a x0 x1 h1) ?_ rfl
      refine ev_ke (j_rk hS1 (Or.inl (by omega))) ?_
      refine ev_goto 43 dX10_bishopOwner_39 (by decide) ?_
      exact ev_ireturn .int dX10_bishopOwner_43 rfl rfl hQ
    · rw [if_neg c2]
      replace hQ := hQ.2 c2
      refine ev_if_eq 25 dX10_bishopOwner_18 (by decide) (fun _ => ?_) (fun h9 => absurd (by decide : ((0 : Int32) = 0)) h9)
      refine ev_iconst (0) dX10_bishopOwner_25 rfl ?_
      refine ev_iconst (1) dX10_bishopOwner_26 rfl ?_
      refine ev_cV mv_X10_right 1 0 10 [ev_i 0, ev_i 1] [] dX10_bishopOwner_27 kw_1951 rfl (by decide) rfl (by decide) (by decide) (Nat.le_of_ble_eq_true rfl) (Q' := fun o z => ev_After g m_X10_bishopOwner 3 (0 - 0) 27 [some (ev_o 10 a), some (ev_i x0), some (ev_i x1)] [] z Q o) (sg_X10_right_0 a 0 1 ?_) (fun o z h => h) rfl
      refine j_pos (by rw [j_rs hS1] <;> decide : ((S1.1 a 7) = 0)) ?_
      refine j_pos (by decide : ((0 : Int32) = 0)) ?_
      intro S2 hS2
      refine ev_sub1 hQ hS2 (fun hQ => ?_)
      refine j_neg (by decide : ¬ ((1 : Int32) = 0)) ?_
      show ev_E g m_X10_bishopOwner 3 0 30 [some (ev_o 10 a), some (ev_i x0), some (ev_i x1)] [ev_i 0] S2 Q
      refine ev_if_eq 42 dX10_bishopOwner_30 (by decide) (fun _ => ?_) (fun h9 => absurd (by decide : ((0 : Int32) = 0)) h9)
      refine ev_iconst (0) dX10_bishopOwner_42 rfl ?_
      exact ev_ireturn .int dX10_bishopOwner_43 rfl rfl hQ
  · rw [if_neg c1]
    replace hQ := hQ.2 c1
    refine ev_if_eq 25 dX10_bishopOwner_10 (by decide) (fun _ => ?_) (fun h9 => absurd (by decide : ((0 : Int32) = 0)) h9)
    refine ev_iconst (0) dX10_bishopOwner_25 rfl ?_
    refine ev_iconst (1) dX10_bishopOwner_26 rfl ?_
    refine ev_cV mv_X10_right 1 0 10 [ev_i 0, ev_i 1] [] dX10_bishopOwner_27 kw_1951 rfl (by decide) rfl (by decide) (by decide) (Nat.le_of_ble_eq_true rfl) (Q' := fun o z => ev_After g m_X10_bishopOwner 3 (0 - 0) 27 [some (ev_o 10 a), some (ev_i x0), some (ev_i x1)] [] z Q o) (sg_X10_right_0 a 0 1 ?_) (fun o z h => h) rfl
    refine j_pos (by rw [j_rs hS1] <;> decide : ((S1.1 a 7) = 0)) ?_
    refine j_pos (by decide : ((0 : Int32) = 0)) ?_
    intro S3 hS3
    refine ev_sub1 hQ hS3 (fun hQ => ?_)
    refine j_neg (by decide : ¬ ((1 : Int32) = 0)) ?_
    show ev_E g m_X10_bishopOwner 3 0 30 [some (ev_o 10 a), some (ev_i x0), some (ev_i x1)] [ev_i 0] S3 Q
    refine ev_if_eq 42 dX10_bishopOwner_30 (by decide) (fun _ => ?_) (fun h9 => absurd (by decide : ((0 : Int32) = 0)) h9)
    refine ev_iconst (0) dX10_bishopOwner_42 rfl ?_
    exact ev_ireturn .int dX10_bishopOwner_43 rfl rfl hQ
set_option maxHeartbeats 4000000 in
set_option maxRecDepth 100000 in
theorem sg_X10_bishopCount_0 {g : ev_G} {S : ev_S} {Q : ev_O → ev_S → Prop} (a : Nat) (x0 : Int32) (x1 : Int32) (hQ : ∀ S1 : ev_S, S1 = (ev_up S a 7 0) → (
    ((t_X10_in x0 0 1) = true → (
      ((t_X10_in x1 0 1) = true → (
        ev_Cv g m_X10_bishopsOf 2 0 [ev_o 10 a, ev_i x0, ev_i x1] S1 (fun o S2 => ∃ v1_ : Int32, o = .inl (some (ev_i v1_)) ∧ (
          Q (.inl (some (ev_i v1_))) S2)))) ∧
      (¬ ((t_X10_in x1 0 1) = true) → (
        ∀ S3 : ev_S, S3 = (ev_up S1 a 7 1) → (
          Q (.inl (some (ev_i 0))) S3))))) ∧
    (¬ ((t_X10_in x0 0 1) = true) → (
      ∀ S4 : ev_S, S4 = (ev_up S1 a 7 1) → (
        Q (.inl (some (ev_i 0))) S4))))) : ev_Cv g m_X10_bishopCount 3 0 [ev_o 10 a, ev_i x0, ev_i x1] S Q := by
  refine ev_enter (by decide) rfl rfl (Nat.le_of_ble_eq_true rfl) ?_
  show ev_E g m_X10_bishopCount 3 0 0 [some (ev_o 10 a), some (ev_i x0), some (ev_i x1)] [] S Q
  refine ev_aload_n (ev_o 10 a) dX10_bishopCount_0 rfl rfl ?_
  refine ev_iconst (0) dX10_bishopCount_1 rfl ?_
  refine pf_10_7 dX10_bishopCount_2 kw_1860 ?_
  refine ev_sub hQ (fun S1 hS1 hQ => ?_)
  refine ev_E.goal (pc' := 5) (L' := [some (ev_o 10 a), some (ev_i x0), some (ev_i x1)]) (K' := []) (S' := S1) ?_ rfl rfl rfl hS1
  refine ev_aload_n (ev_o 10 a) dX10_bishopCount_5 rfl rfl ?_
  refine ev_iload_n (x0) dX10_bishopCount_6 rfl ?_
  refine ev_fS ms_X10_isPlayer 2 [ev_i x0] [ev_o 10 a] dX10_bishopCount_7 kw_2029 rfl (by decide) (Nat.le_of_ble_eq_true rfl) (sp_X10_isPlayer x0) ?_ rfl
  by_cases c1 : (t_X10_in x0 0 1) = true
  · rw [if_pos c1]
    replace hQ := hQ.1 c1
    refine ev_if_eq 24 dX10_bishopCount_10 (by decide) (fun h9 => absurd h9 (by decide : ¬ ((1 : Int32) = 0))) (fun _ => ?_)
    refine ev_iload_n (x1) dX10_bishopCount_13 rfl ?_
    refine ev_fS ms_X10_isPlayer 2 [ev_i x1] [ev_o 10 a] dX10_bishopCount_14 kw_2029 rfl (by decide) (Nat.le_of_ble_eq_true rfl) (sp_X10_isPlayer x1) ?_ rfl
    by_cases c2 : (t_X10_in x1 0 1) = true
    · rw [if_pos c2]
      replace hQ := hQ.1 c2
      refine ev_if_eq 24 dX10_bishopCount_17 (by decide) (fun h9 => absurd h9 (by decide : ¬ ((1 : Int32) = 0))) (fun _ => ?_)
      refine ev_iconst (1) dX10_bishopCount_20 rfl ?_
      refine ev_goto 25 dX10_bishopCount_21 (by decide) ?_
      refine ev_iconst (1) dX10_bishopCount_25 rfl ?_
      refine ev_cV mv_X10_right 1 0 10 [ev_i 1, ev_i 1] [] dX10_bishopCount_26 kw_1951 rfl (by decide) rfl (by decide) (by decide) (Nat.le_of_ble_eq_true rfl) (Q' := fun o z => ev_After g m_X10_bishopCount 3 (0 - 0) 26 [some (ev_o 10 a), some (ev_i x0), some (ev_i x1)] [] z Q o) (sg_X10_right_0 a 1 1 ?_) (fun o z h => h) rfl
      refine j_pos (by rw [j_rs hS1] <;> decide : ((S1.1 a 7) = 0)) ?_
      refine j_neg (by decide : ¬ ((1 : Int32) = 0)) ?_
      show ev_E g m_X10_bishopCount 3 0 29 [some (ev_o 10 a), some (ev_i x0), some (ev_i x1)] [ev_i 1] S1 Q
      refine ev_if_eq 41 dX10_bishopCount_29 (by decide) (fun h9 => absurd h9 (by decide : ¬ ((1 : Int32) = 0))) (fun _ => ?_)
      refine ev_aload_n (ev_o 10 a) dX10_bishopCount_32 rfl rfl ?_
      refine ev_iload_n (x0) dX10_bishopCount_33 rfl ?_
      refine ev_iload_n (x1) dX10_bishopCount_34 rfl ?_
      refine ev_cV mv_X10_bishopsOf 2 0 10 [ev_i x0, ev_i x1] [] dX10_bishopCount_35 kw_1823 rfl (by decide) rfl (by decide) (by decide) (Nat.le_of_ble_eq_true rfl) hQ ?_ rfl
      rintro o S2 ⟨v1_, rfl, hQ⟩
      show ev_E g m_X10_bishopCount 3 0 38 [some (ev_o 10 a), some (ev_i x0), some (ev_i x1)] [ev_i v1_] S2 Q
      refine ev_goto 42 dX10_bishopCount_38 (by decide) ?_
      exact ev_ireturn .int dX10_bishopCount_42 rfl rfl hQ
    · rw [if_neg c2]
      replace hQ := hQ.2 c2
      refine ev_if_eq 24 dX10_bishopCount_17 (by decide) (fun _ => ?_) (fun h9 => absurd (by decide : ((0 : Int32) = 0)) h9)
      refine ev_iconst (0) dX10_bishopCount_24 rfl ?_
      refine ev_iconst (1) dX10_bishopCount_25 rfl ?_
      refine ev_cV mv_X10_right 1 0 10 [ev_i 0, ev_i 1] [] dX10_bishopCount_26 kw_1951 rfl (by decide) rfl (by decide) (by decide) (Nat.le_of_ble_eq_true rfl) (Q' := fun o z => ev_After g m_X10_bishopCount 3 (0 - 0) 26 [some (ev_o 10 a), some (ev_i x0), some (ev_i x1)] [] z Q o) (sg_X10_right_0 a 0 1 ?_) (fun o z h => h) rfl
      refine j_pos (by rw [j_rs hS1] <;> decide : ((S1.1 a 7) = 0)) ?_
      refine j_pos (by decide : ((0 : Int32) = 0)) ?_
      intro S3 hS3
      refine ev_sub1 hQ hS3 (fun hQ => ?_)
      refine j_neg (by decide : ¬ ((1 : Int32) = 0)) ?_
      show ev_E g m_X10_bishopCount 3 0 29 [some (ev_o 10 a), some (ev_i x0), some (ev_i x1)] [ev_i 0] S3 Q
      refine ev_if_eq 41 dX10_bishopCount_29 (by decide) (fun _ => ?_) (fun h9 => absurd (by decide : ((0 : Int32) = 0)) h9)
      refine ev_iconst (0) dX10_bishopCount_41 rfl ?_
      exact ev_ireturn .int dX10_bishopCount_42 rfl rfl hQ
  · rw [if_neg c1]
    replace hQ := hQ.2 c1
    refine ev_if_eq 24 dX10_bishopCount_10 (by decide) (fun _ => ?_) (fun h9 => absurd (by decide : ((0 : Int32) = 0)) h9)
    refine ev_iconst (0) dX10_bishopCount_24 rfl ?_
    refine ev_iconst (1) dX10_bishopCount_25 rfl ?_
    refine ev_cV mv_X10_right 1 0 10 [ev_i 0, ev_i 1] [] dX10_bishopCount_26 kw_1951 rfl (by decide) rfl (by decide) (by decide) (Nat.le_of_ble_eq_true rfl) (Q' := fun o z => ev_After g m_X10_bishopCount 3 (0 - 0) 26 [some (ev_o 10 a), some (ev_i x0), some (ev_i x1)] [] z Q o) (sg_X10_right_0 a 0 1 ?_) (fun o z h => h) rfl
    refine j_pos (by rw [j_rs hS1] <;> decide : ((S1.1 a 7) = 0)) ?_
    refine j_pos (by decide : ((0 : Int32) = 0)) ?_
    intro S4 hS4
    refine ev_sub1 hQ hS4 (fun hQ => ?_)
    refine j_neg (by decide : ¬ ((1 : Int32) = 0)) ?_
    show ev_E g m_X10_bishopCount 3 0 29 [some (ev_o 10 a), some (ev_i x0), some (ev_i x1)] [ev_i 0] S4 Q
    refine ev_if_eq 41 dX10_bishopCount_29 (by decide) (fun _ => ?_) (fun h9 => absurd (by decide : ((0 : Int32) = 0)) h9)
    refine ev_iconst (0) dX10_bishopCount_41 rfl ?_
    exact ev_ireturn .int dX10_bishopCount_42 rfl rfl hQ
set_option maxHeartbeats 4000000 in
set_option maxRecDepth 100000 in
theorem sg_X10_moveCount_0 {g : ev_G} {S : ev_S} {Q : ev_O → ev_S → Prop} (a : Nat) (x0 : Int32) (hQ : ∀ S1 : ev_S, S1 = (ev_up S a 7 0) → (
    ((t_X10_in x0 0 1) = true → (
      (vp_in ((12 + (7 * x0)) + 0) 2091) ∧ (
        Q (.inl (some (ev_i (S.1 (a + 1) ((12 + (7 * x0)) + 0).toNatClampNeg)))) S1))) ∧
    (¬ ((t_X10_in x0 0 1) = true) → (
      ∀ S2 : ev_S, S2 = (ev_up S1 a 7 1) → (
        Q (.inl (some (ev_i 0))) S2))))) : ev_Cv g m_X10_moveCount 3 0 [ev_o 10 a, ev_i x0] S Q := by
  refine ev_enter (by decide) rfl rfl (Nat.le_of_ble_eq_true rfl) ?_
  show ev_E g m_X10_moveCount 3 0 0 [some (ev_o 10 a), some (ev_i x0)] [] S Q
  refine ev_aload_n (ev_o 10 a) dX10_moveCount_0 rfl rfl ?_
  refine ev_iconst (0) dX10_moveCount_1 rfl ?_
  refine pf_10_7 dX10_moveCount_2 kw_1860 ?_
  refine ev_sub hQ (fun S1 hS1 hQ => ?_)
  refine ev_E.goal (pc' := 5) (L' := [some (ev_o 10 a), some (ev_i x0)]) (K' := []) (S' := S1) ?_ rfl rfl rfl hS1
  refine ev_aload_n (ev_o 10 a) dX10_moveCount_5 rfl rfl ?_
  refine ev_iload_n (x0) dX10_moveCount_6 rfl ?_
  refine ev_fS ms_X10_isPlayer 2 [ev_i x0] [ev_o 10 a] dX10_moveCount_7 kw_2029 rfl (by decide) (Nat.le_of_ble_eq_true rfl) (sp_X10_isPlayer x0) ?_ rfl
  by_cases c1 : (t_X10_in x0 0 1) = true
  · rw [if_pos c1]
    replace hQ := hQ.1 c1
    refine ev_iconst (1) dX10_moveCount_10 rfl ?_
    refine ev_cV mv_X10_right 1 0 10 [ev_i 1, ev_i 1] [] dX10_moveCount_11 kw_1951 rfl (by decide) rfl (by decide) (by decide) (Nat.le_of_ble_eq_true rfl) (Q' := fun o z => ev_After g m_X10_moveCount 3 (0 - 0) 11 [some (ev_o 10 a), some (ev_i x0)] [] z Q o) (sg_X10_right_0 a 1 1 ?_) (fun o z h => h) rfl
    refine j_pos (by rw [j_rs hS1] <;> decide : ((S1.1 a 7) = 0)) ?_
    refine j_neg (by decide : ¬ ((1 : Int32) = 0)) ?_
    show ev_E g m_X10_moveCount 3 0 14 [some (ev_o 10 a), some (ev_i x0)] [ev_i 1] S1 Q
    refine ev_if_eq 26 dX10_moveCount_14 (by decide) (fun h9 => absurd h9 (by decide : ¬ ((1 : Int32) = 0))) (fun _ => ?_)
    refine ev_aload_n (ev_o 10 a) dX10_moveCount_17 rfl rfl ?_
    refine ev_iload_n (x0) dX10_moveCount_18 rfl ?_
    refine ev_iconst (0) dX10_moveCount_19 rfl ?_
    obtain ⟨h1, hQ⟩ := hQ
    refine ev_fV mv_X10_ofP 1 10 [ev_i x0, ev_i 0] [] dX10_moveCount_20 kw_2048 rfl (by decide) rfl (by decide) (Nat.le_of_ble_eq_true rfl) (sp_X10_ofP a x0 0 h1) ?_ rfl
    refine ev_ke (j_rk hS1 (Or.inl (by omega))) ?_
    refine ev_goto 27 dX10_moveCount_23 (by decide) ?_
    exact ev_ireturn .int dX10_moveCount_27 rfl rfl hQ
  · rw [if_neg c1]
    replace hQ := hQ.2 c1
    refine ev_iconst (1) dX10_moveCount_10 rfl ?_
    refine ev_cV mv_X10_right 1 0 10 [ev_i 0, ev_i 1] [] dX10_moveCount_11 kw_1951 rfl (by decide) rfl (by decide) (by decide) (Nat.le_of_ble_eq_true rfl) (Q' := fun o z => ev_After g m_X10_moveCount 3 (0 - 0) 11 [some (ev_o 10 a), some (ev_i x0)] [] z Q o) (sg_X10_right_0 a 0 1 ?_) (fun o z h => h) rfl
    refine j_pos (by rw [j_rs hS1] <;> decide : ((S1.1 a 7) = 0)) ?_
    refine j_pos (by decide : ((0 : Int32) = 0)) ?_
    intro S2 hS2
    refine ev_sub1 hQ hS2 (fun hQ => ?_)
    refine j_neg (by decide : ¬ ((1 : Int32) = 0)) ?_
    show ev_E g m_X10_moveCount 3 0 14 [some (ev_o 10 a), some (ev_i x0)] [ev_i 0] S2 Q
    refine ev_if_eq 26 dX10_moveCount_14 (by decide) (fun _ => ?_) (fun h9 => absurd (by decide : ((0 : Int32) = 0)) h9)
    refine ev_iconst (0) dX10_moveCount_26 rfl ?_
    exact ev_ireturn .int dX10_moveCount_27 rfl rfl hQ
set_option maxHeartbeats 4000000 in
set_option maxRecDepth 100000 in
theorem sg_X10_isTurn_0 {g : ev_G} {S : ev_S} {Q : ev_O → ev_S → Prop} (a : Nat) (x0 : Int32) (hQ : ∀ S1 : ev_S, S1 = (ev_up S a 7 0) → (
    ((t_X10_in x0 0 1) = true → (
      ev_Cv g m_X10_turnOf 4 0 [ev_o 10 a, ev_i x0] S1 (fun o S2 => ∃ v1_ : Bool, o = .inl (some (ev_i (if v1_ = true then 1 else 0))) ∧ (
        (v1_ = true → (
          Q (.inl (some (ev_i 1))) S2)) ∧
        (¬ (v1_ = true) → (
          Q (.inl (some (ev_i 0))) S2)))))) ∧
    (¬ ((t_X10_in x0 0 1) = true) → (
      ∀ S3 : ev_S, S3 = (ev_up S1 a 7 1) → (
        Q (.inl (some (ev_i 0))) S3))))) : ev_Cv g m_X10_isTurn 5 0 [ev_o 10 a, ev_i x0] S Q := by
  refine ev_enter (by decide) rfl rfl (Nat.le_of_ble_eq_true rfl) ?_
  show ev_E g m_X10_isTurn 5 0 0 [some (ev_o 10 a), some (ev_i x0)] [] S Q
  refine ev_aload_n (ev_o 10 a) dX10_isTurn_0 rfl rfl ?_
  refine ev_iconst (0) dX10_isTurn_1 rfl ?_
  refine pf_10_7 dX10_isTurn_2 kw_1860 ?_
  refine ev_sub hQ (fun S1 hS1 hQ => ?_)
  refine ev_E.goal (pc' := 5) (L' := [some (ev_o 10 a), some (ev_i x0)]) (K' := []) (S' := S1) ?_ rfl rfl rfl hS1
  refine ev_aload_n (ev_o 10 a) dX10_isTurn_5 rfl rfl ?_
  refine ev_iload_n (x0) dX10_isTurn_6 rfl ?_
  refine ev_fS ms_X10_isPlayer 2 [ev_i x0] [ev_o 10 a] dX10_isTurn_7 kw_2029 rfl (by decide) (Nat.le_of_ble_eq_true rfl) (sp_X10_isPlayer x0) ?_ rfl
  by_cases c1 : (t_X10_in x0 0 1) = true
  · rw [if_pos c1]
    replace hQ := hQ.1 c1
    refine ev_iconst (1) dX10_isTurn_10 rfl ?_
    refine ev_cV mv_X10_right 1 0 10 [ev_i 1, ev_i 1] [] dX10_isTurn_11 kw_1951 rfl (by decide) rfl (by decide) (by decide) (Nat.le_of_ble_eq_true rfl) (Q' := fun o z => ev_After g m_X10_isTurn 5 (0 - 0) 11 [some (ev_o 10 a), some (ev_i x0)] [] z Q o) (sg_X10_right_0 a 1 1 ?_) (fun o z h => h) rfl
    refine j_pos (by rw [j_rs hS1] <;> decide : ((S1.1 a 7) = 0)) ?_
    refine j_neg (by decide : ¬ ((1 : Int32) = 0)) ?_
    show ev_E g m_X10_isTurn 5 0 14 [some (ev_o 10 a), some (ev_i x0)] [ev_i 1] S1 Q
    refine ev_if_eq 29 dX10_isTurn_14 (by decide) (fun h9 => absurd h9 (by decide : ¬ ((1 : Int32) = 0))) (fun _ => ?_)
    refine ev_aload_n (ev_o 10 a) dX10_isTurn_17 rfl rfl ?_
    refine ev_iload_n (x0) dX10_isTurn_18 rfl ?_
    refine ev_cV mv_X10_turnOf 4 0 10 [ev_i x0] [] dX10_isTurn_19 kw_2040 rfl (by decide) rfl (by decide) (by decide) (Nat.le_of_ble_eq_true rfl) hQ ?_ rfl
    rintro o S2 ⟨v1_, rfl, hQ⟩
    show ev_E g m_X10_isTurn 5 0 22 [some (ev_o 10 a), some (ev_i x0)] [ev_i (if v1_ = true then 1 else 0)] S2 Q
    by_cases c2 : v1_ = true
    · rw [if_pos c2]
      replace hQ := hQ.1 c2
      refine ev_if_eq 29 dX10_isTurn_22 (by decide) (fun h9 => absurd h9 (by decide : ¬ ((1 : Int32) = 0))) (fun _ => ?_)
      refine ev_iconst (1) dX10_isTurn_25 rfl ?_
      refine ev_goto 30 dX10_isTurn_26 (by decide) ?_
      exact ev_ireturn .boolean dX10_isTurn_30 rfl rfl hQ
    · rw [if_neg c2]
      replace hQ := hQ.2 c2
      refine ev_if_eq 29 dX10_isTurn_22 (by decide) (fun _ => ?_) (fun h9 => absurd (by decide : ((0 : Int32) = 0)) h9)
      refine ev_iconst (0) dX10_isTurn_29 rfl ?_
      exact ev_ireturn .boolean dX10_isTurn_30 rfl rfl hQ
  · rw [if_neg c1]
    replace hQ := hQ.2 c1
    refine ev_iconst (1) dX10_isTurn_10 rfl ?_
    refine ev_cV mv_X10_right 1 0 10 [ev_i 0, ev_i 1] [] dX10_isTurn_11 kw_1951 rfl (by decide) rfl (by decide) (by decide) (Nat.le_of_ble_eq_true rfl) (Q' := fun o z => ev_After g m_X10_isTurn 5 (0 - 0) 11 [some (ev_o 10 a), some (ev_i x0)] [] z Q o) (sg_X10_right_0 a 0 1 ?_) (fun o z h => h) rfl
    refine j_pos (by rw [j_rs hS1] <;> decide : ((S1.1 a 7) = 0)) ?_
    refine j_pos (by decide : ((0 : Int32) = 0)) ?_
    intro S3 hS3
    refine ev_sub1 hQ hS3 (fun hQ => ?_)
    refine j_neg (by decide : ¬ ((1 : Int32) = 0)) ?_
    show ev_E g m_X10_isTurn 5 0 14 [some (ev_o 10 a), some (ev_i x0)] [ev_i 0] S3 Q
    refine ev_if_eq 29 dX10_isTurn_14 (by decide) (fun _ => ?_) (fun h9 => absurd (by decide : ((0 : Int32) = 0)) h9)
    refine ev_iconst (0) dX10_isTurn_29 rfl ?_
    exact ev_ireturn .boolean dX10_isTurn_30 rfl rfl hQ
set_option maxHeartbeats 4000000 in
set_option maxRecDepth 100000 in
theorem sg_X10_isOver_0 {g : ev_G} {S : ev_S} {Q : ev_O → ev_S → Prop} (a : Nat) (x0 : Int32) (hQ : ∀ S1 : ev_S, S1 = (ev_up S a 7 0) → (
    ((t_X10_in x0 0 1) = true → (
      ev_Cv g m_X10_overOn 3 0 [ev_o 10 a, ev_i x0] S1 (fun o S2 => ∃ v1_ : Bool, o = .inl (some (ev_i (if v1_ = true then 1 else 0))) ∧ (
        (v1_ = true → (
          Q (.inl (some (ev_i 1))) S2)) ∧
        (¬ (v1_ = true) → (
          Q (.inl (some (ev_i 0))) S2)))))) ∧
    (¬ ((t_X10_in x0 0 1) = true) → (
      ∀ S3 : ev_S, S3 = (ev_up S1 a 7 1) → (
        Q (.inl (some (ev_i 0))) S3))))) : ev_Cv g m_X10_isOver 4 0 [ev_o 10 a, ev_i x0] S Q := by
  refine ev_enter (by decide) rfl rfl (Nat.le_of_ble_eq_true rfl) ?_
  show ev_E g m_X10_isOver 4 0 0 [some (ev_o 10 a), some (ev_i x0)] [] S Q
  refine ev_aload_n (ev_o 10 a) dX10_isOver_0 rfl rfl ?_
  refine ev_iconst (0) dX10_isOver_1 rfl ?_
  refine pf_10_7 dX10_isOver_2 kw_1860 ?_
  refine ev_sub hQ (fun S1 hS1 hQ => ?_)
  refine ev_E.goal (pc' := 5) (L' := [some (ev_o 10 a), some (ev_i x0)]) (K' := []) (S' := S1) ?_ rfl rfl rfl hS1
  refine ev_aload_n (ev_o 10 a) dX10_isOver_5 rfl rfl ?_
  refine ev_iload_n (x0) dX10_isOver_6 rfl ?_
  refine ev_fS ms_X10_isPlayer 2 [ev_i x0] [ev_o 10 a] dX10_isOver_7 kw_2029 rfl (by decide) (Nat.le_of_ble_eq_true rfl) (sp_X10_isPlayer x0) ?_ rfl
  by_cases c1 : (t_X10_in x0 0 1) = true
  · rw [if_pos c1]
    replace hQ := hQ.1 c1
    refine ev_iconst (1) dX10_isOver_10 rfl ?_
    refine ev_cV mv_X10_right 1 0 10 [ev_i 1, ev_i 1] [] dX10_isOver_11 kw_1951 rfl (by decide) rfl (by decide) (by decide) (Nat.le_of_ble_eq_true rfl) (Q' := fun o z => ev_After g m_X10_isOver 4 (0 - 0) 11 [some (ev_o 10 a), some (ev_i x0)] [] z Q o) (sg_X10_right_0 a 1 1 ?_) (fun o z h => h) rfl
    refine j_pos (by rw [j_rs hS1] <;> decide : ((S1.1 a 7) = 0)) ?_
    refine j_neg (by decide : ¬ ((1 : Int32) = 0)) ?_
    show ev_E g m_X10_isOver 4 0 14 [some (ev_o 10 a), some (ev_i x0)] [ev_i 1] S1 Q
    refine ev_if_eq 29 dX10_isOver_14 (by decide) (fun h9 => absurd h9 (by decide : ¬ ((1 : Int32) = 0))) (fun _ => ?_)
    refine ev_aload_n (ev_o 10 a) dX10_isOver_17 rfl rfl ?_
    refine ev_iload_n (x0) dX10_isOver_18 rfl ?_
    refine ev_cV mv_X10_overOn 3 0 10 [ev_i x0] [] dX10_isOver_19 kw_2044 rfl (by decide) rfl (by decide) (by decide) (Nat.le_of_ble_eq_true rfl) hQ ?_ rfl
    rintro o S2 ⟨v1_, rfl, hQ⟩
    show ev_E g m_X10_isOver 4 0 22 [some (ev_o 10 a), some (ev_i x0)] [ev_i (if v1_ = true then 1 else 0)] S2 Q
    by_cases c2 : v1_ = true
    · rw [if_pos c2]
      replace hQ := hQ.1 c2
      refine ev_if_eq 29 dX10_isOver_22 (by decide) (fun h9 => absurd h9 (by decide : ¬ ((1 : Int32) = 0))) (fun _ => ?_)
      refine ev_iconst (1) dX10_isOver_25 rfl ?_
      refine ev_goto 30 dX10_isOver_26 (by decide) ?_
      exact ev_ireturn .boolean dX10_isOver_30 rfl rfl hQ
    · rw [if_neg c2]
      replace hQ := hQ.2 c2
      refine ev_if_eq 29 dX10_isOver_22 (by decide) (fun _ => ?_) (fun h9 => absurd (by decide : ((0 : Int32) = 0)) h9)
      refine ev_iconst (0) dX10_isOver_29 rfl ?_
      exact ev_ireturn .boolean dX10_isOver_30 rfl rfl hQ
  · rw [if_neg c1]
    replace hQ := hQ.2 c1
    refine ev_iconst (1) dX10_isOver_10 rfl ?_
    refine ev_cV mv_X10_right 1 0 10 [ev_i 0, ev_i 1] [] dX10_isOver_11 kw_1951 rfl (by decide) rfl (by decide) (by decide) (Nat.le_of_ble_eq_true rfl) (Q' := fun o z => ev_After g m_X10_isOver 4 (0 - 0) 11 [some (ev_o 10 a), some (ev_i x0)] [] z Q o) (sg_X10_right_0 a 0 1 ?_) (fun o z h => h) rfl
    refine j_pos (by rw [j_rs hS1] <;> decide : ((S1.1 a 7) = 0)) ?_
    refine j_pos (by decide : ((0 : Int32) = 0)) ?_
    intro S3 hS3
    refine ev_sub1 hQ hS3 (fun hQ => ?_)
    refine j_neg (by decide : ¬ ((1 : Int32) = 0)) ?_
    show ev_E g m_X10_isOver 4 0 14 [some (ev_o 10 a), some (ev_i x0)] [ev_i 0] S3 Q
    refine ev_if_eq 29 dX10_isOver_14 (by decide) (fun _ => ?_) (fun h9 => absurd (by decide : ((0 : Int32) = 0)) h9)
    refine ev_iconst (0) dX10_isOver_29 rfl ?_
    exact ev_ireturn .boolean dX10_isOver_30 rfl rfl hQ
set_option maxHeartbeats 4000000 in
set_option maxRecDepth 100000 in
theorem sg_X10_winner_0 {g : ev_G} {S : ev_S} {Q : ev_O → ev_S → Prop} (a : Nat) (x0 : Int32) (hQ : ∀ S1 : ev_S, S1 = (ev_up S a 7 0) → (
    ((t_X10_in x0 0 1) = true → (
      ev_Cv g m_X10_bishopsOf 2 0 [ev_o 10 a, ev_i x0, ev_i 0] S1 (fun o S2 => ∃ v1_ : Int32, o = .inl (some (ev_i v1_)) ∧ (
        ev_Cv g m_X10_bishopsOf 2 0 [ev_o 10 a, ev_i x0, ev_i 1] S2 (fun o S3 => ∃ v2_ : Int32, o = .inl (some (ev_i v2_)) ∧ (
          ev_Cv g m_X10_overOn 3 0 [ev_o 10 a, ev_i x0] S3 (fun o S4 => ∃ v3_ : Bool, o = .inl (some (ev_i (if v3_ = true then 1 else 0))) ∧ (
            (v3_ = true → (
              ((v1_ - v2_) = 0 → (
                Q (.inl (some (ev_i (-1)))) S4)) ∧
              (¬ ((v1_ - v2_) = 0) → (
                ((v1_ - v2_) ≤ 0 → (
                  Q (.inl (some (ev_i 1))) S4)) ∧
                (¬ ((v1_ - v2_) ≤ 0) → (
                  Q (.inl (some (ev_i 0))) S4)))))) ∧
            (¬ (v3_ = true) → (
              Q (.inl (some (ev_i (-1)))) S4)))))))))) ∧
    (¬ ((t_X10_in x0 0 1) = true) → (
      ∀ S5 : ev_S, S5 = (ev_up S1 a 7 1) → (
        Q (.inl (some (ev_i 0))) S5))))) : ev_Cv g m_X10_winner 4 0 [ev_o 10 a, ev_i x0] S Q := by
  refine ev_enter (by decide) rfl rfl (Nat.le_of_ble_eq_true rfl) ?_
  show ev_E g m_X10_winner 4 0 0 [some (ev_o 10 a), some (ev_i x0), none] [] S Q
  refine ev_aload_n (ev_o 10 a) dX10_winner_0 rfl rfl ?_
  refine ev_iconst (0) dX10_winner_1 rfl ?_
  refine pf_10_7 dX10_winner_2 kw_1860 ?_
  refine ev_sub hQ (fun S1 hS1 hQ => ?_)
  refine ev_E.goal (pc' := 5) (L' := [some (ev_o 10 a), some (ev_i x0), none]) (K' := []) (S' := S1) ?_ rfl rfl rfl hS1
  refine ev_aload_n (ev_o 10 a) dX10_winner_5 rfl rfl ?_
  refine ev_iload_n (x0) dX10_winner_6 rfl ?_
  refine ev_fS ms_X10_isPlayer 2 [ev_i x0] [ev_o 10 a] dX10_winner_7 kw_2029 rfl (by decide) (Nat.le_of_ble_eq_true rfl) (sp_X10_isPlayer x0) ?_ rfl
  by_cases c1 : (t_X10_in x0 0 1) = true
  · rw [if_pos c1]
    replace hQ := hQ.1 c1
    refine ev_iconst (1) dX10_winner_10 rfl ?_
    refine ev_cV mv_X10_right 1 0 10 [ev_i 1, ev_i 1] [] dX10_winner_11 kw_1951 rfl (by decide) rfl (by decide) (by decide) (Nat.le_of_ble_eq_true rfl) (Q' := fun o z => ev_After g m_X10_winner 4 (0 - 0) 11 [some (ev_o 10 a), some (ev_i x0), none] [] z Q o) (sg_X10_right_0 a 1 1 ?_) (fun o z h => h) rfl
    refine j_pos (by rw [j_rs hS1] <;> decide : ((S1.1 a 7) = 0)) ?_
    refine j_neg (by decide : ¬ ((1 : Int32) = 0)) ?_
    show ev_E g m_X10_winner 4 0 14 [some (ev_o 10 a), some (ev_i x0), none] [ev_i 1] S1 Q
    refine ev_if_ne 19 dX10_winner_14 (by decide) (fun _ => ?_) (fun h9 => absurd h9 (by decide : ¬ ((1 : Int32) = 0)))
    refine ev_aload_n (ev_o 10 a) dX10_winner_19 rfl rfl ?_
    refine ev_iload_n (x0) dX10_winner_20 rfl ?_
    refine ev_iconst (0) dX10_winner_21 rfl ?_
    refine ev_cV mv_X10_bishopsOf 2 0 10 [ev_i x0, ev_i 0] [] dX10_winner_22 kw_1823 rfl (by decide) rfl (by decide) (by decide) (Nat.le_of_ble_eq_true rfl) hQ ?_ rfl
    rintro o S2 ⟨v1_, rfl, hQ⟩
    show ev_E g m_X10_winner 4 0 25 [some (ev_o 10 a), some (ev_i x0), none] [ev_i v1_] S2 Q
    refine ev_aload_n (ev_o 10 a) dX10_winner_25 rfl rfl ?_
    refine ev_iload_n (x0) dX10_winner_26 rfl ?_
    refine ev_iconst (1) dX10_winner_27 rfl ?_
    refine ev_cV mv_X10_bishopsOf 2 0 10 [ev_i x0, ev_i 1] [ev_i v1_] dX10_winner_28 kw_1823 rfl (by decide) rfl (by decide) (by decide) (Nat.le_of_ble_eq_true rfl) hQ ?_ rfl
    rintro o S3 ⟨v2_, rfl, hQ⟩
    show ev_E g m_X10_winner 4 0 31 [some (ev_o 10 a), some (ev_i x0), none] [ev_i v2_, ev_i v1_] S3 Q
    refine ev_isub dX10_winner_31 ?_
    refine ev_istore_n dX10_winner_32 (Nat.le_of_ble_eq_true rfl) (ev_hw rfl) ?_
    show ev_E g m_X10_winner 4 0 33 [some (ev_o 10 a), some (ev_i x0), some (ev_i (v1_ - v2_))] [] S3 Q
    refine ev_aload_n (ev_o 10 a) dX10_winner_33 rfl rfl ?_
    refine ev_iload_n (x0) dX10_winner_34 rfl ?_
    refine ev_cV mv_X10_overOn 3 0 10 [ev_i x0] [] dX10_winner_35 kw_2044 rfl (by decide) rfl (by decide) (by decide) (Nat.le_of_ble_eq_true rfl) hQ ?_ rfl
    rintro o S4 ⟨v3_, rfl, hQ⟩
    show ev_E g m_X10_winner 4 0 38 [some (ev_o 10 a), some (ev_i x0), some (ev_i (v1_ - v2_))] [ev_i (if v3_ = true then 1 else 0)] S4 Q
    by_cases c2 : v3_ = true
    · rw [if_pos c2]
      replace hQ := hQ.1 c2
      refine ev_if_eq 45 dX10_winner_38 (by decide) (fun h9 => absurd h9 (by decide : ¬ ((1 : Int32) = 0))) (fun _ => ?_)
      refine ev_iload_n ((v1_ - v2_)) dX10_winner_41 rfl ?_
      refine ev_if_ne 49 dX10_winner_42 (by decide) (fun c3 => ?_) (fun c3 => ?_)
      · replace hQ := hQ.2 c3
        refine ev_iload_n ((v1_ - v2_)) dX10_winner_49 rfl ?_
        refine ev_if_le 57 dX10_winner_50 (by decide) (fun c4 => ?_) (fun c4 => ?_)
        · replace hQ := hQ.1 c4
          refine ev_iconst (1) dX10_winner_57 rfl ?_
          exact ev_ireturn .int dX10_winner_58 rfl rfl hQ
        · replace hQ := hQ.2 c4
          refine ev_iconst (0) dX10_winner_53 rfl ?_
          refine ev_goto 58 dX10_winner_54 (by decide) ?_
          exact ev_ireturn .int dX10_winner_58 rfl rfl hQ
      · replace hQ := hQ.1 c3
        refine ev_iconst (-1) dX10_winner_45 rfl ?_
        refine ev_goto 58 dX10_winner_46 (by decide) ?_
        exact ev_ireturn .int dX10_winner_58 rfl rfl hQ
    · rw [if_neg c2]
      replace hQ := hQ.2 c2
      refine ev_if_eq 45 dX10_winner_38 (by decide) (fun _ => ?_) (fun h9 => absurd (by decide : ((0 : Int32) = 0)) h9)
      refine ev_iconst (-1) dX10_winner_45 rfl ?_
      refine ev_goto 58 dX10_winner_46 (by decide) ?_
      exact ev_ireturn .int dX10_winner_58 rfl rfl hQ
  · rw [if_neg c1]
    replace hQ := hQ.2 c1
    refine ev_iconst (1) dX10_winner_10 rfl ?_
    refine ev_cV mv_X10_right 1 0 10 [ev_i 0, ev_i 1] [] dX10_winner_11 kw_1951 rfl (by decide) rfl (by decide) (by decide) (Nat.le_of_ble_eq_true rfl) (Q' := fun o z => ev_After g m_X10_winner 4 (0 - 0) 11 [some (ev_o 10 a), some (ev_i x0), none] [] z Q o) (sg_X10_right_0 a 0 1 ?_) (fun o z h => h) rfl
    refine j_pos (by rw [j_rs hS1] <;> decide : ((S1.1 a 7) = 0)) ?_
    refine j_pos (by decide : ((0 : Int32) = 0)) ?_
    intro S5 hS5
    refine ev_sub1 hQ hS5 (fun hQ => ?_)
    refine j_neg (by decide : ¬ ((1 : Int32) = 0)) ?_
    show ev_E g m_X10_winner 4 0 14 [some (ev_o 10 a), some (ev_i x0), none] [ev_i 0] S5 Q
    refine ev_if_ne 19 dX10_winner_14 (by decide) (fun h9 => absurd (by decide : ((0 : Int32) = 0)) h9) (fun _ => ?_)
    refine ev_iconst (0) dX10_winner_17 rfl ?_
    exact ev_ireturn .int dX10_winner_18 rfl rfl hQ
set_option maxHeartbeats 4000000 in
set_option maxRecDepth 100000 in
theorem sg_X10_canMove_0 {g : ev_G} {S : ev_S} {Q : ev_O → ev_S → Prop} (a : Nat) (x0 : Int32) (x1 : Int32) (x2 : Int32) (hQ : ∀ S1 : ev_S, S1 = (ev_up S a 7 0) → (
    ((t_X10_in x0 0 1) = true → (
      ((t_X10_in x1 0 (((S1.1 (a + 1) 0) * (S1.1 (a + 1) 0)) - 1)) = true → (
        ((t_X10_in x2 0 (((S1.1 (a + 1) 0) * (S1.1 (a + 1) 0)) - 1)) = true → (
          (vp_in ((26 + (64 * x0)) + x1) 2091) ∧ (
            ev_Cv g m_X10_moves 3 0 [ev_o 10 a, ev_i x0, ev_i (S.1 (a + 1) ((26 + (64 * x0)) + x1).toNatClampNeg), ev_i x1, ev_i x2] S1 (fun o S2 => ∃ v1_ : Bool, o = .inl (some (ev_i (if v1_ = true then 1 else 0))) ∧ (
              (v1_ = true → (
                Q (.inl (some (ev_i 1))) S2)) ∧
              (¬ (v1_ = true) → (
                Q (.inl (some (ev_i 0))) S2))))))) ∧
        (¬ ((t_X10_in x2 0 (((S1.1 (a + 1) 0) * (S1.1 (a + 1) 0)) - 1)) = true) → (
          ∀ S3 : ev_S, S3 = (ev_up S1 a 7 1) → (
            Q (.inl (some (ev_i 0))) S3))))) ∧
      (¬ ((t_X10_in x1 0 (((S1.1 (a + 1) 0) * (S1.1 (a + 1) 0)) - 1)) = true) → (
        ∀ S4 : ev_S, S4 = (ev_up S1 a 7 1) → (
          Q (.inl (some (ev_i 0))) S4))))) ∧
    (¬ ((t_X10_in x0 0 1) = true) → (
      ∀ S5 : ev_S, S5 = (ev_up S1 a 7 1) → (
        Q (.inl (some (ev_i 0))) S5))))) : ev_Cv g m_X10_canMove 4 0 [ev_o 10 a, ev_i x0, ev_i x1, ev_i x2] S Q := by
  refine ev_enter (by decide) rfl rfl (Nat.le_of_ble_eq_true rfl) ?_
  show ev_E g m_X10_canMove 4 0 0 [some (ev_o 10 a), some (ev_i x0), some (ev_i x1), some (ev_i x2)] [] S Q
  refine ev_aload_n (ev_o 10 a) dX10_canMove_0 rfl rfl ?_
  refine ev_iconst (0) dX10_canMove_1 rfl ?_
  refine pf_10_7 dX10_canMove_2 kw_1860 ?_
  refine ev_sub hQ (fun S1 hS1 hQ => ?_)
  refine ev_E.goal (pc' := 5) (L' := [some (ev_o 10 a), some (ev_i x0), some (ev_i x1), some (ev_i x2)]) (K' := []) (S' := S1) ?_ rfl rfl rfl hS1
  refine ev_aload_n (ev_o 10 a) dX10_canMove_5 rfl rfl ?_
  refine ev_iload_n (x0) dX10_canMove_6 rfl ?_
  refine ev_fS ms_X10_isPlayer 2 [ev_i x0] [ev_o 10 a] dX10_canMove_7 kw_2029 rfl (by decide) (Nat.le_of_ble_eq_true rfl) (sp_X10_isPlayer x0) ?_ rfl
  by_cases c1 : (t_X10_in x0 0 1) = true
  · rw [if_pos c1]
    replace hQ := hQ.1 c1
    refine ev_if_eq 33 dX10_canMove_10 (by decide) (fun h9 => absurd h9 (by decide : ¬ ((1 : Int32) = 0))) (fun _ => ?_)
    refine ev_aload_n (ev_o 10 a) dX10_canMove_13 rfl rfl ?_
    refine ev_iload_n (x1) dX10_canMove_14 rfl ?_
    refine ev_fV mv_X10_isSquare 2 10 [ev_i x1] [ev_o 10 a] dX10_canMove_15 kw_2032 rfl (by decide) rfl (by decide) (Nat.le_of_ble_eq_true rfl) (sp_X10_isSquare a x1) ?_ rfl
    by_cases c2 : (t_X10_in x1 0 (((S1.1 (a + 1) 0) * (S1.1 (a + 1) 0)) - 1)) = true
    · rw [if_pos c2]
      replace hQ := hQ.1 c2
      refine ev_if_eq 33 dX10_canMove_18 (by decide) (fun h9 => absurd h9 (by decide : ¬ ((1 : Int32) = 0))) (fun _ => ?_)
      refine ev_aload_n (ev_o 10 a) dX10_canMove_21 rfl rfl ?_
      refine ev_iload_n (x2) dX10_canMove_22 rfl ?_
      refine ev_fV mv_X10_isSquare 2 10 [ev_i x2] [ev_o 10 a] dX10_canMove_23 kw_2032 rfl (by decide) rfl (by decide) (Nat.le_of_ble_eq_true rfl) (sp_X10_isSquare a x2) ?_ rfl
      by_cases c3 : (t_X10_in x2 0 (((S1.1 (a + 1) 0) * (S1.1 (a + 1) 0)) - 1)) = true
      · rw [if_pos c3]
        replace hQ := hQ.1 c3
        refine ev_if_eq 33 dX10_canMove_26 (by decide) (fun h9 => absurd h9 (by decide : ¬ ((1 : Int32) = 0))) (fun _ => ?_)
        refine ev_iconst (1) dX10_canMove_29 rfl ?_
        refine ev_goto 34 dX10_canMove_30 (by decide) ?_
        refine ev_iconst (1) dX10_canMove_34 rfl ?_
        refine ev_cV mv_X10_right 1 0 10 [ev_i 1, ev_i 1] [] dX10_canMove_35 kw_1951 rfl (by decide) rfl (by decide) (by decide) (Nat.le_of_ble_eq_true rfl) (Q' := fun o z => ev_After g m_X10_canMove 4 (0 - 0) 35 [some (ev_o 10 a), some (ev_i x0), some (ev_i x1), some (ev_i x2)] [] z Q o) (sg_X10_right_0 a 1 1 ?_) (fun o z h => h) rfl
        refine j_pos (by rw [j_rs hS1] <;> decide : ((S1.1 a 7) = 0)) ?_
        refine j_neg (by decide : ¬ ((1 : Int32) = 0)) ?_
        show ev_E g m_X10_canMove 4 0 38 [some (ev_o 10 a), some (ev_i x0), some (ev_i x1), some (ev_i x2)] [ev_i 1] S1 Q
        refine ev_if_eq 61 dX10_canMove_38 (by decide) (fun h9 => absurd h9 (by decide : ¬ ((1 : Int32) = 0))) (fun _ => ?_)
        refine ev_aload_n (ev_o 10 a) dX10_canMove_41 rfl rfl ?_
        refine ev_iload_n (x0) dX10_canMove_42 rfl ?_
        refine ev_aload_n (ev_o 10 a) dX10_canMove_43 rfl rfl ?_
        refine ev_iload_n (x0) dX10_canMove_44 rfl ?_
        refine ev_iload_n (x1) dX10_canMove_45 rfl ?_
        obtain ⟨h1, hQ⟩ := hQ
        refine ev_fV mv_X10_owner 1 10 [ev_i x0, ev_i x1] [ev_i x0, ev_o 10 a] dX10_canMove_46 kw_1831 rfl (by decide) rfl (by decide) (Nat.le_of_ble_eq_true rfl) (sp_X10_owner a x0 x1 h1) ?_ rfl
        refine ev_ke (j_rk hS1 (Or.inl (by omega))) ?_
        refine ev_iload_n (x1) dX10_canMove_49 rfl ?_
        refine ev_iload_n (x2) dX10_canMove_50 rfl ?_
        refine ev_cV mv_X10_moves 3 0 10 [ev_i x0, ev_i (S.1 (a + 1) ((26 + (64 * x0)) + x1).toNatClampNeg), ev_i x1, ev_i x2] [] dX10_canMove_51 kw_2059 rfl (by decide) rfl (by decide) (by decide) (Nat.le_of_ble_eq_true rfl) hQ ?_ rfl
        rintro o S2 ⟨v1_, rfl, hQ⟩
        show ev_E g m_X10_canMove 4 0 54 [some (ev_o 10 a), some (ev_i x0), some (ev_i x1), some (ev_i x2)] [ev_i (if v1_ = true then 1 else 0)] S2 Q
        by_cases c4 : v1_ = true
        · rw [if_pos c4]
          replace hQ := hQ.1 c4
          refine ev_if_eq 61 dX10_canMove_54 (by decide) (fun h9 => absurd h9 (by decide : ¬ ((1 : Int32) = 0))) (fun _ => ?_)
          refine ev_iconst (1) dX10_canMove_57 rfl ?_
          refine ev_goto 62 dX10_canMove_58 (by decide) ?_
          exact ev_ireturn .boolean dX10_canMove_62 rfl rfl hQ
        · rw [if_neg c4]
          replace hQ := hQ.2 c4
          refine ev_if_eq 61 dX10_canMove_54 (by decide) (fun _ => ?_) (fun h9 => absurd (by decide : ((0 : Int32) = 0)) h9)
          refine ev_iconst (0) dX10_canMove_61 rfl ?_
          exact ev_ireturn .boolean dX10_canMove_62 rfl rfl hQ
      · rw [if_neg c3]
        replace hQ := hQ.2 c3
        refine ev_if_eq 33 dX10_canMove_26 (by decide) (fun _ => ?_) (fun h9 => absurd (by decide : ((0 : Int32) = 0)) h9)
        refine ev_iconst (0) dX10_canMove_33 rfl ?_
        refine ev_iconst (1) dX10_canMove_34 rfl ?_
        refine ev_cV mv_X10_right 1 0 10 [ev_i 0, ev_i 1] [] dX10_canMove_35 kw_1951 rfl (by decide) rfl (by decide) (by decide) (Nat.le_of_ble_eq_true rfl) (Q' := fun o z => ev_After g m_X10_canMove 4 (0 - 0) 35 [some (ev_o 10 a), some (ev_i x0), some (ev_i x1), some (ev_i x2)] [] z Q o) (sg_X10_right_0 a 0 1 ?_) (fun o z h => h) rfl
        refine j_pos (by rw [j_rs hS1] <;> decide : ((S1.1 a 7) = 0)) ?_
        refine j_pos (by decide : ((0 : Int32) = 0)) ?_
        intro S3 hS3
        refine ev_sub1 hQ hS3 (fun hQ => ?_)
        refine j_neg (by decide : ¬ ((1 : Int32) = 0)) ?_
        show ev_E g m_X10_canMove 4 0 38 [some (ev_o 10 a), some (ev_i x0), some (ev_i x1), some (ev_i x2)] [ev_i 0] S3 Q
        refine ev_if_eq 61 dX10_canMove_38 (by decide) (fun _ => ?_) (fun h9 => absurd (by decide : ((0 : Int32) = 0)) h9)
        refine ev_iconst (0) dX10_canMove_61 rfl ?_
        exact ev_ireturn .boolean dX10_canMove_62 rfl rfl hQ
    · rw [if_neg c2]
      replace hQ := hQ.2 c2
      refine ev_if_eq 33 dX10_canMove_18 (by decide) (fun _ => ?_) (fun h9 => absurd (by decide : ((0 : Int32) = 0)) h9)
      refine ev_iconst (0) dX10_canMove_33 rfl ?_
      refine ev_iconst (1) dX10_canMove_34 rfl ?_
      refine ev_cV mv_X10_right 1 0 10 [ev_i 0, ev_i 1] [] dX10_canMove_35 kw_1951 rfl (by decide) rfl (by decide) (by decide) (Nat.le_of_ble_eq_true rfl) (Q' := fun o z => ev_After g m_X10_canMove 4 (0 - 0) 35 [some (ev_o 10 a), some (ev_i x0), some (ev_i x1), some (ev_i x2)] [] z Q o) (sg_X10_right_0 a 0 1 ?_) (fun o z h => h) rfl
      refine j_pos (by rw [j_rs hS1] <;> decide : ((S1.1 a 7) = 0)) ?_
      refine j_pos (by decide : ((0 : Int32) = 0)) ?_
      intro S4 hS4
      refine ev_sub1 hQ hS4 (fun hQ => ?_)
      refine j_neg (by decide : ¬ ((1 : Int32) = 0)) ?_
      show ev_E g m_X10_canMove 4 0 38 [some (ev_o 10 a), some (ev_i x0), some (ev_i x1), some (ev_i x2)] [ev_i 0] S4 Q
      refine ev_if_eq 61 dX10_canMove_38 (by decide) (fun _ => ?_) (fun h9 => absurd (by decide : ((0 : Int32) = 0)) h9)
      refine ev_iconst (0) dX10_canMove_61 rfl ?_
      exact ev_ireturn .boolean dX10_canMove_62 rfl rfl hQ
  · rw [if_neg c1]
    replace hQ := hQ.2 c1
    refine ev_if_eq 33 dX10_canMove_10 (by decide) (fun _ => ?_) (fun h9 => absurd (by decide : ((0 : Int32) = 0)) h9)
    refine ev_iconst (0) dX10_canMove_33 rfl ?_
    refine ev_iconst (1) dX10_canMove_34 rfl ?_
    refine ev_cV mv_X10_right 1 0 10 [ev_i 0, ev_i 1] [] dX10_canMove_35 kw_1951 rfl (by decide) rfl (by decide) (by decide) (Nat.le_of_ble_eq_true rfl) (Q' := fun o z => ev_After g m_X10_canMove 4 (0 - 0) 35 [some (ev_o 10 a), some (ev_i x0), some (ev_i x1), some (ev_i x2)] [] z Q o) (sg_X10_right_0 a 0 1 ?_) (fun o z h => h) rfl
    refine j_pos (by rw [j_rs hS1] <;> decide : ((S1.1 a 7) = 0)) ?_
    refine j_pos (by decide : ((0 : Int32) = 0)) ?_
    intro S5 hS5
    refine ev_sub1 hQ hS5 (fun hQ => ?_)
    refine j_neg (by decide : ¬ ((1 : Int32) = 0)) ?_
    show ev_E g m_X10_canMove 4 0 38 [some (ev_o 10 a), some (ev_i x0), some (ev_i x1), some (ev_i x2)] [ev_i 0] S5 Q
    refine ev_if_eq 61 dX10_canMove_38 (by decide) (fun _ => ?_) (fun h9 => absurd (by decide : ((0 : Int32) = 0)) h9)
    refine ev_iconst (0) dX10_canMove_61 rfl ?_
    exact ev_ireturn .boolean dX10_canMove_62 rfl rfl hQ
set_option maxHeartbeats 4000000 in
set_option maxRecDepth 100000 in
theorem sg_X10_mobility_0 {g : ev_G} {S : ev_S} {Q : ev_O → ev_S → Prop} (a : Nat) (x0 : Int32) (x1 : Int32) (hQ : ∀ S1 : ev_S, S1 = (ev_up S a 7 0) → (
    ((t_X10_in x0 0 1) = true → (
      ((t_X10_in x1 0 1) = true → (
        ev_E g m_X10_mobility 4 0 39 [some (ev_o 10 a), some (ev_i x0), some (ev_i x1), some (ev_i 0), some (ev_i 0), none] [] S1 Q)) ∧
      (¬ ((t_X10_in x1 0 1) = true) → (
        ∀ S2 : ev_S, S2 = (ev_up S1 a 7 1) → (
          Q (.inl (some (ev_i 0))) S2))))) ∧
    (¬ ((t_X10_in x0 0 1) = true) → (
      ∀ S3 : ev_S, S3 = (ev_up S1 a 7 1) → (
        Q (.inl (some (ev_i 0))) S3))))) : ev_Cv g m_X10_mobility 4 0 [ev_o 10 a, ev_i x0, ev_i x1] S Q := by
  refine ev_enter (by decide) rfl rfl (Nat.le_of_ble_eq_true rfl) ?_
  show ev_E g m_X10_mobility 4 0 0 [some (ev_o 10 a), some (ev_i x0), some (ev_i x1), none, none, none] [] S Q
  refine ev_aload_n (ev_o 10 a) dX10_mobility_0 rfl rfl ?_
  refine ev_iconst (0) dX10_mobility_1 rfl ?_
  refine pf_10_7 dX10_mobility_2 kw_1860 ?_
  refine ev_sub hQ (fun S1 hS1 hQ => ?_)
  refine ev_E.goal (pc' := 5) (L' := [some (ev_o 10 a), some (ev_i x0), some (ev_i x1), none, none, none]) (K' := []) (S' := S1) ?_ rfl rfl rfl hS1
  refine ev_aload_n (ev_o 10 a) dX10_mobility_5 rfl rfl ?_
  refine ev_iload_n (x0) dX10_mobility_6 rfl ?_
  refine ev_fS ms_X10_isPlayer 2 [ev_i x0] [ev_o 10 a] dX10_mobility_7 kw_2029 rfl (by decide) (Nat.le_of_ble_eq_true rfl) (sp_X10_isPlayer x0) ?_ rfl
  by_cases c1 : (t_X10_in x0 0 1) = true
  · rw [if_pos c1]
    replace hQ := hQ.1 c1
    refine ev_if_eq 24 dX10_mobility_10 (by decide) (fun h9 => absurd h9 (by decide : ¬ ((1 : Int32) = 0))) (fun _ => ?_)
    refine ev_iload_n (x1) dX10_mobility_13 rfl ?_
    refine ev_fS ms_X10_isPlayer 2 [ev_i x1] [ev_o 10 a] dX10_mobility_14 kw_2029 rfl (by decide) (Nat.le_of_ble_eq_true rfl) (sp_X10_isPlayer x1) ?_ rfl
    by_cases c2 : (t_X10_in x1 0 1) = true
    · rw [if_pos c2]
      replace hQ := hQ.1 c2
      refine ev_if_eq 24 dX10_mobility_17 (by decide) (fun h9 => absurd h9 (by decide : ¬ ((1 : Int32) = 0))) (fun _ => ?_)
      refine ev_iconst (1) dX10_mobility_20 rfl ?_
      refine ev_goto 25 dX10_mobility_21 (by decide) ?_
      refine ev_iconst (1) dX10_mobility_25 rfl ?_
      refine ev_cV mv_X10_right 1 0 10 [ev_i 1, ev_i 1] [] dX10_mobility_26 kw_1951 rfl (by decide) rfl (by decide) (by decide) (Nat.le_of_ble_eq_true rfl) (Q' := fun o z => ev_After g m_X10_mobility 4 (0 - 0) 26 [some (ev_o 10 a), some (ev_i x0), some (ev_i x1), none, none, none] [] z Q o) (sg_X10_right_0 a 1 1 ?_) (fun o z h => h) rfl
      refine j_pos (by rw [j_rs hS1] <;> decide : ((S1.1 a 7) = 0)) ?_
      refine j_neg (by decide : ¬ ((1 : Int32) = 0)) ?_
      show ev_E g m_X10_mobility 4 0 29 [some (ev_o 10 a), some (ev_i x0), some (ev_i x1), none, none, none] [ev_i 1] S1 Q
      refine ev_if_ne 34 dX10_mobility_29 (by decide) (fun _ => ?_) (fun h9 => absurd h9 (by decide : ¬ ((1 : Int32) = 0)))
      refine ev_iconst (0) dX10_mobility_34 rfl ?_
      refine ev_istore_n dX10_mobility_35 (Nat.le_of_ble_eq_true rfl) (ev_hw rfl) ?_
      show ev_E g m_X10_mobility 4 0 36 [some (ev_o 10 a), some (ev_i x0), some (ev_i x1), some (ev_i 0), none, none] [] S1 Q
      refine ev_iconst (0) dX10_mobility_36 rfl ?_
      refine ev_istore dX10_mobility_37 (Nat.le_of_ble_eq_true rfl) (ev_hw rfl) ?_
      show ev_E g m_X10_mobility 4 0 39 [some (ev_o 10 a), some (ev_i x0), some (ev_i x1), some (ev_i 0), some (ev_i 0), none] [] S1 Q
      exact hQ
    · rw [if_neg c2]
      replace hQ := hQ.2 c2
      refine ev_if_eq 24 dX10_mobility_17 (by decide) (fun _ => ?_) (fun h9 => absurd (by decide : ((0 : Int32) = 0)) h9)
      refine ev_iconst (0) dX10_mobility_24 rfl ?_
      refine ev_iconst (1) dX10_mobility_25 rfl ?_
      refine ev_cV mv_X10_right 1 0 10 [ev_i 0, ev_i 1] [] dX10_mobility_26 kw_1951 rfl (by decide) rfl (by decide) (by decide) (Nat.le_of_ble_eq_true rfl) (Q' := fun o z => ev_After g m_X10_mobility 4 (0 - 0) 26 [some (ev_o 10 a), some (ev_i x0), some (ev_i x1), none, none, none] [] z Q o) (sg_X10_right_0 a 0 1 ?_) (fun o z h => h) rfl
      refine j_pos (by rw [j_rs hS1] <;> decide : ((S1.1 a 7) = 0)) ?_
      refine j_pos (by decide : ((0 : Int32) = 0)) ?_
      intro S2 hS2
      refine ev_sub1 hQ hS2 (fun hQ => ?_)
      refine j_neg (by decide : ¬ ((1 : Int32) = 0)) ?_
      show ev_E g m_X10_mobility 4 0 29 [some (ev_o 10 a), some (ev_i x0), some (ev_i x1), none, none, none] [ev_i 0] S2 Q
      refine ev_if_ne 34 dX10_mobility_29 (by decide) (fun h9 => absurd (by decide : ((0 : Int32) = 0)) h9) (fun _ => ?_)
      refine ev_iconst (0) dX10_mobility_32 rfl ?_
      exact ev_ireturn .int dX10_mobility_33 rfl rfl hQ
  · rw [if_neg c1]
    replace hQ := hQ.2 c1
    refine ev_if_eq 24 dX10_mobility_10 (by decide) (fun _ => ?_) (fun h9 => absurd (by decide : ((0 : Int32) = 0)) h9)
    refine ev_iconst (0) dX10_mobility_24 rfl ?_
    refine ev_iconst (1) dX10_mobility_25 rfl ?_
    refine ev_cV mv_X10_right 1 0 10 [ev_i 0, ev_i 1] [] dX10_mobility_26 kw_1951 rfl (by decide) rfl (by decide) (by decide) (Nat.le_of_ble_eq_true rfl) (Q' := fun o z => ev_After g m_X10_mobility 4 (0 - 0) 26 [some (ev_o 10 a), some (ev_i x0), some (ev_i x1), none, none, none] [] z Q o) (sg_X10_right_0 a 0 1 ?_) (fun o z h => h) rfl
    refine j_pos (by rw [j_rs hS1] <;> decide : ((S1.1 a 7) = 0)) ?_
    refine j_pos (by decide : ((0 : Int32) = 0)) ?_
    intro S3 hS3
    refine ev_sub1 hQ hS3 (fun hQ => ?_)
    refine j_neg (by decide : ¬ ((1 : Int32) = 0)) ?_
    show ev_E g m_X10_mobility 4 0 29 [some (ev_o 10 a), some (ev_i x0), some (ev_i x1), none, none, none] [ev_i 0] S3 Q
    refine ev_if_ne 34 dX10_mobility_29 (by decide) (fun h9 => absurd (by decide : ((0 : Int32) = 0)) h9) (fun _ => ?_)
    refine ev_iconst (0) dX10_mobility_32 rfl ?_
    exact ev_ireturn .int dX10_mobility_33 rfl rfl hQ
set_option maxHeartbeats 4000000 in
set_option maxRecDepth 100000 in
theorem sg_X10_mobility_39 {g : ev_G} {S : ev_S} {Q : ev_O → ev_S → Prop} (a : Nat) (u1 : Int32) (u2 : Int32) (u3 : Int32) (u4 : Int32) (hQ : (((S.1 (a + 1) 0) * (S.1 (a + 1) 0)) ≤ u4 → (
    Q (.inl (some (ev_i u3))) S)) ∧
  (¬ (((S.1 (a + 1) 0) * (S.1 (a + 1) 0)) ≤ u4) → (
    ev_E g m_X10_mobility 4 0 51 [some (ev_o 10 a), some (ev_i u1), some (ev_i u2), some (ev_i u3), some (ev_i u4), some (ev_i 0)] [] S Q))) : ev_E g m_X10_mobility 4 0 39 [some (ev_o 10 a), some (ev_i u1), some (ev_i u2), some (ev_i u3), some (ev_i u4), none] [] S Q := by
  refine ev_iload (u4) dX10_mobility_39 rfl ?_
  refine ev_aload_n (ev_o 10 a) dX10_mobility_41 rfl rfl ?_
  refine ev_fV mv_X10_squares 1 10 [] [ev_i u4] dX10_mobility_42 kw_1827 rfl (by decide) rfl (by decide) (Nat.le_of_ble_eq_true rfl) (sp_X10_squares a) ?_ rfl
  refine ev_icmp_ge 99 dX10_mobility_45 (by decide) (fun c1 => ?_) (fun c1 => ?_)
  · replace hQ := hQ.1 c1
    refine ev_iload_n (u3) dX10_mobility_99 rfl ?_
    exact ev_ireturn .int dX10_mobility_100 rfl rfl hQ
  · replace hQ := hQ.2 c1
    refine ev_iconst (0) dX10_mobility_48 rfl ?_
    refine ev_istore dX10_mobility_49 (Nat.le_of_ble_eq_true rfl) (ev_hw rfl) ?_
    show ev_E g m_X10_mobility 4 0 51 [some (ev_o 10 a), some (ev_i u1), some (ev_i u2), some (ev_i u3), some (ev_i u4), some (ev_i 0)] [] S Q
    exact hQ
set_option maxHeartbeats 4000000 in
set_option maxRecDepth 100000 in
theorem sg_X10_mobility_51 {g : ev_G} {S : ev_S} {Q : ev_O → ev_S → Prop} (a : Nat) (u1 : Int32) (u2 : Int32) (u3 : Int32) (u4 : Int32) (u5 : Int32) (hQ : (((S.1 (a + 1) 0) * (S.1 (a + 1) 0)) ≤ u5 → (
    ev_E g m_X10_mobility 4 0 39 [some (ev_o 10 a), some (ev_i u1), some (ev_i u2), some (ev_i u3), some (ev_i (u4 + 1)), none] [] S Q)) ∧
  (¬ (((S.1 (a + 1) 0) * (S.1 (a + 1) 0)) ≤ u5) → (
    (vp_in ((26 + (64 * u1)) + u4) 2091) ∧ (
      ((S.1 (a + 1) ((26 + (64 * u1)) + u4).toNatClampNeg) = u2 → (
        ev_Cv g m_X10_moves 3 0 [ev_o 10 a, ev_i u1, ev_i u2, ev_i u4, ev_i u5] S (fun o S1 => ∃ v1_ : Bool, o = .inl (some (ev_i (if v1_ = true then 1 else 0))) ∧ (
          (v1_ = true → (
            ev_E g m_X10_mobility 4 0 51 [some (ev_o 10 a), some (ev_i u1), some (ev_i u2), some (ev_i (u3 + 1)), some (ev_i u4), some (ev_i (u5 + 1))] [] S1 Q)) ∧
          (¬ (v1_ = true) → (
            ev_E g m_X10_mobility 4 0 51 [some (ev_o 10 a), some (ev_i u1), some (ev_i u2), some (ev_i u3), some (ev_i u4), some (ev_i (u5 + 1))] [] S1 Q)))))) ∧
      (¬ ((S.1 (a + 1) ((26 + (64 * u1)) + u4).toNatClampNeg) = u2) → (
        ev_E g m_X10_mobility 4 0 39 [some (ev_o 10 a), some (ev_i u1), some (ev_i u2), some (ev_i u3), some (ev_i (u4 + 1)), none] [] S Q)))))) : ev_E g m_X10_mobility 4 0 51 [some (ev_o 10 a), some (ev_i u1), some (ev_i u2), some (ev_i u3), some (ev_i u4), some (ev_i u5)] [] S Q := by
  refine ev_iload (u5) dX10_mobility_51 rfl ?_
  refine ev_aload_n (ev_o 10 a) dX10_mobility_53 rfl rfl ?_
  refine ev_fV mv_X10_squares 1 10 [] [ev_i u5] dX10_mobility_54 kw_1827 rfl (by decide) rfl (by decide) (Nat.le_of_ble_eq_true rfl) (sp_X10_squares a) ?_ rfl
  refine ev_icmp_ge 93 dX10_mobility_57 (by decide) (fun c1 => ?_) (fun c1 => ?_)
  · replace hQ := hQ.1 c1
    refine ev_iinc u4 (1) dX10_mobility_93 rfl (by decide) (ev_hw rfl) ?_
    show ev_E g m_X10_mobility 4 0 96 [some (ev_o 10 a), some (ev_i u1), some (ev_i u2), some (ev_i u3), some (ev_i (u4 + 1)), some (ev_i u5)] [] S Q
    refine ev_goto 39 dX10_mobility_96 (by decide) ?_
    refine ev_fgm [true, true, true, true, true, false] ?_
    exact hQ
  · replace hQ := hQ.2 c1
    refine ev_aload_n (ev_o 10 a) dX10_mobility_60 rfl rfl ?_
    refine ev_iload_n (u1) dX10_mobility_61 rfl ?_
    refine ev_iload (u4) dX10_mobility_62 rfl ?_
    obtain ⟨h1, hQ⟩ := hQ
    refine ev_fV mv_X10_owner 1 10 [ev_i u1, ev_i u4] [] dX10_mobility_64 kw_1831 rfl (by decide) rfl (by decide) (Nat.le_of_ble_eq_true rfl) (sp_X10_owner a u1 u4 h1) ?_ rfl
    refine ev_iload_n (u2) dX10_mobility_67 rfl ?_
    refine ev_icmp_ne 93 dX10_mobility_68 (by decide) (fun c2 => ?_) (fun c2 => ?_)
    · replace hQ := hQ.2 c2
      refine ev_iinc u4 (1) dX10_mobility_93 rfl (by decide) (ev_hw rfl) ?_
      show ev_E g m_X10_mobility 4 0 96 [some (ev_o 10 a), some (ev_i u1), some (ev_i u2), some (ev_i u3), some (ev_i (u4 + 1)), some (ev_i u5)] [] S Q
      refine ev_goto 39 dX10_mobility_96 (by decide) ?_
      refine ev_fgm [true, true, true, true, true, false] ?_
      exact hQ
    · replace hQ := hQ.1 c2
      refine ev_aload_n (ev_o 10 a) dX10_mobility_71 rfl rfl ?_
      refine ev_iload_n (u1) dX10_mobility_72 rfl ?_
      refine ev_iload_n (u2) dX10_mobility_73 rfl ?_
      refine ev_iload (u4) dX10_mobility_74 rfl ?_
      refine ev_iload (u5) dX10_mobility_76 rfl ?_
      refine ev_cV mv_X10_moves 3 0 10 [ev_i u1, ev_i u2, ev_i u4, ev_i u5] [] dX10_mobility_78 kw_2059 rfl (by decide) rfl (by decide) (by decide) (Nat.le_of_ble_eq_true rfl) hQ ?_ rfl
      rintro o S1 ⟨v1_, rfl, hQ⟩
      show ev_E g m_X10_mobility 4 0 81 [some (ev_o 10 a), some (ev_i u1), some (ev_i u2), some (ev_i u3), some (ev_i u4), some (ev_i u5)] [ev_i (if v1_ = true then 1 else 0)] S1 Q
      by_cases c3 : v1_ = true
      · rw [if_pos c3]
        replace hQ := hQ.1 c3
        refine ev_if_eq 87 dX10_mobility_81 (by decide) (fun h9 => absurd h9 (by decide : ¬ ((1 : Int32) = 0))) (fun _ => ?_)
        refine ev_iinc u3 (1) dX10_mobility_84 rfl (by decide) (ev_hw rfl) ?_
        show ev_E g m_X10_mobility 4 0 87 [some (ev_o 10 a), some (ev_i u1), some (ev_i u2), some (ev_i (u3 + 1)), some (ev_i u4), some (ev_i u5)] [] S1 Q
        refine ev_iinc u5 (1) dX10_mobility_87 rfl (by decide) (ev_hw rfl) ?_
        show ev_E g m_X10_mobility 4 0 90 [some (ev_o 10 a), some (ev_i u1), some (ev_i u2), some (ev_i (u3 + 1)), some (ev_i u4), some (ev_i (u5 + 1))] [] S1 Q
        refine ev_goto 51 dX10_mobility_90 (by decide) ?_
        exact hQ
      · rw [if_neg c3]
        replace hQ := hQ.2 c3
        refine ev_if_eq 87 dX10_mobility_81 (by decide) (fun _ => ?_) (fun h9 => absurd (by decide : ((0 : Int32) = 0)) h9)
        refine ev_iinc u5 (1) dX10_mobility_87 rfl (by decide) (ev_hw rfl) ?_
        show ev_E g m_X10_mobility 4 0 90 [some (ev_o 10 a), some (ev_i u1), some (ev_i u2), some (ev_i u3), some (ev_i u4), some (ev_i (u5 + 1))] [] S1 Q
        refine ev_goto 51 dX10_mobility_90 (by decide) ?_
        exact hQ
