set_option maxHeartbeats 4000000 in
set_option maxRecDepth 100000 in
theorem sg_X9_arrivalDay_0 {g : ev_G} {S : ev_S} {Q : ev_O → ev_S → Prop} (a : Nat) (x0 : Int32) (hQ : ((t_X6_exists S (a + 30) x0) = true → (
    ((j_at (S.1 (a + 40)) 84 x0) = 2 → (
      Q (.inl (some (ev_i (j_at (S.1 (a + 43)) 84 x0)))) S)) ∧
    (¬ ((j_at (S.1 (a + 40)) 84 x0) = 2) → (
      ev_Cv g m_X6_copyFrom 3 0 [ev_o 6 (a + 71), ev_o 6 (a + 30)] S (fun o S1 => o = .inl none ∧ (
        ev_E g m_X9_arrivalDay 5 0 62 [some (ev_o 9 a), some (ev_i x0), some (ev_o 6 (a + 71)), some (ev_i 1)] [] S1 Q)))))) ∧
  (¬ ((t_X6_exists S (a + 30) x0) = true) → (
    Q (.inr 0) S))) : ev_Cv g m_X9_arrivalDay 5 1 [ev_o 9 a, ev_i x0] S Q := by
  refine ev_enter (by decide) rfl rfl (Nat.le_of_ble_eq_true rfl) ?_
  show ev_E g m_X9_arrivalDay 5 1 0 [some (ev_o 9 a), some (ev_i x0), none, none] [] S Q
  refine ev_aload_n (ev_o 9 a) dX9_arrivalDay_0 rfl rfl ?_
  refine gf_9_3 dX9_arrivalDay_1 kw_690 ?_
  refine ev_fV mv_X2_post 1 2 [] [] dX9_arrivalDay_4 kw_1137 rfl (by decide) rfl (by decide) (Nat.le_of_ble_eq_true rfl) (sp_X2_post (a + 11)) ?_ rfl
  refine ev_iload_n (x0) dX9_arrivalDay_7 rfl ?_
  refine ev_fV mv_X6_exists 1 6 [ev_i x0] [] dX9_arrivalDay_8 kw_1511 rfl (by decide) rfl (by decide) (Nat.le_of_ble_eq_true rfl) (sp_X6_exists (a + 30) x0) ?_ rfl
  by_cases c1 : (t_X6_exists S (a + 30) x0) = true
  · rw [if_pos c1]
    replace hQ := hQ.1 c1
    refine ev_cS ms_X9_require 1 1 [ev_i 1] [] dX9_arrivalDay_11 kw_1343 rfl (by decide) (by decide) (Nat.le_of_ble_eq_true rfl) (Q' := fun o z => ev_After g m_X9_arrivalDay 5 (1 - 1) 11 [some (ev_o 9 a), some (ev_i x0), none, none] [] z Q o) (sg_X9_require_0 1 ?_) (fun o z h => h) rfl
    refine j_neg (by decide : ¬ ((1 : Int32) = 0)) ?_
    show ev_E g m_X9_arrivalDay 5 0 14 [some (ev_o 9 a), some (ev_i x0), none, none] [] S Q
    refine ev_aload_n (ev_o 9 a) dX9_arrivalDay_14 rfl rfl ?_
    refine gf_9_3 dX9_arrivalDay_15 kw_690 ?_
    refine ev_fV mv_X2_post 1 2 [] [] dX9_arrivalDay_18 kw_1137 rfl (by decide) rfl (by decide) (Nat.le_of_ble_eq_true rfl) (sp_X2_post (a + 11)) ?_ rfl
    refine ev_iload_n (x0) dX9_arrivalDay_21 rfl ?_
    refine ev_fV mv_X6_stateOf 2 6 [ev_i x0] [] dX9_arrivalDay_22 kw_1536 rfl (by decide) rfl (by decide) (Nat.le_of_ble_eq_true rfl) (sp_X6_stateOf (a + 30) x0) ?_ rfl
    refine ev_iconst (2) dX9_arrivalDay_25 rfl ?_
    refine ev_icmp_ne 41 dX9_arrivalDay_26 (by decide) (fun c2 => ?_) (fun c2 => ?_)
    · replace hQ := hQ.2 c2
      refine ev_aload_n (ev_o 9 a) dX9_arrivalDay_41 rfl rfl ?_
      refine gf_9_4 dX9_arrivalDay_42 kw_691 ?_
      refine ev_fV mv_X2_post 1 2 [] [] dX9_arrivalDay_45 kw_1137 rfl (by decide) rfl (by decide) (Nat.le_of_ble_eq_true rfl) (sp_X2_post (a + 52)) ?_ rfl
      refine ev_astore_n dX9_arrivalDay_48 rfl (Nat.le_of_ble_eq_true rfl) (ev_hw rfl) ?_
      show ev_E g m_X9_arrivalDay 5 0 49 [some (ev_o 9 a), some (ev_i x0), some (ev_o 6 (a + 71)), none] [] S Q
      refine ev_aload_n (ev_o 6 (a + 71)) dX9_arrivalDay_49 rfl rfl ?_
      refine ev_aload_n (ev_o 9 a) dX9_arrivalDay_50 rfl rfl ?_
      refine gf_9_3 dX9_arrivalDay_51 kw_690 ?_
      refine ev_fV mv_X2_post 1 2 [] [ev_o 6 (a + 71)] dX9_arrivalDay_54 kw_1137 rfl (by decide) rfl (by decide) (Nat.le_of_ble_eq_true rfl) (sp_X2_post (a + 11)) ?_ rfl
      refine ev_cV mv_X6_copyFrom 3 0 6 [ev_o 6 (a + 30)] [] dX9_arrivalDay_57 kw_1605 rfl (by decide) rfl (by decide) (by decide) (Nat.le_of_ble_eq_true rfl) hQ ?_ rfl
      rintro o S1 ⟨rfl, hQ⟩
      show ev_E g m_X9_arrivalDay 5 0 60 [some (ev_o 9 a), some (ev_i x0), some (ev_o 6 (a + 71)), none] [] S1 Q
      refine ev_iconst (1) dX9_arrivalDay_60 rfl ?_
      refine ev_istore_n dX9_arrivalDay_61 (Nat.le_of_ble_eq_true rfl) (ev_hw rfl) ?_
      show ev_E g m_X9_arrivalDay 5 0 62 [some (ev_o 9 a), some (ev_i x0), some (ev_o 6 (a + 71)), some (ev_i 1)] [] S1 Q
      exact hQ
    · replace hQ := hQ.1 c2
      refine ev_aload_n (ev_o 9 a) dX9_arrivalDay_29 rfl rfl ?_
      refine gf_9_3 dX9_arrivalDay_30 kw_690 ?_
      refine ev_fV mv_X2_post 1 2 [] [] dX9_arrivalDay_33 kw_1137 rfl (by decide) rfl (by decide) (Nat.le_of_ble_eq_true rfl) (sp_X2_post (a + 11)) ?_ rfl
      refine ev_iload_n (x0) dX9_arrivalDay_36 rfl ?_
      refine ev_fV mv_X6_arrivalOf 2 6 [ev_i x0] [] dX9_arrivalDay_37 kw_1601 rfl (by decide) rfl (by decide) (Nat.le_of_ble_eq_true rfl) (sp_X6_arrivalOf (a + 30) x0) ?_ rfl
      exact ev_ireturn .int dX9_arrivalDay_40 rfl rfl hQ
  · rw [if_neg c1]
    replace hQ := hQ.2 c1
    refine ev_cS ms_X9_require 1 1 [ev_i 0] [] dX9_arrivalDay_11 kw_1343 rfl (by decide) (by decide) (Nat.le_of_ble_eq_true rfl) (Q' := fun o z => ev_After g m_X9_arrivalDay 5 (1 - 1) 11 [some (ev_o 9 a), some (ev_i x0), none, none] [] z Q o) (sg_X9_require_0 0 ?_) (fun o z h => h) rfl
    refine j_pos (by decide : ((0 : Int32) = 0)) ?_
    exact ev_T_out (by decide) rfl hQ
set_option maxHeartbeats 4000000 in
set_option maxRecDepth 100000 in
theorem sg_X9_arrivalDay_62 {g : ev_G} {S : ev_S} {Q : ev_O → ev_S → Prop} (a : Nat) (u1 : Int32) (u3 : Int32) (hQ : (400 < u3 → (
    Q (.inl (some (ev_i (-1)))) S)) ∧
  (¬ (400 < u3) → (
    ev_Cv g m_X6_passDay 4 0 [ev_o 6 (a + 71), ev_i ((S.1 (a + 11) 4) + u3)] S (fun o S1 => ∃ v1_ : Int32, o = .inl (some (ev_i v1_)) ∧ (
      ((j_at (S1.1 (a + 81)) 84 u1) = 2 → (
        Q (.inl (some (ev_i ((S1.1 (a + 11) 4) + u3)))) S1)) ∧
      (¬ ((j_at (S1.1 (a + 81)) 84 u1) = 2) → (
        ev_E g m_X9_arrivalDay 5 0 62 [some (ev_o 9 a), some (ev_i u1), some (ev_o 6 (a + 71)), some (ev_i (u3 + 1))] [] S1 Q))))))) : ev_E g m_X9_arrivalDay 5 0 62 [some (ev_o 9 a), some (ev_i u1), some (ev_o 6 (a + 71)), some (ev_i u3)] [] S Q := by
  refine ev_iload_n (u3) dX9_arrivalDay_62 rfl ?_
  refine ev_sipush (400) dX9_arrivalDay_63 (by decide) ?_
  refine ev_icmp_gt 108 dX9_arrivalDay_66 (by decide) (fun c1 => ?_) (fun c1 => ?_)
  · replace hQ := hQ.1 c1
    refine ev_iconst (-1) dX9_arrivalDay_108 rfl ?_
    exact ev_ireturn .int dX9_arrivalDay_109 rfl rfl hQ
  · replace hQ := hQ.2 c1
    refine ev_aload_n (ev_o 6 (a + 71)) dX9_arrivalDay_69 rfl rfl ?_
    refine ev_aload_n (ev_o 9 a) dX9_arrivalDay_70 rfl rfl ?_
    refine gf_9_3 dX9_arrivalDay_71 kw_690 ?_
    refine ev_fV mv_X2_today 1 2 [] [ev_o 6 (a + 71)] dX9_arrivalDay_74 kw_1108 rfl (by decide) rfl (by decide) (Nat.le_of_ble_eq_true rfl) (sp_X2_today (a + 11)) ?_ rfl
    refine ev_iload_n (u3) dX9_arrivalDay_77 rfl ?_
    refine ev_iadd dX9_arrivalDay_78 ?_
    refine ev_cV mv_X6_passDay 4 0 6 [ev_i ((S.1 (a + 11) 4) + u3)] [] dX9_arrivalDay_79 kw_1606 rfl (by decide) rfl (by decide) (by decide) (Nat.le_of_ble_eq_true rfl) hQ ?_ rfl
    rintro o S1 ⟨v1_, rfl, hQ⟩
    show ev_E g m_X9_arrivalDay 5 0 82 [some (ev_o 9 a), some (ev_i u1), some (ev_o 6 (a + 71)), some (ev_i u3)] [ev_i v1_] S1 Q
    refine ev_pop dX9_arrivalDay_82 rfl ?_
    refine ev_aload_n (ev_o 6 (a + 71)) dX9_arrivalDay_83 rfl rfl ?_
    refine ev_iload_n (u1) dX9_arrivalDay_84 rfl ?_
    refine ev_fV mv_X6_stateOf 2 6 [ev_i u1] [] dX9_arrivalDay_85 kw_1536 rfl (by decide) rfl (by decide) (Nat.le_of_ble_eq_true rfl) (sp_X6_stateOf (a + 71) u1) ?_ rfl
    refine ev_iconst (2) dX9_arrivalDay_88 rfl ?_
    refine ev_icmp_ne 102 dX9_arrivalDay_89 (by decide) (fun c2 => ?_) (fun c2 => ?_)
    · replace hQ := hQ.2 c2
      refine ev_iinc u3 (1) dX9_arrivalDay_102 rfl (by decide) (ev_hw rfl) ?_
      show ev_E g m_X9_arrivalDay 5 0 105 [some (ev_o 9 a), some (ev_i u1), some (ev_o 6 (a + 71)), some (ev_i (u3 + 1))] [] S1 Q
      refine ev_goto 62 dX9_arrivalDay_105 (by decide) ?_
      exact hQ
    · replace hQ := hQ.1 c2
      refine ev_aload_n (ev_o 9 a) dX9_arrivalDay_92 rfl rfl ?_
      refine gf_9_3 dX9_arrivalDay_93 kw_690 ?_
      refine ev_fV mv_X2_today 1 2 [] [] dX9_arrivalDay_96 kw_1108 rfl (by decide) rfl (by decide) (Nat.le_of_ble_eq_true rfl) (sp_X2_today (a + 11)) ?_ rfl
      refine ev_iload_n (u3) dX9_arrivalDay_99 rfl ?_
      refine ev_iadd dX9_arrivalDay_100 ?_
      exact ev_ireturn .int dX9_arrivalDay_101 rfl rfl hQ
set_option maxHeartbeats 4000000 in
set_option maxRecDepth 100000 in
theorem sg_X6_isIdle_0 {g : ev_G} {S : ev_S} {Q : ev_O → ev_S → Prop} (a : Nat) (hQ : ((S.1 a 16) = (S.1 a 13) → (
    Q (.inl (some (ev_i 1))) S)) ∧
  (¬ ((S.1 a 16) = (S.1 a 13)) → (
    Q (.inl (some (ev_i 0))) S))) : ev_Cv g m_X6_isIdle 1 0 [ev_o 6 a] S Q := by
  refine ev_enter (by decide) rfl rfl (Nat.le_of_ble_eq_true rfl) ?_
  show ev_E g m_X6_isIdle 1 0 0 [some (ev_o 6 a)] [] S Q
  refine ev_aload_n (ev_o 6 a) dX6_isIdle_0 rfl rfl ?_
  refine gf_6_16 dX6_isIdle_1 kw_345 ?_
  refine ev_aload_n (ev_o 6 a) dX6_isIdle_4 rfl rfl ?_
  refine gf_6_13 dX6_isIdle_5 kw_342 ?_
  refine ev_icmp_ne 15 dX6_isIdle_8 (by decide) (fun c1 => ?_) (fun c1 => ?_)
  · replace hQ := hQ.2 c1
    refine ev_iconst (0) dX6_isIdle_15 rfl ?_
    exact ev_ireturn .boolean dX6_isIdle_16 rfl rfl hQ
  · replace hQ := hQ.1 c1
    refine ev_iconst (1) dX6_isIdle_11 rfl ?_
    refine ev_goto 16 dX6_isIdle_12 (by decide) ?_
    exact ev_ireturn .boolean dX6_isIdle_16 rfl rfl hQ
set_option maxHeartbeats 4000000 in
set_option maxRecDepth 100000 in
theorem sp_X6_isIdle {g : ev_G} {S : ev_S} (a : Nat)  : ev_Fn g m_X6_isIdle 1 [ev_o 6 a] S (some (ev_i (if (S.1 a 16) = (S.1 a 13) then 1 else 0))) S := by
  intro Q hQ
  refine sg_X6_isIdle_0 a ?_
  refine ⟨fun c1 => ?_, fun c1 => ?_⟩
  · rw [if_pos c1] at hQ
    exact hQ
  · rw [if_neg c1] at hQ
    exact hQ
set_option maxHeartbeats 4000000 in
set_option maxRecDepth 100000 in
theorem sg_X9_daysUntilTurn_0 {g : ev_G} {S : ev_S} {Q : ev_O → ev_S → Prop} (a : Nat) (x0 : Int32) (hQ : ((t_X9_isPlayer x0) = true → (
    ((t_X1_mayPlay S (a_X2_deskOf (a + 11) x0)) = true → (
      Q (.inl (some (ev_i 0))) S)) ∧
    (¬ ((t_X1_mayPlay S (a_X2_deskOf (a + 11) x0)) = true) → (
      ev_Cv g m_X2_copyFrom 4 0 [ev_o 2 (a + 52), ev_o 2 (a + 11)] S (fun o S1 => o = .inl none ∧ (
        ev_E g m_X9_daysUntilTurn 6 0 36 [some (ev_o 9 a), some (ev_i x0), some (ev_i 1)] [] S1 Q)))))) ∧
  (¬ ((t_X9_isPlayer x0) = true) → (
    Q (.inr 0) S))) : ev_Cv g m_X9_daysUntilTurn 6 1 [ev_o 9 a, ev_i x0] S Q := by
  refine ev_enter (by decide) rfl rfl (Nat.le_of_ble_eq_true rfl) ?_
  show ev_E g m_X9_daysUntilTurn 6 1 0 [some (ev_o 9 a), some (ev_i x0), none] [] S Q
  refine ev_iload_n (x0) dX9_daysUntilTurn_0 rfl ?_
  refine ev_fS ms_X9_isPlayer 1 [ev_i x0] [] dX9_daysUntilTurn_1 kw_1341 rfl (by decide) (Nat.le_of_ble_eq_true rfl) (sp_X9_isPlayer x0) ?_ rfl
  by_cases c1 : (t_X9_isPlayer x0) = true
  · rw [if_pos c1]
    replace hQ := hQ.1 c1
    refine ev_cS ms_X9_require 1 1 [ev_i 1] [] dX9_daysUntilTurn_4 kw_1343 rfl (by decide) (by decide) (Nat.le_of_ble_eq_true rfl) (Q' := fun o z => ev_After g m_X9_daysUntilTurn 6 (1 - 1) 4 [some (ev_o 9 a), some (ev_i x0), none] [] z Q o) (sg_X9_require_0 1 ?_) (fun o z h => h) rfl
    refine j_neg (by decide : ¬ ((1 : Int32) = 0)) ?_
    show ev_E g m_X9_daysUntilTurn 6 0 7 [some (ev_o 9 a), some (ev_i x0), none] [] S Q
    refine ev_aload_n (ev_o 9 a) dX9_daysUntilTurn_7 rfl rfl ?_
    refine gf_9_3 dX9_daysUntilTurn_8 kw_690 ?_
    refine ev_iload_n (x0) dX9_daysUntilTurn_11 rfl ?_
    refine ev_fV mv_X2_deskOf 1 2 [ev_i x0] [] dX9_daysUntilTurn_12 kw_1384 rfl (by decide) rfl (by decide) (Nat.le_of_ble_eq_true rfl) (sp_X2_deskOf (a + 11) x0) ?_ rfl
    refine ev_fV mv_X1_mayPlay 4 1 [] [] dX9_daysUntilTurn_15 kw_1385 rfl (by decide) rfl (by decide) (Nat.le_of_ble_eq_true rfl) (sp_X1_mayPlay (a_X2_deskOf (a + 11) x0)) ?_ rfl
    by_cases c2 : (t_X1_mayPlay S (a_X2_deskOf (a + 11) x0)) = true
    · rw [if_pos c2]
      replace hQ := hQ.1 c2
      refine ev_if_eq 23 dX9_daysUntilTurn_18 (by decide) (fun h9 => absurd h9 (by decide : ¬ ((1 : Int32) = 0))) (fun _ => ?_)
      refine ev_iconst (0) dX9_daysUntilTurn_21 rfl ?_
      exact ev_ireturn .int dX9_daysUntilTurn_22 rfl rfl hQ
    · rw [if_neg c2]
      replace hQ := hQ.2 c2
      refine ev_if_eq 23 dX9_daysUntilTurn_18 (by decide) (fun _ => ?_) (fun h9 => absurd (by decide : ((0 : Int32) = 0)) h9)
      refine ev_aload_n (ev_o 9 a) dX9_daysUntilTurn_23 rfl rfl ?_
      refine gf_9_4 dX9_daysUntilTurn_24 kw_691 ?_
      refine ev_aload_n (ev_o 9 a) dX9_daysUntilTurn_27 rfl rfl ?_
      refine gf_9_3 dX9_daysUntilTurn_28 kw_690 ?_
      refine ev_cV mv_X2_copyFrom 4 0 2 [ev_o 2 (a + 11)] [] dX9_daysUntilTurn_31 kw_653 rfl (by decide) rfl (by decide) (by decide) (Nat.le_of_ble_eq_true rfl) hQ ?_ rfl
      rintro o S1 ⟨rfl, hQ⟩
      show ev_E g m_X9_daysUntilTurn 6 0 34 [some (ev_o 9 a), some (ev_i x0), none] [] S1 Q
      refine ev_iconst (1) dX9_daysUntilTurn_34 rfl ?_
      refine ev_istore_n dX9_daysUntilTurn_35 (Nat.le_of_ble_eq_true rfl) (ev_hw rfl) ?_
      show ev_E g m_X9_daysUntilTurn 6 0 36 [some (ev_o 9 a), some (ev_i x0), some (ev_i 1)] [] S1 Q
      exact hQ
  · rw [if_neg c1]
    replace hQ := hQ.2 c1
    refine ev_cS ms_X9_require 1 1 [ev_i 0] [] dX9_daysUntilTurn_4 kw_1343 rfl (by decide) (by decide) (Nat.le_of_ble_eq_true rfl) (Q' := fun o z => ev_After g m_X9_daysUntilTurn 6 (1 - 1) 4 [some (ev_o 9 a), some (ev_i x0), none] [] z Q o) (sg_X9_require_0 0 ?_) (fun o z h => h) rfl
    refine j_pos (by decide : ((0 : Int32) = 0)) ?_
    exact ev_T_out (by decide) rfl hQ
set_option maxHeartbeats 4000000 in
set_option maxRecDepth 100000 in
theorem sg_X9_daysUntilTurn_36 {g : ev_G} {S : ev_S} {Q : ev_O → ev_S → Prop} (a : Nat) (u1 : Int32) (u2 : Int32) (hQ : (400 < u2 → (
    Q (.inl (some (ev_i (-1)))) S)) ∧
  (¬ (400 < u2) → (
    ((S.1 (a + 71) 16) = (S.1 (a + 71) 13) → (
      Q (.inl (some (ev_i (-1)))) S)) ∧
    (¬ ((S.1 (a + 71) 16) = (S.1 (a + 71) 13)) → (
      ev_Cv g m_X2_passDay 5 0 [ev_o 2 (a + 52)] S (fun o S1 => ∃ v1_ : Int32, o = .inl (some (ev_i v1_)) ∧ (
        ((t_X1_mayPlay S1 (a_X2_deskOf (a + 52) u1)) = true → (
          Q (.inl (some (ev_i u2))) S1)) ∧
        (¬ ((t_X1_mayPlay S1 (a_X2_deskOf (a + 52) u1)) = true) → (
          ev_E g m_X9_daysUntilTurn 6 0 36 [some (ev_o 9 a), some (ev_i u1), some (ev_i (u2 + 1))] [] S1 Q))))))))) : ev_E g m_X9_daysUntilTurn 6 0 36 [some (ev_o 9 a), some (ev_i u1), some (ev_i u2)] [] S Q := by
  refine ev_iload_n (u2) dX9_daysUntilTurn_36 rfl ?_
  refine ev_sipush (400) dX9_daysUntilTurn_37 (by decide) ?_
  refine ev_icmp_gt 86 dX9_daysUntilTurn_40 (by decide) (fun c1 => ?_) (fun c1 => ?_)
  · replace hQ := hQ.1 c1
    refine ev_iconst (-1) dX9_daysUntilTurn_86 rfl ?_
    exact ev_ireturn .int dX9_daysUntilTurn_87 rfl rfl hQ
  · replace hQ := hQ.2 c1
    refine ev_aload_n (ev_o 9 a) dX9_daysUntilTurn_43 rfl rfl ?_
    refine gf_9_4 dX9_daysUntilTurn_44 kw_691 ?_
    refine ev_fV mv_X2_post 1 2 [] [] dX9_daysUntilTurn_47 kw_1137 rfl (by decide) rfl (by decide) (Nat.le_of_ble_eq_true rfl) (sp_X2_post (a + 52)) ?_ rfl
    refine ev_fV mv_X6_isIdle 1 6 [] [] dX9_daysUntilTurn_50 kw_1196 rfl (by decide) rfl (by decide) (Nat.le_of_ble_eq_true rfl) (sp_X6_isIdle (a + 71)) ?_ rfl
    by_cases c2 : (S.1 (a + 71) 16) = (S.1 (a + 71) 13)
    · rw [if_pos c2]
      replace hQ := hQ.1 c2
      refine ev_if_ne 86 dX9_daysUntilTurn_53 (by decide) (fun _ => ?_) (fun h9 => absurd h9 (by decide : ¬ ((1 : Int32) = 0)))
      refine ev_iconst (-1) dX9_daysUntilTurn_86 rfl ?_
      exact ev_ireturn .int dX9_daysUntilTurn_87 rfl rfl hQ
    · rw [if_neg c2]
      replace hQ := hQ.2 c2
      refine ev_if_ne 86 dX9_daysUntilTurn_53 (by decide) (fun h9 => absurd (by decide : ((0 : Int32) = 0)) h9) (fun _ => ?_)
      refine ev_aload_n (ev_o 9 a) dX9_daysUntilTurn_56 rfl rfl ?_
      refine gf_9_4 dX9_daysUntilTurn_57 kw_691 ?_
      refine ev_cV mv_X2_passDay 5 0 2 [] [] dX9_daysUntilTurn_60 kw_1200 rfl (by decide) rfl (by decide) (by decide) (Nat.le_of_ble_eq_true rfl) hQ ?_ rfl
      rintro o S1 ⟨v1_, rfl, hQ⟩
      show ev_E g m_X9_daysUntilTurn 6 0 63 [some (ev_o 9 a), some (ev_i u1), some (ev_i u2)] [ev_i v1_] S1 Q
      refine ev_pop dX9_daysUntilTurn_63 rfl ?_
      refine ev_aload_n (ev_o 9 a) dX9_daysUntilTurn_64 rfl rfl ?_
      refine gf_9_4 dX9_daysUntilTurn_65 kw_691 ?_
      refine ev_iload_n (u1) dX9_daysUntilTurn_68 rfl ?_
      refine ev_fV mv_X2_deskOf 1 2 [ev_i u1] [] dX9_daysUntilTurn_69 kw_1384 rfl (by decide) rfl (by decide) (Nat.le_of_ble_eq_true rfl) (sp_X2_deskOf (a + 52) u1) ?_ rfl
      refine ev_fV mv_X1_mayPlay 4 1 [] [] dX9_daysUntilTurn_72 kw_1385 rfl (by decide) rfl (by decide) (Nat.le_of_ble_eq_true rfl) (sp_X1_mayPlay (a_X2_deskOf (a + 52) u1)) ?_ rfl
      by_cases c3 : (t_X1_mayPlay S1 (a_X2_deskOf (a + 52) u1)) = true
      · rw [if_pos c3]
        replace hQ := hQ.1 c3
        refine ev_if_eq 80 dX9_daysUntilTurn_75 (by decide) (fun h9 => absurd h9 (by decide : ¬ ((1 : Int32) = 0))) (fun _ => ?_)
        refine ev_iload_n (u2) dX9_daysUntilTurn_78 rfl ?_
        exact ev_ireturn .int dX9_daysUntilTurn_79 rfl rfl hQ
      · rw [if_neg c3]
        replace hQ := hQ.2 c3
        refine ev_if_eq 80 dX9_daysUntilTurn_75 (by decide) (fun _ => ?_) (fun h9 => absurd (by decide : ((0 : Int32) = 0)) h9)
        refine ev_iinc u2 (1) dX9_daysUntilTurn_80 rfl (by decide) (ev_hw rfl) ?_
        show ev_E g m_X9_daysUntilTurn 6 0 83 [some (ev_o 9 a), some (ev_i u1), some (ev_i (u2 + 1))] [] S1 Q
        refine ev_goto 36 dX9_daysUntilTurn_83 (by decide) ?_
        exact hQ
set_option maxHeartbeats 4000000 in
set_option maxRecDepth 100000 in
theorem sg_X9_daysUntilEqual_0 {g : ev_G} {S : ev_S} {Q : ev_O → ev_S → Prop} (a : Nat) (hQ : ev_Cv g m_X2_boardsAgree 4 0 [ev_o 2 (a + 11)] S (fun o S1 => ∃ v1_ : Bool, o = .inl (some (ev_i (if v1_ = true then 1 else 0))) ∧ (
    (v1_ = true → (
      Q (.inl (some (ev_i 0))) S1)) ∧
    (¬ (v1_ = true) → (
      ev_Cv g m_X2_copyFrom 4 0 [ev_o 2 (a + 52), ev_o 2 (a + 11)] S1 (fun o S2 => o = .inl none ∧ (
        ev_E g m_X9_daysUntilEqual 6 0 25 [some (ev_o 9 a), some (ev_i 1)] [] S2 Q))))))) : ev_Cv g m_X9_daysUntilEqual 6 0 [ev_o 9 a] S Q := by
  refine ev_enter (by decide) rfl rfl (Nat.le_of_ble_eq_true rfl) ?_
  show ev_E g m_X9_daysUntilEqual 6 0 0 [some (ev_o 9 a), none] [] S Q
  refine ev_aload_n (ev_o 9 a) dX9_daysUntilEqual_0 rfl rfl ?_
  refine gf_9_3 dX9_daysUntilEqual_1 kw_690 ?_
  refine ev_cV mv_X2_boardsAgree 4 0 2 [] [] dX9_daysUntilEqual_4 kw_1121 rfl (by decide) rfl (by decide) (by decide) (Nat.le_of_ble_eq_true rfl) hQ ?_ rfl
  rintro o S1 ⟨v1_, rfl, hQ⟩
  show ev_E g m_X9_daysUntilEqual 6 0 7 [some (ev_o 9 a), none] [ev_i (if v1_ = true then 1 else 0)] S1 Q
  by_cases c1 : v1_ = true
  · rw [if_pos c1]
    replace hQ := hQ.1 c1
    refine ev_if_eq 12 dX9_daysUntilEqual_7 (by decide) (fun h9 => absurd h9 (by decide : ¬ ((1 : Int32) = 0))) (fun _ => ?_)
    refine ev_iconst (0) dX9_daysUntilEqual_10 rfl ?_
    exact ev_ireturn .int dX9_daysUntilEqual_11 rfl rfl hQ
  · rw [if_neg c1]
    replace hQ := hQ.2 c1
    refine ev_if_eq 12 dX9_daysUntilEqual_7 (by decide) (fun _ => ?_) (fun h9 => absurd (by decide : ((0 : Int32) = 0)) h9)
    refine ev_aload_n (ev_o 9 a) dX9_daysUntilEqual_12 rfl rfl ?_
    refine gf_9_4 dX9_daysUntilEqual_13 kw_691 ?_
    refine ev_aload_n (ev_o 9 a) dX9_daysUntilEqual_16 rfl rfl ?_
    refine gf_9_3 dX9_daysUntilEqual_17 kw_690 ?_
    refine ev_cV mv_X2_copyFrom 4 0 2 [ev_o 2 (a + 11)] [] dX9_daysUntilEqual_20 kw_653 rfl (by decide) rfl (by decide) (by decide) (Nat.le_of_ble_eq_true rfl) hQ ?_ rfl
    rintro o S2 ⟨rfl, hQ⟩
    show ev_E g m_X9_daysUntilEqual 6 0 23 [some (ev_o 9 a), none] [] S2 Q
    refine ev_iconst (1) dX9_daysUntilEqual_23 rfl ?_
    refine ev_istore_n dX9_daysUntilEqual_24 (Nat.le_of_ble_eq_true rfl) (ev_hw rfl) ?_
    show ev_E g m_X9_daysUntilEqual 6 0 25 [some (ev_o 9 a), some (ev_i 1)] [] S2 Q
    exact hQ
set_option maxHeartbeats 4000000 in
set_option maxRecDepth 100000 in
theorem sg_X9_daysUntilEqual_25 {g : ev_G} {S : ev_S} {Q : ev_O → ev_S → Prop} (a : Nat) (u1 : Int32) (hQ : (400 < u1 → (
    Q (.inl (some (ev_i (-1)))) S)) ∧
  (¬ (400 < u1) → (
    ((S.1 (a + 71) 16) = (S.1 (a + 71) 13) → (
      Q (.inl (some (ev_i (-1)))) S)) ∧
    (¬ ((S.1 (a + 71) 16) = (S.1 (a + 71) 13)) → (
      ev_Cv g m_X2_passDay 5 0 [ev_o 2 (a + 52)] S (fun o S1 => ∃ v1_ : Int32, o = .inl (some (ev_i v1_)) ∧ (
        ev_Cv g m_X2_boardsAgree 4 0 [ev_o 2 (a + 52)] S1 (fun o S2 => ∃ v2_ : Bool, o = .inl (some (ev_i (if v2_ = true then 1 else 0))) ∧ (
          (v2_ = true → (
            Q (.inl (some (ev_i u1))) S2)) ∧
          (¬ (v2_ = true) → (
            ev_E g m_X9_daysUntilEqual 6 0 25 [some (ev_o 9 a), some (ev_i (u1 + 1))] [] S2 Q))))))))))) : ev_E g m_X9_daysUntilEqual 6 0 25 [some (ev_o 9 a), some (ev_i u1)] [] S Q := by
  refine ev_iload_n (u1) dX9_daysUntilEqual_25 rfl ?_
  refine ev_sipush (400) dX9_daysUntilEqual_26 (by decide) ?_
  refine ev_icmp_gt 71 dX9_daysUntilEqual_29 (by decide) (fun c1 => ?_) (fun c1 => ?_)
  · replace hQ := hQ.1 c1
    refine ev_iconst (-1) dX9_daysUntilEqual_71 rfl ?_
    exact ev_ireturn .int dX9_daysUntilEqual_72 rfl rfl hQ
  · replace hQ := hQ.2 c1
    refine ev_aload_n (ev_o 9 a) dX9_daysUntilEqual_32 rfl rfl ?_
    refine gf_9_4 dX9_daysUntilEqual_33 kw_691 ?_
    refine ev_fV mv_X2_post 1 2 [] [] dX9_daysUntilEqual_36 kw_1137 rfl (by decide) rfl (by decide) (Nat.le_of_ble_eq_true rfl) (sp_X2_post (a + 52)) ?_ rfl
    refine ev_fV mv_X6_isIdle 1 6 [] [] dX9_daysUntilEqual_39 kw_1196 rfl (by decide) rfl (by decide) (Nat.le_of_ble_eq_true rfl) (sp_X6_isIdle (a + 71)) ?_ rfl
    by_cases c2 : (S.1 (a + 71) 16) = (S.1 (a + 71) 13)
    · rw [if_pos c2]
      replace hQ := hQ.1 c2
      refine ev_if_ne 71 dX9_daysUntilEqual_42 (by decide) (fun _ => ?_) (fun h9 => absurd h9 (by decide : ¬ ((1 : Int32) = 0)))
      refine ev_iconst (-1) dX9_daysUntilEqual_71 rfl ?_
      exact ev_ireturn .int dX9_daysUntilEqual_72 rfl rfl hQ
    · rw [if_neg c2]
      replace hQ := hQ.2 c2
      refine ev_if_ne 71 dX9_daysUntilEqual_42 (by decide) (fun h9 => absurd (by decide : ((0 : Int32) = 0)) h9) (fun _ => ?_)
      refine ev_aload_n (ev_o 9 a) dX9_daysUntilEqual_45 rfl rfl ?_
      refine gf_9_4 dX9_daysUntilEqual_46 kw_691 ?_
      refine ev_cV mv_X2_passDay 5 0 2 [] [] dX9_daysUntilEqual_49 kw_1200 rfl (by decide) rfl (by decide) (by decide) (Nat.le_of_ble_eq_true rfl) hQ ?_ rfl
      rintro o S1 ⟨v1_, rfl, hQ⟩
      show ev_E g m_X9_daysUntilEqual 6 0 52 [some (ev_o 9 a), some (ev_i u1)] [ev_i v1_] S1 Q
      refine ev_pop dX9_daysUntilEqual_52 rfl ?_
      refine ev_aload_n (ev_o 9 a) dX9_daysUntilEqual_53 rfl rfl ?_
      refine gf_9_4 dX9_daysUntilEqual_54 kw_691 ?_
      refine ev_cV mv_X2_boardsAgree 4 0 2 [] [] dX9_daysUntilEqual_57 kw_1121 rfl (by decide) rfl (by decide) (by decide) (Nat.le_of_ble_eq_true rfl) hQ ?_ rfl
      rintro o S2 ⟨v2_, rfl, hQ⟩
      show ev_E g m_X9_daysUntilEqual 6 0 60 [some (ev_o 9 a), some (ev_i u1)] [ev_i (if v2_ = true then 1 else 0)] S2 Q
      by_cases c3 : v2_ = true
      · rw [if_pos c3]
        replace hQ := hQ.1 c3
        refine ev_if_eq 65 dX9_daysUntilEqual_60 (by decide) (fun h9 => absurd h9 (by decide : ¬ ((1 : Int32) = 0))) (fun _ => ?_)
        refine ev_iload_n (u1) dX9_daysUntilEqual_63 rfl ?_
        exact ev_ireturn .int dX9_daysUntilEqual_64 rfl rfl hQ
      · rw [if_neg c3]
        replace hQ := hQ.2 c3
        refine ev_if_eq 65 dX9_daysUntilEqual_60 (by decide) (fun _ => ?_) (fun h9 => absurd (by decide : ((0 : Int32) = 0)) h9)
        refine ev_iinc u1 (1) dX9_daysUntilEqual_65 rfl (by decide) (ev_hw rfl) ?_
        show ev_E g m_X9_daysUntilEqual 6 0 68 [some (ev_o 9 a), some (ev_i (u1 + 1))] [] S2 Q
        refine ev_goto 25 dX9_daysUntilEqual_68 (by decide) ?_
        exact hQ
set_option maxHeartbeats 4000000 in
set_option maxRecDepth 100000 in
theorem sg_X9_fastestPass_0 {g : ev_G} {S : ev_S} {Q : ev_O → ev_S → Prop} (a : Nat) (x0 : Int32) (hQ : ((t_X9_isPlayer x0) = true → (
    ev_Cv g m_X6_copyFrom 3 0 [ev_o 6 (a + 71), ev_o 6 (a + 30)] S (fun o S1 => o = .inl none ∧ (
      ev_E g m_X9_fastestPass 5 0 46 [some (ev_o 9 a), some (ev_i x0), some (ev_o 6 (a + 71)), some (ev_i (S1.1 (a + 71) 13)), some (ev_i (S1.1 (a + 31) 3)), some (ev_i 0), none] [] S1 Q)))) ∧
  (¬ ((t_X9_isPlayer x0) = true) → (
    Q (.inr 0) S))) : ev_Cv g m_X9_fastestPass 5 1 [ev_o 9 a, ev_i x0] S Q := by
  refine ev_enter (by decide) rfl rfl (Nat.le_of_ble_eq_true rfl) ?_
  show ev_E g m_X9_fastestPass 5 1 0 [some (ev_o 9 a), some (ev_i x0), none, none, none, none, none] [] S Q
  refine ev_iload_n (x0) dX9_fastestPass_0 rfl ?_
  refine ev_fS ms_X9_isPlayer 1 [ev_i x0] [] dX9_fastestPass_1 kw_1341 rfl (by decide) (Nat.le_of_ble_eq_true rfl) (sp_X9_isPlayer x0) ?_ rfl
  by_cases c1 : (t_X9_isPlayer x0) = true
  · rw [if_pos c1]
    replace hQ := hQ.1 c1
    refine ev_cS ms_X9_require 1 1 [ev_i 1] [] dX9_fastestPass_4 kw_1343 rfl (by decide) (by decide) (Nat.le_of_ble_eq_true rfl) (Q' := fun o z => ev_After g m_X9_fastestPass 5 (1 - 1) 4 [some (ev_o 9 a), some (ev_i x0), none, none, none, none, none] [] z Q o) (sg_X9_require_0 1 ?_) (fun o z h => h) rfl
    refine j_neg (by decide : ¬ ((1 : Int32) = 0)) ?_
    show ev_E g m_X9_fastestPass 5 0 7 [some (ev_o 9 a), some (ev_i x0), none, none, none, none, none] [] S Q
    refine ev_aload_n (ev_o 9 a) dX9_fastestPass_7 rfl rfl ?_
    refine gf_9_4 dX9_fastestPass_8 kw_691 ?_
    refine ev_fV mv_X2_post 1 2 [] [] dX9_fastestPass_11 kw_1137 rfl (by decide) rfl (by decide) (Nat.le_of_ble_eq_true rfl) (sp_X2_post (a + 52)) ?_ rfl
    refine ev_astore_n dX9_fastestPass_14 rfl (Nat.le_of_ble_eq_true rfl) (ev_hw rfl) ?_
    show ev_E g m_X9_fastestPass 5 0 15 [some (ev_o 9 a), some (ev_i x0), some (ev_o 6 (a + 71)), none, none, none, none] [] S Q
    refine ev_aload_n (ev_o 6 (a + 71)) dX9_fastestPass_15 rfl rfl ?_
    refine ev_aload_n (ev_o 9 a) dX9_fastestPass_16 rfl rfl ?_
    refine gf_9_3 dX9_fastestPass_17 kw_690 ?_
    refine ev_fV mv_X2_post 1 2 [] [ev_o 6 (a + 71)] dX9_fastestPass_20 kw_1137 rfl (by decide) rfl (by decide) (Nat.le_of_ble_eq_true rfl) (sp_X2_post (a + 11)) ?_ rfl
    refine ev_cV mv_X6_copyFrom 3 0 6 [ev_o 6 (a + 30)] [] dX9_fastestPass_23 kw_1605 rfl (by decide) rfl (by decide) (by decide) (Nat.le_of_ble_eq_true rfl) hQ ?_ rfl
    rintro o S1 ⟨rfl, hQ⟩
    show ev_E g m_X9_fastestPass 5 0 26 [some (ev_o 9 a), some (ev_i x0), some (ev_o 6 (a + 71)), none, none, none, none] [] S1 Q
    refine ev_aload_n (ev_o 6 (a + 71)) dX9_fastestPass_26 rfl rfl ?_
    refine ev_fV mv_X6_count 1 6 [] [] dX9_fastestPass_27 kw_1141 rfl (by decide) rfl (by decide) (Nat.le_of_ble_eq_true rfl) (sp_X6_count (a + 71)) ?_ rfl
    refine ev_istore_n dX9_fastestPass_30 (Nat.le_of_ble_eq_true rfl) (ev_hw rfl) ?_
    show ev_E g m_X9_fastestPass 5 0 31 [some (ev_o 9 a), some (ev_i x0), some (ev_o 6 (a + 71)), some (ev_i (S1.1 (a + 71) 13)), none, none, none] [] S1 Q
    refine ev_aload_n (ev_o 9 a) dX9_fastestPass_31 rfl rfl ?_
    refine gf_9_3 dX9_fastestPass_32 kw_690 ?_
    refine ev_fV mv_X2_passes 2 2 [] [] dX9_fastestPass_35 kw_616 rfl (by decide) rfl (by decide) (Nat.le_of_ble_eq_true rfl) (sp_X2_passes (a + 11)) ?_ rfl
    refine ev_fV mv_X5_count 1 5 [] [] dX9_fastestPass_38 kw_630 rfl (by decide) rfl (by decide) (Nat.le_of_ble_eq_true rfl) (sp_X5_count (a + 31)) ?_ rfl
    refine ev_istore dX9_fastestPass_41 (Nat.le_of_ble_eq_true rfl) (ev_hw rfl) ?_
    show ev_E g m_X9_fastestPass 5 0 43 [some (ev_o 9 a), some (ev_i x0), some (ev_o 6 (a + 71)), some (ev_i (S1.1 (a + 71) 13)), some (ev_i (S1.1 (a + 31) 3)), none, none] [] S1 Q
    refine ev_iconst (0) dX9_fastestPass_43 rfl ?_
    refine ev_istore dX9_fastestPass_44 (Nat.le_of_ble_eq_true rfl) (ev_hw rfl) ?_
    show ev_E g m_X9_fastestPass 5 0 46 [some (ev_o 9 a), some (ev_i x0), some (ev_o 6 (a + 71)), some (ev_i (S1.1 (a + 71) 13)), some (ev_i (S1.1 (a + 31) 3)), some (ev_i 0), none] [] S1 Q
    exact hQ
  · rw [if_neg c1]
    replace hQ := hQ.2 c1
    refine ev_cS ms_X9_require 1 1 [ev_i 0] [] dX9_fastestPass_4 kw_1343 rfl (by decide) (by decide) (Nat.le_of_ble_eq_true rfl) (Q' := fun o z => ev_After g m_X9_fastestPass 5 (1 - 1) 4 [some (ev_o 9 a), some (ev_i x0), none, none, none, none, none] [] z Q o) (sg_X9_require_0 0 ?_) (fun o z h => h) rfl
    refine j_pos (by decide : ((0 : Int32) = 0)) ?_
    exact ev_T_out (by decide) rfl hQ
set_option maxHeartbeats 4000000 in
set_option maxRecDepth 100000 in
theorem sg_X9_fastestPass_46 {g : ev_G} {S : ev_S} {Q : ev_O → ev_S → Prop} (a : Nat) (u1 : Int32) (u3 : Int32) (u4 : Int32) (u5 : Int32) (hQ : (u4 ≤ u5 → (
    ev_E g m_X9_fastestPass 5 0 80 [some (ev_o 9 a), none, some (ev_o 6 (a + 71)), some (ev_i u3), some (ev_i u4), some (ev_i 1), none] [] S Q)) ∧
  (¬ (u4 ≤ u5) → (
    ev_Cv g m_X6_add 3 0 [ev_o 6 (a + 71), ev_i u1, ev_i 0, ev_i (-1), ev_i (-1), ev_i u5, ev_i (S.1 (a + 11) 4)] S (fun o S1 => ∃ v1_ : Int32, o = .inl (some (ev_i v1_)) ∧ (
      ev_E g m_X9_fastestPass 5 0 46 [some (ev_o 9 a), some (ev_i u1), some (ev_o 6 (a + 71)), some (ev_i u3), some (ev_i u4), some (ev_i (u5 + 1)), none] [] S1 Q))))) : ev_E g m_X9_fastestPass 5 0 46 [some (ev_o 9 a), some (ev_i u1), some (ev_o 6 (a + 71)), some (ev_i u3), some (ev_i u4), some (ev_i u5), none] [] S Q := by
  refine ev_iload (u5) dX9_fastestPass_46 rfl ?_
  refine ev_iload (u4) dX9_fastestPass_48 rfl ?_
  refine ev_icmp_ge 77 dX9_fastestPass_50 (by decide) (fun c1 => ?_) (fun c1 => ?_)
  · replace hQ := hQ.1 c1
    refine ev_iconst (1) dX9_fastestPass_77 rfl ?_
    refine ev_istore dX9_fastestPass_78 (Nat.le_of_ble_eq_true rfl) (ev_hw rfl) ?_
    show ev_E g m_X9_fastestPass 5 0 80 [some (ev_o 9 a), some (ev_i u1), some (ev_o 6 (a + 71)), some (ev_i u3), some (ev_i u4), some (ev_i 1), none] [] S Q
    refine ev_fgm [true, false, true, true, true, true, false] ?_
    exact hQ
  · replace hQ := hQ.2 c1
    refine ev_aload_n (ev_o 6 (a + 71)) dX9_fastestPass_53 rfl rfl ?_
    refine ev_iload_n (u1) dX9_fastestPass_54 rfl ?_
    refine ev_iconst (0) dX9_fastestPass_55 rfl ?_
    refine ev_iconst (-1) dX9_fastestPass_56 rfl ?_
    refine ev_iconst (-1) dX9_fastestPass_57 rfl ?_
    refine ev_iload (u5) dX9_fastestPass_58 rfl ?_
    refine ev_aload_n (ev_o 9 a) dX9_fastestPass_60 rfl rfl ?_
    refine gf_9_3 dX9_fastestPass_61 kw_690 ?_
    refine ev_fV mv_X2_today 1 2 [] [ev_i u5, ev_i (-1), ev_i (-1), ev_i 0, ev_i u1, ev_o 6 (a + 71)] dX9_fastestPass_64 kw_1108 rfl (by decide) rfl (by decide) (Nat.le_of_ble_eq_true rfl) (sp_X2_today (a + 11)) ?_ rfl
    refine ev_cV mv_X6_add 3 0 6 [ev_i u1, ev_i 0, ev_i (-1), ev_i (-1), ev_i u5, ev_i (S.1 (a + 11) 4)] [] dX9_fastestPass_67 kw_1621 rfl (by decide) rfl (by decide) (by decide) (Nat.le_of_ble_eq_true rfl) hQ ?_ rfl
    rintro o S1 ⟨v1_, rfl, hQ⟩
    show ev_E g m_X9_fastestPass 5 0 70 [some (ev_o 9 a), some (ev_i u1), some (ev_o 6 (a + 71)), some (ev_i u3), some (ev_i u4), some (ev_i u5), none] [ev_i v1_] S1 Q
    refine ev_pop dX9_fastestPass_70 rfl ?_
    refine ev_iinc u5 (1) dX9_fastestPass_71 rfl (by decide) (ev_hw rfl) ?_
    show ev_E g m_X9_fastestPass 5 0 74 [some (ev_o 9 a), some (ev_i u1), some (ev_o 6 (a + 71)), some (ev_i u3), some (ev_i u4), some (ev_i (u5 + 1)), none] [] S1 Q
    refine ev_goto 46 dX9_fastestPass_74 (by decide) ?_
    exact hQ
set_option maxHeartbeats 4000000 in
set_option maxRecDepth 100000 in
theorem sg_X9_fastestPass_80 {g : ev_G} {S : ev_S} {Q : ev_O → ev_S → Prop} (a : Nat) (u3 : Int32) (u4 : Int32) (u5 : Int32) (hQ : (400 < u5 → (
    Q (.inl (some (ev_i (-1)))) S)) ∧
  (¬ (400 < u5) → (
    ev_Cv g m_X6_passDay 4 0 [ev_o 6 (a + 71), ev_i ((S.1 (a + 11) 4) + u5)] S (fun o S1 => ∃ v1_ : Int32, o = .inl (some (ev_i v1_)) ∧ (
      ev_E g m_X9_fastestPass 5 0 106 [some (ev_o 9 a), none, some (ev_o 6 (a + 71)), some (ev_i u3), some (ev_i u4), some (ev_i u5), some (ev_i 0)] [] S1 Q))))) : ev_E g m_X9_fastestPass 5 0 80 [some (ev_o 9 a), none, some (ev_o 6 (a + 71)), some (ev_i u3), some (ev_i u4), some (ev_i u5), none] [] S Q := by
  refine ev_iload (u5) dX9_fastestPass_80 rfl ?_
  refine ev_sipush (400) dX9_fastestPass_82 (by decide) ?_
  refine ev_icmp_gt 140 dX9_fastestPass_85 (by decide) (fun c1 => ?_) (fun c1 => ?_)
  · replace hQ := hQ.1 c1
    refine ev_iconst (-1) dX9_fastestPass_140 rfl ?_
    exact ev_ireturn .int dX9_fastestPass_141 rfl rfl hQ
  · replace hQ := hQ.2 c1
    refine ev_aload_n (ev_o 6 (a + 71)) dX9_fastestPass_88 rfl rfl ?_
    refine ev_aload_n (ev_o 9 a) dX9_fastestPass_89 rfl rfl ?_
    refine gf_9_3 dX9_fastestPass_90 kw_690 ?_
    refine ev_fV mv_X2_today 1 2 [] [ev_o 6 (a + 71)] dX9_fastestPass_93 kw_1108 rfl (by decide) rfl (by decide) (Nat.le_of_ble_eq_true rfl) (sp_X2_today (a + 11)) ?_ rfl
    refine ev_iload (u5) dX9_fastestPass_96 rfl ?_
    refine ev_iadd dX9_fastestPass_98 ?_
    refine ev_cV mv_X6_passDay 4 0 6 [ev_i ((S.1 (a + 11) 4) + u5)] [] dX9_fastestPass_99 kw_1606 rfl (by decide) rfl (by decide) (by decide) (Nat.le_of_ble_eq_true rfl) hQ ?_ rfl
    rintro o S1 ⟨v1_, rfl, hQ⟩
    show ev_E g m_X9_fastestPass 5 0 102 [some (ev_o 9 a), none, some (ev_o 6 (a + 71)), some (ev_i u3), some (ev_i u4), some (ev_i u5), none] [ev_i v1_] S1 Q
    refine ev_pop dX9_fastestPass_102 rfl ?_
    refine ev_iconst (0) dX9_fastestPass_103 rfl ?_
    refine ev_istore dX9_fastestPass_104 (Nat.le_of_ble_eq_true rfl) (ev_hw rfl) ?_
    show ev_E g m_X9_fastestPass 5 0 106 [some (ev_o 9 a), none, some (ev_o 6 (a + 71)), some (ev_i u3), some (ev_i u4), some (ev_i u5), some (ev_i 0)] [] S1 Q
    exact hQ
set_option maxHeartbeats 4000000 in
set_option maxRecDepth 100000 in
theorem sg_X9_fastestPass_106 {g : ev_G} {S : ev_S} {Q : ev_O → ev_S → Prop} (a : Nat) (u3 : Int32) (u4 : Int32) (u5 : Int32) (u6 : Int32) (hQ : (u4 ≤ u6 → (
    ev_E g m_X9_fastestPass 5 0 80 [some (ev_o 9 a), none, some (ev_o 6 (a + 71)), some (ev_i u3), some (ev_i u4), some (ev_i (u5 + 1)), none] [] S Q)) ∧
  (¬ (u4 ≤ u6) → (
    ((j_at (S.1 (a + 81)) 84 (u3 + u6)) = 2 → (
      Q (.inl (some (ev_i u6))) S)) ∧
    (¬ ((j_at (S.1 (a + 81)) 84 (u3 + u6)) = 2) → (
      ev_E g m_X9_fastestPass 5 0 106 [some (ev_o 9 a), none, some (ev_o 6 (a + 71)), some (ev_i u3), some (ev_i u4), some (ev_i u5), some (ev_i (u6 + 1))] [] S Q))))) : ev_E g m_X9_fastestPass 5 0 106 [some (ev_o 9 a), none, some (ev_o 6 (a + 71)), some (ev_i u3), some (ev_i u4), some (ev_i u5), some (ev_i u6)] [] S Q := by
  refine ev_iload (u6) dX9_fastestPass_106 rfl ?_
  refine ev_iload (u4) dX9_fastestPass_108 rfl ?_
  refine ev_icmp_ge 134 dX9_fastestPass_110 (by decide) (fun c1 => ?_) (fun c1 => ?_)
  · replace hQ := hQ.1 c1
    refine ev_iinc u5 (1) dX9_fastestPass_134 rfl (by decide) (ev_hw rfl) ?_
    show ev_E g m_X9_fastestPass 5 0 137 [some (ev_o 9 a), none, some (ev_o 6 (a + 71)), some (ev_i u3), some (ev_i u4), some (ev_i (u5 + 1)), some (ev_i u6)] [] S Q
    refine ev_goto 80 dX9_fastestPass_137 (by decide) ?_
    refine ev_fgm [true, false, true, true, true, true, false] ?_
    exact hQ
  · replace hQ := hQ.2 c1
    refine ev_aload_n (ev_o 6 (a + 71)) dX9_fastestPass_113 rfl rfl ?_
    refine ev_iload_n (u3) dX9_fastestPass_114 rfl ?_
    refine ev_iload (u6) dX9_fastestPass_115 rfl ?_
    refine ev_iadd dX9_fastestPass_117 ?_
    refine ev_fV mv_X6_stateOf 2 6 [ev_i (u3 + u6)] [] dX9_fastestPass_118 kw_1536 rfl (by decide) rfl (by decide) (Nat.le_of_ble_eq_true rfl) (sp_X6_stateOf (a + 71) (u3 + u6)) ?_ rfl
    refine ev_iconst (2) dX9_fastestPass_121 rfl ?_
    refine ev_icmp_ne 128 dX9_fastestPass_122 (by decide) (fun c2 => ?_) (fun c2 => ?_)
    · replace hQ := hQ.2 c2
      refine ev_iinc u6 (1) dX9_fastestPass_128 rfl (by decide) (ev_hw rfl) ?_
      show ev_E g m_X9_fastestPass 5 0 131 [some (ev_o 9 a), none, some (ev_o 6 (a + 71)), some (ev_i u3), some (ev_i u4), some (ev_i u5), some (ev_i (u6 + 1))] [] S Q
      refine ev_goto 106 dX9_fastestPass_131 (by decide) ?_
      exact hQ
    · replace hQ := hQ.1 c2
      refine ev_iload (u6) dX9_fastestPass_125 rfl ?_
      exact ev_ireturn .int dX9_fastestPass_127 rfl rfl hQ
set_option maxHeartbeats 4000000 in
set_option maxRecDepth 100000 in
theorem sg_X9_refuse_0 {g : ev_G} {S : ev_S} {Q : ev_O → ev_S → Prop} (x0 : Int32) (hQ : (x0 = 1 → (
    Q (.inr 0) S)) ∧
  (¬ (x0 = 1) → (
    (x0 = 2 → (
      Q (.inr 1) S)) ∧
    (¬ (x0 = 2) → (
      (x0 = 3 → (
        Q (.inr 2) S)) ∧
      (¬ (x0 = 3) → (
        Q (.inl none) S))))))) : ev_Cv g m_X9_refuse 1 1 [ev_i x0] S Q := by
  refine ev_enter (by decide) rfl rfl (Nat.le_of_ble_eq_true rfl) ?_
  show ev_E g m_X9_refuse 1 1 0 [some (ev_i x0)] [] S Q
  refine ev_iload_n (x0) dX9_refuse_0 rfl ?_
  refine ev_iconst (1) dX9_refuse_1 rfl ?_
  refine ev_icmp_ne 16 dX9_refuse_2 (by decide) (fun c1 => ?_) (fun c1 => ?_)
  · replace hQ := hQ.2 c1
    refine ev_iload_n (x0) dX9_refuse_16 rfl ?_
    refine ev_iconst (2) dX9_refuse_17 rfl ?_
    refine ev_icmp_ne 32 dX9_refuse_18 (by decide) (fun c2 => ?_) (fun c2 => ?_)
    · replace hQ := hQ.2 c2
      refine ev_iload_n (x0) dX9_refuse_32 rfl ?_
      refine ev_iconst (3) dX9_refuse_33 rfl ?_
      refine ev_icmp_ne 48 dX9_refuse_34 (by decide) (fun c3 => ?_) (fun c3 => ?_)
      · replace hQ := hQ.2 c3
        exact ev_return dX9_refuse_48 rfl hQ
      · replace hQ := hQ.1 c3
        exact ev_throwW 2 98 384 102 24 "this is not allowed" (by decide) (by decide) rfl (by decide) kw_1313 kw_131 (List.mem_of_getElem? (i := 24) rfl) at_X9_102 dX9_refuse_37 dX9_refuse_40 dX9_refuse_41 dX9_refuse_44 dX9_refuse_47 (Nat.le_of_ble_eq_true rfl) hQ
    · replace hQ := hQ.1 c2
      exact ev_throwW 1 88 382 92 23 "this is not possible now" (by decide) (by decide) rfl (by decide) kw_1233 kw_130 (List.mem_of_getElem? (i := 23) rfl) at_X9_92 dX9_refuse_21 dX9_refuse_24 dX9_refuse_25 dX9_refuse_28 dX9_refuse_31 (Nat.le_of_ble_eq_true rfl) hQ
  · replace hQ := hQ.1 c1
    exact ev_throwW 0 377 379 381 21 "there is no such thing" (by decide) (by decide) rfl (by decide) kw_1346 kw_132 (List.mem_of_getElem? (i := 21) rfl) at_X9_381 dX9_refuse_5 dX9_refuse_8 dX9_refuse_9 dX9_refuse_12 dX9_refuse_15 (Nat.le_of_ble_eq_true rfl) hQ
set_option maxHeartbeats 4000000 in
set_option maxRecDepth 100000 in
theorem sg_X9_move_0 {g : ev_G} {S : ev_S} {Q : ev_O → ev_S → Prop} (a : Nat) (x0 : Int32) (x1 : Int32) (x2 : Int32) (x3 : Int32) (hQ : ev_Cv g m_X2_moveFault 5 0 [ev_o 2 (a + 11), ev_i x0, ev_i x1, ev_i x2, ev_i x3] S (fun o S1 => ∃ v1_ : Int32, o = .inl (some (ev_i v1_)) ∧ (
    (v1_ = 1 → (
      Q (.inr 0) S1)) ∧
    (¬ (v1_ = 1) → (
      (v1_ = 2 → (
        Q (.inr 1) S1)) ∧
      (¬ (v1_ = 2) → (
        (v1_ = 3 → (
          Q (.inr 2) S1)) ∧
        (¬ (v1_ = 3) → (
          ev_Cv g m_X3_remember 5 0 [ev_o 3 (a + 93), ev_o 2 (a + 11)] S1 (fun o S2 => o = .inl none ∧ (
            ev_Cv g m_X2_makeMove 5 0 [ev_o 2 (a + 11), ev_i x0, ev_i x1, ev_i x2, ev_i x3] S2 (fun o S3 => ∃ v3_ : Int32, o = .inl (some (ev_i v3_)) ∧ (
              Q (.inl (some (ev_i v3_))) S3))))))))))))) : ev_Cv g m_X9_move 6 1 [ev_o 9 a, ev_i x0, ev_i x1, ev_i x2, ev_i x3] S Q := by
  refine ev_enter (by decide) rfl rfl (Nat.le_of_ble_eq_true rfl) ?_
  show ev_E g m_X9_move 6 1 0 [some (ev_o 9 a), some (ev_i x0), some (ev_i x1), some (ev_i x2), some (ev_i x3)] [] S Q
  refine ev_aload_n (ev_o 9 a) dX9_move_0 rfl rfl ?_
  refine gf_9_3 dX9_move_1 kw_690 ?_
  refine ev_iload_n (x0) dX9_move_4 rfl ?_
  refine ev_iload_n (x1) dX9_move_5 rfl ?_
  refine ev_iload_n (x2) dX9_move_6 rfl ?_
  refine ev_iload (x3) dX9_move_7 rfl ?_
  refine ev_cV mv_X2_moveFault 5 0 2 [ev_i x0, ev_i x1, ev_i x2, ev_i x3] [] dX9_move_9 kw_847 rfl (by decide) rfl (by decide) (by decide) (Nat.le_of_ble_eq_true rfl) hQ ?_ rfl
  rintro o S1 ⟨v1_, rfl, hQ⟩
  show ev_E g m_X9_move 6 1 12 [some (ev_o 9 a), some (ev_i x0), some (ev_i x1), some (ev_i x2), some (ev_i x3)] [ev_i v1_] S1 Q
  refine ev_cS ms_X9_refuse 1 1 [ev_i v1_] [] dX9_move_12 kw_1629 rfl (by decide) (by decide) (Nat.le_of_ble_eq_true rfl) (Q' := fun o z => ev_After g m_X9_move 6 (1 - 1) 12 [some (ev_o 9 a), some (ev_i x0), some (ev_i x1), some (ev_i x2), some (ev_i x3)] [] z Q o) (sg_X9_refuse_0 v1_ ?_) (fun o z h => h) rfl
  refine ⟨fun c1 => ?_, fun c1 => ?_⟩
  · replace hQ := hQ.1 c1
    exact ev_T_out (by decide) rfl hQ
  · replace hQ := hQ.2 c1
    refine ⟨fun c2 => ?_, fun c2 => ?_⟩
    · replace hQ := hQ.1 c2
      exact ev_T_out (by decide) rfl hQ
    · replace hQ := hQ.2 c2
      refine ⟨fun c3 => ?_, fun c3 => ?_⟩
      · replace hQ := hQ.1 c3
        exact ev_T_out (by decide) rfl hQ
      · replace hQ := hQ.2 c3
        show ev_E g m_X9_move 6 0 15 [some (ev_o 9 a), some (ev_i x0), some (ev_i x1), some (ev_i x2), some (ev_i x3)] [] S1 Q
        refine ev_aload_n (ev_o 9 a) dX9_move_15 rfl rfl ?_
        refine gf_9_5 dX9_move_16 kw_692 ?_
        refine ev_aload_n (ev_o 9 a) dX9_move_19 rfl rfl ?_
        refine gf_9_3 dX9_move_20 kw_690 ?_
        refine ev_cV mv_X3_remember 5 0 3 [ev_o 2 (a + 11)] [] dX9_move_23 kw_811 rfl (by decide) rfl (by decide) (by decide) (Nat.le_of_ble_eq_true rfl) hQ ?_ rfl
        rintro o S2 ⟨rfl, hQ⟩
        show ev_E g m_X9_move 6 0 26 [some (ev_o 9 a), some (ev_i x0), some (ev_i x1), some (ev_i x2), some (ev_i x3)] [] S2 Q
        refine ev_aload_n (ev_o 9 a) dX9_move_26 rfl rfl ?_
        refine gf_9_3 dX9_move_27 kw_690 ?_
        refine ev_iload_n (x0) dX9_move_30 rfl ?_
        refine ev_iload_n (x1) dX9_move_31 rfl ?_
        refine ev_iload_n (x2) dX9_move_32 rfl ?_
        refine ev_iload (x3) dX9_move_33 rfl ?_
        refine ev_cV mv_X2_makeMove 5 0 2 [ev_i x0, ev_i x1, ev_i x2, ev_i x3] [] dX9_move_35 kw_897 rfl (by decide) rfl (by decide) (by decide) (Nat.le_of_ble_eq_true rfl) hQ ?_ rfl
        rintro o S3 ⟨v3_, rfl, hQ⟩
        show ev_E g m_X9_move 6 0 38 [some (ev_o 9 a), some (ev_i x0), some (ev_i x1), some (ev_i x2), some (ev_i x3)] [ev_i v3_] S3 Q
        exact ev_ireturn .int dX9_move_38 rfl rfl hQ
set_option maxHeartbeats 4000000 in
set_option maxRecDepth 100000 in
theorem sg_X9_promise_0 {g : ev_G} {S : ev_S} {Q : ev_O → ev_S → Prop} (a : Nat) (x0 : Int32) (x1 : Int32) (x2 : Int32) (x3 : Int32) (x4 : Int32) (x5 : Int32) (hQ : ev_Cv g m_X2_promiseFault 5 0 [ev_o 2 (a + 11), ev_i x0, ev_i x1, ev_i x2, ev_i x3, ev_i x4, ev_i x5] S (fun o S1 => ∃ v1_ : Int32, o = .inl (some (ev_i v1_)) ∧ (
    (v1_ = 1 → (
      Q (.inr 0) S1)) ∧
    (¬ (v1_ = 1) → (
      (v1_ = 2 → (
        Q (.inr 1) S1)) ∧
      (¬ (v1_ = 2) → (
        (v1_ = 3 → (
          Q (.inr 2) S1)) ∧
        (¬ (v1_ = 3) → (
          ev_Cv g m_X3_remember 5 0 [ev_o 3 (a + 93), ev_o 2 (a + 11)] S1 (fun o S2 => o = .inl none ∧ (
            ev_Cv g m_X2_makePromise 4 0 [ev_o 2 (a + 11), ev_i x0, ev_i x1, ev_i ((x2 * 64) + x3), ev_i ((x4 * 64) + x5)] S2 (fun o S3 => ∃ v3_ : Int32, o = .inl (some (ev_i v3_)) ∧ (
              Q (.inl (some (ev_i v3_))) S3))))))))))))) : ev_Cv g m_X9_promise 6 1 [ev_o 9 a, ev_i x0, ev_i x1, ev_i x2, ev_i x3, ev_i x4, ev_i x5] S Q := by
  refine ev_enter (by decide) rfl rfl (Nat.le_of_ble_eq_true rfl) ?_
  show ev_E g m_X9_promise 6 1 0 [some (ev_o 9 a), some (ev_i x0), some (ev_i x1), some (ev_i x2), some (ev_i x3), some (ev_i x4), some (ev_i x5)] [] S Q
  refine ev_aload_n (ev_o 9 a) dX9_promise_0 rfl rfl ?_
  refine gf_9_3 dX9_promise_1 kw_690 ?_
  refine ev_iload_n (x0) dX9_promise_4 rfl ?_
  refine ev_iload_n (x1) dX9_promise_5 rfl ?_
  refine ev_iload_n (x2) dX9_promise_6 rfl ?_
  refine ev_iload (x3) dX9_promise_7 rfl ?_
  refine ev_iload (x4) dX9_promise_9 rfl ?_
  refine ev_iload (x5) dX9_promise_11 rfl ?_
  refine ev_cV mv_X2_promiseFault 5 0 2 [ev_i x0, ev_i x1, ev_i x2, ev_i x3, ev_i x4, ev_i x5] [] dX9_promise_13 kw_954 rfl (by decide) rfl (by decide) (by decide) (Nat.le_of_ble_eq_true rfl) hQ ?_ rfl
  rintro o S1 ⟨v1_, rfl, hQ⟩
  show ev_E g m_X9_promise 6 1 16 [some (ev_o 9 a), some (ev_i x0), some (ev_i x1), some (ev_i x2), some (ev_i x3), some (ev_i x4), some (ev_i x5)] [ev_i v1_] S1 Q
  refine ev_cS ms_X9_refuse 1 1 [ev_i v1_] [] dX9_promise_16 kw_1629 rfl (by decide) (by decide) (Nat.le_of_ble_eq_true rfl) (Q' := fun o z => ev_After g m_X9_promise 6 (1 - 1) 16 [some (ev_o 9 a), some (ev_i x0), some (ev_i x1), some (ev_i x2), some (ev_i x3), some (ev_i x4), some (ev_i x5)] [] z Q o) (sg_X9_refuse_0 v1_ ?_) (fun o z h => h) rfl
  refine ⟨fun c1 => ?_, fun c1 => ?_⟩
  · replace hQ := hQ.1 c1
    exact ev_T_out (by decide) rfl hQ
  · replace hQ := hQ.2 c1
    refine ⟨fun c2 => ?_, fun c2 => ?_⟩
    · replace hQ := hQ.1 c2
      exact ev_T_out (by decide) rfl hQ
    · replace hQ := hQ.2 c2
      refine ⟨fun c3 => ?_, fun c3 => ?_⟩
      · replace hQ := hQ.1 c3
        exact ev_T_out (by decide) rfl hQ
      · replace hQ := hQ.2 c3
        show ev_E g m_X9_promise 6 0 19 [some (ev_o 9 a), some (ev_i x0), some (ev_i x1), some (ev_i x2), some (ev_i x3), some (ev_i x4), some (ev_i x5)] [] S1 Q
        refine ev_aload_n (ev_o 9 a) dX9_promise_19 rfl rfl ?_
        refine gf_9_5 dX9_promise_20 kw_692 ?_
        refine ev_aload_n (ev_o 9 a) dX9_promise_23 rfl rfl ?_
        refine gf_9_3 dX9_promise_24 kw_690 ?_
        refine ev_cV mv_X3_remember 5 0 3 [ev_o 2 (a + 11)] [] dX9_promise_27 kw_811 rfl (by decide) rfl (by decide) (by decide) (Nat.le_of_ble_eq_true rfl) hQ ?_ rfl
        rintro o S2 ⟨rfl, hQ⟩
        show ev_E g m_X9_promise 6 0 30 [some (ev_o 9 a), some (ev_i x0), some (ev_i x1), some (ev_i x2), some (ev_i x3), some (ev_i x4), some (ev_i x5)] [] S2 Q
        refine ev_aload_n (ev_o 9 a) dX9_promise_30 rfl rfl ?_
        refine gf_9_3 dX9_promise_31 kw_690 ?_
        refine ev_iload_n (x0) dX9_promise_34 rfl ?_
        refine ev_iload_n (x1) dX9_promise_35 rfl ?_
        refine ev_iload_n (x2) dX9_promise_36 rfl ?_
        refine ev_iload (x3) dX9_promise_37 rfl ?_
        refine ev_fS ms_X9_moveOf 1 [ev_i x2, ev_i x3] [ev_i x1, ev_i x0, ev_o 2 (a + 11)] dX9_promise_39 kw_962 rfl (by decide) (Nat.le_of_ble_eq_true rfl) (sp_X9_moveOf x2 x3) ?_ rfl
        refine ev_iload (x4) dX9_promise_42 rfl ?_
        refine ev_iload (x5) dX9_promise_44 rfl ?_
        refine ev_fS ms_X9_moveOf 1 [ev_i x4, ev_i x5] [ev_i ((x2 * 64) + x3), ev_i x1, ev_i x0, ev_o 2 (a + 11)] dX9_promise_46 kw_962 rfl (by decide) (Nat.le_of_ble_eq_true rfl) (sp_X9_moveOf x4 x5) ?_ rfl
        refine ev_cV mv_X2_makePromise 4 0 2 [ev_i x0, ev_i x1, ev_i ((x2 * 64) + x3), ev_i ((x4 * 64) + x5)] [] dX9_promise_49 kw_963 rfl (by decide) rfl (by decide) (by decide) (Nat.le_of_ble_eq_true rfl) hQ ?_ rfl
        rintro o S3 ⟨v3_, rfl, hQ⟩
        show ev_E g m_X9_promise 6 0 52 [some (ev_o 9 a), some (ev_i x0), some (ev_i x1), some (ev_i x2), some (ev_i x3), some (ev_i x4), some (ev_i x5)] [ev_i v3_] S3 Q
        exact ev_ireturn .int dX9_promise_52 rfl rfl hQ
set_option maxHeartbeats 4000000 in
set_option maxRecDepth 100000 in
theorem sg_X9_resend_0 {g : ev_G} {S : ev_S} {Q : ev_O → ev_S → Prop} (a : Nat) (x0 : Int32) (x1 : Int32) (hQ : ((f_X2_copyFault S (a + 11) x0 x1) = 1 → (
    Q (.inr 0) S)) ∧
  (¬ ((f_X2_copyFault S (a + 11) x0 x1) = 1) → (
    ((f_X2_copyFault S (a + 11) x0 x1) = 2 → (
      Q (.inr 1) S)) ∧
    (¬ ((f_X2_copyFault S (a + 11) x0 x1) = 2) → (
      ((f_X2_copyFault S (a + 11) x0 x1) = 3 → (
        Q (.inr 2) S)) ∧
      (¬ ((f_X2_copyFault S (a + 11) x0 x1) = 3) → (
        ev_Cv g m_X3_remember 5 0 [ev_o 3 (a + 93), ev_o 2 (a + 11)] S (fun o S1 => o = .inl none ∧ (
          ev_Cv g m_X2_makeCopy 4 0 [ev_o 2 (a + 11), ev_i x0, ev_i x1] S1 (fun o S2 => ∃ v2_ : Int32, o = .inl (some (ev_i v2_)) ∧ (
            Q (.inl (some (ev_i v2_))) S2))))))))))) : ev_Cv g m_X9_resend 6 1 [ev_o 9 a, ev_i x0, ev_i x1] S Q := by
  refine ev_enter (by decide) rfl rfl (Nat.le_of_ble_eq_true rfl) ?_
  show ev_E g m_X9_resend 6 1 0 [some (ev_o 9 a), some (ev_i x0), some (ev_i x1)] [] S Q
  refine ev_aload_n (ev_o 9 a) dX9_resend_0 rfl rfl ?_
  refine gf_9_3 dX9_resend_1 kw_690 ?_
  refine ev_iload_n (x0) dX9_resend_4 rfl ?_
  refine ev_iload_n (x1) dX9_resend_5 rfl ?_
  refine ev_fV mv_X2_copyFault 3 2 [ev_i x0, ev_i x1] [] dX9_resend_6 kw_971 rfl (by decide) rfl (by decide) (Nat.le_of_ble_eq_true rfl) (sp_X2_copyFault (a + 11) x0 x1) ?_ rfl
  refine ev_cS ms_X9_refuse 1 1 [ev_i (f_X2_copyFault S (a + 11) x0 x1)] [] dX9_resend_9 kw_1629 rfl (by decide) (by decide) (Nat.le_of_ble_eq_true rfl) (Q' := fun o z => ev_After g m_X9_resend 6 (1 - 1) 9 [some (ev_o 9 a), some (ev_i x0), some (ev_i x1)] [] z Q o) (sg_X9_refuse_0 (f_X2_copyFault S (a + 11) x0 x1) ?_) (fun o z h => h) rfl
  refine ⟨fun c1 => ?_, fun c1 => ?_⟩
  · replace hQ := hQ.1 c1
    exact ev_T_out (by decide) rfl hQ
  · replace hQ := hQ.2 c1
    refine ⟨fun c2 => ?_, fun c2 => ?_⟩
    · replace hQ := hQ.1 c2
      exact ev_T_out (by decide) rfl hQ
    · replace hQ := hQ.2 c2
      refine ⟨fun c3 => ?_, fun c3 => ?_⟩
      · replace hQ := hQ.1 c3
        exact ev_T_out (by decide) rfl hQ
      · replace hQ := hQ.2 c3
        show ev_E g m_X9_resend 6 0 12 [some (ev_o 9 a), some (ev_i x0), some (ev_i x1)] [] S Q
        refine ev_aload_n (ev_o 9 a) dX9_resend_12 rfl rfl ?_
        refine gf_9_5 dX9_resend_13 kw_692 ?_
        refine ev_aload_n (ev_o 9 a) dX9_resend_16 rfl rfl ?_
        refine gf_9_3 dX9_resend_17 kw_690 ?_
        refine ev_cV mv_X3_remember 5 0 3 [ev_o 2 (a + 11)] [] dX9_resend_20 kw_811 rfl (by decide) rfl (by decide) (by decide) (Nat.le_of_ble_eq_true rfl) hQ ?_ rfl
        rintro o S1 ⟨rfl, hQ⟩
        show ev_E g m_X9_resend 6 0 23 [some (ev_o 9 a), some (ev_i x0), some (ev_i x1)] [] S1 Q
        refine ev_aload_n (ev_o 9 a) dX9_resend_23 rfl rfl ?_
        refine gf_9_3 dX9_resend_24 kw_690 ?_
        refine ev_iload_n (x0) dX9_resend_27 rfl ?_
        refine ev_iload_n (x1) dX9_resend_28 rfl ?_
        refine ev_cV mv_X2_makeCopy 4 0 2 [ev_i x0, ev_i x1] [] dX9_resend_29 kw_979 rfl (by decide) rfl (by decide) (by decide) (Nat.le_of_ble_eq_true rfl) hQ ?_ rfl
        rintro o S2 ⟨v2_, rfl, hQ⟩
        show ev_E g m_X9_resend 6 0 32 [some (ev_o 9 a), some (ev_i x0), some (ev_i x1)] [ev_i v2_] S2 Q
        exact ev_ireturn .int dX9_resend_32 rfl rfl hQ
set_option maxHeartbeats 4000000 in
set_option maxRecDepth 100000 in
theorem sg_X9_advance_0 {g : ev_G} {S : ev_S} {Q : ev_O → ev_S → Prop} (a : Nat) (x0 : Int32) (hQ : ((f_X2_daysFault S (a + 11) x0) = 1 → (
    Q (.inr 0) S)) ∧
  (¬ ((f_X2_daysFault S (a + 11) x0) = 1) → (
    ((f_X2_daysFault S (a + 11) x0) = 2 → (
      Q (.inr 1) S)) ∧
    (¬ ((f_X2_daysFault S (a + 11) x0) = 2) → (
      ((f_X2_daysFault S (a + 11) x0) = 3 → (
        Q (.inr 2) S)) ∧
      (¬ ((f_X2_daysFault S (a + 11) x0) = 3) → (
        ev_Cv g m_X3_remember 5 0 [ev_o 3 (a + 93), ev_o 2 (a + 11)] S (fun o S1 => o = .inl none ∧ (
          ev_Cv g m_X2_letDaysPass 6 0 [ev_o 2 (a + 11), ev_i x0] S1 (fun o S2 => ∃ v2_ : Int32, o = .inl (some (ev_i v2_)) ∧ (
            Q (.inl (some (ev_i v2_))) S2))))))))))) : ev_Cv g m_X9_advance 7 1 [ev_o 9 a, ev_i x0] S Q := by
  refine ev_enter (by decide) rfl rfl (Nat.le_of_ble_eq_true rfl) ?_
  show ev_E g m_X9_advance 7 1 0 [some (ev_o 9 a), some (ev_i x0)] [] S Q
  refine ev_aload_n (ev_o 9 a) dX9_advance_0 rfl rfl ?_
  refine gf_9_3 dX9_advance_1 kw_690 ?_
  refine ev_iload_n (x0) dX9_advance_4 rfl ?_
  refine ev_fV mv_X2_daysFault 1 2 [ev_i x0] [] dX9_advance_5 kw_999 rfl (by decide) rfl (by decide) (Nat.le_of_ble_eq_true rfl) (sp_X2_daysFault (a + 11) x0) ?_ rfl
  refine ev_cS ms_X9_refuse 1 1 [ev_i (f_X2_daysFault S (a + 11) x0)] [] dX9_advance_8 kw_1629 rfl (by decide) (by decide) (Nat.le_of_ble_eq_true rfl) (Q' := fun o z => ev_After g m_X9_advance 7 (1 - 1) 8 [some (ev_o 9 a), some (ev_i x0)] [] z Q o) (sg_X9_refuse_0 (f_X2_daysFault S (a + 11) x0) ?_) (fun o z h => h) rfl
  refine ⟨fun c1 => ?_, fun c1 => ?_⟩
  · replace hQ := hQ.1 c1
    exact ev_T_out (by decide) rfl hQ
  · replace hQ := hQ.2 c1
    refine ⟨fun c2 => ?_, fun c2 => ?_⟩
    · replace hQ := hQ.1 c2
      exact ev_T_out (by decide) rfl hQ
    · replace hQ := hQ.2 c2
      refine ⟨fun c3 => ?_, fun c3 => ?_⟩
      · replace hQ := hQ.1 c3
        exact ev_T_out (by decide) rfl hQ
      · replace hQ := hQ.2 c3
        show ev_E g m_X9_advance 7 0 11 [some (ev_o 9 a), some (ev_i x0)] [] S Q
        refine ev_aload_n (ev_o 9 a) dX9_advance_11 rfl rfl ?_
        refine gf_9_5 dX9_advance_12 kw_692 ?_
        refine ev_aload_n (ev_o 9 a) dX9_advance_15 rfl rfl ?_
        refine gf_9_3 dX9_advance_16 kw_690 ?_
        refine ev_cV mv_X3_remember 5 0 3 [ev_o 2 (a + 11)] [] dX9_advance_19 kw_811 rfl (by decide) rfl (by decide) (by decide) (Nat.le_of_ble_eq_true rfl) hQ ?_ rfl
        rintro o S1 ⟨rfl, hQ⟩
        show ev_E g m_X9_advance 7 0 22 [some (ev_o 9 a), some (ev_i x0)] [] S1 Q
        refine ev_aload_n (ev_o 9 a) dX9_advance_22 rfl rfl ?_
        refine gf_9_3 dX9_advance_23 kw_690 ?_
        refine ev_iload_n (x0) dX9_advance_26 rfl ?_
        refine ev_cV mv_X2_letDaysPass 6 0 2 [ev_i x0] [] dX9_advance_27 kw_1003 rfl (by decide) rfl (by decide) (by decide) (Nat.le_of_ble_eq_true rfl) hQ ?_ rfl
        rintro o S2 ⟨v2_, rfl, hQ⟩
        show ev_E g m_X9_advance 7 0 30 [some (ev_o 9 a), some (ev_i x0)] [ev_i v2_] S2 Q
        exact ev_ireturn .int dX9_advance_30 rfl rfl hQ
set_option maxHeartbeats 4000000 in
set_option maxRecDepth 100000 in
theorem sg_X9_addMule_0 {g : ev_G} {S : ev_S} {Q : ev_O → ev_S → Prop} (a : Nat) (x0 : Int32) (x1 : Int32) (hQ : ((f_X2_muleFault S (a + 11) x0 x1) = 1 → (
    Q (.inr 0) S)) ∧
  (¬ ((f_X2_muleFault S (a + 11) x0 x1) = 1) → (
    ((f_X2_muleFault S (a + 11) x0 x1) = 2 → (
      Q (.inr 1) S)) ∧
    (¬ ((f_X2_muleFault S (a + 11) x0 x1) = 2) → (
      ((f_X2_muleFault S (a + 11) x0 x1) = 3 → (
        Q (.inr 2) S)) ∧
      (¬ ((f_X2_muleFault S (a + 11) x0 x1) = 3) → (
        ev_Cv g m_X3_remember 5 0 [ev_o 3 (a + 93), ev_o 2 (a + 11)] S (fun o S1 => o = .inl none ∧ (
          ∀ S2 : ev_S, S2 = (j_put (ev_up S1 (a + 31) 4 ((S1.1 (a + 31) 4) + 1)) (a + 34) 8 ((x0 * 2) + x1) ((j_at ((ev_up S1 (a + 31) 4 ((S1.1 (a + 31) 4) + 1)).1 (a + 34)) 8 ((x0 * 2) + x1)) + 1)) → (
            Q (.inl (some (ev_i (j_at ((j_put (ev_up S1 (a + 31) 4 ((S1.1 (a + 31) 4) + 1)) (a + 34) 8 ((x0 * 2) + x1) ((j_at ((ev_up S1 (a + 31) 4 ((S1.1 (a + 31) 4) + 1)).1 (a + 34)) 8 ((x0 * 2) + x1)) + 1)).1 (a + 34)) 8 ((x0 * 2) + x1))))) S2)))))))))) : ev_Cv g m_X9_addMule 6 1 [ev_o 9 a, ev_i x0, ev_i x1] S Q := by
  refine ev_enter (by decide) rfl rfl (Nat.le_of_ble_eq_true rfl) ?_
  show ev_E g m_X9_addMule 6 1 0 [some (ev_o 9 a), some (ev_i x0), some (ev_i x1)] [] S Q
  refine ev_aload_n (ev_o 9 a) dX9_addMule_0 rfl rfl ?_
  refine gf_9_3 dX9_addMule_1 kw_690 ?_
  refine ev_iload_n (x0) dX9_addMule_4 rfl ?_
  refine ev_iload_n (x1) dX9_addMule_5 rfl ?_
  refine ev_fV mv_X2_muleFault 3 2 [ev_i x0, ev_i x1] [] dX9_addMule_6 kw_1065 rfl (by decide) rfl (by decide) (Nat.le_of_ble_eq_true rfl) (sp_X2_muleFault (a + 11) x0 x1) ?_ rfl
  refine ev_cS ms_X9_refuse 1 1 [ev_i (f_X2_muleFault S (a + 11) x0 x1)] [] dX9_addMule_9 kw_1629 rfl (by decide) (by decide) (Nat.le_of_ble_eq_true rfl) (Q' := fun o z => ev_After g m_X9_addMule 6 (1 - 1) 9 [some (ev_o 9 a), some (ev_i x0), some (ev_i x1)] [] z Q o) (sg_X9_refuse_0 (f_X2_muleFault S (a + 11) x0 x1) ?_) (fun o z h => h) rfl
  refine ⟨fun c1 => ?_, fun c1 => ?_⟩
  · replace hQ := hQ.1 c1
    exact ev_T_out (by decide) rfl hQ
  · replace hQ := hQ.2 c1
    refine ⟨fun c2 => ?_, fun c2 => ?_⟩
    · replace hQ := hQ.1 c2
      exact ev_T_out (by decide) rfl hQ
    · replace hQ := hQ.2 c2
      refine ⟨fun c3 => ?_, fun c3 => ?_⟩
      · replace hQ := hQ.1 c3
        exact ev_T_out (by decide) rfl hQ
      · replace hQ := hQ.2 c3
        show ev_E g m_X9_addMule 6 0 12 [some (ev_o 9 a), some (ev_i x0), some (ev_i x1)] [] S Q
        refine ev_aload_n (ev_o 9 a) dX9_addMule_12 rfl rfl ?_
        refine gf_9_5 dX9_addMule_13 kw_692 ?_
        refine ev_aload_n (ev_o 9 a) dX9_addMule_16 rfl rfl ?_
        refine gf_9_3 dX9_addMule_17 kw_690 ?_
        refine ev_cV mv_X3_remember 5 0 3 [ev_o 2 (a + 11)] [] dX9_addMule_20 kw_811 rfl (by decide) rfl (by decide) (by decide) (Nat.le_of_ble_eq_true rfl) hQ ?_ rfl
        rintro o S1 ⟨rfl, hQ⟩
        show ev_E g m_X9_addMule 6 0 23 [some (ev_o 9 a), some (ev_i x0), some (ev_i x1)] [] S1 Q
        refine ev_aload_n (ev_o 9 a) dX9_addMule_23 rfl rfl ?_
        refine gf_9_3 dX9_addMule_24 kw_690 ?_
        refine ev_fV mv_X2_passes 2 2 [] [] dX9_addMule_27 kw_616 rfl (by decide) rfl (by decide) (Nat.le_of_ble_eq_true rfl) (sp_X2_passes (a + 11)) ?_ rfl
        refine ev_iload_n (x0) dX9_addMule_30 rfl ?_
        refine ev_iload_n (x1) dX9_addMule_31 rfl ?_
        refine ev_fV mv_X5_bringMule 3 5 [ev_i x0, ev_i x1] [] dX9_addMule_32 kw_1070 rfl (by decide) rfl (by decide) (Nat.le_of_ble_eq_true rfl) (sp_X5_bringMule (a + 31) x0 x1) ?_ rfl
        refine ev_sub hQ (fun S2 hS2 hQ => ?_)
        refine ev_E.goal (pc' := 35) (L' := [some (ev_o 9 a), some (ev_i x0), some (ev_i x1)]) (K' := [ev_i (j_at ((j_put (ev_up S1 (a + 31) 4 ((S1.1 (a + 31) 4) + 1)) (a + 34) 8 ((x0 * 2) + x1) ((j_at ((ev_up S1 (a + 31) 4 ((S1.1 (a + 31) 4) + 1)).1 (a + 34)) 8 ((x0 * 2) + x1)) + 1)).1 (a + 34)) 8 ((x0 * 2) + x1))]) (S' := S2) ?_ rfl rfl rfl hS2
        exact ev_ireturn .int dX9_addMule_35 rfl rfl hQ
set_option maxHeartbeats 4000000 in
set_option maxRecDepth 100000 in
theorem sg_X9_setSnow_0 {g : ev_G} {S : ev_S} {Q : ev_O → ev_S → Prop} (a : Nat) (x0 : Int32) (x1 : Int32) (x2 : Int32) (hQ : ((f_X2_snowFault S (a + 11) x0 x1 x2) = 1 → (
    Q (.inr 0) S)) ∧
  (¬ ((f_X2_snowFault S (a + 11) x0 x1 x2) = 1) → (
    ((f_X2_snowFault S (a + 11) x0 x1 x2) = 2 → (
      Q (.inr 1) S)) ∧
    (¬ ((f_X2_snowFault S (a + 11) x0 x1 x2) = 2) → (
      ((f_X2_snowFault S (a + 11) x0 x1 x2) = 3 → (
        Q (.inr 2) S)) ∧
      (¬ ((f_X2_snowFault S (a + 11) x0 x1 x2) = 3) → (
        ev_Cv g m_X3_remember 5 0 [ev_o 3 (a + 93), ev_o 2 (a + 11)] S (fun o S1 => o = .inl none ∧ (
          ∀ S2 : ev_S, S2 = (j_put S1 (a + 33) 48 ((x0 * 12) + x1) x2) → (
            Q (.inl (some (ev_i (j_at (S1.1 (a + 33)) 48 ((x0 * 12) + x1))))) S2)))))))))) : ev_Cv g m_X9_setSnow 6 1 [ev_o 9 a, ev_i x0, ev_i x1, ev_i x2] S Q := by
  refine ev_enter (by decide) rfl rfl (Nat.le_of_ble_eq_true rfl) ?_
  show ev_E g m_X9_setSnow 6 1 0 [some (ev_o 9 a), some (ev_i x0), some (ev_i x1), some (ev_i x2)] [] S Q
  refine ev_aload_n (ev_o 9 a) dX9_setSnow_0 rfl rfl ?_
  refine gf_9_3 dX9_setSnow_1 kw_690 ?_
  refine ev_iload_n (x0) dX9_setSnow_4 rfl ?_
  refine ev_iload_n (x1) dX9_setSnow_5 rfl ?_
  refine ev_iload_n (x2) dX9_setSnow_6 rfl ?_
  refine ev_fV mv_X2_snowFault 3 2 [ev_i x0, ev_i x1, ev_i x2] [] dX9_setSnow_7 kw_1076 rfl (by decide) rfl (by decide) (Nat.le_of_ble_eq_true rfl) (sp_X2_snowFault (a + 11) x0 x1 x2) ?_ rfl
  refine ev_cS ms_X9_refuse 1 1 [ev_i (f_X2_snowFault S (a + 11) x0 x1 x2)] [] dX9_setSnow_10 kw_1629 rfl (by decide) (by decide) (Nat.le_of_ble_eq_true rfl) (Q' := fun o z => ev_After g m_X9_setSnow 6 (1 - 1) 10 [some (ev_o 9 a), some (ev_i x0), some (ev_i x1), some (ev_i x2)] [] z Q o) (sg_X9_refuse_0 (f_X2_snowFault S (a + 11) x0 x1 x2) ?_) (fun o z h => h) rfl
  refine ⟨fun c1 => ?_, fun c1 => ?_⟩
  · replace hQ := hQ.1 c1
    exact ev_T_out (by decide) rfl hQ
  · replace hQ := hQ.2 c1
    refine ⟨fun c2 => ?_, fun c2 => ?_⟩
    · replace hQ := hQ.1 c2
      exact ev_T_out (by decide) rfl hQ
    · replace hQ := hQ.2 c2
      refine ⟨fun c3 => ?_, fun c3 => ?_⟩
      · replace hQ := hQ.1 c3
        exact ev_T_out (by decide) rfl hQ
      · replace hQ := hQ.2 c3
        show ev_E g m_X9_setSnow 6 0 13 [some (ev_o 9 a), some (ev_i x0), some (ev_i x1), some (ev_i x2)] [] S Q
        refine ev_aload_n (ev_o 9 a) dX9_setSnow_13 rfl rfl ?_
        refine gf_9_5 dX9_setSnow_14 kw_692 ?_
        refine ev_aload_n (ev_o 9 a) dX9_setSnow_17 rfl rfl ?_
        refine gf_9_3 dX9_setSnow_18 kw_690 ?_
        refine ev_cV mv_X3_remember 5 0 3 [ev_o 2 (a + 11)] [] dX9_setSnow_21 kw_811 rfl (by decide) rfl (by decide) (by decide) (Nat.le_of_ble_eq_true rfl) hQ ?_ rfl
        rintro o S1 ⟨rfl, hQ⟩
        show ev_E g m_X9_setSnow 6 0 24 [some (ev_o 9 a), some (ev_i x0), some (ev_i x1), some (ev_i x2)] [] S1 Q
        refine ev_aload_n (ev_o 9 a) dX9_setSnow_24 rfl rfl ?_
        refine gf_9_3 dX9_setSnow_25 kw_690 ?_
        refine ev_fV mv_X2_passes 2 2 [] [] dX9_setSnow_28 kw_616 rfl (by decide) rfl (by decide) (Nat.le_of_ble_eq_true rfl) (sp_X2_passes (a + 11)) ?_ rfl
        refine ev_iload_n (x0) dX9_setSnow_31 rfl ?_
        refine ev_iload_n (x1) dX9_setSnow_32 rfl ?_
        refine ev_iload_n (x2) dX9_setSnow_33 rfl ?_
        refine ev_fV mv_X5_changeSnow 3 5 [ev_i x0, ev_i x1, ev_i x2] [] dX9_setSnow_34 kw_640 rfl (by decide) rfl (by decide) (Nat.le_of_ble_eq_true rfl) (sp_X5_changeSnow (a + 31) x0 x1 x2) ?_ rfl
        refine ev_sub hQ (fun S2 hS2 hQ => ?_)
        refine ev_E.goal (pc' := 37) (L' := [some (ev_o 9 a), some (ev_i x0), some (ev_i x1), some (ev_i x2)]) (K' := [ev_i (j_at (S1.1 (a + 33)) 48 ((x0 * 12) + x1))]) (S' := S2) ?_ rfl rfl rfl hS2
        exact ev_ireturn .int dX9_setSnow_37 rfl rfl hQ
set_option maxHeartbeats 4000000 in
set_option maxRecDepth 100000 in
theorem sg_X4_add_0 {g : ev_G} {S : ev_S} {Q : ev_O → ev_S → Prop} (a : Nat) (x0 : Int32) (hQ : ∀ S1 : ev_S, S1 = (j_put S (a + 1) 400 (S.1 a 1) x0) → (
    ∀ S2 : ev_S, S2 = (ev_up S1 a 1 ((S1.1 a 1) + 1)) → (
      Q (.inl none) S2))) : ev_Cv g m_X4_add 2 0 [ev_o 4 a, ev_i x0] S Q := by
  refine ev_enter (by decide) rfl rfl (Nat.le_of_ble_eq_true rfl) ?_
  show ev_E g m_X4_add 2 0 0 [some (ev_o 4 a), some (ev_i x0)] [] S Q
  refine ev_aload_n (ev_o 4 a) dX4_add_0 rfl rfl ?_
  refine gf_4_0 dX4_add_1 kw_214 ?_
  refine ev_aload_n (ev_o 4 a) dX4_add_4 rfl rfl ?_
  refine gf_4_1 dX4_add_5 kw_215 ?_
  refine ev_iload_n (x0) dX4_add_8 rfl ?_
  refine ev_fNn ms_X9_put 1 [ev_y 400 (a + 1), ev_i (S.1 a 1), ev_i x0] [] dX4_add_9 (List.mem_of_getElem? (i := 33) rfl) rfl (by decide) (Nat.le_of_ble_eq_true rfl) (sp_X9_put 400 (a + 1) (S.1 a 1) x0) ?_ rfl
  refine ev_sub hQ (fun S1 hS1 hQ => ?_)
  refine ev_E.goal (pc' := 12) (L' := [some (ev_o 4 a), some (ev_i x0)]) (K' := []) (S' := S1) ?_ rfl rfl rfl hS1
  refine ev_aload_n (ev_o 4 a) dX4_add_12 rfl rfl ?_
  refine ev_dup dX4_add_13 rfl ?_
  refine gf_4_1 dX4_add_14 kw_215 ?_
  refine ev_iconst (1) dX4_add_17 rfl ?_
  refine ev_iadd dX4_add_18 ?_
  refine pf_4_1 dX4_add_19 kw_215 ?_
  refine ev_sub hQ (fun S2 hS2 hQ => ?_)
  refine ev_E.goal (pc' := 22) (L' := [some (ev_o 4 a), some (ev_i x0)]) (K' := []) (S' := S2) ?_ rfl rfl rfl hS2
  exact ev_return dX4_add_22 rfl hQ
set_option maxHeartbeats 4000000 in
set_option maxRecDepth 100000 in
theorem sp_X4_add {g : ev_G} {S : ev_S} (a : Nat) (x0 : Int32)  : ev_Fn g m_X4_add 2 [ev_o 4 a, ev_i x0] S none (ev_up (j_put S (a + 1) 400 (S.1 a 1) x0) a 1 (((j_put S (a + 1) 400 (S.1 a 1) x0).1 a 1) + 1)) := by
  intro Q hQ
  refine sg_X4_add_0 a x0 ?_
  intro S1 hS1
  intro S2 hS2
  subst hS2
  subst hS1
  exact hQ
set_option maxHeartbeats 4000000 in
set_option maxRecDepth 100000 in
theorem sg_X4_showBoard_0 {g : ev_G} {S : ev_S} {Q : ev_O → ev_S → Prop} (a : Nat) (b0 : Nat) (hQ : ∀ S1 : ev_S, S1 = (ev_up S a 1 0) → (
    ev_E g m_X4_showBoard 3 0 14 [some (ev_o 4 a), some (ev_o 0 b0), some (ev_i (S1.1 b0 4)), some (ev_i ((S1.1 b0 4) - 1)), none, none] [] S1 Q)) : ev_Cv g m_X4_showBoard 3 0 [ev_o 4 a, ev_o 0 b0] S Q := by
  refine ev_enter (by decide) rfl rfl (Nat.le_of_ble_eq_true rfl) ?_
  show ev_E g m_X4_showBoard 3 0 0 [some (ev_o 4 a), some (ev_o 0 b0), none, none, none, none] [] S Q
  refine ev_aload_n (ev_o 4 a) dX4_showBoard_0 rfl rfl ?_
  refine ev_iconst (0) dX4_showBoard_1 rfl ?_
  refine pf_4_1 dX4_showBoard_2 kw_215 ?_
  refine ev_sub hQ (fun S1 hS1 hQ => ?_)
  refine ev_E.goal (pc' := 5) (L' := [some (ev_o 4 a), some (ev_o 0 b0), none, none, none, none]) (K' := []) (S' := S1) ?_ rfl rfl rfl hS1
  refine ev_aload_n (ev_o 0 b0) dX4_showBoard_5 rfl rfl ?_
  refine ev_fV mv_X0_size 1 0 [] [] dX4_showBoard_6 kw_1680 rfl (by decide) rfl (by decide) (Nat.le_of_ble_eq_true rfl) (sp_X0_size b0) ?_ rfl
  refine ev_istore_n dX4_showBoard_9 (Nat.le_of_ble_eq_true rfl) (ev_hw rfl) ?_
  show ev_E g m_X4_showBoard 3 0 10 [some (ev_o 4 a), some (ev_o 0 b0), some (ev_i (S1.1 b0 4)), none, none, none] [] S1 Q
  refine ev_iload_n ((S1.1 b0 4)) dX4_showBoard_10 rfl ?_
  refine ev_iconst (1) dX4_showBoard_11 rfl ?_
  refine ev_isub dX4_showBoard_12 ?_
  refine ev_istore_n dX4_showBoard_13 (Nat.le_of_ble_eq_true rfl) (ev_hw rfl) ?_
  show ev_E g m_X4_showBoard 3 0 14 [some (ev_o 4 a), some (ev_o 0 b0), some (ev_i (S1.1 b0 4)), some (ev_i ((S1.1 b0 4) - 1)), none, none] [] S1 Q
  exact hQ
set_option maxHeartbeats 4000000 in
set_option maxRecDepth 100000 in
theorem sg_X4_showBoard_14 {g : ev_G} {S : ev_S} {Q : ev_O → ev_S → Prop} (a : Nat) (b0 : Nat) (u2 : Int32) (u3 : Int32) (hQ : (u3 < 0 → (
    Q (.inl none) S)) ∧
  (¬ (u3 < 0) → (
    ev_E g m_X4_showBoard 3 0 21 [some (ev_o 4 a), some (ev_o 0 b0), some (ev_i u2), some (ev_i u3), some (ev_i 0), none] [] S Q))) : ev_E g m_X4_showBoard 3 0 14 [some (ev_o 4 a), some (ev_o 0 b0), some (ev_i u2), some (ev_i u3), none, none] [] S Q := by
  refine ev_iload_n (u3) dX4_showBoard_14 rfl ?_
  refine ev_if_lt 88 dX4_showBoard_15 (by decide) (fun c1 => ?_) (fun c1 => ?_)
  · replace hQ := hQ.1 c1
    exact ev_return dX4_showBoard_88 rfl hQ
  · replace hQ := hQ.2 c1
    refine ev_iconst (0) dX4_showBoard_18 rfl ?_
    refine ev_istore dX4_showBoard_19 (Nat.le_of_ble_eq_true rfl) (ev_hw rfl) ?_
    show ev_E g m_X4_showBoard 3 0 21 [some (ev_o 4 a), some (ev_o 0 b0), some (ev_i u2), some (ev_i u3), some (ev_i 0), none] [] S Q
    exact hQ
set_option maxHeartbeats 4000000 in
set_option maxRecDepth 100000 in
theorem sg_X4_showBoard_21 {g : ev_G} {S : ev_S} {Q : ev_O → ev_S → Prop} (a : Nat) (b0 : Nat) (u2 : Int32) (u3 : Int32) (u4 : Int32) (hQ : (u2 ≤ u4 → (
    (u3 ≤ 0 → (
      ev_E g m_X4_showBoard 3 0 14 [some (ev_o 4 a), some (ev_o 0 b0), some (ev_i u2), some (ev_i (u3 + (-1))), none, none] [] S Q)) ∧
    (¬ (u3 ≤ 0) → (
      ∀ S1 : ev_S, S1 = (ev_up (j_put S (a + 1) 400 (S.1 a 1) 47) a 1 (((j_put S (a + 1) 400 (S.1 a 1) 47).1 a 1) + 1)) → (
        ev_E g m_X4_showBoard 3 0 14 [some (ev_o 4 a), some (ev_o 0 b0), some (ev_i u2), some (ev_i (u3 + (-1))), none, none] [] S1 Q))))) ∧
  (¬ (u2 ≤ u4) → (
    ((j_at (S.1 (b0 + 1)) 64 ((u3 * u2) + u4)) = (-1) → (
      ∀ S4 : ev_S, S4 = (ev_up (j_put S (a + 1) 400 (S.1 a 1) 46) a 1 (((j_put S (a + 1) 400 (S.1 a 1) 46).1 a 1) + 1)) → (
        ev_E g m_X4_showBoard 3 0 21 [some (ev_o 4 a), some (ev_o 0 b0), some (ev_i u2), some (ev_i u3), some (ev_i (u4 + 1)), none] [] S4 Q))) ∧
    (¬ ((j_at (S.1 (b0 + 1)) 64 ((u3 * u2) + u4)) = (-1)) → (
      ((j_at (S.1 (b0 + 1)) 64 ((u3 * u2) + u4)) = 0 → (
        ∀ S3 : ev_S, S3 = (ev_up (j_put S (a + 1) 400 (S.1 a 1) 119) a 1 (((j_put S (a + 1) 400 (S.1 a 1) 119).1 a 1) + 1)) → (
          ev_E g m_X4_showBoard 3 0 21 [some (ev_o 4 a), some (ev_o 0 b0), some (ev_i u2), some (ev_i u3), some (ev_i (u4 + 1)), none] [] S3 Q))) ∧
      (¬ ((j_at (S.1 (b0 + 1)) 64 ((u3 * u2) + u4)) = 0) → (
        ∀ S2 : ev_S, S2 = (ev_up (j_put S (a + 1) 400 (S.1 a 1) 98) a 1 (((j_put S (a + 1) 400 (S.1 a 1) 98).1 a 1) + 1)) → (
          ev_E g m_X4_showBoard 3 0 21 [some (ev_o 4 a), some (ev_o 0 b0), some (ev_i u2), some (ev_i u3), some (ev_i (u4 + 1)), none] [] S2 Q)))))))) : ev_E g m_X4_showBoard 3 0 21 [some (ev_o 4 a), some (ev_o 0 b0), some (ev_i u2), some (ev_i u3), some (ev_i u4), none] [] S Q := by
  refine ev_iload (u4) dX4_showBoard_21 rfl ?_
  refine ev_iload_n (u2) dX4_showBoard_23 rfl ?_
  refine ev_icmp_ge 72 dX4_showBoard_24 (by decide) (fun c1 => ?_) (fun c1 => ?_)
  · replace hQ := hQ.1 c1
    refine ev_iload_n (u3) dX4_showBoard_72 rfl ?_
    refine ev_if_le 82 dX4_showBoard_73 (by decide) (fun c2 => ?_) (fun c2 => ?_)
    · replace hQ := hQ.1 c2
      refine ev_iinc u3 (-1) dX4_showBoard_82 rfl (by decide) (ev_hw rfl) ?_
      show ev_E g m_X4_showBoard 3 0 85 [some (ev_o 4 a), some (ev_o 0 b0), some (ev_i u2), some (ev_i (u3 + (-1))), some (ev_i u4), none] [] S Q
      refine ev_goto 14 dX4_showBoard_85 (by decide) ?_
      refine ev_fgm [true, true, true, true, false, false] ?_
      exact hQ
    · replace hQ := hQ.2 c2
      refine ev_aload_n (ev_o 4 a) dX4_showBoard_76 rfl rfl ?_
      refine ev_bipush (47) dX4_showBoard_77 (by decide) ?_
      refine ev_fVn mv_X4_add 2 4 [ev_i 47] [] dX4_showBoard_79 kw_1682 rfl (by decide) rfl (by decide) (Nat.le_of_ble_eq_true rfl) (sp_X4_add a 47) ?_ rfl
      refine ev_sub hQ (fun S1 hS1 hQ => ?_)
      refine ev_E.goal (pc' := 82) (L' := [some (ev_o 4 a), some (ev_o 0 b0), some (ev_i u2), some (ev_i u3), some (ev_i u4), none]) (K' := []) (S' := S1) ?_ rfl rfl rfl hS1
      refine ev_iinc u3 (-1) dX4_showBoard_82 rfl (by decide) (ev_hw rfl) ?_
      show ev_E g m_X4_showBoard 3 0 85 [some (ev_o 4 a), some (ev_o 0 b0), some (ev_i u2), some (ev_i (u3 + (-1))), some (ev_i u4), none] [] S1 Q
      refine ev_goto 14 dX4_showBoard_85 (by decide) ?_
      refine ev_fgm [true, true, true, true, false, false] ?_
      exact hQ
  · replace hQ := hQ.2 c1
    refine ev_aload_n (ev_o 0 b0) dX4_showBoard_27 rfl rfl ?_
    refine ev_iload_n (u3) dX4_showBoard_28 rfl ?_
    refine ev_iload_n (u2) dX4_showBoard_29 rfl ?_
    refine ev_imul dX4_showBoard_30 ?_
    refine ev_iload (u4) dX4_showBoard_31 rfl ?_
    refine ev_iadd dX4_showBoard_33 ?_
    refine ev_fV mv_X0_ownerOn 2 0 [ev_i ((u3 * u2) + u4)] [] dX4_showBoard_34 kw_1681 rfl (by decide) rfl (by decide) (Nat.le_of_ble_eq_true rfl) (sp_X0_ownerOn b0 ((u3 * u2) + u4)) ?_ rfl
    refine ev_istore dX4_showBoard_37 (Nat.le_of_ble_eq_true rfl) (ev_hw rfl) ?_
    show ev_E g m_X4_showBoard 3 0 39 [some (ev_o 4 a), some (ev_o 0 b0), some (ev_i u2), some (ev_i u3), some (ev_i u4), some (ev_i (j_at (S.1 (b0 + 1)) 64 ((u3 * u2) + u4)))] [] S Q
    refine ev_aload_n (ev_o 4 a) dX4_showBoard_39 rfl rfl ?_
    refine ev_iload ((j_at (S.1 (b0 + 1)) 64 ((u3 * u2) + u4))) dX4_showBoard_40 rfl ?_
    refine ev_iconst (-1) dX4_showBoard_42 rfl ?_
    refine ev_icmp_ne 51 dX4_showBoard_43 (by decide) (fun c3 => ?_) (fun c3 => ?_)
    · replace hQ := hQ.2 c3
      refine ev_iload ((j_at (S.1 (b0 + 1)) 64 ((u3 * u2) + u4))) dX4_showBoard_51 rfl ?_
      refine ev_if_ne 61 dX4_showBoard_53 (by decide) (fun c4 => ?_) (fun c4 => ?_)
      · replace hQ := hQ.2 c4
        refine ev_bipush (98) dX4_showBoard_61 (by decide) ?_
        refine ev_fVn mv_X4_add 2 4 [ev_i 98] [] dX4_showBoard_63 kw_1682 rfl (by decide) rfl (by decide) (Nat.le_of_ble_eq_true rfl) (sp_X4_add a 98) ?_ rfl
        refine ev_sub hQ (fun S2 hS2 hQ => ?_)
        refine ev_E.goal (pc' := 66) (L' := [some (ev_o 4 a), some (ev_o 0 b0), some (ev_i u2), some (ev_i u3), some (ev_i u4), some (ev_i (j_at (S.1 (b0 + 1)) 64 ((u3 * u2) + u4)))]) (K' := []) (S' := S2) ?_ rfl rfl rfl hS2
        refine ev_iinc u4 (1) dX4_showBoard_66 rfl (by decide) (ev_hw rfl) ?_
        show ev_E g m_X4_showBoard 3 0 69 [some (ev_o 4 a), some (ev_o 0 b0), some (ev_i u2), some (ev_i u3), some (ev_i (u4 + 1)), some (ev_i (j_at (S.1 (b0 + 1)) 64 ((u3 * u2) + u4)))] [] S2 Q
        refine ev_goto 21 dX4_showBoard_69 (by decide) ?_
        refine ev_fgm [true, true, true, true, true, false] ?_
        exact hQ
      · replace hQ := hQ.1 c4
        refine ev_bipush (119) dX4_showBoard_56 (by decide) ?_
        refine ev_goto 63 dX4_showBoard_58 (by decide) ?_
        refine ev_fVn mv_X4_add 2 4 [ev_i 119] [] dX4_showBoard_63 kw_1682 rfl (by decide) rfl (by decide) (Nat.le_of_ble_eq_true rfl) (sp_X4_add a 119) ?_ rfl
        refine ev_sub hQ (fun S3 hS3 hQ => ?_)
        refine ev_E.goal (pc' := 66) (L' := [some (ev_o 4 a), some (ev_o 0 b0), some (ev_i u2), some (ev_i u3), some (ev_i u4), some (ev_i (j_at (S.1 (b0 + 1)) 64 ((u3 * u2) + u4)))]) (K' := []) (S' := S3) ?_ rfl rfl rfl hS3
        refine ev_iinc u4 (1) dX4_showBoard_66 rfl (by decide) (ev_hw rfl) ?_
        show ev_E g m_X4_showBoard 3 0 69 [some (ev_o 4 a), some (ev_o 0 b0), some (ev_i u2), some (ev_i u3), some (ev_i (u4 + 1)), some (ev_i (j_at (S.1 (b0 + 1)) 64 ((u3 * u2) + u4)))] [] S3 Q
        refine ev_goto 21 dX4_showBoard_69 (by decide) ?_
        refine ev_fgm [true, true, true, true, true, false] ?_
        exact hQ
    · replace hQ := hQ.1 c3
      refine ev_bipush (46) dX4_showBoard_46 (by decide) ?_
      refine ev_goto 63 dX4_showBoard_48 (by decide) ?_
      refine ev_fVn mv_X4_add 2 4 [ev_i 46] [] dX4_showBoard_63 kw_1682 rfl (by decide) rfl (by decide) (Nat.le_of_ble_eq_true rfl) (sp_X4_add a 46) ?_ rfl
      refine ev_sub hQ (fun S4 hS4 hQ => ?_)
      refine ev_E.goal (pc' := 66) (L' := [some (ev_o 4 a), some (ev_o 0 b0), some (ev_i u2), some (ev_i u3), some (ev_i u4), some (ev_i (j_at (S.1 (b0 + 1)) 64 ((u3 * u2) + u4)))]) (K' := []) (S' := S4) ?_ rfl rfl rfl hS4
      refine ev_iinc u4 (1) dX4_showBoard_66 rfl (by decide) (ev_hw rfl) ?_
      show ev_E g m_X4_showBoard 3 0 69 [some (ev_o 4 a), some (ev_o 0 b0), some (ev_i u2), some (ev_i u3), some (ev_i (u4 + 1)), some (ev_i (j_at (S.1 (b0 + 1)) 64 ((u3 * u2) + u4)))] [] S4 Q
      refine ev_goto 21 dX4_showBoard_69 (by decide) ?_
      refine ev_fgm [true, true, true, true, true, false] ?_
      exact hQ
set_option maxHeartbeats 4000000 in
set_option maxRecDepth 100000 in
theorem sg_X4_length_0 {g : ev_G} {S : ev_S} {Q : ev_O → ev_S → Prop} (a : Nat) (hQ : Q (.inl (some (ev_i (S.1 a 1)))) S) : ev_Cv g m_X4_length 1 0 [ev_o 4 a] S Q := by
  refine ev_enter (by decide) rfl rfl (Nat.le_of_ble_eq_true rfl) ?_
  show ev_E g m_X4_length 1 0 0 [some (ev_o 4 a)] [] S Q
  refine ev_aload_n (ev_o 4 a) dX4_length_0 rfl rfl ?_
  refine gf_4_1 dX4_length_1 kw_215 ?_
  exact ev_ireturn .int dX4_length_4 rfl rfl hQ
set_option maxHeartbeats 4000000 in
set_option maxRecDepth 100000 in
theorem sp_X4_length {g : ev_G} {S : ev_S} (a : Nat)  : ev_Fn g m_X4_length 1 [ev_o 4 a] S (some (ev_i (S.1 a 1))) S := by
  intro Q hQ
  refine sg_X4_length_0 a ?_
  exact hQ
set_option maxHeartbeats 4000000 in
set_option maxRecDepth 100000 in
theorem sg_X9_writeBoard_0 {g : ev_G} {S : ev_S} {Q : ev_O → ev_S → Prop} (a : Nat) (x0 : Int32) (hQ : ((t_X9_isPlayer x0) = true → (
    ev_Cv g m_X4_showBoard 3 0 [ev_o 4 (a + 9), ev_o 0 ((a_X2_deskOf (a + 11) x0) + 1)] S (fun o S1 => o = .inl none ∧ (
      Q (.inl (some (ev_i (S1.1 (a + 9) 1)))) S1)))) ∧
  (¬ ((t_X9_isPlayer x0) = true) → (
    Q (.inr 0) S))) : ev_Cv g m_X9_writeBoard 4 1 [ev_o 9 a, ev_i x0] S Q := by
  refine ev_enter (by decide) rfl rfl (Nat.le_of_ble_eq_true rfl) ?_
  show ev_E g m_X9_writeBoard 4 1 0 [some (ev_o 9 a), some (ev_i x0)] [] S Q
  refine ev_iload_n (x0) dX9_writeBoard_0 rfl ?_
  refine ev_fS ms_X9_isPlayer 1 [ev_i x0] [] dX9_writeBoard_1 kw_1341 rfl (by decide) (Nat.le_of_ble_eq_true rfl) (sp_X9_isPlayer x0) ?_ rfl
  by_cases c1 : (t_X9_isPlayer x0) = true
  · rw [if_pos c1]
    replace hQ := hQ.1 c1
    refine ev_cS ms_X9_require 1 1 [ev_i 1] [] dX9_writeBoard_4 kw_1343 rfl (by decide) (by decide) (Nat.le_of_ble_eq_true rfl) (Q' := fun o z => ev_After g m_X9_writeBoard 4 (1 - 1) 4 [some (ev_o 9 a), some (ev_i x0)] [] z Q o) (sg_X9_require_0 1 ?_) (fun o z h => h) rfl
    refine j_neg (by decide : ¬ ((1 : Int32) = 0)) ?_
    show ev_E g m_X9_writeBoard 4 0 7 [some (ev_o 9 a), some (ev_i x0)] [] S Q
    refine ev_aload_n (ev_o 9 a) dX9_writeBoard_7 rfl rfl ?_
    refine gf_9_2 dX9_writeBoard_8 kw_689 ?_
    refine ev_aload_n (ev_o 9 a) dX9_writeBoard_11 rfl rfl ?_
    refine gf_9_3 dX9_writeBoard_12 kw_690 ?_
    refine ev_iload_n (x0) dX9_writeBoard_15 rfl ?_
    refine ev_fV mv_X2_boardOf 2 2 [ev_i x0] [ev_o 4 (a + 9)] dX9_writeBoard_16 kw_577 rfl (by decide) rfl (by decide) (Nat.le_of_ble_eq_true rfl) (sp_X2_boardOf (a + 11) x0) ?_ rfl
    refine ev_cV mv_X4_showBoard 3 0 4 [ev_o 0 ((a_X2_deskOf (a + 11) x0) + 1)] [] dX9_writeBoard_19 kw_1676 rfl (by decide) rfl (by decide) (by decide) (Nat.le_of_ble_eq_true rfl) hQ ?_ rfl
    rintro o S1 ⟨rfl, hQ⟩
    show ev_E g m_X9_writeBoard 4 0 22 [some (ev_o 9 a), some (ev_i x0)] [] S1 Q
    refine ev_aload_n (ev_o 9 a) dX9_writeBoard_22 rfl rfl ?_
    refine gf_9_2 dX9_writeBoard_23 kw_689 ?_
    refine ev_fV mv_X4_length 1 4 [] [] dX9_writeBoard_26 kw_1687 rfl (by decide) rfl (by decide) (Nat.le_of_ble_eq_true rfl) (sp_X4_length (a + 9)) ?_ rfl
    exact ev_ireturn .int dX9_writeBoard_29 rfl rfl hQ
  · rw [if_neg c1]
    replace hQ := hQ.2 c1
    refine ev_cS ms_X9_require 1 1 [ev_i 0] [] dX9_writeBoard_4 kw_1343 rfl (by decide) (by decide) (Nat.le_of_ble_eq_true rfl) (Q' := fun o z => ev_After g m_X9_writeBoard 4 (1 - 1) 4 [some (ev_o 9 a), some (ev_i x0)] [] z Q o) (sg_X9_require_0 0 ?_) (fun o z h => h) rfl
    refine j_pos (by decide : ((0 : Int32) = 0)) ?_
    exact ev_T_out (by decide) rfl hQ
set_option maxHeartbeats 4000000 in
set_option maxRecDepth 100000 in
theorem sg_X4_addNumber_0 {g : ev_G} {S : ev_S} {Q : ev_O → ev_S → Prop} (a : Nat) (x0 : Int32) (hQ : (x0 < 10 → (
    ∀ S1 : ev_S, S1 = (ev_up (j_put S (a + 1) 400 (S.1 a 1) (48 + (ev_rem x0 10))) a 1 (((j_put S (a + 1) 400 (S.1 a 1) (48 + (ev_rem x0 10))).1 a 1) + 1)) → (
      Q (.inl none) S1))) ∧
  (¬ (x0 < 10) → (
    ∀ S2 : ev_S, S2 = (ev_up (j_put S (a + 1) 400 (S.1 a 1) (48 + (x0 / 10))) a 1 (((j_put S (a + 1) 400 (S.1 a 1) (48 + (x0 / 10))).1 a 1) + 1)) → (
      ∀ S3 : ev_S, S3 = (ev_up (j_put S2 (a + 1) 400 (S2.1 a 1) (48 + (ev_rem x0 10))) a 1 (((j_put S2 (a + 1) 400 (S2.1 a 1) (48 + (ev_rem x0 10))).1 a 1) + 1)) → (
        Q (.inl none) S3))))) : ev_Cv g m_X4_addNumber 3 0 [ev_o 4 a, ev_i x0] S Q := by
  refine ev_enter (by decide) rfl rfl (Nat.le_of_ble_eq_true rfl) ?_
  show ev_E g m_X4_addNumber 3 0 0 [some (ev_o 4 a), some (ev_i x0)] [] S Q
  refine ev_iload_n (x0) dX4_addNumber_0 rfl ?_
  refine ev_bipush (10) dX4_addNumber_1 (by decide) ?_
  refine ev_icmp_lt 17 dX4_addNumber_3 (by decide) (fun c1 => ?_) (fun c1 => ?_)
  · replace hQ := hQ.1 c1
    refine ev_aload_n (ev_o 4 a) dX4_addNumber_17 rfl rfl ?_
    refine ev_bipush (48) dX4_addNumber_18 (by decide) ?_
    refine ev_iload_n (x0) dX4_addNumber_20 rfl ?_
    refine ev_bipush (10) dX4_addNumber_21 (by decide) ?_
    refine ev_irem dX4_addNumber_23 (by decide) ?_
    refine ev_iadd dX4_addNumber_24 ?_
    refine ev_fVn mv_X4_add 2 4 [ev_i (48 + (ev_rem x0 10))] [] dX4_addNumber_25 kw_1682 rfl (by decide) rfl (by decide) (Nat.le_of_ble_eq_true rfl) (sp_X4_add a (48 + (ev_rem x0 10))) ?_ rfl
    refine ev_sub hQ (fun S1 hS1 hQ => ?_)
    refine ev_E.goal (pc' := 28) (L' := [some (ev_o 4 a), some (ev_i x0)]) (K' := []) (S' := S1) ?_ rfl rfl rfl hS1
    exact ev_return dX4_addNumber_28 rfl hQ
  · replace hQ := hQ.2 c1
    refine ev_aload_n (ev_o 4 a) dX4_addNumber_6 rfl rfl ?_
    refine ev_bipush (48) dX4_addNumber_7 (by decide) ?_
    refine ev_iload_n (x0) dX4_addNumber_9 rfl ?_
    refine ev_bipush (10) dX4_addNumber_10 (by decide) ?_
    refine ev_idiv dX4_addNumber_12 (by decide) ?_
    refine ev_iadd dX4_addNumber_13 ?_
    refine ev_fVn mv_X4_add 2 4 [ev_i (48 + (x0 / 10))] [] dX4_addNumber_14 kw_1682 rfl (by decide) rfl (by decide) (Nat.le_of_ble_eq_true rfl) (sp_X4_add a (48 + (x0 / 10))) ?_ rfl
    refine ev_sub hQ (fun S2 hS2 hQ => ?_)
    refine ev_E.goal (pc' := 17) (L' := [some (ev_o 4 a), some (ev_i x0)]) (K' := []) (S' := S2) ?_ rfl rfl rfl hS2
    refine ev_aload_n (ev_o 4 a) dX4_addNumber_17 rfl rfl ?_
    refine ev_bipush (48) dX4_addNumber_18 (by decide) ?_
    refine ev_iload_n (x0) dX4_addNumber_20 rfl ?_
    refine ev_bipush (10) dX4_addNumber_21 (by decide) ?_
    refine ev_irem dX4_addNumber_23 (by decide) ?_
    refine ev_iadd dX4_addNumber_24 ?_
    refine ev_fVn mv_X4_add 2 4 [ev_i (48 + (ev_rem x0 10))] [] dX4_addNumber_25 kw_1682 rfl (by decide) rfl (by decide) (Nat.le_of_ble_eq_true rfl) (sp_X4_add a (48 + (ev_rem x0 10))) ?_ rfl
    refine ev_sub hQ (fun S3 hS3 hQ => ?_)
    refine ev_E.goal (pc' := 28) (L' := [some (ev_o 4 a), some (ev_i x0)]) (K' := []) (S' := S3) ?_ rfl rfl rfl hS3
    exact ev_return dX4_addNumber_28 rfl hQ
set_option maxHeartbeats 4000000 in
set_option maxRecDepth 100000 in
theorem sg_X0_tookAt_0 {g : ev_G} {S : ev_S} {Q : ev_O → ev_S → Prop} (a : Nat) (x0 : Int32) (hQ : ((j_at (S.1 (a + 4)) 61 x0) = 1 → (
    Q (.inl (some (ev_i 1))) S)) ∧
  (¬ ((j_at (S.1 (a + 4)) 61 x0) = 1) → (
    Q (.inl (some (ev_i 0))) S))) : ev_Cv g m_X0_tookAt 2 0 [ev_o 0 a, ev_i x0] S Q := by
  refine ev_enter (by decide) rfl rfl (Nat.le_of_ble_eq_true rfl) ?_
  show ev_E g m_X0_tookAt 2 0 0 [some (ev_o 0 a), some (ev_i x0)] [] S Q
  refine ev_aload_n (ev_o 0 a) dX0_tookAt_0 rfl rfl ?_
  refine gf_0_3 dX0_tookAt_1 kw_242 ?_
  refine ev_iload_n (x0) dX0_tookAt_4 rfl ?_
  refine ev_fN ms_X9_at 1 [ev_y 61 (a + 4), ev_i x0] [] dX0_tookAt_5 (List.mem_of_getElem? (i := 11) rfl) rfl (by decide) (Nat.le_of_ble_eq_true rfl) (sp_X9_at 61 (a + 4) x0) ?_ rfl
  refine ev_iconst (1) dX0_tookAt_8 rfl ?_
  refine ev_icmp_ne 16 dX0_tookAt_9 (by decide) (fun c1 => ?_) (fun c1 => ?_)
  · replace hQ := hQ.2 c1
    refine ev_iconst (0) dX0_tookAt_16 rfl ?_
    exact ev_ireturn .boolean dX0_tookAt_17 rfl rfl hQ
  · replace hQ := hQ.1 c1
    refine ev_iconst (1) dX0_tookAt_12 rfl ?_
    refine ev_goto 17 dX0_tookAt_13 (by decide) ?_
    exact ev_ireturn .boolean dX0_tookAt_17 rfl rfl hQ
set_option maxHeartbeats 4000000 in
set_option maxRecDepth 100000 in
theorem sp_X0_tookAt {g : ev_G} {S : ev_S} (a : Nat) (x0 : Int32)  : ev_Fn g m_X0_tookAt 2 [ev_o 0 a, ev_i x0] S (some (ev_i (if (j_at (S.1 (a + 4)) 61 x0) = 1 then 1 else 0))) S := by
  intro Q hQ
  refine sg_X0_tookAt_0 a x0 ?_
  refine ⟨fun c1 => ?_, fun c1 => ?_⟩
  · rw [if_pos c1] at hQ
    exact hQ
  · rw [if_neg c1] at hQ
    exact hQ
set_option maxHeartbeats 4000000 in
set_option maxRecDepth 100000 in
theorem sg_X4_listMoves_0 {g : ev_G} {S : ev_S} {Q : ev_O → ev_S → Prop} (a : Nat) (b0 : Nat) (hQ : ∀ S1 : ev_S, S1 = (ev_up S a 1 0) → (
    ev_E g m_X4_listMoves 4 0 7 [some (ev_o 4 a), some (ev_o 0 b0), some (ev_i 1), none] [] S1 Q)) : ev_Cv g m_X4_listMoves 4 0 [ev_o 4 a, ev_o 0 b0] S Q := by
  refine ev_enter (by decide) rfl rfl (Nat.le_of_ble_eq_true rfl) ?_
  show ev_E g m_X4_listMoves 4 0 0 [some (ev_o 4 a), some (ev_o 0 b0), none, none] [] S Q
  refine ev_aload_n (ev_o 4 a) dX4_listMoves_0 rfl rfl ?_
  refine ev_iconst (0) dX4_listMoves_1 rfl ?_
  refine pf_4_1 dX4_listMoves_2 kw_215 ?_
  refine ev_sub hQ (fun S1 hS1 hQ => ?_)
  refine ev_E.goal (pc' := 5) (L' := [some (ev_o 4 a), some (ev_o 0 b0), none, none]) (K' := []) (S' := S1) ?_ rfl rfl rfl hS1
  refine ev_iconst (1) dX4_listMoves_5 rfl ?_
  refine ev_istore_n dX4_listMoves_6 (Nat.le_of_ble_eq_true rfl) (ev_hw rfl) ?_
  show ev_E g m_X4_listMoves 4 0 7 [some (ev_o 4 a), some (ev_o 0 b0), some (ev_i 1), none] [] S1 Q
  exact hQ
set_option maxHeartbeats 4000000 in
set_option maxRecDepth 100000 in
theorem sg_X4_listMoves_7 {g : ev_G} {S : ev_S} {Q : ev_O → ev_S → Prop} (a : Nat) (b0 : Nat) (u2 : Int32) (hQ : ((S.1 b0 6) < u2 → (
    Q (.inl none) S)) ∧
  (¬ ((S.1 b0 6) < u2) → (
    (u2 ≤ 1 → (
      ev_Cv g m_X4_addNumber 3 0 [ev_o 4 a, ev_i ((f_X0_moveAt S b0 u2) / 64)] S (fun o S1 => o = .inl none ∧ (
        ((j_at (S1.1 (b0 + 4)) 61 u2) = 1 → (
          ∀ S2 : ev_S, S2 = (ev_up (j_put S1 (a + 1) 400 (S1.1 a 1) 120) a 1 (((j_put S1 (a + 1) 400 (S1.1 a 1) 120).1 a 1) + 1)) → (
            ev_Cv g m_X4_addNumber 3 0 [ev_o 4 a, ev_i (ev_rem (f_X0_moveAt S b0 u2) 64)] S2 (fun o S3 => o = .inl none ∧ (
              ev_E g m_X4_listMoves 4 0 7 [some (ev_o 4 a), some (ev_o 0 b0), some (ev_i (u2 + 1)), none] [] S3 Q))))) ∧
        (¬ ((j_at (S1.1 (b0 + 4)) 61 u2) = 1) → (
          ∀ S4 : ev_S, S4 = (ev_up (j_put S1 (a + 1) 400 (S1.1 a 1) 45) a 1 (((j_put S1 (a + 1) 400 (S1.1 a 1) 45).1 a 1) + 1)) → (
            ev_Cv g m_X4_addNumber 3 0 [ev_o 4 a, ev_i (ev_rem (f_X0_moveAt S b0 u2) 64)] S4 (fun o S5 => o = .inl none ∧ (
              ev_E g m_X4_listMoves 4 0 7 [some (ev_o 4 a), some (ev_o 0 b0), some (ev_i (u2 + 1)), none] [] S5 Q))))))))) ∧
    (¬ (u2 ≤ 1) → (
      ∀ S6 : ev_S, S6 = (ev_up (j_put S (a + 1) 400 (S.1 a 1) 32) a 1 (((j_put S (a + 1) 400 (S.1 a 1) 32).1 a 1) + 1)) → (
        ev_Cv g m_X4_addNumber 3 0 [ev_o 4 a, ev_i ((f_X0_moveAt S b0 u2) / 64)] S6 (fun o S7 => o = .inl none ∧ (
          ((j_at (S7.1 (b0 + 4)) 61 u2) = 1 → (
            ∀ S8 : ev_S, S8 = (ev_up (j_put S7 (a + 1) 400 (S7.1 a 1) 120) a 1 (((j_put S7 (a + 1) 400 (S7.1 a 1) 120).1 a 1) + 1)) → (
              ev_Cv g m_X4_addNumber 3 0 [ev_o 4 a, ev_i (ev_rem (f_X0_moveAt S b0 u2) 64)] S8 (fun o S9 => o = .inl none ∧ (
                ev_E g m_X4_listMoves 4 0 7 [some (ev_o 4 a), some (ev_o 0 b0), some (ev_i (u2 + 1)), none] [] S9 Q))))) ∧
          (¬ ((j_at (S7.1 (b0 + 4)) 61 u2) = 1) → (
            ∀ S10 : ev_S, S10 = (ev_up (j_put S7 (a + 1) 400 (S7.1 a 1) 45) a 1 (((j_put S7 (a + 1) 400 (S7.1 a 1) 45).1 a 1) + 1)) → (
              ev_Cv g m_X4_addNumber 3 0 [ev_o 4 a, ev_i (ev_rem (f_X0_moveAt S b0 u2) 64)] S10 (fun o S11 => o = .inl none ∧ (
                ev_E g m_X4_listMoves 4 0 7 [some (ev_o 4 a), some (ev_o 0 b0), some (ev_i (u2 + 1)), none] [] S11 Q))))))))))))) : ev_E g m_X4_listMoves 4 0 7 [some (ev_o 4 a), some (ev_o 0 b0), some (ev_i u2), none] [] S Q := by
  refine ev_iload_n (u2) dX4_listMoves_7 rfl ?_
  refine ev_aload_n (ev_o 0 b0) dX4_listMoves_8 rfl rfl ?_
  refine ev_fV mv_X0_made 1 0 [] [ev_i u2] dX4_listMoves_9 kw_1702 rfl (by decide) rfl (by decide) (Nat.le_of_ble_eq_true rfl) (sp_X0_made b0) ?_ rfl
  refine ev_icmp_gt 73 dX4_listMoves_12 (by decide) (fun c1 => ?_) (fun c1 => ?_)
  · replace hQ := hQ.1 c1
    exact ev_return dX4_listMoves_73 rfl hQ
  · replace hQ := hQ.2 c1
    refine ev_aload_n (ev_o 0 b0) dX4_listMoves_15 rfl rfl ?_
    refine ev_iload_n (u2) dX4_listMoves_16 rfl ?_
    refine ev_fV mv_X0_moveAt 2 0 [ev_i u2] [] dX4_listMoves_17 kw_1703 rfl (by decide) rfl (by decide) (Nat.le_of_ble_eq_true rfl) (sp_X0_moveAt b0 u2) ?_ rfl
    refine ev_istore_n dX4_listMoves_20 (Nat.le_of_ble_eq_true rfl) (ev_hw rfl) ?_
    show ev_E g m_X4_listMoves 4 0 21 [some (ev_o 4 a), some (ev_o 0 b0), some (ev_i u2), some (ev_i (f_X0_moveAt S b0 u2))] [] S Q
    refine ev_iload_n (u2) dX4_listMoves_21 rfl ?_
    refine ev_iconst (1) dX4_listMoves_22 rfl ?_
    refine ev_icmp_le 32 dX4_listMoves_23 (by decide) (fun c2 => ?_) (fun c2 => ?_)
    · replace hQ := hQ.1 c2
      refine ev_aload_n (ev_o 4 a) dX4_listMoves_32 rfl rfl ?_
      refine ev_iload_n ((f_X0_moveAt S b0 u2)) dX4_listMoves_33 rfl ?_
      refine ev_fN ms_X9_startOf 1 [ev_i (f_X0_moveAt S b0 u2)] [ev_o 4 a] dX4_listMoves_34 (List.mem_of_getElem? (i := 34) rfl) rfl (by decide) (Nat.le_of_ble_eq_true rfl) (sp_X9_startOf (f_X0_moveAt S b0 u2)) ?_ rfl
      refine ev_cV mv_X4_addNumber 3 0 4 [ev_i ((f_X0_moveAt S b0 u2) / 64)] [] dX4_listMoves_37 kw_1705 rfl (by decide) rfl (by decide) (by decide) (Nat.le_of_ble_eq_true rfl) hQ ?_ rfl
      rintro o S1 ⟨rfl, hQ⟩
      show ev_E g m_X4_listMoves 4 0 40 [some (ev_o 4 a), some (ev_o 0 b0), some (ev_i u2), some (ev_i (f_X0_moveAt S b0 u2))] [] S1 Q
      refine ev_aload_n (ev_o 4 a) dX4_listMoves_40 rfl rfl ?_
      refine ev_aload_n (ev_o 0 b0) dX4_listMoves_41 rfl rfl ?_
      refine ev_iload_n (u2) dX4_listMoves_42 rfl ?_
      refine ev_fV mv_X0_tookAt 2 0 [ev_i u2] [ev_o 4 a] dX4_listMoves_43 kw_1709 rfl (by decide) rfl (by decide) (Nat.le_of_ble_eq_true rfl) (sp_X0_tookAt b0 u2) ?_ rfl
      by_cases c3 : (j_at (S1.1 (b0 + 4)) 61 u2) = 1
      · rw [if_pos c3]
        replace hQ := hQ.1 c3
        refine ev_if_eq 54 dX4_listMoves_46 (by decide) (fun h9 => absurd h9 (by decide : ¬ ((1 : Int32) = 0))) (fun _ => ?_)
        refine ev_bipush (120) dX4_listMoves_49 (by decide) ?_
        refine ev_goto 56 dX4_listMoves_51 (by decide) ?_
        refine ev_fVn mv_X4_add 2 4 [ev_i 120] [] dX4_listMoves_56 kw_1682 rfl (by decide) rfl (by decide) (Nat.le_of_ble_eq_true rfl) (sp_X4_add a 120) ?_ rfl
        refine ev_sub hQ (fun S2 hS2 hQ => ?_)
        refine ev_E.goal (pc' := 59) (L' := [some (ev_o 4 a), some (ev_o 0 b0), some (ev_i u2), some (ev_i (f_X0_moveAt S b0 u2))]) (K' := []) (S' := S2) ?_ rfl rfl rfl hS2
        refine ev_aload_n (ev_o 4 a) dX4_listMoves_59 rfl rfl ?_
        refine ev_iload_n ((f_X0_moveAt S b0 u2)) dX4_listMoves_60 rfl ?_
        refine ev_fN ms_X9_endOf 1 [ev_i (f_X0_moveAt S b0 u2)] [ev_o 4 a] dX4_listMoves_61 (List.mem_of_getElem? (i := 35) rfl) rfl (by decide) (Nat.le_of_ble_eq_true rfl) (sp_X9_endOf (f_X0_moveAt S b0 u2)) ?_ rfl
        refine ev_cV mv_X4_addNumber 3 0 4 [ev_i (ev_rem (f_X0_moveAt S b0 u2) 64)] [] dX4_listMoves_64 kw_1705 rfl (by decide) rfl (by decide) (by decide) (Nat.le_of_ble_eq_true rfl) hQ ?_ rfl
        rintro o S3 ⟨rfl, hQ⟩
        show ev_E g m_X4_listMoves 4 0 67 [some (ev_o 4 a), some (ev_o 0 b0), some (ev_i u2), some (ev_i (f_X0_moveAt S b0 u2))] [] S3 Q
        refine ev_iinc u2 (1) dX4_listMoves_67 rfl (by decide) (ev_hw rfl) ?_
        show ev_E g m_X4_listMoves 4 0 70 [some (ev_o 4 a), some (ev_o 0 b0), some (ev_i (u2 + 1)), some (ev_i (f_X0_moveAt S b0 u2))] [] S3 Q
        refine ev_goto 7 dX4_listMoves_70 (by decide) ?_
        refine ev_fgm [true, true, true, false] ?_
        exact hQ
      · rw [if_neg c3]
        replace hQ := hQ.2 c3
        refine ev_if_eq 54 dX4_listMoves_46 (by decide) (fun _ => ?_) (fun h9 => absurd (by decide : ((0 : Int32) = 0)) h9)
        refine ev_bipush (45) dX4_listMoves_54 (by decide) ?_
        refine ev_fVn mv_X4_add 2 4 [ev_i 45] [] dX4_listMoves_56 kw_1682 rfl (by decide) rfl (by decide) (Nat.le_of_ble_eq_true rfl) (sp_X4_add a 45) ?_ rfl
        refine ev_sub hQ (fun S4 hS4 hQ => ?_)
        refine ev_E.goal (pc' := 59) (L' := [some (ev_o 4 a), some (ev_o 0 b0), some (ev_i u2), some (ev_i (f_X0_moveAt S b0 u2))]) (K' := []) (S' := S4) ?_ rfl rfl rfl hS4
        refine ev_aload_n (ev_o 4 a) dX4_listMoves_59 rfl rfl ?_
        refine ev_iload_n ((f_X0_moveAt S b0 u2)) dX4_listMoves_60 rfl ?_
        refine ev_fN ms_X9_endOf 1 [ev_i (f_X0_moveAt S b0 u2)] [ev_o 4 a] dX4_listMoves_61 (List.mem_of_getElem? (i := 35) rfl) rfl (by decide) (Nat.le_of_ble_eq_true rfl) (sp_X9_endOf (f_X0_moveAt S b0 u2)) ?_ rfl
        refine ev_cV mv_X4_addNumber 3 0 4 [ev_i (ev_rem (f_X0_moveAt S b0 u2) 64)] [] dX4_listMoves_64 kw_1705 rfl (by decide) rfl (by decide) (by decide) (Nat.le_of_ble_eq_true rfl) hQ ?_ rfl
        rintro o S5 ⟨rfl, hQ⟩
        show ev_E g m_X4_listMoves 4 0 67 [some (ev_o 4 a), some (ev_o 0 b0), some (ev_i u2), some (ev_i (f_X0_moveAt S b0 u2))] [] S5 Q
        refine ev_iinc u2 (1) dX4_listMoves_67 rfl (by decide) (ev_hw rfl) ?_
        show ev_E g m_X4_listMoves 4 0 70 [some (ev_o 4 a), some (ev_o 0 b0), some (ev_i (u2 + 1)), some (ev_i (f_X0_moveAt S b0 u2))] [] S5 Q
        refine ev_goto 7 dX4_listMoves_70 (by decide) ?_
        refine ev_fgm [true, true, true, false] ?_
        exact hQ
    · replace hQ := hQ.2 c2
      refine ev_aload_n (ev_o 4 a) dX4_listMoves_26 rfl rfl ?_
      refine ev_bipush (32) dX4_listMoves_27 (by decide) ?_
      refine ev_fVn mv_X4_add 2 4 [ev_i 32] [] dX4_listMoves_29 kw_1682 rfl (by decide) rfl (by decide) (Nat.le_of_ble_eq_true rfl) (sp_X4_add a 32) ?_ rfl
      refine ev_sub hQ (fun S6 hS6 hQ => ?_)
      refine ev_E.goal (pc' := 32) (L' := [some (ev_o 4 a), some (ev_o 0 b0), some (ev_i u2), some (ev_i (f_X0_moveAt S b0 u2))]) (K' := []) (S' := S6) ?_ rfl rfl rfl hS6
      refine ev_aload_n (ev_o 4 a) dX4_listMoves_32 rfl rfl ?_
      refine ev_iload_n ((f_X0_moveAt S b0 u2)) dX4_listMoves_33 rfl ?_
      refine ev_fN ms_X9_startOf 1 [ev_i (f_X0_moveAt S b0 u2)] [ev_o 4 a] dX4_listMoves_34 (List.mem_of_getElem? (i := 34) rfl) rfl (by decide) (Nat.le_of_ble_eq_true rfl) (sp_X9_startOf (f_X0_moveAt S b0 u2)) ?_ rfl
      refine ev_cV mv_X4_addNumber 3 0 4 [ev_i ((f_X0_moveAt S b0 u2) / 64)] [] dX4_listMoves_37 kw_1705 rfl (by decide) rfl (by decide) (by decide) (Nat.le_of_ble_eq_true rfl) hQ ?_ rfl
      rintro o S7 ⟨rfl, hQ⟩
      show ev_E g m_X4_listMoves 4 0 40 [some (ev_o 4 a), some (ev_o 0 b0), some (ev_i u2), some (ev_i (f_X0_moveAt S b0 u2))] [] S7 Q
      refine ev_aload_n (ev_o 4 a) dX4_listMoves_40 rfl rfl ?_
      refine ev_aload_n (ev_o 0 b0) dX4_listMoves_41 rfl rfl ?_
      refine ev_iload_n (u2) dX4_listMoves_42 rfl ?_
      refine ev_fV mv_X0_tookAt 2 0 [ev_i u2] [ev_o 4 a] dX4_listMoves_43 kw_1709 rfl (by decide) rfl (by decide) (Nat.le_of_ble_eq_true rfl) (sp_X0_tookAt b0 u2) ?_ rfl
      by_cases c4 : (j_at (S7.1 (b0 + 4)) 61 u2) = 1
      · rw [if_pos c4]
        replace hQ := hQ.1 c4
        refine ev_if_eq 54 dX4_listMoves_46 (by decide) (fun h9 => absurd h9 (by decide : ¬ ((1 : Int32) = 0))) (fun _ => ?_)
        refine ev_bipush (120) dX4_listMoves_49 (by decide) ?_
        refine ev_goto 56 dX4_listMoves_51 (by decide) ?_
        refine ev_fVn mv_X4_add 2 4 [ev_i 120] [] dX4_listMoves_56 kw_1682 rfl (by decide) rfl (by decide) (Nat.le_of_ble_eq_true rfl) (sp_X4_add a 120) ?_ rfl
        refine ev_sub hQ (fun S8 hS8 hQ => ?_)
        refine ev_E.goal (pc' := 59) (L' := [some (ev_o 4 a), some (ev_o 0 b0), some (ev_i u2), some (ev_i (f_X0_moveAt S b0 u2))]) (K' := []) (S' := S8) ?_ rfl rfl rfl hS8
        refine ev_aload_n (ev_o 4 a) dX4_listMoves_59 rfl rfl ?_
        refine ev_iload_n ((f_X0_moveAt S b0 u2)) dX4_listMoves_60 rfl ?_
        refine ev_fN ms_X9_endOf 1 [ev_i (f_X0_moveAt S b0 u2)] [ev_o 4 a] dX4_listMoves_61 (List.mem_of_getElem? (i := 35) rfl) rfl (by decide) (Nat.le_of_ble_eq_true rfl) (sp_X9_endOf (f_X0_moveAt S b0 u2)) ?_ rfl
        refine ev_cV mv_X4_addNumber 3 0 4 [ev_i (ev_rem (f_X0_moveAt S b0 u2) 64)] [] dX4_listMoves_64 kw_1705 rfl (by decide) rfl (by decide) (by decide) (Nat.le_of_ble_eq_true rfl) hQ ?_ rfl
        rintro o S9 ⟨rfl, hQ⟩
        show ev_E g m_X4_listMoves 4 0 67 [some (ev_o 4 a), some (ev_o 0 b0), some (ev_i u2), some (ev_i (f_X0_moveAt S b0 u2))] [] S9 Q
        refine ev_iinc u2 (1) dX4_listMoves_67 rfl (by decide) (ev_hw rfl) ?_
        show ev_E g m_X4_listMoves 4 0 70 [some (ev_o 4 a), some (ev_o 0 b0), some (ev_i (u2 + 1)), some (ev_i (f_X0_moveAt S b0 u2))] [] S9 Q
        refine ev_goto 7 dX4_listMoves_70 (by decide) ?_
        refine ev_fgm [true, true, true, false] ?_
        exact hQ
      · rw [if_neg c4]
        replace hQ := hQ.2 c4
        refine ev_if_eq 54 dX4_listMoves_46 (by decide) (fun _ => ?_) (fun h9 => absurd (by decide : ((0 : Int32) = 0)) h9)
        refine ev_bipush (45) dX4_listMoves_54 (by decide) ?_
        refine ev_fVn mv_X4_add 2 4 [ev_i 45] [] dX4_listMoves_56 kw_1682 rfl (by decide) rfl (by decide) (Nat.le_of_ble_eq_true rfl) (sp_X4_add a 45) ?_ rfl
        refine ev_sub hQ (fun S10 hS10 hQ => ?_)
        refine ev_E.goal (pc' := 59) (L' := [some (ev_o 4 a), some (ev_o 0 b0), some (ev_i u2), some (ev_i (f_X0_moveAt S b0 u2))]) (K' := []) (S' := S10) ?_ rfl rfl rfl hS10
        refine ev_aload_n (ev_o 4 a) dX4_listMoves_59 rfl rfl ?_
        refine ev_iload_n ((f_X0_moveAt S b0 u2)) dX4_listMoves_60 rfl ?_
        refine ev_fN ms_X9_endOf 1 [ev_i (f_X0_moveAt S b0 u2)] [ev_o 4 a] dX4_listMoves_61 (List.mem_of_getElem? (i := 35) rfl) rfl (by decide) (Nat.le_of_ble_eq_true rfl) (sp_X9_endOf (f_X0_moveAt S b0 u2)) ?_ rfl
        refine ev_cV mv_X4_addNumber 3 0 4 [ev_i (ev_rem (f_X0_moveAt S b0 u2) 64)] [] dX4_listMoves_64 kw_1705 rfl (by decide) rfl (by decide) (by decide) (Nat.le_of_ble_eq_true rfl) hQ ?_ rfl
        rintro o S11 ⟨rfl, hQ⟩
        show ev_E g m_X4_listMoves 4 0 67 [some (ev_o 4 a), some (ev_o 0 b0), some (ev_i u2), some (ev_i (f_X0_moveAt S b0 u2))] [] S11 Q
        refine ev_iinc u2 (1) dX4_listMoves_67 rfl (by decide) (ev_hw rfl) ?_
        show ev_E g m_X4_listMoves 4 0 70 [some (ev_o 4 a), some (ev_o 0 b0), some (ev_i (u2 + 1)), some (ev_i (f_X0_moveAt S b0 u2))] [] S11 Q
        refine ev_goto 7 dX4_listMoves_70 (by decide) ?_
        refine ev_fgm [true, true, true, false] ?_
        exact hQ
set_option maxHeartbeats 4000000 in
set_option maxRecDepth 100000 in
theorem sg_X9_writeMoves_0 {g : ev_G} {S : ev_S} {Q : ev_O → ev_S → Prop} (a : Nat) (x0 : Int32) (hQ : ((t_X9_isPlayer x0) = true → (
    ev_Cv g m_X4_listMoves 4 0 [ev_o 4 (a + 9), ev_o 0 ((a_X2_deskOf (a + 11) x0) + 1)] S (fun o S1 => o = .inl none ∧ (
      Q (.inl (some (ev_i (S1.1 (a + 9) 1)))) S1)))) ∧
  (¬ ((t_X9_isPlayer x0) = true) → (
    Q (.inr 0) S))) : ev_Cv g m_X9_writeMoves 5 1 [ev_o 9 a, ev_i x0] S Q := by
  refine ev_enter (by decide) rfl rfl (Nat.le_of_ble_eq_true rfl) ?_
  show ev_E g m_X9_writeMoves 5 1 0 [some (ev_o 9 a), some (ev_i x0)] [] S Q
  refine ev_iload_n (x0) dX9_writeMoves_0 rfl ?_
  refine ev_fS ms_X9_isPlayer 1 [ev_i x0] [] dX9_writeMoves_1 kw_1341 rfl (by decide) (Nat.le_of_ble_eq_true rfl) (sp_X9_isPlayer x0) ?_ rfl
  by_cases c1 : (t_X9_isPlayer x0) = true
  · rw [if_pos c1]
    replace hQ := hQ.1 c1
    refine ev_cS ms_X9_require 1 1 [ev_i 1] [] dX9_writeMoves_4 kw_1343 rfl (by decide) (by decide) (Nat.le_of_ble_eq_true rfl) (Q' := fun o z => ev_After g m_X9_writeMoves 5 (1 - 1) 4 [some (ev_o 9 a), some (ev_i x0)] [] z Q o) (sg_X9_require_0 1 ?_) (fun o z h => h) rfl
    refine j_neg (by decide : ¬ ((1 : Int32) = 0)) ?_
    show ev_E g m_X9_writeMoves 5 0 7 [some (ev_o 9 a), some (ev_i x0)] [] S Q
    refine ev_aload_n (ev_o 9 a) dX9_writeMoves_7 rfl rfl ?_
    refine gf_9_2 dX9_writeMoves_8 kw_689 ?_
    refine ev_aload_n (ev_o 9 a) dX9_writeMoves_11 rfl rfl ?_
    refine gf_9_3 dX9_writeMoves_12 kw_690 ?_
    refine ev_iload_n (x0) dX9_writeMoves_15 rfl ?_
    refine ev_fV mv_X2_boardOf 2 2 [ev_i x0] [ev_o 4 (a + 9)] dX9_writeMoves_16 kw_577 rfl (by decide) rfl (by decide) (Nat.le_of_ble_eq_true rfl) (sp_X2_boardOf (a + 11) x0) ?_ rfl
    refine ev_cV mv_X4_listMoves 4 0 4 [ev_o 0 ((a_X2_deskOf (a + 11) x0) + 1)] [] dX9_writeMoves_19 kw_1698 rfl (by decide) rfl (by decide) (by decide) (Nat.le_of_ble_eq_true rfl) hQ ?_ rfl
    rintro o S1 ⟨rfl, hQ⟩
    show ev_E g m_X9_writeMoves 5 0 22 [some (ev_o 9 a), some (ev_i x0)] [] S1 Q
    refine ev_aload_n (ev_o 9 a) dX9_writeMoves_22 rfl rfl ?_
    refine gf_9_2 dX9_writeMoves_23 kw_689 ?_
    refine ev_fV mv_X4_length 1 4 [] [] dX9_writeMoves_26 kw_1687 rfl (by decide) rfl (by decide) (Nat.le_of_ble_eq_true rfl) (sp_X4_length (a + 9)) ?_ rfl
    exact ev_ireturn .int dX9_writeMoves_29 rfl rfl hQ
  · rw [if_neg c1]
    replace hQ := hQ.2 c1
    refine ev_cS ms_X9_require 1 1 [ev_i 0] [] dX9_writeMoves_4 kw_1343 rfl (by decide) (by decide) (Nat.le_of_ble_eq_true rfl) (Q' := fun o z => ev_After g m_X9_writeMoves 5 (1 - 1) 4 [some (ev_o 9 a), some (ev_i x0)] [] z Q o) (sg_X9_require_0 0 ?_) (fun o z h => h) rfl
    refine j_pos (by decide : ((0 : Int32) = 0)) ?_
    exact ev_T_out (by decide) rfl hQ
set_option maxHeartbeats 4000000 in
set_option maxRecDepth 100000 in
theorem sg_X4_byteAt_0 {g : ev_G} {S : ev_S} {Q : ev_O → ev_S → Prop} (a : Nat) (x0 : Int32) (hQ : ((S.1 a 1) ≤ x0 → (
    Q (.inl (some (ev_i (-1)))) S)) ∧
  (¬ ((S.1 a 1) ≤ x0) → (
    Q (.inl (some (ev_i (j_at (S.1 (a + 1)) 400 x0)))) S))) : ev_Cv g m_X4_byteAt 2 0 [ev_o 4 a, ev_i x0] S Q := by
  refine ev_enter (by decide) rfl rfl (Nat.le_of_ble_eq_true rfl) ?_
  show ev_E g m_X4_byteAt 2 0 0 [some (ev_o 4 a), some (ev_i x0)] [] S Q
  refine ev_iload_n (x0) dX4_byteAt_0 rfl ?_
  refine ev_aload_n (ev_o 4 a) dX4_byteAt_1 rfl rfl ?_
  refine gf_4_1 dX4_byteAt_2 kw_215 ?_
  refine ev_icmp_ge 19 dX4_byteAt_5 (by decide) (fun c1 => ?_) (fun c1 => ?_)
  · replace hQ := hQ.1 c1
    refine ev_iconst (-1) dX4_byteAt_19 rfl ?_
    exact ev_ireturn .int dX4_byteAt_20 rfl rfl hQ
  · replace hQ := hQ.2 c1
    refine ev_aload_n (ev_o 4 a) dX4_byteAt_8 rfl rfl ?_
    refine gf_4_0 dX4_byteAt_9 kw_214 ?_
    refine ev_iload_n (x0) dX4_byteAt_12 rfl ?_
    refine ev_fN ms_X9_at 1 [ev_y 400 (a + 1), ev_i x0] [] dX4_byteAt_13 (List.mem_of_getElem? (i := 32) rfl) rfl (by decide) (Nat.le_of_ble_eq_true rfl) (sp_X9_at 400 (a + 1) x0) ?_ rfl
    refine ev_goto 20 dX4_byteAt_16 (by decide) ?_
    exact ev_ireturn .int dX4_byteAt_20 rfl rfl hQ
def f_X4_byteAt (S : ev_S) (a : Nat) (x0 : Int32) : Int32 := if (S.1 a 1) ≤ x0 then ((-1)) else ((j_at (S.1 (a + 1)) 400 x0))
set_option maxHeartbeats 4000000 in
set_option maxRecDepth 100000 in
theorem sp_X4_byteAt {g : ev_G} {S : ev_S} (a : Nat) (x0 : Int32)  : ev_Fn g m_X4_byteAt 2 [ev_o 4 a, ev_i x0] S (some (ev_i (f_X4_byteAt S a x0))) S := by
  intro Q hQ
  refine sg_X4_byteAt_0 a x0 ?_
  unfold f_X4_byteAt at hQ
  refine ⟨fun c1 => ?_, fun c1 => ?_⟩
  · rw [if_pos c1] at hQ
    exact hQ
  · rw [if_neg c1] at hQ
    exact hQ
set_option maxHeartbeats 4000000 in
set_option maxRecDepth 100000 in
theorem sg_X9_outputByte_0 {g : ev_G} {S : ev_S} {Q : ev_O → ev_S → Prop} (a : Nat) (x0 : Int32) (hQ : Q (.inl (some (ev_i (f_X4_byteAt S (a + 9) x0)))) S) : ev_Cv g m_X9_outputByte 3 0 [ev_o 9 a, ev_i x0] S Q := by
  refine ev_enter (by decide) rfl rfl (Nat.le_of_ble_eq_true rfl) ?_
  show ev_E g m_X9_outputByte 3 0 0 [some (ev_o 9 a), some (ev_i x0)] [] S Q
  refine ev_aload_n (ev_o 9 a) dX9_outputByte_0 rfl rfl ?_
  refine gf_9_2 dX9_outputByte_1 kw_689 ?_
  refine ev_iload_n (x0) dX9_outputByte_4 rfl ?_
  refine ev_fV mv_X4_byteAt 2 4 [ev_i x0] [] dX9_outputByte_5 kw_1205 rfl (by decide) rfl (by decide) (Nat.le_of_ble_eq_true rfl) (sp_X4_byteAt (a + 9) x0) ?_ rfl
  exact ev_ireturn .int dX9_outputByte_8 rfl rfl hQ
set_option maxHeartbeats 4000000 in
set_option maxRecDepth 100000 in
theorem sp_X9_outputByte {g : ev_G} {S : ev_S} (a : Nat) (x0 : Int32)  : ev_Fn g m_X9_outputByte 3 [ev_o 9 a, ev_i x0] S (some (ev_i (f_X4_byteAt S (a + 9) x0))) S := by
  intro Q hQ
  refine sg_X9_outputByte_0 a x0 ?_
  exact hQ
set_option maxHeartbeats 4000000 in
set_option maxRecDepth 100000 in
theorem sg_X3_count_0 {g : ev_G} {S : ev_S} {Q : ev_O → ev_S → Prop} (a : Nat) (hQ : Q (.inl (some (ev_i (S.1 a 1)))) S) : ev_Cv g m_X3_count 1 0 [ev_o 3 a] S Q := by
  refine ev_enter (by decide) rfl rfl (Nat.le_of_ble_eq_true rfl) ?_
  show ev_E g m_X3_count 1 0 0 [some (ev_o 3 a)] [] S Q
  refine ev_aload_n (ev_o 3 a) dX3_count_0 rfl rfl ?_
  refine gf_3_1 dX3_count_1 kw_415 ?_
  exact ev_ireturn .int dX3_count_4 rfl rfl hQ
set_option maxHeartbeats 4000000 in
set_option maxRecDepth 100000 in
theorem sp_X3_count {g : ev_G} {S : ev_S} (a : Nat)  : ev_Fn g m_X3_count 1 [ev_o 3 a] S (some (ev_i (S.1 a 1))) S := by
  intro Q hQ
  refine sg_X3_count_0 a ?_
  exact hQ
set_option maxHeartbeats 4000000 in
set_option maxRecDepth 100000 in
theorem sg_X9_undoCount_0 {g : ev_G} {S : ev_S} {Q : ev_O → ev_S → Prop} (a : Nat) (hQ : Q (.inl (some (ev_i (S.1 (a + 93) 1)))) S) : ev_Cv g m_X9_undoCount 2 0 [ev_o 9 a] S Q := by
  refine ev_enter (by decide) rfl rfl (Nat.le_of_ble_eq_true rfl) ?_
  show ev_E g m_X9_undoCount 2 0 0 [some (ev_o 9 a)] [] S Q
  refine ev_aload_n (ev_o 9 a) dX9_undoCount_0 rfl rfl ?_
  refine gf_9_5 dX9_undoCount_1 kw_692 ?_
  refine ev_fV mv_X3_count 1 3 [] [] dX9_undoCount_4 kw_1214 rfl (by decide) rfl (by decide) (Nat.le_of_ble_eq_true rfl) (sp_X3_count (a + 93)) ?_ rfl
  exact ev_ireturn .int dX9_undoCount_7 rfl rfl hQ
set_option maxHeartbeats 4000000 in
set_option maxRecDepth 100000 in
theorem sp_X9_undoCount {g : ev_G} {S : ev_S} (a : Nat)  : ev_Fn g m_X9_undoCount 2 [ev_o 9 a] S (some (ev_i (S.1 (a + 93) 1))) S := by
  intro Q hQ
  refine sg_X9_undoCount_0 a ?_
  exact hQ
set_option maxHeartbeats 4000000 in
set_option maxRecDepth 100000 in
theorem sg_X3_takeBack_0 {g : ev_G} {S : ev_S} {Q : ev_O → ev_S → Prop} (a : Nat) (b0 : Nat) (hQ : (((S.1 a 2) < 0) → False) ∧ (
    (¬ ((S.1 a 2) < 0) → (8 ≤ (S.1 a 2)) → False) ∧ (
      (¬ ((S.1 a 2) < 0) → ¬ (8 ≤ (S.1 a 2)) → vp_in (S.1 a 2) 8) ∧ (
        ev_Cv g m_X2_copyFrom 4 0 [ev_o 2 b0, ev_o 2 (a_past (a + 1) (S.1 a 2))] S (fun o S1 => o = .inl none ∧ (
          ((S1.1 a 2) ≤ 0 → (
            ∀ S2 : ev_S, S2 = (ev_up S1 a 2 7) → (
              ∀ S3 : ev_S, S3 = (ev_up S2 a 1 ((S1.1 a 1) - 1)) → (
                Q (.inl none) S3)))) ∧
          (¬ ((S1.1 a 2) ≤ 0) → (
            ∀ S4 : ev_S, S4 = (ev_up S1 a 2 ((S1.1 a 2) - 1)) → (
              ∀ S5 : ev_S, S5 = (ev_up S4 a 1 ((S1.1 a 1) - 1)) → (
                Q (.inl none) S5)))))))))) : ev_Cv g m_X3_takeBack 5 0 [ev_o 3 a, ev_o 2 b0] S Q := by
  refine ev_enter (by decide) rfl rfl (Nat.le_of_ble_eq_true rfl) ?_
  show ev_E g m_X3_takeBack 5 0 0 [some (ev_o 3 a), some (ev_o 2 b0), none] [] S Q
  refine ev_aload_n (ev_o 3 a) dX3_takeBack_0 rfl rfl ?_
  obtain ⟨h1, hQ⟩ := hQ
  obtain ⟨h2, hQ⟩ := hQ
  obtain ⟨h3, hQ⟩ := hQ
  refine ev_fV mv_X3_newestGame 1 3 [] [] dX3_takeBack_1 kw_816 rfl (by decide) rfl (by decide) (Nat.le_of_ble_eq_true rfl) (sp_X3_newestGame a h1 h2 h3) ?_ rfl
  refine ev_astore_n dX3_takeBack_4 rfl (Nat.le_of_ble_eq_true rfl) (ev_hw rfl) ?_
  show ev_E g m_X3_takeBack 5 0 5 [some (ev_o 3 a), some (ev_o 2 b0), some (ev_o 2 (a_past (a + 1) (S.1 a 2)))] [] S Q
  refine ev_aload_n (ev_o 2 (a_past (a + 1) (S.1 a 2))) dX3_takeBack_5 rfl rfl ?_
  refine ev_ifnull dX3_takeBack_6 rfl ?_
  refine ev_aload_n (ev_o 2 b0) dX3_takeBack_9 rfl rfl ?_
  refine ev_aload_n (ev_o 2 (a_past (a + 1) (S.1 a 2))) dX3_takeBack_10 rfl rfl ?_
  refine ev_cV mv_X2_copyFrom 4 0 2 [ev_o 2 (a_past (a + 1) (S.1 a 2))] [] dX3_takeBack_11 kw_820 rfl (by decide) rfl (by decide) (by decide) (Nat.le_of_ble_eq_true rfl) hQ ?_ rfl
  rintro o S1 ⟨rfl, hQ⟩
  show ev_E g m_X3_takeBack 5 0 14 [some (ev_o 3 a), some (ev_o 2 b0), some (ev_o 2 (a_past (a + 1) (S.1 a 2)))] [] S1 Q
  refine ev_aload_n (ev_o 3 a) dX3_takeBack_14 rfl rfl ?_
  refine ev_aload_n (ev_o 3 a) dX3_takeBack_15 rfl rfl ?_
  refine gf_3_2 dX3_takeBack_16 kw_416 ?_
  refine ev_if_le 31 dX3_takeBack_19 (by decide) (fun c1 => ?_) (fun c1 => ?_)
  · replace hQ := hQ.1 c1
    refine ev_aload_n (ev_o 3 a) dX3_takeBack_31 rfl rfl ?_
    refine gf_3_0 dX3_takeBack_32 kw_414 ?_
    refine ev_glen 8 dX3_takeBack_35 rfl ?_
    refine ev_iconst (1) dX3_takeBack_36 rfl ?_
    refine ev_isub dX3_takeBack_37 ?_
    refine ev_ke (v' := 7) (by decide) ?_
    refine pf_3_2 dX3_takeBack_38 kw_416 ?_
    refine ev_sub hQ (fun S2 hS2 hQ => ?_)
    refine ev_E.goal (pc' := 41) (L' := [some (ev_o 3 a), some (ev_o 2 b0), some (ev_o 2 (a_past (a + 1) (S.1 a 2)))]) (K' := []) (S' := S2) ?_ rfl rfl rfl hS2
    refine ev_aload_n (ev_o 3 a) dX3_takeBack_41 rfl rfl ?_
    refine ev_dup dX3_takeBack_42 rfl ?_
    refine gf_3_1 dX3_takeBack_43 kw_415 ?_
    refine ev_ke (j_rk hS2 (Or.inr (by decide))) ?_
    refine ev_iconst (1) dX3_takeBack_46 rfl ?_
    refine ev_isub dX3_takeBack_47 ?_
    refine pf_3_1 dX3_takeBack_48 kw_415 ?_
    refine ev_sub hQ (fun S3 hS3 hQ => ?_)
    refine ev_E.goal (pc' := 51) (L' := [some (ev_o 3 a), some (ev_o 2 b0), some (ev_o 2 (a_past (a + 1) (S.1 a 2)))]) (K' := []) (S' := S3) ?_ rfl rfl rfl hS3
    exact ev_return dX3_takeBack_51 rfl hQ
  · replace hQ := hQ.2 c1
    refine ev_aload_n (ev_o 3 a) dX3_takeBack_22 rfl rfl ?_
    refine gf_3_2 dX3_takeBack_23 kw_416 ?_
    refine ev_iconst (1) dX3_takeBack_26 rfl ?_
    refine ev_isub dX3_takeBack_27 ?_
    refine ev_goto 38 dX3_takeBack_28 (by decide) ?_
    refine pf_3_2 dX3_takeBack_38 kw_416 ?_
    refine ev_sub hQ (fun S4 hS4 hQ => ?_)
    refine ev_E.goal (pc' := 41) (L' := [some (ev_o 3 a), some (ev_o 2 b0), some (ev_o 2 (a_past (a + 1) (S.1 a 2)))]) (K' := []) (S' := S4) ?_ rfl rfl rfl hS4
    refine ev_aload_n (ev_o 3 a) dX3_takeBack_41 rfl rfl ?_
    refine ev_dup dX3_takeBack_42 rfl ?_
    refine gf_3_1 dX3_takeBack_43 kw_415 ?_
    refine ev_ke (j_rk hS4 (Or.inr (by decide))) ?_
    refine ev_iconst (1) dX3_takeBack_46 rfl ?_
    refine ev_isub dX3_takeBack_47 ?_
    refine pf_3_1 dX3_takeBack_48 kw_415 ?_
    refine ev_sub hQ (fun S5 hS5 hQ => ?_)
    refine ev_E.goal (pc' := 51) (L' := [some (ev_o 3 a), some (ev_o 2 b0), some (ev_o 2 (a_past (a + 1) (S.1 a 2)))]) (K' := []) (S' := S5) ?_ rfl rfl rfl hS5
    exact ev_return dX3_takeBack_51 rfl hQ
set_option maxHeartbeats 4000000 in
set_option maxRecDepth 100000 in
theorem sg_X9_undo_0 {g : ev_G} {S : ev_S} {Q : ev_O → ev_S → Prop} (a : Nat) (hQ : ((S.1 (a + 93) 1) = 0 → (
    Q (.inr 1) S)) ∧
  (¬ ((S.1 (a + 93) 1) = 0) → (
    ev_Cv g m_X3_takeBack 5 0 [ev_o 3 (a + 93), ev_o 2 (a + 11)] S (fun o S1 => o = .inl none ∧ (
      Q (.inl (some (ev_i (S1.1 (a + 93) 1)))) S1))))) : ev_Cv g m_X9_undo 6 1 [ev_o 9 a] S Q := by
  refine ev_enter (by decide) rfl rfl (Nat.le_of_ble_eq_true rfl) ?_
  show ev_E g m_X9_undo 6 1 0 [some (ev_o 9 a)] [] S Q
  refine ev_aload_n (ev_o 9 a) dX9_undo_0 rfl rfl ?_
  refine gf_9_5 dX9_undo_1 kw_692 ?_
  refine ev_fV mv_X3_count 1 3 [] [] dX9_undo_4 kw_1214 rfl (by decide) rfl (by decide) (Nat.le_of_ble_eq_true rfl) (sp_X3_count (a + 93)) ?_ rfl
  refine ev_if_ne 21 dX9_undo_7 (by decide) (fun c1 => ?_) (fun c1 => ?_)
  · replace hQ := hQ.2 c1
    refine ev_aload_n (ev_o 9 a) dX9_undo_21 rfl rfl ?_
    refine gf_9_5 dX9_undo_22 kw_692 ?_
    refine ev_aload_n (ev_o 9 a) dX9_undo_25 rfl rfl ?_
    refine gf_9_3 dX9_undo_26 kw_690 ?_
    refine ev_cV mv_X3_takeBack 5 0 3 [ev_o 2 (a + 11)] [] dX9_undo_29 kw_1722 rfl (by decide) rfl (by decide) (by decide) (Nat.le_of_ble_eq_true rfl) hQ ?_ rfl
    rintro o S1 ⟨rfl, hQ⟩
    show ev_E g m_X9_undo 6 1 32 [some (ev_o 9 a)] [] S1 Q
    refine ev_aload_n (ev_o 9 a) dX9_undo_32 rfl rfl ?_
    refine gf_9_5 dX9_undo_33 kw_692 ?_
    refine ev_fV mv_X3_count 1 3 [] [] dX9_undo_36 kw_1214 rfl (by decide) rfl (by decide) (Nat.le_of_ble_eq_true rfl) (sp_X3_count (a + 93)) ?_ rfl
    exact ev_ireturn .int dX9_undo_39 rfl rfl hQ
  · replace hQ := hQ.1 c1
    exact ev_throwW 1 88 360 92 25 "no change can be undone" (by decide) (by decide) rfl (by decide) kw_1233 kw_130 (List.mem_of_getElem? (i := 25) rfl) at_X9_92 dX9_undo_10 dX9_undo_13 dX9_undo_14 dX9_undo_17 dX9_undo_20 (Nat.le_of_ble_eq_true rfl) hQ
set_option maxHeartbeats 4000000 in
set_option maxRecDepth 100000 in
theorem sg_X9_isSlot_0 {g : ev_G} {S : ev_S} {Q : ev_O → ev_S → Prop} (x0 : Int32) (hQ : (x0 = 0 → (
    Q (.inl (some (ev_i 1))) S)) ∧
  (¬ (x0 = 0) → (
    (x0 = 1 → (
      Q (.inl (some (ev_i 1))) S)) ∧
    (¬ (x0 = 1) → (
      Q (.inl (some (ev_i 0))) S))))) : ev_Cv g m_X9_isSlot 1 0 [ev_i x0] S Q := by
  refine ev_enter (by decide) rfl rfl (Nat.le_of_ble_eq_true rfl) ?_
  show ev_E g m_X9_isSlot 1 0 0 [some (ev_i x0)] [] S Q
  refine ev_iload_n (x0) dX9_isSlot_0 rfl ?_
  refine ev_if_eq 9 dX9_isSlot_1 (by decide) (fun c1 => ?_) (fun c1 => ?_)
  · replace hQ := hQ.1 c1
    refine ev_iconst (1) dX9_isSlot_9 rfl ?_
    refine ev_goto 14 dX9_isSlot_10 (by decide) ?_
    exact ev_ireturn .boolean dX9_isSlot_14 rfl rfl hQ
  · replace hQ := hQ.2 c1
    refine ev_iload_n (x0) dX9_isSlot_4 rfl ?_
    refine ev_iconst (1) dX9_isSlot_5 rfl ?_
    refine ev_icmp_ne 13 dX9_isSlot_6 (by decide) (fun c2 => ?_) (fun c2 => ?_)
    · replace hQ := hQ.2 c2
      refine ev_iconst (0) dX9_isSlot_13 rfl ?_
      exact ev_ireturn .boolean dX9_isSlot_14 rfl rfl hQ
    · replace hQ := hQ.1 c2
      refine ev_iconst (1) dX9_isSlot_9 rfl ?_
      refine ev_goto 14 dX9_isSlot_10 (by decide) ?_
      exact ev_ireturn .boolean dX9_isSlot_14 rfl rfl hQ
def t_X9_isSlot (x0 : Int32) : Bool := if x0 = 0 then (true) else (if x0 = 1 then (true) else (false))
set_option maxHeartbeats 4000000 in
set_option maxRecDepth 100000 in
theorem sp_X9_isSlot {g : ev_G} {S : ev_S} (x0 : Int32)  : ev_Fn g m_X9_isSlot 1 [ev_i x0] S (some (ev_i (if (t_X9_isSlot x0) = true then 1 else 0))) S := by
  intro Q hQ
  refine sg_X9_isSlot_0 x0 ?_
  unfold t_X9_isSlot at hQ
  refine ⟨fun c1 => ?_, fun c1 => ?_⟩
  · rw [if_pos c1] at hQ
    exact hQ
  · rw [if_neg c1] at hQ
    refine ⟨fun c2 => ?_, fun c2 => ?_⟩
    · rw [if_pos c2] at hQ
      exact hQ
    · rw [if_neg c2] at hQ
      exact hQ
set_option maxHeartbeats 4000000 in
set_option maxRecDepth 100000 in
theorem sg_X9_slotOf_0 {g : ev_G} {S : ev_S} {Q : ev_O → ev_S → Prop} (a : Nat) (x0 : Int32) (hQ : (x0 = 0 → (
    Q (.inl (some (ev_o 2 (a + 423)))) S)) ∧
  (¬ (x0 = 0) → (
    Q (.inl (some (ev_o 2 (a + 464)))) S))) : ev_Cv g m_X9_slotOf 1 0 [ev_o 9 a, ev_i x0] S Q := by
  refine ev_enter (by decide) rfl rfl (Nat.le_of_ble_eq_true rfl) ?_
  show ev_E g m_X9_slotOf 1 0 0 [some (ev_o 9 a), some (ev_i x0)] [] S Q
  refine ev_iload_n (x0) dX9_slotOf_0 rfl ?_
  refine ev_if_ne 11 dX9_slotOf_1 (by decide) (fun c1 => ?_) (fun c1 => ?_)
  · replace hQ := hQ.2 c1
    refine ev_aload_n (ev_o 9 a) dX9_slotOf_11 rfl rfl ?_
    refine gf_9_7 dX9_slotOf_12 kw_694 ?_
    exact ev_areturn _ dX9_slotOf_15 rfl rfl (Or.inl ⟨_, rfl⟩) hQ
  · replace hQ := hQ.1 c1
    refine ev_aload_n (ev_o 9 a) dX9_slotOf_4 rfl rfl ?_
    refine gf_9_6 dX9_slotOf_5 kw_693 ?_
    refine ev_goto 15 dX9_slotOf_8 (by decide) ?_
    exact ev_areturn _ dX9_slotOf_15 rfl rfl (Or.inl ⟨_, rfl⟩) hQ
def a_X9_slotOf (a : Nat) (x0 : Int32) : Nat := if x0 = 0 then ((a + 423)) else ((a + 464))
set_option maxHeartbeats 4000000 in
set_option maxRecDepth 100000 in
theorem sp_X9_slotOf {g : ev_G} {S : ev_S} (a : Nat) (x0 : Int32)  : ev_Fn g m_X9_slotOf 1 [ev_o 9 a, ev_i x0] S (some (ev_o 2 (a_X9_slotOf a x0))) S := by
  intro Q hQ
  refine sg_X9_slotOf_0 a x0 ?_
  unfold a_X9_slotOf at hQ
  refine ⟨fun c1 => ?_, fun c1 => ?_⟩
  · rw [if_pos c1] at hQ
    exact hQ
  · rw [if_neg c1] at hQ
    exact hQ
set_option maxHeartbeats 4000000 in
set_option maxRecDepth 100000 in
theorem sg_X9_save_0 {g : ev_G} {S : ev_S} {Q : ev_O → ev_S → Prop} (a : Nat) (x0 : Int32) (hQ : ((t_X9_isSlot x0) = true → (
    ev_Cv g m_X2_copyFrom 4 0 [ev_o 2 (a_X9_slotOf a x0), ev_o 2 (a + 11)] S (fun o S1 => o = .inl none ∧ (
      (x0 = 0 → (
        ∀ S3 : ev_S, S3 = (ev_up S1 a 8 1) → (
          Q (.inl (some (ev_i (S1.1 (a + 11) 4)))) S3))) ∧
      (¬ (x0 = 0) → (
        ∀ S2 : ev_S, S2 = (ev_up S1 a 9 1) → (
          Q (.inl (some (ev_i (S1.1 (a + 11) 4)))) S2))))))) ∧
  (¬ ((t_X9_isSlot x0) = true) → (
    Q (.inr 0) S))) : ev_Cv g m_X9_save 5 1 [ev_o 9 a, ev_i x0] S Q := by
  refine ev_enter (by decide) rfl rfl (Nat.le_of_ble_eq_true rfl) ?_
  show ev_E g m_X9_save 5 1 0 [some (ev_o 9 a), some (ev_i x0)] [] S Q
  refine ev_iload_n (x0) dX9_save_0 rfl ?_
  refine ev_fS ms_X9_isSlot 1 [ev_i x0] [] dX9_save_1 kw_1733 rfl (by decide) (Nat.le_of_ble_eq_true rfl) (sp_X9_isSlot x0) ?_ rfl
  by_cases c1 : (t_X9_isSlot x0) = true
  · rw [if_pos c1]
    replace hQ := hQ.1 c1
    refine ev_cS ms_X9_require 1 1 [ev_i 1] [] dX9_save_4 kw_1343 rfl (by decide) (by decide) (Nat.le_of_ble_eq_true rfl) (Q' := fun o z => ev_After g m_X9_save 5 (1 - 1) 4 [some (ev_o 9 a), some (ev_i x0)] [] z Q o) (sg_X9_require_0 1 ?_) (fun o z h => h) rfl
    refine j_neg (by decide : ¬ ((1 : Int32) = 0)) ?_
    show ev_E g m_X9_save 5 0 7 [some (ev_o 9 a), some (ev_i x0)] [] S Q
    refine ev_aload_n (ev_o 9 a) dX9_save_7 rfl rfl ?_
    refine ev_iload_n (x0) dX9_save_8 rfl ?_
    refine ev_fV mv_X9_slotOf 1 9 [ev_i x0] [] dX9_save_9 kw_1736 rfl (by decide) rfl (by decide) (Nat.le_of_ble_eq_true rfl) (sp_X9_slotOf a x0) ?_ rfl
    refine ev_aload_n (ev_o 9 a) dX9_save_12 rfl rfl ?_
    refine gf_9_3 dX9_save_13 kw_690 ?_
    refine ev_cV mv_X2_copyFrom 4 0 2 [ev_o 2 (a + 11)] [] dX9_save_16 kw_653 rfl (by decide) rfl (by decide) (by decide) (Nat.le_of_ble_eq_true rfl) hQ ?_ rfl
    rintro o S1 ⟨rfl, hQ⟩
    show ev_E g m_X9_save 5 0 19 [some (ev_o 9 a), some (ev_i x0)] [] S1 Q
    refine ev_iload_n (x0) dX9_save_19 rfl ?_
    refine ev_if_ne 31 dX9_save_20 (by decide) (fun c2 => ?_) (fun c2 => ?_)
    · replace hQ := hQ.2 c2
      refine ev_aload_n (ev_o 9 a) dX9_save_31 rfl rfl ?_
      refine ev_iconst (1) dX9_save_32 rfl ?_
      refine pf_9_9 dX9_save_33 kw_696 (by decide) ?_
      refine ev_sub hQ (fun S2 hS2 hQ => ?_)
      refine ev_E.goal (pc' := 36) (L' := [some (ev_o 9 a), some (ev_i x0)]) (K' := []) (S' := S2) ?_ rfl rfl rfl hS2
      refine ev_aload_n (ev_o 9 a) dX9_save_36 rfl rfl ?_
      refine gf_9_3 dX9_save_37 kw_690 ?_
      refine ev_fV mv_X2_today 1 2 [] [] dX9_save_40 kw_1108 rfl (by decide) rfl (by decide) (Nat.le_of_ble_eq_true rfl) (sp_X2_today (a + 11)) ?_ rfl
      refine ev_ke (j_rk hS2 (Or.inl (by omega))) ?_
      exact ev_ireturn .int dX9_save_43 rfl rfl hQ
    · replace hQ := hQ.1 c2
      refine ev_aload_n (ev_o 9 a) dX9_save_23 rfl rfl ?_
      refine ev_iconst (1) dX9_save_24 rfl ?_
      refine pf_9_8 dX9_save_25 kw_695 (by decide) ?_
      refine ev_sub hQ (fun S3 hS3 hQ => ?_)
      refine ev_E.goal (pc' := 28) (L' := [some (ev_o 9 a), some (ev_i x0)]) (K' := []) (S' := S3) ?_ rfl rfl rfl hS3
      refine ev_goto 36 dX9_save_28 (by decide) ?_
      refine ev_aload_n (ev_o 9 a) dX9_save_36 rfl rfl ?_
      refine gf_9_3 dX9_save_37 kw_690 ?_
      refine ev_fV mv_X2_today 1 2 [] [] dX9_save_40 kw_1108 rfl (by decide) rfl (by decide) (Nat.le_of_ble_eq_true rfl) (sp_X2_today (a + 11)) ?_ rfl
      refine ev_ke (j_rk hS3 (Or.inl (by omega))) ?_
      exact ev_ireturn .int dX9_save_43 rfl rfl hQ
  · rw [if_neg c1]
    replace hQ := hQ.2 c1
    refine ev_cS ms_X9_require 1 1 [ev_i 0] [] dX9_save_4 kw_1343 rfl (by decide) (by decide) (Nat.le_of_ble_eq_true rfl) (Q' := fun o z => ev_After g m_X9_save 5 (1 - 1) 4 [some (ev_o 9 a), some (ev_i x0)] [] z Q o) (sg_X9_require_0 0 ?_) (fun o z h => h) rfl
    refine j_pos (by decide : ((0 : Int32) = 0)) ?_
    exact ev_T_out (by decide) rfl hQ
set_option maxHeartbeats 4000000 in
set_option maxRecDepth 100000 in
theorem sg_X9_restore_0 {g : ev_G} {S : ev_S} {Q : ev_O → ev_S → Prop} (a : Nat) (x0 : Int32) (hQ : ((t_X9_isSlot x0) = true → (
    (x0 = 0 → (
      ((S.1 a 8) = 0 → (
        Q (.inr 3) S)) ∧
      (¬ ((S.1 a 8) = 0) → (
        ev_Cv g m_X2_copyFrom 4 0 [ev_o 2 (a + 11), ev_o 2 (a_X9_slotOf a x0)] S (fun o S3 => o = .inl none ∧ (
          ∀ S4 : ev_S, S4 = (ev_up S3 (a + 93) 1 0) → (
            Q (.inl (some (ev_i (S3.1 (a + 11) 4)))) S4))))))) ∧
    (¬ (x0 = 0) → (
      ((S.1 a 9) = 0 → (
        Q (.inr 3) S)) ∧
      (¬ ((S.1 a 9) = 0) → (
        ev_Cv g m_X2_copyFrom 4 0 [ev_o 2 (a + 11), ev_o 2 (a_X9_slotOf a x0)] S (fun o S1 => o = .inl none ∧ (
          ∀ S2 : ev_S, S2 = (ev_up S1 (a + 93) 1 0) → (
            Q (.inl (some (ev_i (S1.1 (a + 11) 4)))) S2))))))))) ∧
  (¬ ((t_X9_isSlot x0) = true) → (
    Q (.inr 0) S))) : ev_Cv g m_X9_restore 5 2 [ev_o 9 a, ev_i x0] S Q := by
  refine ev_enter (by decide) rfl rfl (Nat.le_of_ble_eq_true rfl) ?_
  show ev_E g m_X9_restore 5 2 0 [some (ev_o 9 a), some (ev_i x0), none] [] S Q
  refine ev_iload_n (x0) dX9_restore_0 rfl ?_
  refine ev_fS ms_X9_isSlot 1 [ev_i x0] [] dX9_restore_1 kw_1733 rfl (by decide) (Nat.le_of_ble_eq_true rfl) (sp_X9_isSlot x0) ?_ rfl
  by_cases c1 : (t_X9_isSlot x0) = true
  · rw [if_pos c1]
    replace hQ := hQ.1 c1
    refine ev_cS ms_X9_require 1 1 [ev_i 1] [] dX9_restore_4 kw_1343 rfl (by decide) (by decide) (Nat.le_of_ble_eq_true rfl) (Q' := fun o z => ev_After g m_X9_restore 5 (2 - 1) 4 [some (ev_o 9 a), some (ev_i x0), none] [] z Q o) (sg_X9_require_0 1 ?_) (fun o z h => h) rfl
    refine j_neg (by decide : ¬ ((1 : Int32) = 0)) ?_
    show ev_E g m_X9_restore 5 1 7 [some (ev_o 9 a), some (ev_i x0), none] [] S Q
    refine ev_iload_n (x0) dX9_restore_7 rfl ?_
    refine ev_if_ne 18 dX9_restore_8 (by decide) (fun c2 => ?_) (fun c2 => ?_)
    · replace hQ := hQ.2 c2
      refine ev_aload_n (ev_o 9 a) dX9_restore_18 rfl rfl ?_
      refine gf_9_9 dX9_restore_19 kw_696 ?_
      refine ev_istore_n dX9_restore_22 (Nat.le_of_ble_eq_true rfl) (ev_hw rfl) ?_
      show ev_E g m_X9_restore 5 1 23 [some (ev_o 9 a), some (ev_i x0), some (ev_i (S.1 a 9))] [] S Q
      refine ev_iload_n ((S.1 a 9)) dX9_restore_23 rfl ?_
      refine ev_if_ne 38 dX9_restore_24 (by decide) (fun c3 => ?_) (fun c3 => ?_)
      · replace hQ := hQ.2 c3
        refine ev_aload_n (ev_o 9 a) dX9_restore_38 rfl rfl ?_
        refine gf_9_3 dX9_restore_39 kw_690 ?_
        refine ev_aload_n (ev_o 9 a) dX9_restore_42 rfl rfl ?_
        refine ev_iload_n (x0) dX9_restore_43 rfl ?_
        refine ev_fV mv_X9_slotOf 1 9 [ev_i x0] [ev_o 2 (a + 11)] dX9_restore_44 kw_1736 rfl (by decide) rfl (by decide) (Nat.le_of_ble_eq_true rfl) (sp_X9_slotOf a x0) ?_ rfl
        refine ev_cV mv_X2_copyFrom 4 0 2 [ev_o 2 (a_X9_slotOf a x0)] [] dX9_restore_47 kw_653 rfl (by decide) rfl (by decide) (by decide) (Nat.le_of_ble_eq_true rfl) hQ ?_ rfl
        rintro o S1 ⟨rfl, hQ⟩
        show ev_E g m_X9_restore 5 1 50 [some (ev_o 9 a), some (ev_i x0), some (ev_i (S.1 a 9))] [] S1 Q
        refine ev_aload_n (ev_o 9 a) dX9_restore_50 rfl rfl ?_
        refine gf_9_5 dX9_restore_51 kw_692 ?_
        refine ev_fVn mv_X3_forget 1 3 [] [] dX9_restore_54 kw_741 rfl (by decide) rfl (by decide) (Nat.le_of_ble_eq_true rfl) (sp_X3_forget (a + 93)) ?_ rfl
        refine ev_sub hQ (fun S2 hS2 hQ => ?_)
        refine ev_E.goal (pc' := 57) (L' := [some (ev_o 9 a), some (ev_i x0), some (ev_i (S.1 a 9))]) (K' := []) (S' := S2) ?_ rfl rfl rfl hS2
        refine ev_aload_n (ev_o 9 a) dX9_restore_57 rfl rfl ?_
        refine gf_9_3 dX9_restore_58 kw_690 ?_
        refine ev_fV mv_X2_today 1 2 [] [] dX9_restore_61 kw_1108 rfl (by decide) rfl (by decide) (Nat.le_of_ble_eq_true rfl) (sp_X2_today (a + 11)) ?_ rfl
        refine ev_ke (j_rk hS2 (Or.inl (by omega))) ?_
        exact ev_ireturn .int dX9_restore_64 rfl rfl hQ
      · replace hQ := hQ.1 c3
        exact ev_throw3W 372 374 376 26 "the slot is empty" (by decide) rfl kw_1434 kw_133 (List.mem_of_getElem? (i := 26) rfl) at3_X9_376 dX9_restore_27 dX9_restore_30 dX9_restore_31 dX9_restore_34 dX9_restore_37 (Nat.le_of_ble_eq_true rfl) hQ
    · replace hQ := hQ.1 c2
      refine ev_aload_n (ev_o 9 a) dX9_restore_11 rfl rfl ?_
      refine gf_9_8 dX9_restore_12 kw_695 ?_
      refine ev_goto 22 dX9_restore_15 (by decide) ?_
      refine ev_istore_n dX9_restore_22 (Nat.le_of_ble_eq_true rfl) (ev_hw rfl) ?_
      show ev_E g m_X9_restore 5 1 23 [some (ev_o 9 a), some (ev_i x0), some (ev_i (S.1 a 8))] [] S Q
      refine ev_iload_n ((S.1 a 8)) dX9_restore_23 rfl ?_
      refine ev_if_ne 38 dX9_restore_24 (by decide) (fun c4 => ?_) (fun c4 => ?_)
      · replace hQ := hQ.2 c4
        refine ev_aload_n (ev_o 9 a) dX9_restore_38 rfl rfl ?_
        refine gf_9_3 dX9_restore_39 kw_690 ?_
        refine ev_aload_n (ev_o 9 a) dX9_restore_42 rfl rfl ?_
        refine ev_iload_n (x0) dX9_restore_43 rfl ?_
        refine ev_fV mv_X9_slotOf 1 9 [ev_i x0] [ev_o 2 (a + 11)] dX9_restore_44 kw_1736 rfl (by decide) rfl (by decide) (Nat.le_of_ble_eq_true rfl) (sp_X9_slotOf a x0) ?_ rfl
        refine ev_cV mv_X2_copyFrom 4 0 2 [ev_o 2 (a_X9_slotOf a x0)] [] dX9_restore_47 kw_653 rfl (by decide) rfl (by decide) (by decide) (Nat.le_of_ble_eq_true rfl) hQ ?_ rfl
        rintro o S3 ⟨rfl, hQ⟩
        show ev_E g m_X9_restore 5 1 50 [some (ev_o 9 a), some (ev_i x0), some (ev_i (S.1 a 8))] [] S3 Q
        refine ev_aload_n (ev_o 9 a) dX9_restore_50 rfl rfl ?_
        refine gf_9_5 dX9_restore_51 kw_692 ?_
        refine ev_fVn mv_X3_forget 1 3 [] [] dX9_restore_54 kw_741 rfl (by decide) rfl (by decide) (Nat.le_of_ble_eq_true rfl) (sp_X3_forget (a + 93)) ?_ rfl
        refine ev_sub hQ (fun S4 hS4 hQ => ?_)
        refine ev_E.goal (pc' := 57) (L' := [some (ev_o 9 a), some (ev_i x0), some (ev_i (S.1 a 8))]) (K' := []) (S' := S4) ?_ rfl rfl rfl hS4
        refine ev_aload_n (ev_o 9 a) dX9_restore_57 rfl rfl ?_
        refine gf_9_3 dX9_restore_58 kw_690 ?_
        refine ev_fV mv_X2_today 1 2 [] [] dX9_restore_61 kw_1108 rfl (by decide) rfl (by decide) (Nat.le_of_ble_eq_true rfl) (sp_X2_today (a + 11)) ?_ rfl
        refine ev_ke (j_rk hS4 (Or.inl (by omega))) ?_
        exact ev_ireturn .int dX9_restore_64 rfl rfl hQ
      · replace hQ := hQ.1 c4
        exact ev_throw3W 372 374 376 26 "the slot is empty" (by decide) rfl kw_1434 kw_133 (List.mem_of_getElem? (i := 26) rfl) at3_X9_376 dX9_restore_27 dX9_restore_30 dX9_restore_31 dX9_restore_34 dX9_restore_37 (Nat.le_of_ble_eq_true rfl) hQ
  · rw [if_neg c1]
    replace hQ := hQ.2 c1
    refine ev_cS ms_X9_require 1 1 [ev_i 0] [] dX9_restore_4 kw_1343 rfl (by decide) (by decide) (Nat.le_of_ble_eq_true rfl) (Q' := fun o z => ev_After g m_X9_restore 5 (2 - 1) 4 [some (ev_o 9 a), some (ev_i x0), none] [] z Q o) (sg_X9_require_0 0 ?_) (fun o z h => h) rfl
    refine j_pos (by decide : ((0 : Int32) = 0)) ?_
    exact ev_T_out (by decide) rfl hQ
set_option maxHeartbeats 4000000 in
set_option maxRecDepth 100000 in
theorem sg_X10_putP_0 {g : ev_G} {S : ev_S} {Q : ev_O → ev_S → Prop} (a : Nat) (x0 : Int32) (x1 : Int32) (x2 : Int32) (hQ : (vp_in ((12 + (7 * x0)) + x1) 2091) ∧ (
    ∀ S1 : ev_S, S1 = (ev_up S (a + 1) ((12 + (7 * x0)) + x1).toNatClampNeg x2) → (
      Q (.inl none) S1))) : ev_Cv g m_X10_putP 1 0 [ev_o 10 a, ev_i x0, ev_i x1, ev_i x2] S Q := by
  refine ev_enter (by decide) rfl rfl (Nat.le_of_ble_eq_true rfl) ?_
  show ev_E g m_X10_putP 1 0 0 [some (ev_o 10 a), some (ev_i x0), some (ev_i x1), some (ev_i x2)] [] S Q
  refine ev_aload_n (ev_o 10 a) dX10_putP_0 rfl rfl ?_
  refine gf_10_0 dX10_putP_1 kw_1853 ?_
  refine ev_bipush (12) dX10_putP_4 (by decide) ?_
  refine ev_bipush (7) dX10_putP_6 (by decide) ?_
  refine ev_iload_n (x0) dX10_putP_8 rfl ?_
  refine ev_imul dX10_putP_9 ?_
  refine ev_iadd dX10_putP_10 ?_
  refine ev_iload_n (x1) dX10_putP_11 rfl ?_
  refine ev_iadd dX10_putP_12 ?_
  refine ev_iload_n (x2) dX10_putP_13 rfl ?_
  obtain ⟨h1, hQ⟩ := hQ
  refine ev_iastore dX10_putP_14 h1 ?_
  refine ev_sub hQ (fun S1 hS1 hQ => ?_)
  refine ev_E.goal (pc' := 15) (L' := [some (ev_o 10 a), some (ev_i x0), some (ev_i x1), some (ev_i x2)]) (K' := []) (S' := S1) ?_ rfl rfl rfl hS1
  exact ev_return dX10_putP_15 rfl hQ
set_option maxHeartbeats 4000000 in
set_option maxRecDepth 100000 in
theorem sp_X10_putP {g : ev_G} {S : ev_S} (a : Nat) (x0 : Int32) (x1 : Int32) (x2 : Int32) (q0 : vp_in ((12 + (7 * x0)) + x1) 2091) : ev_Fn g m_X10_putP 1 [ev_o 10 a, ev_i x0, ev_i x1, ev_i x2] S none (ev_up S (a + 1) ((12 + (7 * x0)) + x1).toNatClampNeg x2) := by
  intro Q hQ
  refine sg_X10_putP_0 a x0 x1 x2 ?_
  refine ⟨(q0), ?_⟩
  intro S1 hS1
  subst hS1
  exact hQ
