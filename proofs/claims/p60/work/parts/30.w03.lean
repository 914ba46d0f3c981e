set_option maxHeartbeats 4000000 in
set_option maxRecDepth 100000 in
theorem sg_X9_reasonToWait_0 {g : ev_G} {S : ev_S} {Q : ev_O → ev_S → Prop} (a : Nat) (x0 : Int32) (hQ : ((t_X9_isPlayer x0) = true → (
    ((t_X1_mayPlay S (a_X2_deskOf (a + 11) x0)) = true → (
      Q (.inl (some (ev_i 0))) S)) ∧
    (¬ ((t_X1_mayPlay S (a_X2_deskOf (a + 11) x0)) = true) → (
      ((t_X0_isFinished S ((a_X2_deskOf (a + 11) x0) + 1)) = true → (
        Q (.inl (some (ev_i 1))) S)) ∧
      (¬ ((t_X0_isFinished S ((a_X2_deskOf (a + 11) x0) + 1)) = true) → (
        ev_Cv g m_X2_awaitedBy 3 0 [ev_o 2 (a + 11), ev_i x0] S (fun o S1 => ∃ v1_ : Int32, o = .inl (some (ev_i v1_)) ∧ (
          (v1_ = (-1) → (
            Q (.inl (some (ev_i 2))) S1)) ∧
          (¬ (v1_ = (-1)) → (
            ((j_at (S1.1 (a + 40)) 84 v1_) = 0 → (
              Q (.inl (some (ev_i 3))) S1)) ∧
            (¬ ((j_at (S1.1 (a + 40)) 84 v1_) = 0) → (
              Q (.inl (some (ev_i 4))) S1)))))))))))) ∧
  (¬ ((t_X9_isPlayer x0) = true) → (
    Q (.inr 0) S))) : ev_Cv g m_X9_reasonToWait 5 1 [ev_o 9 a, ev_i x0] S Q := by
  refine ev_enter (by decide) rfl rfl (Nat.le_of_ble_eq_true rfl) ?_
  show ev_E g m_X9_reasonToWait 5 1 0 [some (ev_o 9 a), some (ev_i x0), none] [] S Q
  refine ev_iload_n (x0) dX9_reasonToWait_0 rfl ?_
  refine ev_fS ms_X9_isPlayer 1 [ev_i x0] [] dX9_reasonToWait_1 kw_954 rfl (by decide) (Nat.le_of_ble_eq_true rfl) (sp_X9_isPlayer x0) ?_ rfl
  by_cases c1 : (t_X9_isPlayer x0) = true
  · rw [if_pos c1]
    replace hQ := hQ.1 c1
    refine ev_cS ms_X9_require 1 1 [ev_i 1] [] dX9_reasonToWait_4 kw_966 rfl (by decide) (by decide) (Nat.le_of_ble_eq_true rfl) (Q' := fun o z => ev_After g m_X9_reasonToWait 5 (1 - 1) 4 [some (ev_o 9 a), some (ev_i x0), none] [] z Q o) (sg_X9_require_0 1 ?_) (fun o z h => h) rfl
    refine j_neg (by decide : ¬ ((1 : Int32) = 0)) ?_
    show ev_E g m_X9_reasonToWait 5 0 7 [some (ev_o 9 a), some (ev_i x0), none] [] S Q
    refine ev_aload_n (ev_o 9 a) dX9_reasonToWait_7 rfl rfl ?_
    refine gf_9_3 dX9_reasonToWait_8 kw_601 ?_
    refine ev_iload_n (x0) dX9_reasonToWait_11 rfl ?_
    refine ev_fV mv_X2_deskOf 1 2 [ev_i x0] [] dX9_reasonToWait_12 kw_1057 rfl (by decide) rfl (by decide) (Nat.le_of_ble_eq_true rfl) (sp_X2_deskOf (a + 11) x0) ?_ rfl
    refine ev_fV mv_X1_mayPlay 4 1 [] [] dX9_reasonToWait_15 kw_1058 rfl (by decide) rfl (by decide) (Nat.le_of_ble_eq_true rfl) (sp_X1_mayPlay (a_X2_deskOf (a + 11) x0)) ?_ rfl
    by_cases c2 : (t_X1_mayPlay S (a_X2_deskOf (a + 11) x0)) = true
    · rw [if_pos c2]
      replace hQ := hQ.1 c2
      refine ev_if_eq 23 dX9_reasonToWait_18 (by decide) (fun h9 => absurd h9 (by decide : ¬ ((1 : Int32) = 0))) (fun _ => ?_)
      refine ev_iconst (0) dX9_reasonToWait_21 rfl ?_
      exact ev_ireturn .int dX9_reasonToWait_22 rfl rfl hQ
    · rw [if_neg c2]
      replace hQ := hQ.2 c2
      refine ev_if_eq 23 dX9_reasonToWait_18 (by decide) (fun _ => ?_) (fun h9 => absurd (by decide : ((0 : Int32) = 0)) h9)
      refine ev_aload_n (ev_o 9 a) dX9_reasonToWait_23 rfl rfl ?_
      refine gf_9_3 dX9_reasonToWait_24 kw_601 ?_
      refine ev_iload_n (x0) dX9_reasonToWait_27 rfl ?_
      refine ev_fV mv_X2_boardOf 2 2 [ev_i x0] [] dX9_reasonToWait_28 kw_488 rfl (by decide) rfl (by decide) (Nat.le_of_ble_eq_true rfl) (sp_X2_boardOf (a + 11) x0) ?_ rfl
      refine ev_fV mv_X0_isFinished 3 0 [] [] dX9_reasonToWait_31 kw_1078 rfl (by decide) rfl (by decide) (Nat.le_of_ble_eq_true rfl) (sp_X0_isFinished ((a_X2_deskOf (a + 11) x0) + 1)) ?_ rfl
      by_cases c3 : (t_X0_isFinished S ((a_X2_deskOf (a + 11) x0) + 1)) = true
      · rw [if_pos c3]
        replace hQ := hQ.1 c3
        refine ev_if_eq 39 dX9_reasonToWait_34 (by decide) (fun h9 => absurd h9 (by decide : ¬ ((1 : Int32) = 0))) (fun _ => ?_)
        refine ev_iconst (1) dX9_reasonToWait_37 rfl ?_
        exact ev_ireturn .int dX9_reasonToWait_38 rfl rfl hQ
      · rw [if_neg c3]
        replace hQ := hQ.2 c3
        refine ev_if_eq 39 dX9_reasonToWait_34 (by decide) (fun _ => ?_) (fun h9 => absurd (by decide : ((0 : Int32) = 0)) h9)
        refine ev_aload_n (ev_o 9 a) dX9_reasonToWait_39 rfl rfl ?_
        refine gf_9_3 dX9_reasonToWait_40 kw_601 ?_
        refine ev_iload_n (x0) dX9_reasonToWait_43 rfl ?_
        refine ev_cV mv_X2_awaitedBy 3 0 2 [ev_i x0] [] dX9_reasonToWait_44 kw_1095 rfl (by decide) rfl (by decide) (by decide) (Nat.le_of_ble_eq_true rfl) hQ ?_ rfl
        rintro o S1 ⟨v1_, rfl, hQ⟩
        show ev_E g m_X9_reasonToWait 5 0 47 [some (ev_o 9 a), some (ev_i x0), none] [ev_i v1_] S1 Q
        refine ev_istore_n dX9_reasonToWait_47 (Nat.le_of_ble_eq_true rfl) (ev_hw rfl) ?_
        show ev_E g m_X9_reasonToWait 5 0 48 [some (ev_o 9 a), some (ev_i x0), some (ev_i v1_)] [] S1 Q
        refine ev_iload_n (v1_) dX9_reasonToWait_48 rfl ?_
        refine ev_iconst (-1) dX9_reasonToWait_49 rfl ?_
        refine ev_icmp_ne 55 dX9_reasonToWait_50 (by decide) (fun c4 => ?_) (fun c4 => ?_)
        · replace hQ := hQ.2 c4
          refine ev_aload_n (ev_o 9 a) dX9_reasonToWait_55 rfl rfl ?_
          refine gf_9_3 dX9_reasonToWait_56 kw_601 ?_
          refine ev_fV mv_X2_post 1 2 [] [] dX9_reasonToWait_59 kw_1121 rfl (by decide) rfl (by decide) (Nat.le_of_ble_eq_true rfl) (sp_X2_post (a + 11)) ?_ rfl
          refine ev_iload_n (v1_) dX9_reasonToWait_62 rfl ?_
          refine ev_fV mv_X6_stateOf 2 6 [ev_i v1_] [] dX9_reasonToWait_63 kw_1125 rfl (by decide) rfl (by decide) (Nat.le_of_ble_eq_true rfl) (sp_X6_stateOf (a + 30) v1_) ?_ rfl
          refine ev_if_ne 73 dX9_reasonToWait_66 (by decide) (fun c5 => ?_) (fun c5 => ?_)
          · replace hQ := hQ.2 c5
            refine ev_iconst (4) dX9_reasonToWait_73 rfl ?_
            exact ev_ireturn .int dX9_reasonToWait_74 rfl rfl hQ
          · replace hQ := hQ.1 c5
            refine ev_iconst (3) dX9_reasonToWait_69 rfl ?_
            refine ev_goto 74 dX9_reasonToWait_70 (by decide) ?_
            exact ev_ireturn .int dX9_reasonToWait_74 rfl rfl hQ
        · replace hQ := hQ.1 c4
          refine ev_iconst (2) dX9_reasonToWait_53 rfl ?_
          exact ev_ireturn .int dX9_reasonToWait_54 rfl rfl hQ
  · rw [if_neg c1]
    replace hQ := hQ.2 c1
    refine ev_cS ms_X9_require 1 1 [ev_i 0] [] dX9_reasonToWait_4 kw_966 rfl (by decide) (by decide) (Nat.le_of_ble_eq_true rfl) (Q' := fun o z => ev_After g m_X9_reasonToWait 5 (1 - 1) 4 [some (ev_o 9 a), some (ev_i x0), none] [] z Q o) (sg_X9_require_0 0 ?_) (fun o z h => h) rfl
    refine j_pos (by decide : ((0 : Int32) = 0)) ?_
    exact ev_T_out (by decide) rfl hQ
set_option maxHeartbeats 4000000 in
set_option maxRecDepth 100000 in
theorem sg_X2_duplicates_0 {g : ev_G} {S : ev_S} {Q : ev_O → ev_S → Prop} (a : Nat) (hQ : Q (.inl (some (ev_i (S.1 a 5)))) S) : ev_Cv g m_X2_duplicates 1 0 [ev_o 2 a] S Q := by
  refine ev_enter (by decide) rfl rfl (Nat.le_of_ble_eq_true rfl) ?_
  show ev_E g m_X2_duplicates 1 0 0 [some (ev_o 2 a)] [] S Q
  refine ev_aload_n (ev_o 2 a) dX2_duplicates_0 rfl rfl ?_
  refine gf_2_5 dX2_duplicates_1 kw_302 ?_
  exact ev_ireturn .int dX2_duplicates_4 rfl rfl hQ
set_option maxHeartbeats 4000000 in
set_option maxRecDepth 100000 in
theorem sp_X2_duplicates {g : ev_G} {S : ev_S} (a : Nat)  : ev_Fn g m_X2_duplicates 1 [ev_o 2 a] S (some (ev_i (S.1 a 5))) S := by
  intro Q hQ
  refine sg_X2_duplicates_0 a ?_
  exact hQ
set_option maxHeartbeats 4000000 in
set_option maxRecDepth 100000 in
theorem sg_X9_duplicateCount_0 {g : ev_G} {S : ev_S} {Q : ev_O → ev_S → Prop} (a : Nat) (hQ : Q (.inl (some (ev_i (S.1 (a + 11) 5)))) S) : ev_Cv g m_X9_duplicateCount 2 0 [ev_o 9 a] S Q := by
  refine ev_enter (by decide) rfl rfl (Nat.le_of_ble_eq_true rfl) ?_
  show ev_E g m_X9_duplicateCount 2 0 0 [some (ev_o 9 a)] [] S Q
  refine ev_aload_n (ev_o 9 a) dX9_duplicateCount_0 rfl rfl ?_
  refine gf_9_3 dX9_duplicateCount_1 kw_601 ?_
  refine ev_fV mv_X2_duplicates 1 2 [] [] dX9_duplicateCount_4 kw_1287 rfl (by decide) rfl (by decide) (Nat.le_of_ble_eq_true rfl) (sp_X2_duplicates (a + 11)) ?_ rfl
  exact ev_ireturn .int dX9_duplicateCount_7 rfl rfl hQ
set_option maxHeartbeats 4000000 in
set_option maxRecDepth 100000 in
theorem sp_X9_duplicateCount {g : ev_G} {S : ev_S} (a : Nat)  : ev_Fn g m_X9_duplicateCount 2 [ev_o 9 a] S (some (ev_i (S.1 (a + 11) 5))) S := by
  intro Q hQ
  refine sg_X9_duplicateCount_0 a ?_
  exact hQ
set_option maxHeartbeats 4000000 in
set_option maxRecDepth 100000 in
theorem sg_X1_keptCount_0 {g : ev_G} {S : ev_S} {Q : ev_O → ev_S → Prop} (a : Nat) (hQ : Q (.inl (some (ev_i (S.1 a 6)))) S) : ev_Cv g m_X1_keptCount 1 0 [ev_o 1 a] S Q := by
  refine ev_enter (by decide) rfl rfl (Nat.le_of_ble_eq_true rfl) ?_
  show ev_E g m_X1_keptCount 1 0 0 [some (ev_o 1 a)] [] S Q
  refine ev_aload_n (ev_o 1 a) dX1_keptCount_0 rfl rfl ?_
  refine gf_1_6 dX1_keptCount_1 kw_184 ?_
  exact ev_ireturn .int dX1_keptCount_4 rfl rfl hQ
set_option maxHeartbeats 4000000 in
set_option maxRecDepth 100000 in
theorem sp_X1_keptCount {g : ev_G} {S : ev_S} (a : Nat)  : ev_Fn g m_X1_keptCount 1 [ev_o 1 a] S (some (ev_i (S.1 a 6))) S := by
  intro Q hQ
  refine sg_X1_keptCount_0 a ?_
  exact hQ
set_option maxHeartbeats 4000000 in
set_option maxRecDepth 100000 in
theorem sg_X9_keptPromises_0 {g : ev_G} {S : ev_S} {Q : ev_O → ev_S → Prop} (a : Nat) (x0 : Int32) (hQ : ((t_X9_isPlayer x0) = true → (
    Q (.inl (some (ev_i (S.1 (a_X2_deskOf (a + 11) x0) 6)))) S)) ∧
  (¬ ((t_X9_isPlayer x0) = true) → (
    Q (.inr 0) S))) : ev_Cv g m_X9_keptPromises 2 1 [ev_o 9 a, ev_i x0] S Q := by
  refine ev_enter (by decide) rfl rfl (Nat.le_of_ble_eq_true rfl) ?_
  show ev_E g m_X9_keptPromises 2 1 0 [some (ev_o 9 a), some (ev_i x0)] [] S Q
  refine ev_iload_n (x0) dX9_keptPromises_0 rfl ?_
  refine ev_fS ms_X9_isPlayer 1 [ev_i x0] [] dX9_keptPromises_1 kw_954 rfl (by decide) (Nat.le_of_ble_eq_true rfl) (sp_X9_isPlayer x0) ?_ rfl
  by_cases c1 : (t_X9_isPlayer x0) = true
  · rw [if_pos c1]
    replace hQ := hQ.1 c1
    refine ev_cS ms_X9_require 1 1 [ev_i 1] [] dX9_keptPromises_4 kw_966 rfl (by decide) (by decide) (Nat.le_of_ble_eq_true rfl) (Q' := fun o z => ev_After g m_X9_keptPromises 2 (1 - 1) 4 [some (ev_o 9 a), some (ev_i x0)] [] z Q o) (sg_X9_require_0 1 ?_) (fun o z h => h) rfl
    refine j_neg (by decide : ¬ ((1 : Int32) = 0)) ?_
    show ev_E g m_X9_keptPromises 2 0 7 [some (ev_o 9 a), some (ev_i x0)] [] S Q
    refine ev_aload_n (ev_o 9 a) dX9_keptPromises_7 rfl rfl ?_
    refine gf_9_3 dX9_keptPromises_8 kw_601 ?_
    refine ev_iload_n (x0) dX9_keptPromises_11 rfl ?_
    refine ev_fV mv_X2_deskOf 1 2 [ev_i x0] [] dX9_keptPromises_12 kw_1057 rfl (by decide) rfl (by decide) (Nat.le_of_ble_eq_true rfl) (sp_X2_deskOf (a + 11) x0) ?_ rfl
    refine ev_fV mv_X1_keptCount 1 1 [] [] dX9_keptPromises_15 kw_1130 rfl (by decide) rfl (by decide) (Nat.le_of_ble_eq_true rfl) (sp_X1_keptCount (a_X2_deskOf (a + 11) x0)) ?_ rfl
    exact ev_ireturn .int dX9_keptPromises_18 rfl rfl hQ
  · rw [if_neg c1]
    replace hQ := hQ.2 c1
    refine ev_cS ms_X9_require 1 1 [ev_i 0] [] dX9_keptPromises_4 kw_966 rfl (by decide) (by decide) (Nat.le_of_ble_eq_true rfl) (Q' := fun o z => ev_After g m_X9_keptPromises 2 (1 - 1) 4 [some (ev_o 9 a), some (ev_i x0)] [] z Q o) (sg_X9_require_0 0 ?_) (fun o z h => h) rfl
    refine j_pos (by decide : ((0 : Int32) = 0)) ?_
    exact ev_T_out (by decide) rfl hQ
set_option maxHeartbeats 4000000 in
set_option maxRecDepth 100000 in
theorem sg_X1_longest_0 {g : ev_G} {S : ev_S} {Q : ev_O → ev_S → Prop} (a : Nat) (hQ : Q (.inl (some (ev_i (S.1 a 10)))) S) : ev_Cv g m_X1_longest 1 0 [ev_o 1 a] S Q := by
  refine ev_enter (by decide) rfl rfl (Nat.le_of_ble_eq_true rfl) ?_
  show ev_E g m_X1_longest 1 0 0 [some (ev_o 1 a)] [] S Q
  refine ev_aload_n (ev_o 1 a) dX1_longest_0 rfl rfl ?_
  refine gf_1_10 dX1_longest_1 kw_188 ?_
  exact ev_ireturn .int dX1_longest_4 rfl rfl hQ
set_option maxHeartbeats 4000000 in
set_option maxRecDepth 100000 in
theorem sp_X1_longest {g : ev_G} {S : ev_S} (a : Nat)  : ev_Fn g m_X1_longest 1 [ev_o 1 a] S (some (ev_i (S.1 a 10))) S := by
  intro Q hQ
  refine sg_X1_longest_0 a ?_
  exact hQ
set_option maxHeartbeats 4000000 in
set_option maxRecDepth 100000 in
theorem sg_X9_longestWait_0 {g : ev_G} {S : ev_S} {Q : ev_O → ev_S → Prop} (a : Nat) (x0 : Int32) (hQ : ((t_X9_isPlayer x0) = true → (
    Q (.inl (some (ev_i (S.1 (a_X2_deskOf (a + 11) x0) 10)))) S)) ∧
  (¬ ((t_X9_isPlayer x0) = true) → (
    Q (.inr 0) S))) : ev_Cv g m_X9_longestWait 2 1 [ev_o 9 a, ev_i x0] S Q := by
  refine ev_enter (by decide) rfl rfl (Nat.le_of_ble_eq_true rfl) ?_
  show ev_E g m_X9_longestWait 2 1 0 [some (ev_o 9 a), some (ev_i x0)] [] S Q
  refine ev_iload_n (x0) dX9_longestWait_0 rfl ?_
  refine ev_fS ms_X9_isPlayer 1 [ev_i x0] [] dX9_longestWait_1 kw_954 rfl (by decide) (Nat.le_of_ble_eq_true rfl) (sp_X9_isPlayer x0) ?_ rfl
  by_cases c1 : (t_X9_isPlayer x0) = true
  · rw [if_pos c1]
    replace hQ := hQ.1 c1
    refine ev_cS ms_X9_require 1 1 [ev_i 1] [] dX9_longestWait_4 kw_966 rfl (by decide) (by decide) (Nat.le_of_ble_eq_true rfl) (Q' := fun o z => ev_After g m_X9_longestWait 2 (1 - 1) 4 [some (ev_o 9 a), some (ev_i x0)] [] z Q o) (sg_X9_require_0 1 ?_) (fun o z h => h) rfl
    refine j_neg (by decide : ¬ ((1 : Int32) = 0)) ?_
    show ev_E g m_X9_longestWait 2 0 7 [some (ev_o 9 a), some (ev_i x0)] [] S Q
    refine ev_aload_n (ev_o 9 a) dX9_longestWait_7 rfl rfl ?_
    refine gf_9_3 dX9_longestWait_8 kw_601 ?_
    refine ev_iload_n (x0) dX9_longestWait_11 rfl ?_
    refine ev_fV mv_X2_deskOf 1 2 [ev_i x0] [] dX9_longestWait_12 kw_1057 rfl (by decide) rfl (by decide) (Nat.le_of_ble_eq_true rfl) (sp_X2_deskOf (a + 11) x0) ?_ rfl
    refine ev_fV mv_X1_longest 1 1 [] [] dX9_longestWait_15 kw_1138 rfl (by decide) rfl (by decide) (Nat.le_of_ble_eq_true rfl) (sp_X1_longest (a_X2_deskOf (a + 11) x0)) ?_ rfl
    exact ev_ireturn .int dX9_longestWait_18 rfl rfl hQ
  · rw [if_neg c1]
    replace hQ := hQ.2 c1
    refine ev_cS ms_X9_require 1 1 [ev_i 0] [] dX9_longestWait_4 kw_966 rfl (by decide) (by decide) (Nat.le_of_ble_eq_true rfl) (Q' := fun o z => ev_After g m_X9_longestWait 2 (1 - 1) 4 [some (ev_o 9 a), some (ev_i x0)] [] z Q o) (sg_X9_require_0 0 ?_) (fun o z h => h) rfl
    refine j_pos (by decide : ((0 : Int32) = 0)) ?_
    exact ev_T_out (by decide) rfl hQ
set_option maxHeartbeats 4000000 in
set_option maxRecDepth 100000 in
theorem sg_X1_waits_0 {g : ev_G} {S : ev_S} {Q : ev_O → ev_S → Prop} (a : Nat) (hQ : Q (.inl (some (ev_i (S.1 a 8)))) S) : ev_Cv g m_X1_waits 1 0 [ev_o 1 a] S Q := by
  refine ev_enter (by decide) rfl rfl (Nat.le_of_ble_eq_true rfl) ?_
  show ev_E g m_X1_waits 1 0 0 [some (ev_o 1 a)] [] S Q
  refine ev_aload_n (ev_o 1 a) dX1_waits_0 rfl rfl ?_
  refine gf_1_8 dX1_waits_1 kw_186 ?_
  exact ev_ireturn .int dX1_waits_4 rfl rfl hQ
set_option maxHeartbeats 4000000 in
set_option maxRecDepth 100000 in
theorem sp_X1_waits {g : ev_G} {S : ev_S} (a : Nat)  : ev_Fn g m_X1_waits 1 [ev_o 1 a] S (some (ev_i (S.1 a 8))) S := by
  intro Q hQ
  refine sg_X1_waits_0 a ?_
  exact hQ
set_option maxHeartbeats 4000000 in
set_option maxRecDepth 100000 in
theorem sg_X1_waitSum_0 {g : ev_G} {S : ev_S} {Q : ev_O → ev_S → Prop} (a : Nat) (hQ : Q (.inl (some (ev_i (S.1 a 9)))) S) : ev_Cv g m_X1_waitSum 1 0 [ev_o 1 a] S Q := by
  refine ev_enter (by decide) rfl rfl (Nat.le_of_ble_eq_true rfl) ?_
  show ev_E g m_X1_waitSum 1 0 0 [some (ev_o 1 a)] [] S Q
  refine ev_aload_n (ev_o 1 a) dX1_waitSum_0 rfl rfl ?_
  refine gf_1_9 dX1_waitSum_1 kw_187 ?_
  exact ev_ireturn .int dX1_waitSum_4 rfl rfl hQ
set_option maxHeartbeats 4000000 in
set_option maxRecDepth 100000 in
theorem sp_X1_waitSum {g : ev_G} {S : ev_S} (a : Nat)  : ev_Fn g m_X1_waitSum 1 [ev_o 1 a] S (some (ev_i (S.1 a 9))) S := by
  intro Q hQ
  refine sg_X1_waitSum_0 a ?_
  exact hQ
set_option maxHeartbeats 4000000 in
set_option maxRecDepth 100000 in
theorem sg_X9_meanWait_0 {g : ev_G} {S : ev_S} {Q : ev_O → ev_S → Prop} (a : Nat) (x0 : Int32) (hQ : ((t_X9_isPlayer x0) = true → (
    ((S.1 (a_X2_deskOf (a + 11) x0) 8) = 0 → (
      Q (.inl (some (ev_d 0))) S)) ∧
    (¬ ((S.1 (a_X2_deskOf (a + 11) x0) 8) = 0) → (
      (vf_n64 (FP.ddiv (FP.i2d (S.1 (a_X2_deskOf (a + 11) x0) 9)) (FP.i2d (S.1 (a_X2_deskOf (a + 11) x0) 8)))) ∧ (
        Q (.inl (some (ev_d (FP.ddiv (FP.i2d (S.1 (a_X2_deskOf (a + 11) x0) 9)) (FP.i2d (S.1 (a_X2_deskOf (a + 11) x0) 8)))))) S))))) ∧
  (¬ ((t_X9_isPlayer x0) = true) → (
    Q (.inr 0) S))) : ev_Cv g m_X9_meanWait 2 1 [ev_o 9 a, ev_i x0] S Q := by
  refine ev_enter (by decide) rfl rfl (Nat.le_of_ble_eq_true rfl) ?_
  show ev_E g m_X9_meanWait 2 1 0 [some (ev_o 9 a), some (ev_i x0), none, none] [] S Q
  refine ev_iload_n (x0) dX9_meanWait_0 rfl ?_
  refine ev_fS ms_X9_isPlayer 1 [ev_i x0] [] dX9_meanWait_1 kw_954 rfl (by decide) (Nat.le_of_ble_eq_true rfl) (sp_X9_isPlayer x0) ?_ rfl
  by_cases c1 : (t_X9_isPlayer x0) = true
  · rw [if_pos c1]
    replace hQ := hQ.1 c1
    refine ev_cS ms_X9_require 1 1 [ev_i 1] [] dX9_meanWait_4 kw_966 rfl (by decide) (by decide) (Nat.le_of_ble_eq_true rfl) (Q' := fun o z => ev_After g m_X9_meanWait 2 (1 - 1) 4 [some (ev_o 9 a), some (ev_i x0), none, none] [] z Q o) (sg_X9_require_0 1 ?_) (fun o z h => h) rfl
    refine j_neg (by decide : ¬ ((1 : Int32) = 0)) ?_
    show ev_E g m_X9_meanWait 2 0 7 [some (ev_o 9 a), some (ev_i x0), none, none] [] S Q
    refine ev_aload_n (ev_o 9 a) dX9_meanWait_7 rfl rfl ?_
    refine gf_9_3 dX9_meanWait_8 kw_601 ?_
    refine ev_iload_n (x0) dX9_meanWait_11 rfl ?_
    refine ev_fV mv_X2_deskOf 1 2 [ev_i x0] [] dX9_meanWait_12 kw_1057 rfl (by decide) rfl (by decide) (Nat.le_of_ble_eq_true rfl) (sp_X2_deskOf (a + 11) x0) ?_ rfl
    refine ev_astore_n dX9_meanWait_15 rfl (Nat.le_of_ble_eq_true rfl) (ev_hw rfl) ?_
    show ev_E g m_X9_meanWait 2 0 16 [some (ev_o 9 a), some (ev_i x0), some (ev_o 1 (a_X2_deskOf (a + 11) x0)), none] [] S Q
    refine ev_aload_n (ev_o 1 (a_X2_deskOf (a + 11) x0)) dX9_meanWait_16 rfl rfl ?_
    refine ev_fV mv_X1_waits 1 1 [] [] dX9_meanWait_17 kw_1146 rfl (by decide) rfl (by decide) (Nat.le_of_ble_eq_true rfl) (sp_X1_waits (a_X2_deskOf (a + 11) x0)) ?_ rfl
    refine ev_istore_n dX9_meanWait_20 (Nat.le_of_ble_eq_true rfl) (ev_hw rfl) ?_
    show ev_E g m_X9_meanWait 2 0 21 [some (ev_o 9 a), some (ev_i x0), some (ev_o 1 (a_X2_deskOf (a + 11) x0)), some (ev_i (S.1 (a_X2_deskOf (a + 11) x0) 8))] [] S Q
    refine ev_iload_n ((S.1 (a_X2_deskOf (a + 11) x0) 8)) dX9_meanWait_21 rfl ?_
    refine ev_if_ne 29 dX9_meanWait_22 (by decide) (fun c2 => ?_) (fun c2 => ?_)
    · replace hQ := hQ.2 c2
      refine ev_aload_n (ev_o 1 (a_X2_deskOf (a + 11) x0)) dX9_meanWait_29 rfl rfl ?_
      refine ev_fV mv_X1_waitSum 1 1 [] [] dX9_meanWait_30 kw_1150 rfl (by decide) rfl (by decide) (Nat.le_of_ble_eq_true rfl) (sp_X1_waitSum (a_X2_deskOf (a + 11) x0)) ?_ rfl
      refine ev_i2d dX9_meanWait_33 ?_
      refine ev_iload_n ((S.1 (a_X2_deskOf (a + 11) x0) 8)) dX9_meanWait_34 rfl ?_
      refine ev_i2d dX9_meanWait_35 ?_
      obtain ⟨h1, hQ⟩ := hQ
      refine ev_ddiv dX9_meanWait_36 h1 ?_
      exact ev_dreturn dX9_meanWait_37 rfl hQ
    · replace hQ := hQ.1 c2
      refine ev_dconst0 dX9_meanWait_25 ?_
      refine ev_goto 37 dX9_meanWait_26 (by decide) ?_
      exact ev_dreturn dX9_meanWait_37 rfl hQ
  · rw [if_neg c1]
    replace hQ := hQ.2 c1
    refine ev_cS ms_X9_require 1 1 [ev_i 0] [] dX9_meanWait_4 kw_966 rfl (by decide) (by decide) (Nat.le_of_ble_eq_true rfl) (Q' := fun o z => ev_After g m_X9_meanWait 2 (1 - 1) 4 [some (ev_o 9 a), some (ev_i x0), none, none] [] z Q o) (sg_X9_require_0 0 ?_) (fun o z h => h) rfl
    refine j_pos (by decide : ((0 : Int32) = 0)) ?_
    exact ev_T_out (by decide) rfl hQ
set_option maxHeartbeats 4000000 in
set_option maxRecDepth 100000 in
theorem sg_X6_arrivedCount_0 {g : ev_G} {S : ev_S} {Q : ev_O → ev_S → Prop} (a : Nat) (hQ : Q (.inl (some (ev_i (S.1 a 16)))) S) : ev_Cv g m_X6_arrivedCount 1 0 [ev_o 6 a] S Q := by
  refine ev_enter (by decide) rfl rfl (Nat.le_of_ble_eq_true rfl) ?_
  show ev_E g m_X6_arrivedCount 1 0 0 [some (ev_o 6 a)] [] S Q
  refine ev_aload_n (ev_o 6 a) dX6_arrivedCount_0 rfl rfl ?_
  refine gf_6_16 dX6_arrivedCount_1 kw_256 ?_
  exact ev_ireturn .int dX6_arrivedCount_4 rfl rfl hQ
set_option maxHeartbeats 4000000 in
set_option maxRecDepth 100000 in
theorem sp_X6_arrivedCount {g : ev_G} {S : ev_S} (a : Nat)  : ev_Fn g m_X6_arrivedCount 1 [ev_o 6 a] S (some (ev_i (S.1 a 16))) S := by
  intro Q hQ
  refine sg_X6_arrivedCount_0 a ?_
  exact hQ
set_option maxHeartbeats 4000000 in
set_option maxRecDepth 100000 in
theorem sg_X6_travelSum_0 {g : ev_G} {S : ev_S} {Q : ev_O → ev_S → Prop} (a : Nat) (hQ : Q (.inl (some (ev_i (S.1 a 17)))) S) : ev_Cv g m_X6_travelSum 1 0 [ev_o 6 a] S Q := by
  refine ev_enter (by decide) rfl rfl (Nat.le_of_ble_eq_true rfl) ?_
  show ev_E g m_X6_travelSum 1 0 0 [some (ev_o 6 a)] [] S Q
  refine ev_aload_n (ev_o 6 a) dX6_travelSum_0 rfl rfl ?_
  refine gf_6_17 dX6_travelSum_1 kw_257 ?_
  exact ev_ireturn .int dX6_travelSum_4 rfl rfl hQ
set_option maxHeartbeats 4000000 in
set_option maxRecDepth 100000 in
theorem sp_X6_travelSum {g : ev_G} {S : ev_S} (a : Nat)  : ev_Fn g m_X6_travelSum 1 [ev_o 6 a] S (some (ev_i (S.1 a 17))) S := by
  intro Q hQ
  refine sg_X6_travelSum_0 a ?_
  exact hQ
set_option maxHeartbeats 4000000 in
set_option maxRecDepth 100000 in
theorem sg_X9_meanTravel_0 {g : ev_G} {S : ev_S} {Q : ev_O → ev_S → Prop} (a : Nat) (hQ : ((S.1 (a + 30) 16) = 0 → (
    Q (.inl (some (ev_f 0))) S)) ∧
  (¬ ((S.1 (a + 30) 16) = 0) → (
    (vf_n32 (FP.fdiv (FP.i2f (S.1 (a + 30) 17)) (FP.i2f (S.1 (a + 30) 16)))) ∧ (
      Q (.inl (some (ev_f (FP.fdiv (FP.i2f (S.1 (a + 30) 17)) (FP.i2f (S.1 (a + 30) 16)))))) S)))) : ev_Cv g m_X9_meanTravel 2 0 [ev_o 9 a] S Q := by
  refine ev_enter (by decide) rfl rfl (Nat.le_of_ble_eq_true rfl) ?_
  show ev_E g m_X9_meanTravel 2 0 0 [some (ev_o 9 a), none] [] S Q
  refine ev_aload_n (ev_o 9 a) dX9_meanTravel_0 rfl rfl ?_
  refine gf_9_3 dX9_meanTravel_1 kw_601 ?_
  refine ev_fV mv_X2_post 1 2 [] [] dX9_meanTravel_4 kw_1121 rfl (by decide) rfl (by decide) (Nat.le_of_ble_eq_true rfl) (sp_X2_post (a + 11)) ?_ rfl
  refine ev_fV mv_X6_arrivedCount 1 6 [] [] dX9_meanTravel_7 kw_1326 rfl (by decide) rfl (by decide) (Nat.le_of_ble_eq_true rfl) (sp_X6_arrivedCount (a + 30)) ?_ rfl
  refine ev_istore_n dX9_meanTravel_10 (Nat.le_of_ble_eq_true rfl) (ev_hw rfl) ?_
  show ev_E g m_X9_meanTravel 2 0 11 [some (ev_o 9 a), some (ev_i (S.1 (a + 30) 16))] [] S Q
  refine ev_iload_n ((S.1 (a + 30) 16)) dX9_meanTravel_11 rfl ?_
  refine ev_if_ne 19 dX9_meanTravel_12 (by decide) (fun c1 => ?_) (fun c1 => ?_)
  · replace hQ := hQ.2 c1
    refine ev_aload_n (ev_o 9 a) dX9_meanTravel_19 rfl rfl ?_
    refine gf_9_3 dX9_meanTravel_20 kw_601 ?_
    refine ev_fV mv_X2_post 1 2 [] [] dX9_meanTravel_23 kw_1121 rfl (by decide) rfl (by decide) (Nat.le_of_ble_eq_true rfl) (sp_X2_post (a + 11)) ?_ rfl
    refine ev_fV mv_X6_travelSum 1 6 [] [] dX9_meanTravel_26 kw_1330 rfl (by decide) rfl (by decide) (Nat.le_of_ble_eq_true rfl) (sp_X6_travelSum (a + 30)) ?_ rfl
    refine ev_i2f dX9_meanTravel_29 ?_
    refine ev_iload_n ((S.1 (a + 30) 16)) dX9_meanTravel_30 rfl ?_
    refine ev_i2f dX9_meanTravel_31 ?_
    obtain ⟨h1, hQ⟩ := hQ
    refine ev_fdiv dX9_meanTravel_32 h1 ?_
    exact ev_freturn dX9_meanTravel_33 rfl hQ
  · replace hQ := hQ.1 c1
    refine ev_fconst0 dX9_meanTravel_15 ?_
    refine ev_goto 33 dX9_meanTravel_16 (by decide) ?_
    exact ev_freturn dX9_meanTravel_33 rfl hQ
set_option maxHeartbeats 4000000 in
set_option maxRecDepth 100000 in
theorem sg_X0_differencesFrom_0 {g : ev_G} {S : ev_S} {Q : ev_O → ev_S → Prop} (a : Nat) (b0 : Nat) (hQ : ev_E g m_X0_differencesFrom 3 0 17 [some (ev_o 0 a), some (ev_o 0 b0), some (ev_i 0), some (ev_i (ev_min (S.1 a 6) (S.1 b0 6))), some (ev_i 1)] [] S Q) : ev_Cv g m_X0_differencesFrom 3 0 [ev_o 0 a, ev_o 0 b0] S Q := by
  refine ev_enter (by decide) rfl rfl (Nat.le_of_ble_eq_true rfl) ?_
  show ev_E g m_X0_differencesFrom 3 0 0 [some (ev_o 0 a), some (ev_o 0 b0), none, none, none] [] S Q
  refine ev_iconst (0) dX0_differencesFrom_0 rfl ?_
  refine ev_istore_n dX0_differencesFrom_1 (Nat.le_of_ble_eq_true rfl) (ev_hw rfl) ?_
  show ev_E g m_X0_differencesFrom 3 0 2 [some (ev_o 0 a), some (ev_o 0 b0), some (ev_i 0), none, none] [] S Q
  refine ev_aload_n (ev_o 0 a) dX0_differencesFrom_2 rfl rfl ?_
  refine gf_0_6 dX0_differencesFrom_3 kw_156 ?_
  refine ev_aload_n (ev_o 0 b0) dX0_differencesFrom_6 rfl rfl ?_
  refine gf_0_6 dX0_differencesFrom_7 kw_156 ?_
  refine ev_mathMin dX0_differencesFrom_10 kw_1303 kw_424 kw_31 kw_425 (Nat.le_of_ble_eq_true rfl) ?_
  refine ev_istore_n dX0_differencesFrom_13 (Nat.le_of_ble_eq_true rfl) (ev_hw rfl) ?_
  show ev_E g m_X0_differencesFrom 3 0 14 [some (ev_o 0 a), some (ev_o 0 b0), some (ev_i 0), some (ev_i (ev_min (S.1 a 6) (S.1 b0 6))), none] [] S Q
  refine ev_iconst (1) dX0_differencesFrom_14 rfl ?_
  refine ev_istore dX0_differencesFrom_15 (Nat.le_of_ble_eq_true rfl) (ev_hw rfl) ?_
  show ev_E g m_X0_differencesFrom 3 0 17 [some (ev_o 0 a), some (ev_o 0 b0), some (ev_i 0), some (ev_i (ev_min (S.1 a 6) (S.1 b0 6))), some (ev_i 1)] [] S Q
  exact hQ
set_option maxHeartbeats 4000000 in
set_option maxRecDepth 100000 in
theorem sg_X0_differencesFrom_17 {g : ev_G} {S : ev_S} {Q : ev_O → ev_S → Prop} (a : Nat) (b0 : Nat) (u2 : Int32) (u3 : Int32) (u4 : Int32) (hQ : (u3 < u4 → (
    Q (.inl (some (ev_i u2))) S)) ∧
  (¬ (u3 < u4) → (
    ((f_X0_moveAt S a u4) = (f_X0_moveAt S b0 u4) → (
      ev_E g m_X0_differencesFrom 3 0 17 [some (ev_o 0 a), some (ev_o 0 b0), some (ev_i u2), some (ev_i u3), some (ev_i (u4 + 1))] [] S Q)) ∧
    (¬ ((f_X0_moveAt S a u4) = (f_X0_moveAt S b0 u4)) → (
      ev_E g m_X0_differencesFrom 3 0 17 [some (ev_o 0 a), some (ev_o 0 b0), some (ev_i (u2 + 1)), some (ev_i u3), some (ev_i (u4 + 1))] [] S Q))))) : ev_E g m_X0_differencesFrom 3 0 17 [some (ev_o 0 a), some (ev_o 0 b0), some (ev_i u2), some (ev_i u3), some (ev_i u4)] [] S Q := by
  refine ev_iload (u4) dX0_differencesFrom_17 rfl ?_
  refine ev_iload_n (u3) dX0_differencesFrom_19 rfl ?_
  refine ev_icmp_gt 47 dX0_differencesFrom_20 (by decide) (fun c1 => ?_) (fun c1 => ?_)
  · replace hQ := hQ.1 c1
    refine ev_iload_n (u2) dX0_differencesFrom_47 rfl ?_
    exact ev_ireturn .int dX0_differencesFrom_48 rfl rfl hQ
  · replace hQ := hQ.2 c1
    refine ev_aload_n (ev_o 0 a) dX0_differencesFrom_23 rfl rfl ?_
    refine ev_iload (u4) dX0_differencesFrom_24 rfl ?_
    refine ev_fV mv_X0_moveAt 2 0 [ev_i u4] [] dX0_differencesFrom_26 kw_1304 rfl (by decide) rfl (by decide) (Nat.le_of_ble_eq_true rfl) (sp_X0_moveAt a u4) ?_ rfl
    refine ev_aload_n (ev_o 0 b0) dX0_differencesFrom_29 rfl rfl ?_
    refine ev_iload (u4) dX0_differencesFrom_30 rfl ?_
    refine ev_fV mv_X0_moveAt 2 0 [ev_i u4] [ev_i (f_X0_moveAt S a u4)] dX0_differencesFrom_32 kw_1304 rfl (by decide) rfl (by decide) (Nat.le_of_ble_eq_true rfl) (sp_X0_moveAt b0 u4) ?_ rfl
    refine ev_icmp_eq 41 dX0_differencesFrom_35 (by decide) (fun c2 => ?_) (fun c2 => ?_)
    · replace hQ := hQ.1 c2
      refine ev_iinc u4 (1) dX0_differencesFrom_41 rfl (by decide) (ev_hw rfl) ?_
      show ev_E g m_X0_differencesFrom 3 0 44 [some (ev_o 0 a), some (ev_o 0 b0), some (ev_i u2), some (ev_i u3), some (ev_i (u4 + 1))] [] S Q
      refine ev_goto 17 dX0_differencesFrom_44 (by decide) ?_
      exact hQ
    · replace hQ := hQ.2 c2
      refine ev_iinc u2 (1) dX0_differencesFrom_38 rfl (by decide) (ev_hw rfl) ?_
      show ev_E g m_X0_differencesFrom 3 0 41 [some (ev_o 0 a), some (ev_o 0 b0), some (ev_i (u2 + 1)), some (ev_i u3), some (ev_i u4)] [] S Q
      refine ev_iinc u4 (1) dX0_differencesFrom_41 rfl (by decide) (ev_hw rfl) ?_
      show ev_E g m_X0_differencesFrom 3 0 44 [some (ev_o 0 a), some (ev_o 0 b0), some (ev_i (u2 + 1)), some (ev_i u3), some (ev_i (u4 + 1))] [] S Q
      refine ev_goto 17 dX0_differencesFrom_44 (by decide) ?_
      exact hQ
set_option maxHeartbeats 4000000 in
set_option maxRecDepth 100000 in
theorem sg_X0_bishopsAstray_0 {g : ev_G} {S : ev_S} {Q : ev_O → ev_S → Prop} (a : Nat) (hQ : ev_E g m_X0_bishopsAstray 3 0 4 [some (ev_o 0 a), some (ev_i 0), some (ev_i 0)] [] S Q) : ev_Cv g m_X0_bishopsAstray 3 0 [ev_o 0 a] S Q := by
  refine ev_enter (by decide) rfl rfl (Nat.le_of_ble_eq_true rfl) ?_
  show ev_E g m_X0_bishopsAstray 3 0 0 [some (ev_o 0 a), none, none] [] S Q
  refine ev_iconst (0) dX0_bishopsAstray_0 rfl ?_
  refine ev_istore_n dX0_bishopsAstray_1 (Nat.le_of_ble_eq_true rfl) (ev_hw rfl) ?_
  show ev_E g m_X0_bishopsAstray 3 0 2 [some (ev_o 0 a), some (ev_i 0), none] [] S Q
  refine ev_iconst (0) dX0_bishopsAstray_2 rfl ?_
  refine ev_istore_n dX0_bishopsAstray_3 (Nat.le_of_ble_eq_true rfl) (ev_hw rfl) ?_
  show ev_E g m_X0_bishopsAstray 3 0 4 [some (ev_o 0 a), some (ev_i 0), some (ev_i 0)] [] S Q
  exact hQ
set_option maxHeartbeats 4000000 in
set_option maxRecDepth 100000 in
theorem sg_X0_bishopsAstray_4 {g : ev_G} {S : ev_S} {Q : ev_O → ev_S → Prop} (a : Nat) (u1 : Int32) (u2 : Int32) (hQ : (64 ≤ u2 → (
    Q (.inl (some (ev_i (ev_abs ((S.1 a 8) - (u1 + (S.1 a 7))))))) S)) ∧
  (¬ (64 ≤ u2) → (
    ((j_at (S.1 (a + 1)) 64 u2) = (-1) → (
      ev_E g m_X0_bishopsAstray 3 0 4 [some (ev_o 0 a), some (ev_i u1), some (ev_i (u2 + 1))] [] S Q)) ∧
    (¬ ((j_at (S.1 (a + 1)) 64 u2) = (-1)) → (
      ev_E g m_X0_bishopsAstray 3 0 4 [some (ev_o 0 a), some (ev_i (u1 + 1)), some (ev_i (u2 + 1))] [] S Q))))) : ev_E g m_X0_bishopsAstray 3 0 4 [some (ev_o 0 a), some (ev_i u1), some (ev_i u2)] [] S Q := by
  refine ev_iload_n (u2) dX0_bishopsAstray_4 rfl ?_
  refine ev_bipush (64) dX0_bishopsAstray_5 (by decide) ?_
  refine ev_icmp_ge 28 dX0_bishopsAstray_7 (by decide) (fun c1 => ?_) (fun c1 => ?_)
  · replace hQ := hQ.1 c1
    refine ev_aload_n (ev_o 0 a) dX0_bishopsAstray_28 rfl rfl ?_
    refine gf_0_8 dX0_bishopsAstray_29 kw_158 ?_
    refine ev_iload_n (u1) dX0_bishopsAstray_32 rfl ?_
    refine ev_aload_n (ev_o 0 a) dX0_bishopsAstray_33 rfl rfl ?_
    refine gf_0_7 dX0_bishopsAstray_34 kw_157 ?_
    refine ev_iadd dX0_bishopsAstray_37 ?_
    refine ev_isub dX0_bishopsAstray_38 ?_
    refine ev_mathAbs dX0_bishopsAstray_39 kw_1309 kw_1310 kw_31 kw_1311 (Nat.le_of_ble_eq_true rfl) ?_
    exact ev_ireturn .int dX0_bishopsAstray_42 rfl rfl hQ
  · replace hQ := hQ.2 c1
    refine ev_aload_n (ev_o 0 a) dX0_bishopsAstray_10 rfl rfl ?_
    refine ev_iload_n (u2) dX0_bishopsAstray_11 rfl ?_
    refine ev_fV mv_X0_ownerOn 2 0 [ev_i u2] [] dX0_bishopsAstray_12 kw_1278 rfl (by decide) rfl (by decide) (Nat.le_of_ble_eq_true rfl) (sp_X0_ownerOn a u2) ?_ rfl
    refine ev_iconst (-1) dX0_bishopsAstray_15 rfl ?_
    refine ev_icmp_eq 22 dX0_bishopsAstray_16 (by decide) (fun c2 => ?_) (fun c2 => ?_)
    · replace hQ := hQ.1 c2
      refine ev_iinc u2 (1) dX0_bishopsAstray_22 rfl (by decide) (ev_hw rfl) ?_
      show ev_E g m_X0_bishopsAstray 3 0 25 [some (ev_o 0 a), some (ev_i u1), some (ev_i (u2 + 1))] [] S Q
      refine ev_goto 4 dX0_bishopsAstray_25 (by decide) ?_
      exact hQ
    · replace hQ := hQ.2 c2
      refine ev_iinc u1 (1) dX0_bishopsAstray_19 rfl (by decide) (ev_hw rfl) ?_
      show ev_E g m_X0_bishopsAstray 3 0 22 [some (ev_o 0 a), some (ev_i (u1 + 1)), some (ev_i u2)] [] S Q
      refine ev_iinc u2 (1) dX0_bishopsAstray_22 rfl (by decide) (ev_hw rfl) ?_
      show ev_E g m_X0_bishopsAstray 3 0 25 [some (ev_o 0 a), some (ev_i (u1 + 1)), some (ev_i (u2 + 1))] [] S Q
      refine ev_goto 4 dX0_bishopsAstray_25 (by decide) ?_
      exact hQ
set_option maxHeartbeats 4000000 in
set_option maxRecDepth 100000 in
theorem sg_X6_onRoad_0 {g : ev_G} {S : ev_S} {Q : ev_O → ev_S → Prop} (a : Nat) (hQ : Q (.inl (some (ev_i (S.1 a 14)))) S) : ev_Cv g m_X6_onRoad 1 0 [ev_o 6 a] S Q := by
  refine ev_enter (by decide) rfl rfl (Nat.le_of_ble_eq_true rfl) ?_
  show ev_E g m_X6_onRoad 1 0 0 [some (ev_o 6 a)] [] S Q
  refine ev_aload_n (ev_o 6 a) dX6_onRoad_0 rfl rfl ?_
  refine gf_6_14 dX6_onRoad_1 kw_254 ?_
  exact ev_ireturn .int dX6_onRoad_4 rfl rfl hQ
set_option maxHeartbeats 4000000 in
set_option maxRecDepth 100000 in
theorem sp_X6_onRoad {g : ev_G} {S : ev_S} (a : Nat)  : ev_Fn g m_X6_onRoad 1 [ev_o 6 a] S (some (ev_i (S.1 a 14))) S := by
  intro Q hQ
  refine sg_X6_onRoad_0 a ?_
  exact hQ
set_option maxHeartbeats 4000000 in
set_option maxRecDepth 100000 in
theorem sg_X5_mulesAstray_0 {g : ev_G} {S : ev_S} {Q : ev_O → ev_S → Prop} (a : Nat) (x0 : Int32) (hQ : ev_E g m_X5_mulesAstray 2 0 4 [some (ev_o 5 a), some (ev_i x0), some (ev_i 0), some (ev_i 0)] [] S Q) : ev_Cv g m_X5_mulesAstray 2 0 [ev_o 5 a, ev_i x0] S Q := by
  refine ev_enter (by decide) rfl rfl (Nat.le_of_ble_eq_true rfl) ?_
  show ev_E g m_X5_mulesAstray 2 0 0 [some (ev_o 5 a), some (ev_i x0), none, none] [] S Q
  refine ev_iconst (0) dX5_mulesAstray_0 rfl ?_
  refine ev_istore_n dX5_mulesAstray_1 (Nat.le_of_ble_eq_true rfl) (ev_hw rfl) ?_
  show ev_E g m_X5_mulesAstray 2 0 2 [some (ev_o 5 a), some (ev_i x0), some (ev_i 0), none] [] S Q
  refine ev_iconst (0) dX5_mulesAstray_2 rfl ?_
  refine ev_istore_n dX5_mulesAstray_3 (Nat.le_of_ble_eq_true rfl) (ev_hw rfl) ?_
  show ev_E g m_X5_mulesAstray 2 0 4 [some (ev_o 5 a), some (ev_i x0), some (ev_i 0), some (ev_i 0)] [] S Q
  exact hQ
set_option maxHeartbeats 4000000 in
set_option maxRecDepth 100000 in
theorem sg_X5_mulesAstray_4 {g : ev_G} {S : ev_S} {Q : ev_O → ev_S → Prop} (a : Nat) (u1 : Int32) (u2 : Int32) (u3 : Int32) (hQ : (8 ≤ u3 → (
    Q (.inl (some (ev_i (ev_abs ((S.1 a 4) - (u2 + u1)))))) S)) ∧
  (¬ (8 ≤ u3) → (
    ev_E g m_X5_mulesAstray 2 0 4 [some (ev_o 5 a), some (ev_i u1), some (ev_i (u2 + (j_at (S.1 (a + 3)) 8 u3))), some (ev_i (u3 + 1))] [] S Q))) : ev_E g m_X5_mulesAstray 2 0 4 [some (ev_o 5 a), some (ev_i u1), some (ev_i u2), some (ev_i u3)] [] S Q := by
  refine ev_iload_n (u3) dX5_mulesAstray_4 rfl ?_
  refine ev_aload_n (ev_o 5 a) dX5_mulesAstray_5 rfl rfl ?_
  refine gf_5_2 dX5_mulesAstray_6 kw_226 ?_
  refine ev_alen 8 dX5_mulesAstray_9 rfl ?_
  refine ev_icmp_ge 30 dX5_mulesAstray_10 (by decide) (fun c1 => ?_) (fun c1 => ?_)
  · replace hQ := hQ.1 c1
    refine ev_aload_n (ev_o 5 a) dX5_mulesAstray_30 rfl rfl ?_
    refine gf_5_4 dX5_mulesAstray_31 kw_228 ?_
    refine ev_iload_n (u2) dX5_mulesAstray_34 rfl ?_
    refine ev_iload_n (u1) dX5_mulesAstray_35 rfl ?_
    refine ev_iadd dX5_mulesAstray_36 ?_
    refine ev_isub dX5_mulesAstray_37 ?_
    refine ev_mathAbs dX5_mulesAstray_38 kw_1321 kw_1310 kw_31 kw_1311 (Nat.le_of_ble_eq_true rfl) ?_
    exact ev_ireturn .int dX5_mulesAstray_41 rfl rfl hQ
  · replace hQ := hQ.2 c1
    refine ev_iload_n (u2) dX5_mulesAstray_13 rfl ?_
    refine ev_aload_n (ev_o 5 a) dX5_mulesAstray_14 rfl rfl ?_
    refine gf_5_2 dX5_mulesAstray_15 kw_226 ?_
    refine ev_iload_n (u3) dX5_mulesAstray_18 rfl ?_
    refine ev_fN ms_X9_at 1 [ev_y 8 (a + 3), ev_i u3] [ev_i u2] dX5_mulesAstray_19 (List.mem_of_getElem? (i := 14) rfl) rfl (by decide) (Nat.le_of_ble_eq_true rfl) (sp_X9_at 8 (a + 3) u3) ?_ rfl
    refine ev_iadd dX5_mulesAstray_22 ?_
    refine ev_istore_n dX5_mulesAstray_23 (Nat.le_of_ble_eq_true rfl) (ev_hw rfl) ?_
    show ev_E g m_X5_mulesAstray 2 0 24 [some (ev_o 5 a), some (ev_i u1), some (ev_i (u2 + (j_at (S.1 (a + 3)) 8 u3))), some (ev_i u3)] [] S Q
    refine ev_iinc u3 (1) dX5_mulesAstray_24 rfl (by decide) (ev_hw rfl) ?_
    show ev_E g m_X5_mulesAstray 2 0 27 [some (ev_o 5 a), some (ev_i u1), some (ev_i (u2 + (j_at (S.1 (a + 3)) 8 u3))), some (ev_i (u3 + 1))] [] S Q
    refine ev_goto 4 dX5_mulesAstray_27 (by decide) ?_
    exact hQ
set_option maxHeartbeats 4000000 in
set_option maxRecDepth 100000 in
theorem sg_X2_flaws_0 {g : ev_G} {S : ev_S} {Q : ev_O → ev_S → Prop} (a : Nat) (hQ : ev_Cv g m_X0_differencesFrom 3 0 [ev_o 0 ((a_X2_deskOf a 0) + 1), ev_o 0 ((a_X2_deskOf a 1) + 1)] S (fun o S1 => ∃ v1_ : Int32, o = .inl (some (ev_i v1_)) ∧ (
    ev_Cv g m_X0_bishopsAstray 3 0 [ev_o 0 ((a_X2_deskOf a 0) + 1)] S1 (fun o S2 => ∃ v2_ : Int32, o = .inl (some (ev_i v2_)) ∧ (
      ev_Cv g m_X0_bishopsAstray 3 0 [ev_o 0 ((a_X2_deskOf a 1) + 1)] S2 (fun o S3 => ∃ v3_ : Int32, o = .inl (some (ev_i v3_)) ∧ (
        ev_Cv g m_X5_mulesAstray 2 0 [ev_o 5 (a + 20), ev_i (S3.1 (a + 19) 14)] S3 (fun o S4 => ∃ v4_ : Int32, o = .inl (some (ev_i v4_)) ∧ (
          Q (.inl (some (ev_i (((v1_ + v2_) + v3_) + v4_)))) S4))))))))) : ev_Cv g m_X2_flaws 4 0 [ev_o 2 a] S Q := by
  refine ev_enter (by decide) rfl rfl (Nat.le_of_ble_eq_true rfl) ?_
  show ev_E g m_X2_flaws 4 0 0 [some (ev_o 2 a)] [] S Q
  refine ev_aload_n (ev_o 2 a) dX2_flaws_0 rfl rfl ?_
  refine ev_iconst (0) dX2_flaws_1 rfl ?_
  refine ev_fV mv_X2_boardOf 2 2 [ev_i 0] [] dX2_flaws_2 kw_961 rfl (by decide) rfl (by decide) (Nat.le_of_ble_eq_true rfl) (sp_X2_boardOf a 0) ?_ rfl
  refine ev_aload_n (ev_o 2 a) dX2_flaws_5 rfl rfl ?_
  refine ev_iconst (1) dX2_flaws_6 rfl ?_
  refine ev_fV mv_X2_boardOf 2 2 [ev_i 1] [ev_o 0 ((a_X2_deskOf a 0) + 1)] dX2_flaws_7 kw_961 rfl (by decide) rfl (by decide) (Nat.le_of_ble_eq_true rfl) (sp_X2_boardOf a 1) ?_ rfl
  refine ev_cV mv_X0_differencesFrom 3 0 0 [ev_o 0 ((a_X2_deskOf a 1) + 1)] [] dX2_flaws_10 kw_1299 rfl (by decide) rfl (by decide) (by decide) (Nat.le_of_ble_eq_true rfl) hQ ?_ rfl
  rintro o S1 ⟨v1_, rfl, hQ⟩
  show ev_E g m_X2_flaws 4 0 13 [some (ev_o 2 a)] [ev_i v1_] S1 Q
  refine ev_aload_n (ev_o 2 a) dX2_flaws_13 rfl rfl ?_
  refine ev_iconst (0) dX2_flaws_14 rfl ?_
  refine ev_fV mv_X2_boardOf 2 2 [ev_i 0] [ev_i v1_] dX2_flaws_15 kw_961 rfl (by decide) rfl (by decide) (Nat.le_of_ble_eq_true rfl) (sp_X2_boardOf a 0) ?_ rfl
  refine ev_cV mv_X0_bishopsAstray 3 0 0 [] [ev_i v1_] dX2_flaws_18 kw_1305 rfl (by decide) rfl (by decide) (by decide) (Nat.le_of_ble_eq_true rfl) hQ ?_ rfl
  rintro o S2 ⟨v2_, rfl, hQ⟩
  show ev_E g m_X2_flaws 4 0 21 [some (ev_o 2 a)] [ev_i v2_, ev_i v1_] S2 Q
  refine ev_iadd dX2_flaws_21 ?_
  refine ev_aload_n (ev_o 2 a) dX2_flaws_22 rfl rfl ?_
  refine ev_iconst (1) dX2_flaws_23 rfl ?_
  refine ev_fV mv_X2_boardOf 2 2 [ev_i 1] [ev_i (v1_ + v2_)] dX2_flaws_24 kw_961 rfl (by decide) rfl (by decide) (Nat.le_of_ble_eq_true rfl) (sp_X2_boardOf a 1) ?_ rfl
  refine ev_cV mv_X0_bishopsAstray 3 0 0 [] [ev_i (v1_ + v2_)] dX2_flaws_27 kw_1305 rfl (by decide) rfl (by decide) (by decide) (Nat.le_of_ble_eq_true rfl) hQ ?_ rfl
  rintro o S3 ⟨v3_, rfl, hQ⟩
  show ev_E g m_X2_flaws 4 0 30 [some (ev_o 2 a)] [ev_i v3_, ev_i (v1_ + v2_)] S3 Q
  refine ev_iadd dX2_flaws_30 ?_
  refine ev_aload_n (ev_o 2 a) dX2_flaws_31 rfl rfl ?_
  refine ev_fV mv_X2_passes 2 2 [] [ev_i ((v1_ + v2_) + v3_)] dX2_flaws_32 kw_1312 rfl (by decide) rfl (by decide) (Nat.le_of_ble_eq_true rfl) (sp_X2_passes a) ?_ rfl
  refine ev_aload_n (ev_o 2 a) dX2_flaws_35 rfl rfl ?_
  refine gf_2_2 dX2_flaws_36 kw_299 ?_
  refine ev_fV mv_X6_onRoad 1 6 [] [ev_o 5 (a + 20), ev_i ((v1_ + v2_) + v3_)] dX2_flaws_39 kw_1313 rfl (by decide) rfl (by decide) (Nat.le_of_ble_eq_true rfl) (sp_X6_onRoad (a + 19)) ?_ rfl
  refine ev_cV mv_X5_mulesAstray 2 0 5 [ev_i (S3.1 (a + 19) 14)] [ev_i ((v1_ + v2_) + v3_)] dX2_flaws_42 kw_1317 rfl (by decide) rfl (by decide) (by decide) (Nat.le_of_ble_eq_true rfl) hQ ?_ rfl
  rintro o S4 ⟨v4_, rfl, hQ⟩
  show ev_E g m_X2_flaws 4 0 45 [some (ev_o 2 a)] [ev_i v4_, ev_i ((v1_ + v2_) + v3_)] S4 Q
  refine ev_iadd dX2_flaws_45 ?_
  exact ev_ireturn .int dX2_flaws_46 rfl rfl hQ
set_option maxHeartbeats 4000000 in
set_option maxRecDepth 100000 in
theorem sg_X9_contradictions_0 {g : ev_G} {S : ev_S} {Q : ev_O → ev_S → Prop} (a : Nat) (hQ : ev_Cv g m_X2_flaws 4 0 [ev_o 2 (a + 11)] S (fun o S1 => ∃ v1_ : Int32, o = .inl (some (ev_i v1_)) ∧ (
    Q (.inl (some (ev_i v1_))) S1))) : ev_Cv g m_X9_contradictions 5 0 [ev_o 9 a] S Q := by
  refine ev_enter (by decide) rfl rfl (Nat.le_of_ble_eq_true rfl) ?_
  show ev_E g m_X9_contradictions 5 0 0 [some (ev_o 9 a)] [] S Q
  refine ev_aload_n (ev_o 9 a) dX9_contradictions_0 rfl rfl ?_
  refine gf_9_3 dX9_contradictions_1 kw_601 ?_
  refine ev_cV mv_X2_flaws 4 0 2 [] [] dX9_contradictions_4 kw_1295 rfl (by decide) rfl (by decide) (by decide) (Nat.le_of_ble_eq_true rfl) hQ ?_ rfl
  rintro o S1 ⟨v1_, rfl, hQ⟩
  show ev_E g m_X9_contradictions 5 0 7 [some (ev_o 9 a)] [ev_i v1_] S1 Q
  exact ev_ireturn .int dX9_contradictions_7 rfl rfl hQ
set_option maxHeartbeats 4000000 in
set_option maxRecDepth 100000 in
theorem sg_X6_arrivalOf_0 {g : ev_G} {S : ev_S} {Q : ev_O → ev_S → Prop} (a : Nat) (x0 : Int32) (hQ : Q (.inl (some (ev_i (j_at (S.1 (a + 13)) 84 x0)))) S) : ev_Cv g m_X6_arrivalOf 2 0 [ev_o 6 a, ev_i x0] S Q := by
  refine ev_enter (by decide) rfl rfl (Nat.le_of_ble_eq_true rfl) ?_
  show ev_E g m_X6_arrivalOf 2 0 0 [some (ev_o 6 a), some (ev_i x0)] [] S Q
  refine ev_aload_n (ev_o 6 a) dX6_arrivalOf_0 rfl rfl ?_
  refine gf_6_9 dX6_arrivalOf_1 kw_249 ?_
  refine ev_iload_n (x0) dX6_arrivalOf_4 rfl ?_
  refine ev_fN ms_X9_at 1 [ev_y 84 (a + 13), ev_i x0] [] dX6_arrivalOf_5 (List.mem_of_getElem? (i := 22) rfl) rfl (by decide) (Nat.le_of_ble_eq_true rfl) (sp_X9_at 84 (a + 13) x0) ?_ rfl
  exact ev_ireturn .int dX6_arrivalOf_8 rfl rfl hQ
set_option maxHeartbeats 4000000 in
set_option maxRecDepth 100000 in
theorem sp_X6_arrivalOf {g : ev_G} {S : ev_S} (a : Nat) (x0 : Int32)  : ev_Fn g m_X6_arrivalOf 2 [ev_o 6 a, ev_i x0] S (some (ev_i (j_at (S.1 (a + 13)) 84 x0))) S := by
  intro Q hQ
  refine sg_X6_arrivalOf_0 a x0 ?_
  exact hQ
set_option maxHeartbeats 4000000 in
set_option maxRecDepth 100000 in
theorem sg_X5_isClosed_0 {g : ev_G} {S : ev_S} {Q : ev_O → ev_S → Prop} (a : Nat) (x0 : Int32) (x1 : Int32) (hQ : ((j_at (S.1 (a + 2)) 48 ((x0 * 12) + x1)) < 9 → (
    Q (.inl (some (ev_i 0))) S)) ∧
  (¬ ((j_at (S.1 (a + 2)) 48 ((x0 * 12) + x1)) < 9) → (
    Q (.inl (some (ev_i 1))) S))) : ev_Cv g m_X5_isClosed 3 0 [ev_o 5 a, ev_i x0, ev_i x1] S Q := by
  refine ev_enter (by decide) rfl rfl (Nat.le_of_ble_eq_true rfl) ?_
  show ev_E g m_X5_isClosed 3 0 0 [some (ev_o 5 a), some (ev_i x0), some (ev_i x1)] [] S Q
  refine ev_aload_n (ev_o 5 a) dX5_isClosed_0 rfl rfl ?_
  refine ev_iload_n (x0) dX5_isClosed_1 rfl ?_
  refine ev_iload_n (x1) dX5_isClosed_2 rfl ?_
  refine ev_fV mv_X5_snowIn 2 5 [ev_i x0, ev_i x1] [] dX5_isClosed_3 kw_555 rfl (by decide) rfl (by decide) (Nat.le_of_ble_eq_true rfl) (sp_X5_snowIn a x0 x1) ?_ rfl
  refine ev_bipush (9) dX5_isClosed_6 (by decide) ?_
  refine ev_icmp_lt 15 dX5_isClosed_8 (by decide) (fun c1 => ?_) (fun c1 => ?_)
  · replace hQ := hQ.1 c1
    refine ev_iconst (0) dX5_isClosed_15 rfl ?_
    exact ev_ireturn .boolean dX5_isClosed_16 rfl rfl hQ
  · replace hQ := hQ.2 c1
    refine ev_iconst (1) dX5_isClosed_11 rfl ?_
    refine ev_goto 16 dX5_isClosed_12 (by decide) ?_
    exact ev_ireturn .boolean dX5_isClosed_16 rfl rfl hQ
set_option maxHeartbeats 4000000 in
set_option maxRecDepth 100000 in
theorem sp_X5_isClosed {g : ev_G} {S : ev_S} (a : Nat) (x0 : Int32) (x1 : Int32)  : ev_Fn g m_X5_isClosed 3 [ev_o 5 a, ev_i x0, ev_i x1] S (some (ev_i (if (j_at (S.1 (a + 2)) 48 ((x0 * 12) + x1)) < 9 then 0 else 1))) S := by
  intro Q hQ
  refine sg_X5_isClosed_0 a x0 x1 ?_
  refine ⟨fun c1 => ?_, fun c1 => ?_⟩
  · rw [if_pos c1] at hQ
    exact hQ
  · rw [if_neg c1] at hQ
    exact hQ
set_option maxHeartbeats 4000000 in
set_option maxRecDepth 100000 in
theorem sg_X5_changeMules_0 {g : ev_G} {S : ev_S} {Q : ev_O → ev_S → Prop} (a : Nat) (x0 : Int32) (x1 : Int32) (x2 : Int32) (hQ : ∀ S1 : ev_S, S1 = (j_put S (a + 3) 8 ((x0 * 2) + x1) ((j_at (S.1 (a + 3)) 8 ((x0 * 2) + x1)) + x2)) → (
    Q (.inl none) S1)) : ev_Cv g m_X5_changeMules 2 0 [ev_o 5 a, ev_i x0, ev_i x1, ev_i x2] S Q := by
  refine ev_enter (by decide) rfl rfl (Nat.le_of_ble_eq_true rfl) ?_
  show ev_E g m_X5_changeMules 2 0 0 [some (ev_o 5 a), some (ev_i x0), some (ev_i x1), some (ev_i x2), none] [] S Q
  refine ev_iload_n (x0) dX5_changeMules_0 rfl ?_
  refine ev_iconst (2) dX5_changeMules_1 rfl ?_
  refine ev_imul dX5_changeMules_2 ?_
  refine ev_iload_n (x1) dX5_changeMules_3 rfl ?_
  refine ev_iadd dX5_changeMules_4 ?_
  refine ev_istore dX5_changeMules_5 (Nat.le_of_ble_eq_true rfl) (ev_hw rfl) ?_
  show ev_E g m_X5_changeMules 2 0 7 [some (ev_o 5 a), some (ev_i x0), some (ev_i x1), some (ev_i x2), some (ev_i ((x0 * 2) + x1))] [] S Q
  refine ev_aload_n (ev_o 5 a) dX5_changeMules_7 rfl rfl ?_
  refine gf_5_2 dX5_changeMules_8 kw_226 ?_
  refine ev_iload (((x0 * 2) + x1)) dX5_changeMules_11 rfl ?_
  refine ev_aload_n (ev_o 5 a) dX5_changeMules_13 rfl rfl ?_
  refine gf_5_2 dX5_changeMules_14 kw_226 ?_
  refine ev_iload (((x0 * 2) + x1)) dX5_changeMules_17 rfl ?_
  refine ev_fN ms_X9_at 1 [ev_y 8 (a + 3), ev_i ((x0 * 2) + x1)] [ev_i ((x0 * 2) + x1), ev_y 8 (a + 3)] dX5_changeMules_19 (List.mem_of_getElem? (i := 14) rfl) rfl (by decide) (Nat.le_of_ble_eq_true rfl) (sp_X9_at 8 (a + 3) ((x0 * 2) + x1)) ?_ rfl
  refine ev_iload_n (x2) dX5_changeMules_22 rfl ?_
  refine ev_iadd dX5_changeMules_23 ?_
  refine ev_fNn ms_X9_put 1 [ev_y 8 (a + 3), ev_i ((x0 * 2) + x1), ev_i ((j_at (S.1 (a + 3)) 8 ((x0 * 2) + x1)) + x2)] [] dX5_changeMules_24 (List.mem_of_getElem? (i := 13) rfl) rfl (by decide) (Nat.le_of_ble_eq_true rfl) (sp_X9_put 8 (a + 3) ((x0 * 2) + x1) ((j_at (S.1 (a + 3)) 8 ((x0 * 2) + x1)) + x2)) ?_ rfl
  refine ev_sub hQ (fun S1 hS1 hQ => ?_)
  refine ev_E.goal (pc' := 27) (L' := [some (ev_o 5 a), some (ev_i x0), some (ev_i x1), some (ev_i x2), some (ev_i ((x0 * 2) + x1))]) (K' := []) (S' := S1) ?_ rfl rfl rfl hS1
  exact ev_return dX5_changeMules_27 rfl hQ
set_option maxHeartbeats 4000000 in
set_option maxRecDepth 100000 in
theorem sp_X5_changeMules {g : ev_G} {S : ev_S} (a : Nat) (x0 : Int32) (x1 : Int32) (x2 : Int32)  : ev_Fn g m_X5_changeMules 2 [ev_o 5 a, ev_i x0, ev_i x1, ev_i x2] S none (j_put S (a + 3) 8 ((x0 * 2) + x1) ((j_at (S.1 (a + 3)) 8 ((x0 * 2) + x1)) + x2)) := by
  intro Q hQ
  refine sg_X5_changeMules_0 a x0 x1 x2 ?_
  intro S1 hS1
  subst hS1
  exact hQ
set_option maxHeartbeats 4000000 in
set_option maxRecDepth 100000 in
theorem sg_X6_arrive_0 {g : ev_G} {S : ev_S} {Q : ev_O → ev_S → Prop} (a : Nat) (x0 : Int32) (x1 : Int32) (hQ : ∀ S1 : ev_S, S1 = (j_put S (a + 10) 84 x0 2) → (
    ∀ S2 : ev_S, S2 = (j_put S1 (a + 13) 84 x0 x1) → (
      ∀ S3 : ev_S, S3 = (ev_up S2 a 16 ((S2.1 a 16) + 1)) → (
        ∀ S4 : ev_S, S4 = (ev_up S3 a 17 ((S2.1 a 17) + (x1 - (j_at (S3.1 (a + 12)) 84 x0)))) → (
          ∀ S5 : ev_S, S5 = (j_put S4 (a + 4) 8 (((j_at (S4.1 (a + 9)) 84 x0) * 2) + (1 - (j_at (S4.1 (a + 5)) 84 x0))) ((j_at (S4.1 (a + 4)) 8 (((j_at (S4.1 (a + 9)) 84 x0) * 2) + (1 - (j_at (S4.1 (a + 5)) 84 x0)))) + 1)) → (
            ∀ S6 : ev_S, S6 = (j_put S5 (a + 15) 84 (S5.1 a 15) x0) → (
              ∀ S7 : ev_S, S7 = (ev_up S6 a 15 ((S6.1 a 15) + 1)) → (
                Q (.inl none) S7)))))))) : ev_Cv g m_X6_arrive 3 0 [ev_o 6 a, ev_i x0, ev_i x1] S Q := by
  refine ev_enter (by decide) rfl rfl (Nat.le_of_ble_eq_true rfl) ?_
  show ev_E g m_X6_arrive 3 0 0 [some (ev_o 6 a), some (ev_i x0), some (ev_i x1)] [] S Q
  refine ev_aload_n (ev_o 6 a) dX6_arrive_0 rfl rfl ?_
  refine gf_6_6 dX6_arrive_1 kw_246 ?_
  refine ev_iload_n (x0) dX6_arrive_4 rfl ?_
  refine ev_iconst (2) dX6_arrive_5 rfl ?_
  refine ev_fNn ms_X9_put 1 [ev_y 84 (a + 10), ev_i x0, ev_i 2] [] dX6_arrive_6 (List.mem_of_getElem? (i := 24) rfl) rfl (by decide) (Nat.le_of_ble_eq_true rfl) (sp_X9_put 84 (a + 10) x0 2) ?_ rfl
  refine ev_sub hQ (fun S1 hS1 hQ => ?_)
  refine ev_E.goal (pc' := 9) (L' := [some (ev_o 6 a), some (ev_i x0), some (ev_i x1)]) (K' := []) (S' := S1) ?_ rfl rfl rfl hS1
  refine ev_aload_n (ev_o 6 a) dX6_arrive_9 rfl rfl ?_
  refine gf_6_9 dX6_arrive_10 kw_249 ?_
  refine ev_iload_n (x0) dX6_arrive_13 rfl ?_
  refine ev_iload_n (x1) dX6_arrive_14 rfl ?_
  refine ev_fNn ms_X9_put 1 [ev_y 84 (a + 13), ev_i x0, ev_i x1] [] dX6_arrive_15 (List.mem_of_getElem? (i := 24) rfl) rfl (by decide) (Nat.le_of_ble_eq_true rfl) (sp_X9_put 84 (a + 13) x0 x1) ?_ rfl
  refine ev_sub hQ (fun S2 hS2 hQ => ?_)
  refine ev_E.goal (pc' := 18) (L' := [some (ev_o 6 a), some (ev_i x0), some (ev_i x1)]) (K' := []) (S' := S2) ?_ rfl rfl rfl hS2
  refine ev_aload_n (ev_o 6 a) dX6_arrive_18 rfl rfl ?_
  refine ev_dup dX6_arrive_19 rfl ?_
  refine gf_6_16 dX6_arrive_20 kw_256 ?_
  refine ev_iconst (1) dX6_arrive_23 rfl ?_
  refine ev_iadd dX6_arrive_24 ?_
  refine pf_6_16 dX6_arrive_25 kw_256 ?_
  refine ev_sub hQ (fun S3 hS3 hQ => ?_)
  refine ev_E.goal (pc' := 28) (L' := [some (ev_o 6 a), some (ev_i x0), some (ev_i x1)]) (K' := []) (S' := S3) ?_ rfl rfl rfl hS3
  refine ev_aload_n (ev_o 6 a) dX6_arrive_28 rfl rfl ?_
  refine ev_dup dX6_arrive_29 rfl ?_
  refine gf_6_17 dX6_arrive_30 kw_257 ?_
  refine ev_ke (j_rk hS3 (Or.inr (by decide))) ?_
  refine ev_iload_n (x1) dX6_arrive_33 rfl ?_
  refine ev_aload_n (ev_o 6 a) dX6_arrive_34 rfl rfl ?_
  refine gf_6_8 dX6_arrive_35 kw_248 ?_
  refine ev_iload_n (x0) dX6_arrive_38 rfl ?_
  refine ev_fN ms_X9_at 1 [ev_y 84 (a + 12), ev_i x0] [ev_i x1, ev_i (S2.1 a 17), ev_o 6 a] dX6_arrive_39 (List.mem_of_getElem? (i := 22) rfl) rfl (by decide) (Nat.le_of_ble_eq_true rfl) (sp_X9_at 84 (a + 12) x0) ?_ rfl
  refine ev_isub dX6_arrive_42 ?_
  refine ev_iadd dX6_arrive_43 ?_
  refine pf_6_17 dX6_arrive_44 kw_257 ?_
  refine ev_sub hQ (fun S4 hS4 hQ => ?_)
  refine ev_E.goal (pc' := 47) (L' := [some (ev_o 6 a), some (ev_i x0), some (ev_i x1)]) (K' := []) (S' := S4) ?_ rfl rfl rfl hS4
  refine ev_aload_n (ev_o 6 a) dX6_arrive_47 rfl rfl ?_
  refine gf_6_0 dX6_arrive_48 kw_240 ?_
  refine ev_aload_n (ev_o 6 a) dX6_arrive_51 rfl rfl ?_
  refine gf_6_5 dX6_arrive_52 kw_245 ?_
  refine ev_iload_n (x0) dX6_arrive_55 rfl ?_
  refine ev_fN ms_X9_at 1 [ev_y 84 (a + 9), ev_i x0] [ev_o 5 (a + 1)] dX6_arrive_56 (List.mem_of_getElem? (i := 22) rfl) rfl (by decide) (Nat.le_of_ble_eq_true rfl) (sp_X9_at 84 (a + 9) x0) ?_ rfl
  refine ev_iconst (1) dX6_arrive_59 rfl ?_
  refine ev_aload_n (ev_o 6 a) dX6_arrive_60 rfl rfl ?_
  refine ev_iload_n (x0) dX6_arrive_61 rfl ?_
  refine ev_fV mv_X6_writerOf 2 6 [ev_i x0] [ev_i 1, ev_i (j_at (S4.1 (a + 9)) 84 x0), ev_o 5 (a + 1)] dX6_arrive_62 kw_1417 rfl (by decide) rfl (by decide) (Nat.le_of_ble_eq_true rfl) (sp_X6_writerOf a x0) ?_ rfl
  refine ev_isub dX6_arrive_65 ?_
  refine ev_iconst (1) dX6_arrive_66 rfl ?_
  refine ev_fVn mv_X5_changeMules 2 5 [ev_i (j_at (S4.1 (a + 9)) 84 x0), ev_i (1 - (j_at (S4.1 (a + 5)) 84 x0)), ev_i 1] [] dX6_arrive_67 kw_1418 rfl (by decide) rfl (by decide) (Nat.le_of_ble_eq_true rfl) (sp_X5_changeMules (a + 1) (j_at (S4.1 (a + 9)) 84 x0) (1 - (j_at (S4.1 (a + 5)) 84 x0)) 1) ?_ rfl
  refine ev_sub hQ (fun S5 hS5 hQ => ?_)
  refine ev_E.goal (pc' := 70) (L' := [some (ev_o 6 a), some (ev_i x0), some (ev_i x1)]) (K' := []) (S' := S5) ?_ rfl rfl rfl hS5
  refine ev_aload_n (ev_o 6 a) dX6_arrive_70 rfl rfl ?_
  refine gf_6_11 dX6_arrive_71 kw_251 ?_
  refine ev_aload_n (ev_o 6 a) dX6_arrive_74 rfl rfl ?_
  refine gf_6_15 dX6_arrive_75 kw_255 ?_
  refine ev_iload_n (x0) dX6_arrive_78 rfl ?_
  refine ev_fNn ms_X9_put 1 [ev_y 84 (a + 15), ev_i (S5.1 a 15), ev_i x0] [] dX6_arrive_79 (List.mem_of_getElem? (i := 24) rfl) rfl (by decide) (Nat.le_of_ble_eq_true rfl) (sp_X9_put 84 (a + 15) (S5.1 a 15) x0) ?_ rfl
  refine ev_sub hQ (fun S6 hS6 hQ => ?_)
  refine ev_E.goal (pc' := 82) (L' := [some (ev_o 6 a), some (ev_i x0), some (ev_i x1)]) (K' := []) (S' := S6) ?_ rfl rfl rfl hS6
  refine ev_aload_n (ev_o 6 a) dX6_arrive_82 rfl rfl ?_
  refine ev_dup dX6_arrive_83 rfl ?_
  refine gf_6_15 dX6_arrive_84 kw_255 ?_
  refine ev_iconst (1) dX6_arrive_87 rfl ?_
  refine ev_iadd dX6_arrive_88 ?_
  refine pf_6_15 dX6_arrive_89 kw_255 ?_
  refine ev_sub hQ (fun S7 hS7 hQ => ?_)
  refine ev_E.goal (pc' := 92) (L' := [some (ev_o 6 a), some (ev_i x0), some (ev_i x1)]) (K' := []) (S' := S7) ?_ rfl rfl rfl hS7
  exact ev_return dX6_arrive_92 rfl hQ
set_option maxHeartbeats 4000000 in
set_option maxRecDepth 100000 in
theorem sg_X6_changeWaiting_0 {g : ev_G} {S : ev_S} {Q : ev_O → ev_S → Prop} (a : Nat) (x0 : Int32) (x1 : Int32) (x2 : Int32) (hQ : ∀ S1 : ev_S, S1 = (j_put S (a + 16) 8 ((x0 * 2) + x1) ((j_at (S.1 (a + 16)) 8 ((x0 * 2) + x1)) + x2)) → (
    Q (.inl none) S1)) : ev_Cv g m_X6_changeWaiting 2 0 [ev_o 6 a, ev_i x0, ev_i x1, ev_i x2] S Q := by
  refine ev_enter (by decide) rfl rfl (Nat.le_of_ble_eq_true rfl) ?_
  show ev_E g m_X6_changeWaiting 2 0 0 [some (ev_o 6 a), some (ev_i x0), some (ev_i x1), some (ev_i x2), none] [] S Q
  refine ev_iload_n (x0) dX6_changeWaiting_0 rfl ?_
  refine ev_iconst (2) dX6_changeWaiting_1 rfl ?_
  refine ev_imul dX6_changeWaiting_2 ?_
  refine ev_iload_n (x1) dX6_changeWaiting_3 rfl ?_
  refine ev_iadd dX6_changeWaiting_4 ?_
  refine ev_istore dX6_changeWaiting_5 (Nat.le_of_ble_eq_true rfl) (ev_hw rfl) ?_
  show ev_E g m_X6_changeWaiting 2 0 7 [some (ev_o 6 a), some (ev_i x0), some (ev_i x1), some (ev_i x2), some (ev_i ((x0 * 2) + x1))] [] S Q
  refine ev_aload_n (ev_o 6 a) dX6_changeWaiting_7 rfl rfl ?_
  refine gf_6_12 dX6_changeWaiting_8 kw_252 ?_
  refine ev_iload (((x0 * 2) + x1)) dX6_changeWaiting_11 rfl ?_
  refine ev_aload_n (ev_o 6 a) dX6_changeWaiting_13 rfl rfl ?_
  refine gf_6_12 dX6_changeWaiting_14 kw_252 ?_
  refine ev_iload (((x0 * 2) + x1)) dX6_changeWaiting_17 rfl ?_
  refine ev_fN ms_X9_at 1 [ev_y 8 (a + 16), ev_i ((x0 * 2) + x1)] [ev_i ((x0 * 2) + x1), ev_y 8 (a + 16)] dX6_changeWaiting_19 (List.mem_of_getElem? (i := 22) rfl) rfl (by decide) (Nat.le_of_ble_eq_true rfl) (sp_X9_at 8 (a + 16) ((x0 * 2) + x1)) ?_ rfl
  refine ev_iload_n (x2) dX6_changeWaiting_22 rfl ?_
  refine ev_iadd dX6_changeWaiting_23 ?_
  refine ev_fNn ms_X9_put 1 [ev_y 8 (a + 16), ev_i ((x0 * 2) + x1), ev_i ((j_at (S.1 (a + 16)) 8 ((x0 * 2) + x1)) + x2)] [] dX6_changeWaiting_24 (List.mem_of_getElem? (i := 24) rfl) rfl (by decide) (Nat.le_of_ble_eq_true rfl) (sp_X9_put 8 (a + 16) ((x0 * 2) + x1) ((j_at (S.1 (a + 16)) 8 ((x0 * 2) + x1)) + x2)) ?_ rfl
  refine ev_sub hQ (fun S1 hS1 hQ => ?_)
  refine ev_E.goal (pc' := 27) (L' := [some (ev_o 6 a), some (ev_i x0), some (ev_i x1), some (ev_i x2), some (ev_i ((x0 * 2) + x1))]) (K' := []) (S' := S1) ?_ rfl rfl rfl hS1
  exact ev_return dX6_changeWaiting_27 rfl hQ
set_option maxHeartbeats 4000000 in
set_option maxRecDepth 100000 in
theorem sp_X6_changeWaiting {g : ev_G} {S : ev_S} (a : Nat) (x0 : Int32) (x1 : Int32) (x2 : Int32)  : ev_Fn g m_X6_changeWaiting 2 [ev_o 6 a, ev_i x0, ev_i x1, ev_i x2] S none (j_put S (a + 16) 8 ((x0 * 2) + x1) ((j_at (S.1 (a + 16)) 8 ((x0 * 2) + x1)) + x2)) := by
  intro Q hQ
  refine sg_X6_changeWaiting_0 a x0 x1 x2 ?_
  intro S1 hS1
  subst hS1
  exact hQ
set_option maxHeartbeats 4000000 in
set_option maxRecDepth 100000 in
theorem sg_X6_sendOff_0 {g : ev_G} {S : ev_S} {Q : ev_O → ev_S → Prop} (a : Nat) (x0 : Int32) (x1 : Int32) (x2 : Int32) (hQ : ev_E g m_X6_sendOff 3 0 3 [some (ev_o 6 a), some (ev_i x0), some (ev_i x1), some (ev_i x2), some (ev_i 0)] [] S Q) : ev_Cv g m_X6_sendOff 3 0 [ev_o 6 a, ev_i x0, ev_i x1, ev_i x2] S Q := by
  refine ev_enter (by decide) rfl rfl (Nat.le_of_ble_eq_true rfl) ?_
  show ev_E g m_X6_sendOff 3 0 0 [some (ev_o 6 a), some (ev_i x0), some (ev_i x1), some (ev_i x2), none] [] S Q
  refine ev_iconst (0) dX6_sendOff_0 rfl ?_
  refine ev_istore dX6_sendOff_1 (Nat.le_of_ble_eq_true rfl) (ev_hw rfl) ?_
  show ev_E g m_X6_sendOff 3 0 3 [some (ev_o 6 a), some (ev_i x0), some (ev_i x1), some (ev_i x2), some (ev_i 0)] [] S Q
  exact hQ
set_option maxHeartbeats 4000000 in
set_option maxRecDepth 100000 in
theorem sg_X6_sendOff_3 {g : ev_G} {S : ev_S} {Q : ev_O → ev_S → Prop} (a : Nat) (u1 : Int32) (u2 : Int32) (u3 : Int32) (u4 : Int32) (hQ : ((S.1 a 13) ≤ u4 → (
    Q (.inl none) S)) ∧
  (¬ ((S.1 a 13) ≤ u4) → (
    ((j_at (S.1 (a + 16)) 8 ((u1 * 2) + u2)) ≤ 0 → (
      Q (.inl none) S)) ∧
    (¬ ((j_at (S.1 (a + 16)) 8 ((u1 * 2) + u2)) ≤ 0) → (
      (0 < (j_at (S.1 (a + 4)) 8 ((u1 * 2) + u2)) → (
        ((j_at (S.1 (a + 10)) 84 u4) = 0 → (
          ((j_at (S.1 (a + 9)) 84 u4) = u1 → (
            ((j_at (S.1 (a + 5)) 84 u4) = u2 → (
              ∀ S1 : ev_S, S1 = (j_put S (a + 10) 84 u4 1) → (
                ∀ S2 : ev_S, S2 = (j_put S1 (a + 11) 84 u4 u3) → (
                  ∀ S3 : ev_S, S3 = (j_put S2 (a + 14) 84 (S2.1 a 14) u4) → (
                    ∀ S4 : ev_S, S4 = (ev_up S3 a 14 ((S3.1 a 14) + 1)) → (
                      ∀ S5 : ev_S, S5 = (j_put S4 (a + 16) 8 ((u1 * 2) + u2) ((j_at (S4.1 (a + 16)) 8 ((u1 * 2) + u2)) + (-1))) → (
                        ∀ S6 : ev_S, S6 = (j_put S5 (a + 4) 8 ((u1 * 2) + u2) ((j_at (S5.1 (a + 4)) 8 ((u1 * 2) + u2)) + (-1))) → (
                          ev_E g m_X6_sendOff 3 0 3 [some (ev_o 6 a), some (ev_i u1), some (ev_i u2), some (ev_i u3), some (ev_i (u4 + 1))] [] S6 Q)))))))) ∧
            (¬ ((j_at (S.1 (a + 5)) 84 u4) = u2) → (
              ev_E g m_X6_sendOff 3 0 3 [some (ev_o 6 a), some (ev_i u1), some (ev_i u2), some (ev_i u3), some (ev_i (u4 + 1))] [] S Q)))) ∧
          (¬ ((j_at (S.1 (a + 9)) 84 u4) = u1) → (
            ev_E g m_X6_sendOff 3 0 3 [some (ev_o 6 a), some (ev_i u1), some (ev_i u2), some (ev_i u3), some (ev_i (u4 + 1))] [] S Q)))) ∧
        (¬ ((j_at (S.1 (a + 10)) 84 u4) = 0) → (
          ev_E g m_X6_sendOff 3 0 3 [some (ev_o 6 a), some (ev_i u1), some (ev_i u2), some (ev_i u3), some (ev_i (u4 + 1))] [] S Q)))) ∧
      (¬ (0 < (j_at (S.1 (a + 4)) 8 ((u1 * 2) + u2))) → (
        Q (.inl none) S))))))) : ev_E g m_X6_sendOff 3 0 3 [some (ev_o 6 a), some (ev_i u1), some (ev_i u2), some (ev_i u3), some (ev_i u4)] [] S Q := by
  refine ev_iload (u4) dX6_sendOff_3 rfl ?_
  refine ev_aload_n (ev_o 6 a) dX6_sendOff_5 rfl rfl ?_
  refine gf_6_13 dX6_sendOff_6 kw_253 ?_
  refine ev_icmp_ge 132 dX6_sendOff_9 (by decide) (fun c1 => ?_) (fun c1 => ?_)
  · replace hQ := hQ.1 c1
    exact ev_return dX6_sendOff_132 rfl hQ
  · replace hQ := hQ.2 c1
    refine ev_aload_n (ev_o 6 a) dX6_sendOff_12 rfl rfl ?_
    refine ev_iload_n (u1) dX6_sendOff_13 rfl ?_
    refine ev_iload_n (u2) dX6_sendOff_14 rfl ?_
    refine ev_fV mv_X6_waitingAt 2 6 [ev_i u1, ev_i u2] [] dX6_sendOff_15 kw_1428 rfl (by decide) rfl (by decide) (Nat.le_of_ble_eq_true rfl) (sp_X6_waitingAt a u1 u2) ?_ rfl
    refine ev_if_le 33 dX6_sendOff_18 (by decide) (fun c2 => ?_) (fun c2 => ?_)
    · replace hQ := hQ.1 c2
      exact ev_return dX6_sendOff_33 rfl hQ
    · replace hQ := hQ.2 c2
      refine ev_aload_n (ev_o 6 a) dX6_sendOff_21 rfl rfl ?_
      refine gf_6_0 dX6_sendOff_22 kw_240 ?_
      refine ev_iload_n (u1) dX6_sendOff_25 rfl ?_
      refine ev_iload_n (u2) dX6_sendOff_26 rfl ?_
      refine ev_fV mv_X5_mulesAt 2 5 [ev_i u1, ev_i u2] [] dX6_sendOff_27 kw_1429 rfl (by decide) rfl (by decide) (Nat.le_of_ble_eq_true rfl) (sp_X5_mulesAt (a + 1) u1 u2) ?_ rfl
      refine ev_if_gt 34 dX6_sendOff_30 (by decide) (fun c3 => ?_) (fun c3 => ?_)
      · replace hQ := hQ.1 c3
        refine ev_aload_n (ev_o 6 a) dX6_sendOff_34 rfl rfl ?_
        refine ev_iload (u4) dX6_sendOff_35 rfl ?_
        refine ev_fV mv_X6_stateOf 2 6 [ev_i u4] [] dX6_sendOff_37 kw_1430 rfl (by decide) rfl (by decide) (Nat.le_of_ble_eq_true rfl) (sp_X6_stateOf a u4) ?_ rfl
        refine ev_if_ne 126 dX6_sendOff_40 (by decide) (fun c4 => ?_) (fun c4 => ?_)
        · replace hQ := hQ.2 c4
          refine ev_iinc u4 (1) dX6_sendOff_126 rfl (by decide) (ev_hw rfl) ?_
          show ev_E g m_X6_sendOff 3 0 129 [some (ev_o 6 a), some (ev_i u1), some (ev_i u2), some (ev_i u3), some (ev_i (u4 + 1))] [] S Q
          refine ev_goto 3 dX6_sendOff_129 (by decide) ?_
          exact hQ
        · replace hQ := hQ.1 c4
          refine ev_aload_n (ev_o 6 a) dX6_sendOff_43 rfl rfl ?_
          refine gf_6_5 dX6_sendOff_44 kw_245 ?_
          refine ev_iload (u4) dX6_sendOff_47 rfl ?_
          refine ev_fN ms_X9_at 1 [ev_y 84 (a + 9), ev_i u4] [] dX6_sendOff_49 (List.mem_of_getElem? (i := 22) rfl) rfl (by decide) (Nat.le_of_ble_eq_true rfl) (sp_X9_at 84 (a + 9) u4) ?_ rfl
          refine ev_iload_n (u1) dX6_sendOff_52 rfl ?_
          refine ev_icmp_ne 126 dX6_sendOff_53 (by decide) (fun c5 => ?_) (fun c5 => ?_)
          · replace hQ := hQ.2 c5
            refine ev_iinc u4 (1) dX6_sendOff_126 rfl (by decide) (ev_hw rfl) ?_
            show ev_E g m_X6_sendOff 3 0 129 [some (ev_o 6 a), some (ev_i u1), some (ev_i u2), some (ev_i u3), some (ev_i (u4 + 1))] [] S Q
            refine ev_goto 3 dX6_sendOff_129 (by decide) ?_
            exact hQ
          · replace hQ := hQ.1 c5
            refine ev_aload_n (ev_o 6 a) dX6_sendOff_56 rfl rfl ?_
            refine ev_iload (u4) dX6_sendOff_57 rfl ?_
            refine ev_fV mv_X6_writerOf 2 6 [ev_i u4] [] dX6_sendOff_59 kw_1417 rfl (by decide) rfl (by decide) (Nat.le_of_ble_eq_true rfl) (sp_X6_writerOf a u4) ?_ rfl
            refine ev_iload_n (u2) dX6_sendOff_62 rfl ?_
            refine ev_icmp_ne 126 dX6_sendOff_63 (by decide) (fun c6 => ?_) (fun c6 => ?_)
            · replace hQ := hQ.2 c6
              refine ev_iinc u4 (1) dX6_sendOff_126 rfl (by decide) (ev_hw rfl) ?_
              show ev_E g m_X6_sendOff 3 0 129 [some (ev_o 6 a), some (ev_i u1), some (ev_i u2), some (ev_i u3), some (ev_i (u4 + 1))] [] S Q
              refine ev_goto 3 dX6_sendOff_129 (by decide) ?_
              exact hQ
            · replace hQ := hQ.1 c6
              refine ev_aload_n (ev_o 6 a) dX6_sendOff_66 rfl rfl ?_
              refine gf_6_6 dX6_sendOff_67 kw_246 ?_
              refine ev_iload (u4) dX6_sendOff_70 rfl ?_
              refine ev_iconst (1) dX6_sendOff_72 rfl ?_
              refine ev_fNn ms_X9_put 1 [ev_y 84 (a + 10), ev_i u4, ev_i 1] [] dX6_sendOff_73 (List.mem_of_getElem? (i := 24) rfl) rfl (by decide) (Nat.le_of_ble_eq_true rfl) (sp_X9_put 84 (a + 10) u4 1) ?_ rfl
              refine ev_sub hQ (fun S1 hS1 hQ => ?_)
              refine ev_E.goal (pc' := 76) (L' := [some (ev_o 6 a), some (ev_i u1), some (ev_i u2), some (ev_i u3), some (ev_i u4)]) (K' := []) (S' := S1) ?_ rfl rfl rfl hS1
              refine ev_aload_n (ev_o 6 a) dX6_sendOff_76 rfl rfl ?_
              refine gf_6_7 dX6_sendOff_77 kw_247 ?_
              refine ev_iload (u4) dX6_sendOff_80 rfl ?_
              refine ev_iload_n (u3) dX6_sendOff_82 rfl ?_
              refine ev_fNn ms_X9_put 1 [ev_y 84 (a + 11), ev_i u4, ev_i u3] [] dX6_sendOff_83 (List.mem_of_getElem? (i := 24) rfl) rfl (by decide) (Nat.le_of_ble_eq_true rfl) (sp_X9_put 84 (a + 11) u4 u3) ?_ rfl
              refine ev_sub hQ (fun S2 hS2 hQ => ?_)
              refine ev_E.goal (pc' := 86) (L' := [some (ev_o 6 a), some (ev_i u1), some (ev_i u2), some (ev_i u3), some (ev_i u4)]) (K' := []) (S' := S2) ?_ rfl rfl rfl hS2
              refine ev_aload_n (ev_o 6 a) dX6_sendOff_86 rfl rfl ?_
              refine gf_6_10 dX6_sendOff_87 kw_250 ?_
              refine ev_aload_n (ev_o 6 a) dX6_sendOff_90 rfl rfl ?_
              refine gf_6_14 dX6_sendOff_91 kw_254 ?_
              refine ev_iload (u4) dX6_sendOff_94 rfl ?_
              refine ev_fNn ms_X9_put 1 [ev_y 84 (a + 14), ev_i (S2.1 a 14), ev_i u4] [] dX6_sendOff_96 (List.mem_of_getElem? (i := 24) rfl) rfl (by decide) (Nat.le_of_ble_eq_true rfl) (sp_X9_put 84 (a + 14) (S2.1 a 14) u4) ?_ rfl
              refine ev_sub hQ (fun S3 hS3 hQ => ?_)
              refine ev_E.goal (pc' := 99) (L' := [some (ev_o 6 a), some (ev_i u1), some (ev_i u2), some (ev_i u3), some (ev_i u4)]) (K' := []) (S' := S3) ?_ rfl rfl rfl hS3
              refine ev_aload_n (ev_o 6 a) dX6_sendOff_99 rfl rfl ?_
              refine ev_dup dX6_sendOff_100 rfl ?_
              refine gf_6_14 dX6_sendOff_101 kw_254 ?_
              refine ev_iconst (1) dX6_sendOff_104 rfl ?_
              refine ev_iadd dX6_sendOff_105 ?_
              refine pf_6_14 dX6_sendOff_106 kw_254 ?_
              refine ev_sub hQ (fun S4 hS4 hQ => ?_)
              refine ev_E.goal (pc' := 109) (L' := [some (ev_o 6 a), some (ev_i u1), some (ev_i u2), some (ev_i u3), some (ev_i u4)]) (K' := []) (S' := S4) ?_ rfl rfl rfl hS4
              refine ev_aload_n (ev_o 6 a) dX6_sendOff_109 rfl rfl ?_
              refine ev_iload_n (u1) dX6_sendOff_110 rfl ?_
              refine ev_iload_n (u2) dX6_sendOff_111 rfl ?_
              refine ev_iconst (-1) dX6_sendOff_112 rfl ?_
              refine ev_fVn mv_X6_changeWaiting 2 6 [ev_i u1, ev_i u2, ev_i (-1)] [] dX6_sendOff_113 kw_1431 rfl (by decide) rfl (by decide) (Nat.le_of_ble_eq_true rfl) (sp_X6_changeWaiting a u1 u2 (-1)) ?_ rfl
              refine ev_sub hQ (fun S5 hS5 hQ => ?_)
              refine ev_E.goal (pc' := 116) (L' := [some (ev_o 6 a), some (ev_i u1), some (ev_i u2), some (ev_i u3), some (ev_i u4)]) (K' := []) (S' := S5) ?_ rfl rfl rfl hS5
              refine ev_aload_n (ev_o 6 a) dX6_sendOff_116 rfl rfl ?_
              refine gf_6_0 dX6_sendOff_117 kw_240 ?_
              refine ev_iload_n (u1) dX6_sendOff_120 rfl ?_
              refine ev_iload_n (u2) dX6_sendOff_121 rfl ?_
              refine ev_iconst (-1) dX6_sendOff_122 rfl ?_
              refine ev_fVn mv_X5_changeMules 2 5 [ev_i u1, ev_i u2, ev_i (-1)] [] dX6_sendOff_123 kw_1418 rfl (by decide) rfl (by decide) (Nat.le_of_ble_eq_true rfl) (sp_X5_changeMules (a + 1) u1 u2 (-1)) ?_ rfl
              refine ev_sub hQ (fun S6 hS6 hQ => ?_)
              refine ev_E.goal (pc' := 126) (L' := [some (ev_o 6 a), some (ev_i u1), some (ev_i u2), some (ev_i u3), some (ev_i u4)]) (K' := []) (S' := S6) ?_ rfl rfl rfl hS6
              refine ev_iinc u4 (1) dX6_sendOff_126 rfl (by decide) (ev_hw rfl) ?_
              show ev_E g m_X6_sendOff 3 0 129 [some (ev_o 6 a), some (ev_i u1), some (ev_i u2), some (ev_i u3), some (ev_i (u4 + 1))] [] S6 Q
              refine ev_goto 3 dX6_sendOff_129 (by decide) ?_
              exact hQ
      · replace hQ := hQ.2 c3
        exact ev_return dX6_sendOff_33 rfl hQ
set_option maxHeartbeats 4000000 in
set_option maxRecDepth 100000 in
theorem sg_X6_passDay_0 {g : ev_G} {S : ev_S} {Q : ev_O → ev_S → Prop} (a : Nat) (x0 : Int32) (hQ : ∀ S1 : ev_S, S1 = (ev_up S a 15 0) → (
    ev_E g m_X6_passDay 4 0 15 [some (ev_o 6 a), some (ev_i x0), some (ev_i (ev_rem (x0 / 30) 12)), some (ev_i 0), some (ev_i 0), none, none] [] S1 Q)) : ev_Cv g m_X6_passDay 4 0 [ev_o 6 a, ev_i x0] S Q := by
  refine ev_enter (by decide) rfl rfl (Nat.le_of_ble_eq_true rfl) ?_
  show ev_E g m_X6_passDay 4 0 0 [some (ev_o 6 a), some (ev_i x0), none, none, none, none, none] [] S Q
  refine ev_iload_n (x0) dX6_passDay_0 rfl ?_
  refine ev_fN ms_X9_monthOf 1 [ev_i x0] [] dX6_passDay_1 (List.mem_of_getElem? (i := 23) rfl) rfl (by decide) (Nat.le_of_ble_eq_true rfl) (sp_X9_monthOf x0) ?_ rfl
  refine ev_istore_n dX6_passDay_4 (Nat.le_of_ble_eq_true rfl) (ev_hw rfl) ?_
  show ev_E g m_X6_passDay 4 0 5 [some (ev_o 6 a), some (ev_i x0), some (ev_i (ev_rem (x0 / 30) 12)), none, none, none, none] [] S Q
  refine ev_iconst (0) dX6_passDay_5 rfl ?_
  refine ev_istore_n dX6_passDay_6 (Nat.le_of_ble_eq_true rfl) (ev_hw rfl) ?_
  show ev_E g m_X6_passDay 4 0 7 [some (ev_o 6 a), some (ev_i x0), some (ev_i (ev_rem (x0 / 30) 12)), some (ev_i 0), none, none, none] [] S Q
  refine ev_aload_n (ev_o 6 a) dX6_passDay_7 rfl rfl ?_
  refine ev_iconst (0) dX6_passDay_8 rfl ?_
  refine pf_6_15 dX6_passDay_9 kw_255 ?_
  refine ev_sub hQ (fun S1 hS1 hQ => ?_)
  refine ev_E.goal (pc' := 12) (L' := [some (ev_o 6 a), some (ev_i x0), some (ev_i (ev_rem (x0 / 30) 12)), some (ev_i 0), none, none, none]) (K' := []) (S' := S1) ?_ rfl rfl rfl hS1
  refine ev_iconst (0) dX6_passDay_12 rfl ?_
  refine ev_istore dX6_passDay_13 (Nat.le_of_ble_eq_true rfl) (ev_hw rfl) ?_
  show ev_E g m_X6_passDay 4 0 15 [some (ev_o 6 a), some (ev_i x0), some (ev_i (ev_rem (x0 / 30) 12)), some (ev_i 0), some (ev_i 0), none, none] [] S1 Q
  exact hQ
set_option maxHeartbeats 4000000 in
set_option maxRecDepth 100000 in
theorem sg_X6_passDay_15 {g : ev_G} {S : ev_S} {Q : ev_O → ev_S → Prop} (a : Nat) (u1 : Int32) (u2 : Int32) (u3 : Int32) (u4 : Int32) (hQ : ((S.1 a 14) ≤ u4 → (
    ∀ S1 : ev_S, S1 = (ev_up S a 14 u3) → (
      ev_E g m_X6_passDay 4 0 122 [some (ev_o 6 a), none, some (ev_i u2), none, some (ev_i 0), none, none] [] S1 Q))) ∧
  (¬ ((S.1 a 14) ≤ u4) → (
    ((j_at (S.1 (a + 3)) 48 (((j_at (S.1 (a + 9)) 84 (j_at (S.1 (a + 14)) 84 u4)) * 12) + u2)) < 9 → (
      ∀ S2 : ev_S, S2 = (j_put S (a + 11) 84 (j_at (S.1 (a + 14)) 84 u4) ((j_at (S.1 (a + 11)) 84 (j_at (S.1 (a + 14)) 84 u4)) + (-1))) → (
        (((j_at (S.1 (a + 11)) 84 (j_at (S.1 (a + 14)) 84 u4)) + (-1)) = 0 → (
          ev_Cv g m_X6_arrive 3 0 [ev_o 6 a, ev_i (j_at (S.1 (a + 14)) 84 u4), ev_i u1] S2 (fun o S4 => o = .inl none ∧ (
            ev_E g m_X6_passDay 4 0 15 [some (ev_o 6 a), some (ev_i u1), some (ev_i u2), some (ev_i u3), some (ev_i (u4 + 1)), none, none] [] S4 Q)))) ∧
        (¬ (((j_at (S.1 (a + 11)) 84 (j_at (S.1 (a + 14)) 84 u4)) + (-1)) = 0) → (
          ∀ S3 : ev_S, S3 = (j_put S2 (a + 14) 84 u3 (j_at (S.1 (a + 14)) 84 u4)) → (
            ev_E g m_X6_passDay 4 0 15 [some (ev_o 6 a), some (ev_i u1), some (ev_i u2), some (ev_i (u3 + 1)), some (ev_i (u4 + 1)), none, none] [] S3 Q)))))) ∧
    (¬ ((j_at (S.1 (a + 3)) 48 (((j_at (S.1 (a + 9)) 84 (j_at (S.1 (a + 14)) 84 u4)) * 12) + u2)) < 9) → (
      ((j_at (S.1 (a + 11)) 84 (j_at (S.1 (a + 14)) 84 u4)) = 0 → (
        ev_Cv g m_X6_arrive 3 0 [ev_o 6 a, ev_i (j_at (S.1 (a + 14)) 84 u4), ev_i u1] S (fun o S6 => o = .inl none ∧ (
          ev_E g m_X6_passDay 4 0 15 [some (ev_o 6 a), some (ev_i u1), some (ev_i u2), some (ev_i u3), some (ev_i (u4 + 1)), none, none] [] S6 Q)))) ∧
      (¬ ((j_at (S.1 (a + 11)) 84 (j_at (S.1 (a + 14)) 84 u4)) = 0) → (
        ∀ S5 : ev_S, S5 = (j_put S (a + 14) 84 u3 (j_at (S.1 (a + 14)) 84 u4)) → (
          ev_E g m_X6_passDay 4 0 15 [some (ev_o 6 a), some (ev_i u1), some (ev_i u2), some (ev_i (u3 + 1)), some (ev_i (u4 + 1)), none, none] [] S5 Q)))))))) : ev_E g m_X6_passDay 4 0 15 [some (ev_o 6 a), some (ev_i u1), some (ev_i u2), some (ev_i u3), some (ev_i u4), none, none] [] S Q := by
  refine ev_iload (u4) dX6_passDay_15 rfl ?_
  refine ev_aload_n (ev_o 6 a) dX6_passDay_17 rfl rfl ?_
  refine gf_6_14 dX6_passDay_18 kw_254 ?_
  refine ev_icmp_ge 114 dX6_passDay_21 (by decide) (fun c1 => ?_) (fun c1 => ?_)
  · replace hQ := hQ.1 c1
    refine ev_aload_n (ev_o 6 a) dX6_passDay_114 rfl rfl ?_
    refine ev_iload_n (u3) dX6_passDay_115 rfl ?_
    refine pf_6_14 dX6_passDay_116 kw_254 ?_
    refine ev_sub hQ (fun S1 hS1 hQ => ?_)
    refine ev_E.goal (pc' := 119) (L' := [some (ev_o 6 a), some (ev_i u1), some (ev_i u2), some (ev_i u3), some (ev_i u4), none, none]) (K' := []) (S' := S1) ?_ rfl rfl rfl hS1
    refine ev_iconst (0) dX6_passDay_119 rfl ?_
    refine ev_istore dX6_passDay_120 (Nat.le_of_ble_eq_true rfl) (ev_hw rfl) ?_
    show ev_E g m_X6_passDay 4 0 122 [some (ev_o 6 a), some (ev_i u1), some (ev_i u2), some (ev_i u3), some (ev_i 0), none, none] [] S1 Q
    refine ev_fgm [true, false, true, false, true, false, false] ?_
    exact hQ
  · replace hQ := hQ.2 c1
    refine ev_aload_n (ev_o 6 a) dX6_passDay_24 rfl rfl ?_
    refine gf_6_10 dX6_passDay_25 kw_250 ?_
    refine ev_iload (u4) dX6_passDay_28 rfl ?_
    refine ev_fN ms_X9_at 1 [ev_y 84 (a + 14), ev_i u4] [] dX6_passDay_30 (List.mem_of_getElem? (i := 22) rfl) rfl (by decide) (Nat.le_of_ble_eq_true rfl) (sp_X9_at 84 (a + 14) u4) ?_ rfl
    refine ev_istore dX6_passDay_33 (Nat.le_of_ble_eq_true rfl) (ev_hw rfl) ?_
    show ev_E g m_X6_passDay 4 0 35 [some (ev_o 6 a), some (ev_i u1), some (ev_i u2), some (ev_i u3), some (ev_i u4), some (ev_i (j_at (S.1 (a + 14)) 84 u4)), none] [] S Q
    refine ev_aload_n (ev_o 6 a) dX6_passDay_35 rfl rfl ?_
    refine gf_6_7 dX6_passDay_36 kw_247 ?_
    refine ev_iload ((j_at (S.1 (a + 14)) 84 u4)) dX6_passDay_39 rfl ?_
    refine ev_fN ms_X9_at 1 [ev_y 84 (a + 11), ev_i (j_at (S.1 (a + 14)) 84 u4)] [] dX6_passDay_41 (List.mem_of_getElem? (i := 22) rfl) rfl (by decide) (Nat.le_of_ble_eq_true rfl) (sp_X9_at 84 (a + 11) (j_at (S.1 (a + 14)) 84 u4)) ?_ rfl
    refine ev_istore dX6_passDay_44 (Nat.le_of_ble_eq_true rfl) (ev_hw rfl) ?_
    show ev_E g m_X6_passDay 4 0 46 [some (ev_o 6 a), some (ev_i u1), some (ev_i u2), some (ev_i u3), some (ev_i u4), some (ev_i (j_at (S.1 (a + 14)) 84 u4)), some (ev_i (j_at (S.1 (a + 11)) 84 (j_at (S.1 (a + 14)) 84 u4)))] [] S Q
    refine ev_aload_n (ev_o 6 a) dX6_passDay_46 rfl rfl ?_
    refine gf_6_0 dX6_passDay_47 kw_240 ?_
    refine ev_aload_n (ev_o 6 a) dX6_passDay_50 rfl rfl ?_
    refine gf_6_5 dX6_passDay_51 kw_245 ?_
    refine ev_iload ((j_at (S.1 (a + 14)) 84 u4)) dX6_passDay_54 rfl ?_
    refine ev_fN ms_X9_at 1 [ev_y 84 (a + 9), ev_i (j_at (S.1 (a + 14)) 84 u4)] [ev_o 5 (a + 1)] dX6_passDay_56 (List.mem_of_getElem? (i := 22) rfl) rfl (by decide) (Nat.le_of_ble_eq_true rfl) (sp_X9_at 84 (a + 9) (j_at (S.1 (a + 14)) 84 u4)) ?_ rfl
    refine ev_iload_n (u2) dX6_passDay_59 rfl ?_
    refine ev_fV mv_X5_isClosed 3 5 [ev_i (j_at (S.1 (a + 9)) 84 (j_at (S.1 (a + 14)) 84 u4)), ev_i u2] [] dX6_passDay_60 kw_1408 rfl (by decide) rfl (by decide) (Nat.le_of_ble_eq_true rfl) (sp_X5_isClosed (a + 1) (j_at (S.1 (a + 9)) 84 (j_at (S.1 (a + 14)) 84 u4)) u2) ?_ rfl
    by_cases c2 : (j_at (S.1 (a + 3)) 48 (((j_at (S.1 (a + 9)) 84 (j_at (S.1 (a + 14)) 84 u4)) * 12) + u2)) < 9
    · rw [if_pos c2]
      replace hQ := hQ.1 c2
      refine ev_if_ne 80 dX6_passDay_63 (by decide) (fun h9 => absurd (by decide : ((0 : Int32) = 0)) h9) (fun _ => ?_)
      refine ev_iinc (j_at (S.1 (a + 11)) 84 (j_at (S.1 (a + 14)) 84 u4)) (-1) dX6_passDay_66 rfl (by decide) (ev_hw rfl) ?_
      show ev_E g m_X6_passDay 4 0 69 [some (ev_o 6 a), some (ev_i u1), some (ev_i u2), some (ev_i u3), some (ev_i u4), some (ev_i (j_at (S.1 (a + 14)) 84 u4)), some (ev_i ((j_at (S.1 (a + 11)) 84 (j_at (S.1 (a + 14)) 84 u4)) + (-1)))] [] S Q
      refine ev_aload_n (ev_o 6 a) dX6_passDay_69 rfl rfl ?_
      refine gf_6_7 dX6_passDay_70 kw_247 ?_
      refine ev_iload ((j_at (S.1 (a + 14)) 84 u4)) dX6_passDay_73 rfl ?_
      refine ev_iload (((j_at (S.1 (a + 11)) 84 (j_at (S.1 (a + 14)) 84 u4)) + (-1))) dX6_passDay_75 rfl ?_
      refine ev_fNn ms_X9_put 1 [ev_y 84 (a + 11), ev_i (j_at (S.1 (a + 14)) 84 u4), ev_i ((j_at (S.1 (a + 11)) 84 (j_at (S.1 (a + 14)) 84 u4)) + (-1))] [] dX6_passDay_77 (List.mem_of_getElem? (i := 24) rfl) rfl (by decide) (Nat.le_of_ble_eq_true rfl) (sp_X9_put 84 (a + 11) (j_at (S.1 (a + 14)) 84 u4) ((j_at (S.1 (a + 11)) 84 (j_at (S.1 (a + 14)) 84 u4)) + (-1))) ?_ rfl
      refine ev_sub hQ (fun S2 hS2 hQ => ?_)
      refine ev_E.goal (pc' := 80) (L' := [some (ev_o 6 a), some (ev_i u1), some (ev_i u2), some (ev_i u3), some (ev_i u4), some (ev_i (j_at (S.1 (a + 14)) 84 u4)), some (ev_i ((j_at (S.1 (a + 11)) 84 (j_at (S.1 (a + 14)) 84 u4)) + (-1)))]) (K' := []) (S' := S2) ?_ rfl rfl rfl hS2
      refine ev_iload (((j_at (S.1 (a + 11)) 84 (j_at (S.1 (a + 14)) 84 u4)) + (-1))) dX6_passDay_80 rfl ?_
      refine ev_if_ne 95 dX6_passDay_82 (by decide) (fun c3 => ?_) (fun c3 => ?_)
      · replace hQ := hQ.2 c3
        refine ev_aload_n (ev_o 6 a) dX6_passDay_95 rfl rfl ?_
        refine gf_6_10 dX6_passDay_96 kw_250 ?_
        refine ev_iload_n (u3) dX6_passDay_99 rfl ?_
        refine ev_iload ((j_at (S.1 (a + 14)) 84 u4)) dX6_passDay_100 rfl ?_
        refine ev_fNn ms_X9_put 1 [ev_y 84 (a + 14), ev_i u3, ev_i (j_at (S.1 (a + 14)) 84 u4)] [] dX6_passDay_102 (List.mem_of_getElem? (i := 24) rfl) rfl (by decide) (Nat.le_of_ble_eq_true rfl) (sp_X9_put 84 (a + 14) u3 (j_at (S.1 (a + 14)) 84 u4)) ?_ rfl
        refine ev_sub hQ (fun S3 hS3 hQ => ?_)
        refine ev_E.goal (pc' := 105) (L' := [some (ev_o 6 a), some (ev_i u1), some (ev_i u2), some (ev_i u3), some (ev_i u4), some (ev_i (j_at (S.1 (a + 14)) 84 u4)), some (ev_i ((j_at (S.1 (a + 11)) 84 (j_at (S.1 (a + 14)) 84 u4)) + (-1)))]) (K' := []) (S' := S3) ?_ rfl rfl rfl hS3
        refine ev_iinc u3 (1) dX6_passDay_105 rfl (by decide) (ev_hw rfl) ?_
        show ev_E g m_X6_passDay 4 0 108 [some (ev_o 6 a), some (ev_i u1), some (ev_i u2), some (ev_i (u3 + 1)), some (ev_i u4), some (ev_i (j_at (S.1 (a + 14)) 84 u4)), some (ev_i ((j_at (S.1 (a + 11)) 84 (j_at (S.1 (a + 14)) 84 u4)) + (-1)))] [] S3 Q
        refine ev_iinc u4 (1) dX6_passDay_108 rfl (by decide) (ev_hw rfl) ?_
        show ev_E g m_X6_passDay 4 0 111 [some (ev_o 6 a), some (ev_i u1), some (ev_i u2), some (ev_i (u3 + 1)), some (ev_i (u4 + 1)), some (ev_i (j_at (S.1 (a + 14)) 84 u4)), some (ev_i ((j_at (S.1 (a + 11)) 84 (j_at (S.1 (a + 14)) 84 u4)) + (-1)))] [] S3 Q
        refine ev_goto 15 dX6_passDay_111 (by decide) ?_
        refine ev_fgm [true, true, true, true, true, false, false] ?_
        exact hQ
      · replace hQ := hQ.1 c3
        refine ev_aload_n (ev_o 6 a) dX6_passDay_85 rfl rfl ?_
        refine ev_iload ((j_at (S.1 (a + 14)) 84 u4)) dX6_passDay_86 rfl ?_
        refine ev_iload_n (u1) dX6_passDay_88 rfl ?_
        refine ev_cV mv_X6_arrive 3 0 6 [ev_i (j_at (S.1 (a + 14)) 84 u4), ev_i u1] [] dX6_passDay_89 kw_1413 rfl (by decide) rfl (by decide) (by decide) (Nat.le_of_ble_eq_true rfl) hQ ?_ rfl
        rintro o S4 ⟨rfl, hQ⟩
        show ev_E g m_X6_passDay 4 0 92 [some (ev_o 6 a), some (ev_i u1), some (ev_i u2), some (ev_i u3), some (ev_i u4), some (ev_i (j_at (S.1 (a + 14)) 84 u4)), some (ev_i ((j_at (S.1 (a + 11)) 84 (j_at (S.1 (a + 14)) 84 u4)) + (-1)))] [] S4 Q
        refine ev_goto 108 dX6_passDay_92 (by decide) ?_
        refine ev_iinc u4 (1) dX6_passDay_108 rfl (by decide) (ev_hw rfl) ?_
        show ev_E g m_X6_passDay 4 0 111 [some (ev_o 6 a), some (ev_i u1), some (ev_i u2), some (ev_i u3), some (ev_i (u4 + 1)), some (ev_i (j_at (S.1 (a + 14)) 84 u4)), some (ev_i ((j_at (S.1 (a + 11)) 84 (j_at (S.1 (a + 14)) 84 u4)) + (-1)))] [] S4 Q
        refine ev_goto 15 dX6_passDay_111 (by decide) ?_
        refine ev_fgm [true, true, true, true, true, false, false] ?_
        exact hQ
    · rw [if_neg c2]
      replace hQ := hQ.2 c2
      refine ev_if_ne 80 dX6_passDay_63 (by decide) (fun _ => ?_) (fun h9 => absurd h9 (by decide : ¬ ((1 : Int32) = 0)))
      refine ev_iload ((j_at (S.1 (a + 11)) 84 (j_at (S.1 (a + 14)) 84 u4))) dX6_passDay_80 rfl ?_
      refine ev_if_ne 95 dX6_passDay_82 (by decide) (fun c4 => ?_) (fun c4 => ?_)
      · replace hQ := hQ.2 c4
        refine ev_aload_n (ev_o 6 a) dX6_passDay_95 rfl rfl ?_
        refine gf_6_10 dX6_passDay_96 kw_250 ?_
        refine ev_iload_n (u3) dX6_passDay_99 rfl ?_
        refine ev_iload ((j_at (S.1 (a + 14)) 84 u4)) dX6_passDay_100 rfl ?_
        refine ev_fNn ms_X9_put 1 [ev_y 84 (a + 14), ev_i u3, ev_i (j_at (S.1 (a + 14)) 84 u4)] [] dX6_passDay_102 (List.mem_of_getElem? (i := 24) rfl) rfl (by decide) (Nat.le_of_ble_eq_true rfl) (sp_X9_put 84 (a + 14) u3 (j_at (S.1 (a + 14)) 84 u4)) ?_ rfl
        refine ev_sub hQ (fun S5 hS5 hQ => ?_)
        refine ev_E.goal (pc' := 105) (L' := [some (ev_o 6 a), some (ev_i u1), some (ev_i u2), some (ev_i u3), some (ev_i u4), some (ev_i (j_at (S.1 (a + 14)) 84 u4)), some (ev_i (j_at (S.1 (a + 11)) 84 (j_at (S.1 (a + 14)) 84 u4)))]) (K' := []) (S' := S5) ?_ rfl rfl rfl hS5
        refine ev_iinc u3 (1) dX6_passDay_105 rfl (by decide) (ev_hw rfl) ?_
        show ev_E g m_X6_passDay 4 0 108 [some (ev_o 6 a), some (ev_i u1), some (ev_i u2), some (ev_i (u3 + 1)), some (ev_i u4), some (ev_i (j_at (S.1 (a + 14)) 84 u4)), some (ev_i (j_at (S.1 (a + 11)) 84 (j_at (S.1 (a + 14)) 84 u4)))] [] S5 Q
        refine ev_iinc u4 (1) dX6_passDay_108 rfl (by decide) (ev_hw rfl) ?_
        show ev_E g m_X6_passDay 4 0 111 [some (ev_o 6 a), some (ev_i u1), some (ev_i u2), some (ev_i (u3 + 1)), some (ev_i (u4 + 1)), some (ev_i (j_at (S.1 (a + 14)) 84 u4)), some (ev_i (j_at (S.1 (a + 11)) 84 (j_at (S.1 (a + 14)) 84 u4)))] [] S5 Q
        refine ev_goto 15 dX6_passDay_111 (by decide) ?_
        refine ev_fgm [true, true, true, true, true, false, false] ?_
        exact hQ
      · replace hQ := hQ.1 c4
        refine ev_aload_n (ev_o 6 a) dX6_passDay_85 rfl rfl ?_
        refine ev_iload ((j_at (S.1 (a + 14)) 84 u4)) dX6_passDay_86 rfl ?_
        refine ev_iload_n (u1) dX6_passDay_88 rfl ?_
        refine ev_cV mv_X6_arrive 3 0 6 [ev_i (j_at (S.1 (a + 14)) 84 u4), ev_i u1] [] dX6_passDay_89 kw_1413 rfl (by decide) rfl (by decide) (by decide) (Nat.le_of_ble_eq_true rfl) hQ ?_ rfl
        rintro o S6 ⟨rfl, hQ⟩
        show ev_E g m_X6_passDay 4 0 92 [some (ev_o 6 a), some (ev_i u1), some (ev_i u2), some (ev_i u3), some (ev_i u4), some (ev_i (j_at (S.1 (a + 14)) 84 u4)), some (ev_i (j_at (S.1 (a + 11)) 84 (j_at (S.1 (a + 14)) 84 u4)))] [] S6 Q
        refine ev_goto 108 dX6_passDay_92 (by decide) ?_
        refine ev_iinc u4 (1) dX6_passDay_108 rfl (by decide) (ev_hw rfl) ?_
        show ev_E g m_X6_passDay 4 0 111 [some (ev_o 6 a), some (ev_i u1), some (ev_i u2), some (ev_i u3), some (ev_i (u4 + 1)), some (ev_i (j_at (S.1 (a + 14)) 84 u4)), some (ev_i (j_at (S.1 (a + 11)) 84 (j_at (S.1 (a + 14)) 84 u4)))] [] S6 Q
        refine ev_goto 15 dX6_passDay_111 (by decide) ?_
        refine ev_fgm [true, true, true, true, true, false, false] ?_
        exact hQ
set_option maxHeartbeats 4000000 in
set_option maxRecDepth 100000 in
theorem sg_X6_passDay_122 {g : ev_G} {S : ev_S} {Q : ev_O → ev_S → Prop} (a : Nat) (u2 : Int32) (u4 : Int32) (hQ : ((S.1 (a + 1) 3) ≤ u4 → (
    Q (.inl (some (ev_i (S.1 a 15)))) S)) ∧
  (¬ ((S.1 (a + 1) 3) ≤ u4) → (
    ev_E g m_X6_passDay 4 0 149 [some (ev_o 6 a), none, some (ev_i u2), none, some (ev_i u4), some (ev_i (f_X5_daysOver S (a + 1) u4 u2)), some (ev_i 0)] [] S Q))) : ev_E g m_X6_passDay 4 0 122 [some (ev_o 6 a), none, some (ev_i u2), none, some (ev_i u4), none, none] [] S Q := by
  refine ev_iload (u4) dX6_passDay_122 rfl ?_
  refine ev_aload_n (ev_o 6 a) dX6_passDay_124 rfl rfl ?_
  refine gf_6_0 dX6_passDay_125 kw_240 ?_
  refine ev_fV mv_X5_count 1 5 [] [ev_i u4] dX6_passDay_128 kw_1422 rfl (by decide) rfl (by decide) (Nat.le_of_ble_eq_true rfl) (sp_X5_count (a + 1)) ?_ rfl
  refine ev_icmp_ge 183 dX6_passDay_131 (by decide) (fun c1 => ?_) (fun c1 => ?_)
  · replace hQ := hQ.1 c1
    refine ev_aload_n (ev_o 6 a) dX6_passDay_183 rfl rfl ?_
    refine gf_6_15 dX6_passDay_184 kw_255 ?_
    exact ev_ireturn .int dX6_passDay_187 rfl rfl hQ
  · replace hQ := hQ.2 c1
    refine ev_aload_n (ev_o 6 a) dX6_passDay_134 rfl rfl ?_
    refine gf_6_0 dX6_passDay_135 kw_240 ?_
    refine ev_iload (u4) dX6_passDay_138 rfl ?_
    refine ev_iload_n (u2) dX6_passDay_140 rfl ?_
    refine ev_fV mv_X5_daysOver 3 5 [ev_i u4, ev_i u2] [] dX6_passDay_141 kw_1423 rfl (by decide) rfl (by decide) (Nat.le_of_ble_eq_true rfl) (sp_X5_daysOver (a + 1) u4 u2) ?_ rfl
    refine ev_istore dX6_passDay_144 (Nat.le_of_ble_eq_true rfl) (ev_hw rfl) ?_
    show ev_E g m_X6_passDay 4 0 146 [some (ev_o 6 a), none, some (ev_i u2), none, some (ev_i u4), some (ev_i (f_X5_daysOver S (a + 1) u4 u2)), none] [] S Q
    refine ev_iconst (0) dX6_passDay_146 rfl ?_
    refine ev_istore dX6_passDay_147 (Nat.le_of_ble_eq_true rfl) (ev_hw rfl) ?_
    show ev_E g m_X6_passDay 4 0 149 [some (ev_o 6 a), none, some (ev_i u2), none, some (ev_i u4), some (ev_i (f_X5_daysOver S (a + 1) u4 u2)), some (ev_i 0)] [] S Q
    exact hQ
set_option maxHeartbeats 4000000 in
set_option maxRecDepth 100000 in
theorem sg_X6_passDay_149 {g : ev_G} {S : ev_S} {Q : ev_O → ev_S → Prop} (a : Nat) (u2 : Int32) (u4 : Int32) (u5 : Int32) (u6 : Int32) (hQ : (2 ≤ u6 → (
    ev_E g m_X6_passDay 4 0 122 [some (ev_o 6 a), none, some (ev_i u2), none, some (ev_i (u4 + 1)), none, none] [] S Q)) ∧
  (¬ (2 ≤ u6) → (
    (u5 = (-1) → (
      ev_E g m_X6_passDay 4 0 122 [some (ev_o 6 a), none, some (ev_i u2), none, some (ev_i (u4 + 1)), none, none] [] S Q)) ∧
    (¬ (u5 = (-1)) → (
      ev_Cv g m_X6_sendOff 3 0 [ev_o 6 a, ev_i u4, ev_i u6, ev_i u5] S (fun o S1 => o = .inl none ∧ (
        ev_E g m_X6_passDay 4 0 149 [some (ev_o 6 a), none, some (ev_i u2), none, some (ev_i u4), some (ev_i u5), some (ev_i (u6 + 1))] [] S1 Q))))))) : ev_E g m_X6_passDay 4 0 149 [some (ev_o 6 a), none, some (ev_i u2), none, some (ev_i u4), some (ev_i u5), some (ev_i u6)] [] S Q := by
  refine ev_iload (u6) dX6_passDay_149 rfl ?_
  refine ev_iconst (2) dX6_passDay_151 rfl ?_
  refine ev_icmp_ge 177 dX6_passDay_152 (by decide) (fun c1 => ?_) (fun c1 => ?_)
  · replace hQ := hQ.1 c1
    refine ev_iinc u4 (1) dX6_passDay_177 rfl (by decide) (ev_hw rfl) ?_
    show ev_E g m_X6_passDay 4 0 180 [some (ev_o 6 a), none, some (ev_i u2), none, some (ev_i (u4 + 1)), some (ev_i u5), some (ev_i u6)] [] S Q
    refine ev_goto 122 dX6_passDay_180 (by decide) ?_
    refine ev_fgm [true, false, true, false, true, false, false] ?_
    exact hQ
  · replace hQ := hQ.2 c1
    refine ev_iload (u5) dX6_passDay_155 rfl ?_
    refine ev_iconst (-1) dX6_passDay_157 rfl ?_
    refine ev_icmp_eq 177 dX6_passDay_158 (by decide) (fun c2 => ?_) (fun c2 => ?_)
    · replace hQ := hQ.1 c2
      refine ev_iinc u4 (1) dX6_passDay_177 rfl (by decide) (ev_hw rfl) ?_
      show ev_E g m_X6_passDay 4 0 180 [some (ev_o 6 a), none, some (ev_i u2), none, some (ev_i (u4 + 1)), some (ev_i u5), some (ev_i u6)] [] S Q
      refine ev_goto 122 dX6_passDay_180 (by decide) ?_
      refine ev_fgm [true, false, true, false, true, false, false] ?_
      exact hQ
    · replace hQ := hQ.2 c2
      refine ev_aload_n (ev_o 6 a) dX6_passDay_161 rfl rfl ?_
      refine ev_iload (u4) dX6_passDay_162 rfl ?_
      refine ev_iload (u6) dX6_passDay_164 rfl ?_
      refine ev_iload (u5) dX6_passDay_166 rfl ?_
      refine ev_cV mv_X6_sendOff 3 0 6 [ev_i u4, ev_i u6, ev_i u5] [] dX6_passDay_168 kw_1424 rfl (by decide) rfl (by decide) (by decide) (Nat.le_of_ble_eq_true rfl) hQ ?_ rfl
      rintro o S1 ⟨rfl, hQ⟩
      show ev_E g m_X6_passDay 4 0 171 [some (ev_o 6 a), none, some (ev_i u2), none, some (ev_i u4), some (ev_i u5), some (ev_i u6)] [] S1 Q
      refine ev_iinc u6 (1) dX6_passDay_171 rfl (by decide) (ev_hw rfl) ?_
      show ev_E g m_X6_passDay 4 0 174 [some (ev_o 6 a), none, some (ev_i u2), none, some (ev_i u4), some (ev_i u5), some (ev_i (u6 + 1))] [] S1 Q
      refine ev_goto 149 dX6_passDay_174 (by decide) ?_
      exact hQ
set_option maxHeartbeats 4000000 in
set_option maxRecDepth 100000 in
theorem sg_X9_arrivalDay_0 {g : ev_G} {S : ev_S} {Q : ev_O → ev_S → Prop} (a : Nat) (x0 : Int32) (hQ : ((t_X6_exists S (a + 30) x0) = true → (
    ((j_at (S.1 (a + 40)) 84 x0) = 2 → (
      Q (.inl (some (ev_i (j_at (S.1 (a + 43)) 84 x0)))) S)) ∧
    (¬ ((j_at (S.1 (a + 40)) 84 x0) = 2) → (
      ev_Cv g m_X6_copyFrom 3 0 [ev_o 6 (a + 71), ev_o 6 (a + 30)] S (fun o S1 => o = .inl none ∧ (
        ev_E g m_X9_arrivalDay 5 0 62 [some (ev_o 9 a), some (ev_i x0), some (ev_o 6 (a + 71)), some (ev_i 1)] [] S1 Q)))))) ∧
  (¬ ((t_X6_exists S (a + 30) x0) = true) → (
    Q (.inr 0) S))) : ev_Cv g m_X9_arrivalDay 5 1 [ev_o 9 a, ev_i x0] S Q := by
  refine ev_enter (by decide) rfl rfl (Nat.le_of_ble_eq_true rfl) ?_
  show ev_E g m_X9_arrivalDay 5 1 0 [some (ev_o 9 a), some (ev_i x0), none, none] [] S Q
  refine ev_aload_n (ev_o 9 a) dX9_arrivalDay_0 rfl rfl ?_
  refine gf_9_3 dX9_arrivalDay_1 kw_601 ?_
  refine ev_fV mv_X2_post 1 2 [] [] dX9_arrivalDay_4 kw_1121 rfl (by decide) rfl (by decide) (Nat.le_of_ble_eq_true rfl) (sp_X2_post (a + 11)) ?_ rfl
  refine ev_iload_n (x0) dX9_arrivalDay_7 rfl ?_
  refine ev_fV mv_X6_exists 1 6 [ev_i x0] [] dX9_arrivalDay_8 kw_1213 rfl (by decide) rfl (by decide) (Nat.le_of_ble_eq_true rfl) (sp_X6_exists (a + 30) x0) ?_ rfl
  by_cases c1 : (t_X6_exists S (a + 30) x0) = true
  · rw [if_pos c1]
    replace hQ := hQ.1 c1
    refine ev_cS ms_X9_require 1 1 [ev_i 1] [] dX9_arrivalDay_11 kw_966 rfl (by decide) (by decide) (Nat.le_of_ble_eq_true rfl) (Q' := fun o z => ev_After g m_X9_arrivalDay 5 (1 - 1) 11 [some (ev_o 9 a), some (ev_i x0), none, none] [] z Q o) (sg_X9_require_0 1 ?_) (fun o z h => h) rfl
    refine j_neg (by decide : ¬ ((1 : Int32) = 0)) ?_
    show ev_E g m_X9_arrivalDay 5 0 14 [some (ev_o 9 a), some (ev_i x0), none, none] [] S Q
    refine ev_aload_n (ev_o 9 a) dX9_arrivalDay_14 rfl rfl ?_
    refine gf_9_3 dX9_arrivalDay_15 kw_601 ?_
    refine ev_fV mv_X2_post 1 2 [] [] dX9_arrivalDay_18 kw_1121 rfl (by decide) rfl (by decide) (Nat.le_of_ble_eq_true rfl) (sp_X2_post (a + 11)) ?_ rfl
    refine ev_iload_n (x0) dX9_arrivalDay_21 rfl ?_
    refine ev_fV mv_X6_stateOf 2 6 [ev_i x0] [] dX9_arrivalDay_22 kw_1125 rfl (by decide) rfl (by decide) (Nat.le_of_ble_eq_true rfl) (sp_X6_stateOf (a + 30) x0) ?_ rfl
    refine ev_iconst (2) dX9_arrivalDay_25 rfl ?_
    refine ev_icmp_ne 41 dX9_arrivalDay_26 (by decide) (fun c2 => ?_) (fun c2 => ?_)
    · replace hQ := hQ.2 c2
      refine ev_aload_n (ev_o 9 a) dX9_arrivalDay_41 rfl rfl ?_
      refine gf_9_4 dX9_arrivalDay_42 kw_602 ?_
      refine ev_fV mv_X2_post 1 2 [] [] dX9_arrivalDay_45 kw_1121 rfl (by decide) rfl (by decide) (Nat.le_of_ble_eq_true rfl) (sp_X2_post (a + 52)) ?_ rfl
      refine ev_astore_n dX9_arrivalDay_48 rfl (Nat.le_of_ble_eq_true rfl) (ev_hw rfl) ?_
      show ev_E g m_X9_arrivalDay 5 0 49 [some (ev_o 9 a), some (ev_i x0), some (ev_o 6 (a + 71)), none] [] S Q
      refine ev_aload_n (ev_o 6 (a + 71)) dX9_arrivalDay_49 rfl rfl ?_
      refine ev_aload_n (ev_o 9 a) dX9_arrivalDay_50 rfl rfl ?_
      refine gf_9_3 dX9_arrivalDay_51 kw_601 ?_
      refine ev_fV mv_X2_post 1 2 [] [ev_o 6 (a + 71)] dX9_arrivalDay_54 kw_1121 rfl (by decide) rfl (by decide) (Nat.le_of_ble_eq_true rfl) (sp_X2_post (a + 11)) ?_ rfl
      refine ev_cV mv_X6_copyFrom 3 0 6 [ev_o 6 (a + 30)] [] dX9_arrivalDay_57 kw_1487 rfl (by decide) rfl (by decide) (by decide) (Nat.le_of_ble_eq_true rfl) hQ ?_ rfl
      rintro o S1 ⟨rfl, hQ⟩
      show ev_E g m_X9_arrivalDay 5 0 60 [some (ev_o 9 a), some (ev_i x0), some (ev_o 6 (a + 71)), none] [] S1 Q
      refine ev_iconst (1) dX9_arrivalDay_60 rfl ?_
      refine ev_istore_n dX9_arrivalDay_61 (Nat.le_of_ble_eq_true rfl) (ev_hw rfl) ?_
      show ev_E g m_X9_arrivalDay 5 0 62 [some (ev_o 9 a), some (ev_i x0), some (ev_o 6 (a + 71)), some (ev_i 1)] [] S1 Q
      exact hQ
    · replace hQ := hQ.1 c2
      refine ev_aload_n (ev_o 9 a) dX9_arrivalDay_29 rfl rfl ?_
      refine gf_9_3 dX9_arrivalDay_30 kw_601 ?_
      refine ev_fV mv_X2_post 1 2 [] [] dX9_arrivalDay_33 kw_1121 rfl (by decide) rfl (by decide) (Nat.le_of_ble_eq_true rfl) (sp_X2_post (a + 11)) ?_ rfl
      refine ev_iload_n (x0) dX9_arrivalDay_36 rfl ?_
      refine ev_fV mv_X6_arrivalOf 2 6 [ev_i x0] [] dX9_arrivalDay_37 kw_1483 rfl (by decide) rfl (by decide) (Nat.le_of_ble_eq_true rfl) (sp_X6_arrivalOf (a + 30) x0) ?_ rfl
      exact ev_ireturn .int dX9_arrivalDay_40 rfl rfl hQ
  · rw [if_neg c1]
    replace hQ := hQ.2 c1
    refine ev_cS ms_X9_require 1 1 [ev_i 0] [] dX9_arrivalDay_11 kw_966 rfl (by decide) (by decide) (Nat.le_of_ble_eq_true rfl) (Q' := fun o z => ev_After g m_X9_arrivalDay 5 (1 - 1) 11 [some (ev_o 9 a), some (ev_i x0), none, none] [] z Q o) (sg_X9_require_0 0 ?_) (fun o z h => h) rfl
    refine j_pos (by decide : ((0 : Int32) = 0)) ?_
    exact ev_T_out (by decide) rfl hQ
set_option maxHeartbeats 4000000 in
set_option maxRecDepth 100000 in
theorem sg_X9_arrivalDay_62 {g : ev_G} {S : ev_S} {Q : ev_O → ev_S → Prop} (a : Nat) (u1 : Int32) (u3 : Int32) (hQ : (400 < u3 → (
    Q (.inl (some (ev_i (-1)))) S)) ∧
  (¬ (400 < u3) → (
    ev_Cv g m_X6_passDay 4 0 [ev_o 6 (a + 71), ev_i ((S.1 (a + 11) 4) + u3)] S (fun o S1 => ∃ v1_ : Int32, o = .inl (some (ev_i v1_)) ∧ (
      ((j_at (S1.1 (a + 81)) 84 u1) = 2 → (
        Q (.inl (some (ev_i ((S1.1 (a + 11) 4) + u3)))) S1)) ∧
      (¬ ((j_at (S1.1 (a + 81)) 84 u1) = 2) → (
        ev_E g m_X9_arrivalDay 5 0 62 [some (ev_o 9 a), some (ev_i u1), some (ev_o 6 (a + 71)), some (ev_i (u3 + 1))] [] S1 Q))))))) : ev_E g m_X9_arrivalDay 5 0 62 [some (ev_o 9 a), some (ev_i u1), some (ev_o 6 (a + 71)), some (ev_i u3)] [] S Q := by
  refine ev_iload_n (u3) dX9_arrivalDay_62 rfl ?_
  refine ev_sipush (400) dX9_arrivalDay_63 (by decide) ?_
  refine ev_icmp_gt 108 dX9_arrivalDay_66 (by decide) (fun c1 => ?_) (fun c1 => ?_)
  · replace hQ := hQ.1 c1
    refine ev_iconst (-1) dX9_arrivalDay_108 rfl ?_
    exact ev_ireturn .int dX9_arrivalDay_109 rfl rfl hQ
  · replace hQ := hQ.2 c1
    refine ev_aload_n (ev_o 6 (a + 71)) dX9_arrivalDay_69 rfl rfl ?_
    refine ev_aload_n (ev_o 9 a) dX9_arrivalDay_70 rfl rfl ?_
    refine gf_9_3 dX9_arrivalDay_71 kw_601 ?_
    refine ev_fV mv_X2_today 1 2 [] [ev_o 6 (a + 71)] dX9_arrivalDay_74 kw_1170 rfl (by decide) rfl (by decide) (Nat.le_of_ble_eq_true rfl) (sp_X2_today (a + 11)) ?_ rfl
    refine ev_iload_n (u3) dX9_arrivalDay_77 rfl ?_
    refine ev_iadd dX9_arrivalDay_78 ?_
    refine ev_cV mv_X6_passDay 4 0 6 [ev_i ((S.1 (a + 11) 4) + u3)] [] dX9_arrivalDay_79 kw_1488 rfl (by decide) rfl (by decide) (by decide) (Nat.le_of_ble_eq_true rfl) hQ ?_ rfl
    rintro o S1 ⟨v1_, rfl, hQ⟩
    show ev_E g m_X9_arrivalDay 5 0 82 [some (ev_o 9 a), some (ev_i u1), some (ev_o 6 (a + 71)), some (ev_i u3)] [ev_i v1_] S1 Q
    refine ev_pop dX9_arrivalDay_82 rfl ?_
    refine ev_aload_n (ev_o 6 (a + 71)) dX9_arrivalDay_83 rfl rfl ?_
    refine ev_iload_n (u1) dX9_arrivalDay_84 rfl ?_
    refine ev_fV mv_X6_stateOf 2 6 [ev_i u1] [] dX9_arrivalDay_85 kw_1125 rfl (by decide) rfl (by decide) (Nat.le_of_ble_eq_true rfl) (sp_X6_stateOf (a + 71) u1) ?_ rfl
    refine ev_iconst (2) dX9_arrivalDay_88 rfl ?_
    refine ev_icmp_ne 102 dX9_arrivalDay_89 (by decide) (fun c2 => ?_) (fun c2 => ?_)
    · replace hQ := hQ.2 c2
      refine ev_iinc u3 (1) dX9_arrivalDay_102 rfl (by decide) (ev_hw rfl) ?_
      show ev_E g m_X9_arrivalDay 5 0 105 [some (ev_o 9 a), some (ev_i u1), some (ev_o 6 (a + 71)), some (ev_i (u3 + 1))] [] S1 Q
      refine ev_goto 62 dX9_arrivalDay_105 (by decide) ?_
      exact hQ
    · replace hQ := hQ.1 c2
      refine ev_aload_n (ev_o 9 a) dX9_arrivalDay_92 rfl rfl ?_
      refine gf_9_3 dX9_arrivalDay_93 kw_601 ?_
      refine ev_fV mv_X2_today 1 2 [] [] dX9_arrivalDay_96 kw_1170 rfl (by decide) rfl (by decide) (Nat.le_of_ble_eq_true rfl) (sp_X2_today (a + 11)) ?_ rfl
      refine ev_iload_n (u3) dX9_arrivalDay_99 rfl ?_
      refine ev_iadd dX9_arrivalDay_100 ?_
      exact ev_ireturn .int dX9_arrivalDay_101 rfl rfl hQ
set_option maxHeartbeats 4000000 in
set_option maxRecDepth 100000 in
theorem sg_X6_isIdle_0 {g : ev_G} {S : ev_S} {Q : ev_O → ev_S → Prop} (a : Nat) (hQ : ((S.1 a 16) = (S.1 a 13) → (
    Q (.inl (some (ev_i 1))) S)) ∧
  (¬ ((S.1 a 16) = (S.1 a 13)) → (
    Q (.inl (some (ev_i 0))) S))) : ev_Cv g m_X6_isIdle 1 0 [ev_o 6 a] S Q := by
  refine ev_enter (by decide) rfl rfl (Nat.le_of_ble_eq_true rfl) ?_
  show ev_E g m_X6_isIdle 1 0 0 [some (ev_o 6 a)] [] S Q
  refine ev_aload_n (ev_o 6 a) dX6_isIdle_0 rfl rfl ?_
  refine gf_6_16 dX6_isIdle_1 kw_256 ?_
  refine ev_aload_n (ev_o 6 a) dX6_isIdle_4 rfl rfl ?_
  refine gf_6_13 dX6_isIdle_5 kw_253 ?_
  refine ev_icmp_ne 15 dX6_isIdle_8 (by decide) (fun c1 => ?_) (fun c1 => ?_)
  · replace hQ := hQ.2 c1
    refine ev_iconst (0) dX6_isIdle_15 rfl ?_
    exact ev_ireturn .boolean dX6_isIdle_16 rfl rfl hQ
  · replace hQ := hQ.1 c1
    refine ev_iconst (1) dX6_isIdle_11 rfl ?_
    refine ev_goto 16 dX6_isIdle_12 (by decide) ?_
    exact ev_ireturn .boolean dX6_isIdle_16 rfl rfl hQ
set_option maxHeartbeats 4000000 in
set_option maxRecDepth 100000 in
theorem sp_X6_isIdle {g : ev_G} {S : ev_S} (a : Nat)  : ev_Fn g m_X6_isIdle 1 [ev_o 6 a] S (some (ev_i (if (S.1 a 16) = (S.1 a 13) then 1 else 0))) S := by
  intro Q hQ
  refine sg_X6_isIdle_0 a ?_
  refine ⟨fun c1 => ?_, fun c1 => ?_⟩
  · rw [if_pos c1] at hQ
    exact hQ
  · rw [if_neg c1] at hQ
    exact hQ
set_option maxHeartbeats 4000000 in
set_option maxRecDepth 100000 in
theorem sg_X6_arrival_0 {g : ev_G} {S : ev_S} {Q : ev_O → ev_S → Prop} (a : Nat) (x0 : Int32) (hQ : Q (.inl (some (ev_i (j_at (S.1 (a + 15)) 84 x0)))) S) : ev_Cv g m_X6_arrival 2 0 [ev_o 6 a, ev_i x0] S Q := by
  refine ev_enter (by decide) rfl rfl (Nat.le_of_ble_eq_true rfl) ?_
  show ev_E g m_X6_arrival 2 0 0 [some (ev_o 6 a), some (ev_i x0)] [] S Q
  refine ev_aload_n (ev_o 6 a) dX6_arrival_0 rfl rfl ?_
  refine gf_6_11 dX6_arrival_1 kw_251 ?_
  refine ev_iload_n (x0) dX6_arrival_4 rfl ?_
  refine ev_fN ms_X9_at 1 [ev_y 84 (a + 15), ev_i x0] [] dX6_arrival_5 (List.mem_of_getElem? (i := 22) rfl) rfl (by decide) (Nat.le_of_ble_eq_true rfl) (sp_X9_at 84 (a + 15) x0) ?_ rfl
  exact ev_ireturn .int dX6_arrival_8 rfl rfl hQ
set_option maxHeartbeats 4000000 in
set_option maxRecDepth 100000 in
theorem sp_X6_arrival {g : ev_G} {S : ev_S} (a : Nat) (x0 : Int32)  : ev_Fn g m_X6_arrival 2 [ev_o 6 a, ev_i x0] S (some (ev_i (j_at (S.1 (a + 15)) 84 x0))) S := by
  intro Q hQ
  refine sg_X6_arrival_0 a x0 ?_
  exact hQ
set_option maxHeartbeats 4000000 in
set_option maxRecDepth 100000 in
theorem sg_X6_moveIn_0 {g : ev_G} {S : ev_S} {Q : ev_O → ev_S → Prop} (a : Nat) (x0 : Int32) (hQ : Q (.inl (some (ev_i (j_at (S.1 (a + 7)) 84 x0)))) S) : ev_Cv g m_X6_moveIn 2 0 [ev_o 6 a, ev_i x0] S Q := by
  refine ev_enter (by decide) rfl rfl (Nat.le_of_ble_eq_true rfl) ?_
  show ev_E g m_X6_moveIn 2 0 0 [some (ev_o 6 a), some (ev_i x0)] [] S Q
  refine ev_aload_n (ev_o 6 a) dX6_moveIn_0 rfl rfl ?_
  refine gf_6_3 dX6_moveIn_1 kw_243 ?_
  refine ev_iload_n (x0) dX6_moveIn_4 rfl ?_
  refine ev_fN ms_X9_at 1 [ev_y 84 (a + 7), ev_i x0] [] dX6_moveIn_5 (List.mem_of_getElem? (i := 22) rfl) rfl (by decide) (Nat.le_of_ble_eq_true rfl) (sp_X9_at 84 (a + 7) x0) ?_ rfl
  exact ev_ireturn .int dX6_moveIn_8 rfl rfl hQ
set_option maxHeartbeats 4000000 in
set_option maxRecDepth 100000 in
theorem sp_X6_moveIn {g : ev_G} {S : ev_S} (a : Nat) (x0 : Int32)  : ev_Fn g m_X6_moveIn 2 [ev_o 6 a, ev_i x0] S (some (ev_i (j_at (S.1 (a + 7)) 84 x0))) S := by
  intro Q hQ
  refine sg_X6_moveIn_0 a x0 ?_
  exact hQ
set_option maxHeartbeats 4000000 in
set_option maxRecDepth 100000 in
theorem sg_X1_hasPromise_0 {g : ev_G} {S : ev_S} {Q : ev_O → ev_S → Prop} (a : Nat) (x0 : Int32) (hQ : ((j_at (S.1 (a + 8)) 61 x0) = (-1) → (
    Q (.inl (some (ev_i 0))) S)) ∧
  (¬ ((j_at (S.1 (a + 8)) 61 x0) = (-1)) → (
    Q (.inl (some (ev_i 1))) S))) : ev_Cv g m_X1_hasPromise 2 0 [ev_o 1 a, ev_i x0] S Q := by
  refine ev_enter (by decide) rfl rfl (Nat.le_of_ble_eq_true rfl) ?_
  show ev_E g m_X1_hasPromise 2 0 0 [some (ev_o 1 a), some (ev_i x0)] [] S Q
  refine ev_aload_n (ev_o 1 a) dX1_hasPromise_0 rfl rfl ?_
  refine gf_1_4 dX1_hasPromise_1 kw_182 ?_
  refine ev_iload_n (x0) dX1_hasPromise_4 rfl ?_
  refine ev_fN ms_X9_at 1 [ev_y 61 (a + 8), ev_i x0] [] dX1_hasPromise_5 (List.mem_of_getElem? (i := 25) rfl) rfl (by decide) (Nat.le_of_ble_eq_true rfl) (sp_X9_at 61 (a + 8) x0) ?_ rfl
  refine ev_iconst (-1) dX1_hasPromise_8 rfl ?_
  refine ev_icmp_eq 16 dX1_hasPromise_9 (by decide) (fun c1 => ?_) (fun c1 => ?_)
  · replace hQ := hQ.1 c1
    refine ev_iconst (0) dX1_hasPromise_16 rfl ?_
    exact ev_ireturn .boolean dX1_hasPromise_17 rfl rfl hQ
  · replace hQ := hQ.2 c1
    refine ev_iconst (1) dX1_hasPromise_12 rfl ?_
    refine ev_goto 17 dX1_hasPromise_13 (by decide) ?_
    exact ev_ireturn .boolean dX1_hasPromise_17 rfl rfl hQ
set_option maxHeartbeats 4000000 in
set_option maxRecDepth 100000 in
theorem sp_X1_hasPromise {g : ev_G} {S : ev_S} (a : Nat) (x0 : Int32)  : ev_Fn g m_X1_hasPromise 2 [ev_o 1 a, ev_i x0] S (some (ev_i (if (j_at (S.1 (a + 8)) 61 x0) = (-1) then 0 else 1))) S := by
  intro Q hQ
  refine sg_X1_hasPromise_0 a x0 ?_
  refine ⟨fun c1 => ?_, fun c1 => ?_⟩
  · rw [if_pos c1] at hQ
    exact hQ
  · rw [if_neg c1] at hQ
    exact hQ
set_option maxHeartbeats 4000000 in
set_option maxRecDepth 100000 in
theorem sg_X1_keepPromise_0 {g : ev_G} {S : ev_S} {Q : ev_O → ev_S → Prop} (a : Nat) (x0 : Int32) (x1 : Int32) (x2 : Int32) (hQ : ∀ S1 : ev_S, S1 = (j_put S (a + 7) 61 x0 x1) → (
    ∀ S2 : ev_S, S2 = (j_put S1 (a + 8) 61 x0 x2) → (
      Q (.inl none) S2))) : ev_Cv g m_X1_keepPromise 2 0 [ev_o 1 a, ev_i x0, ev_i x1, ev_i x2] S Q := by
  refine ev_enter (by decide) rfl rfl (Nat.le_of_ble_eq_true rfl) ?_
  show ev_E g m_X1_keepPromise 2 0 0 [some (ev_o 1 a), some (ev_i x0), some (ev_i x1), some (ev_i x2)] [] S Q
  refine ev_aload_n (ev_o 1 a) dX1_keepPromise_0 rfl rfl ?_
  refine gf_1_3 dX1_keepPromise_1 kw_181 ?_
  refine ev_iload_n (x0) dX1_keepPromise_4 rfl ?_
  refine ev_iload_n (x1) dX1_keepPromise_5 rfl ?_
  refine ev_fNn ms_X9_put 1 [ev_y 61 (a + 7), ev_i x0, ev_i x1] [] dX1_keepPromise_6 (List.mem_of_getElem? (i := 26) rfl) rfl (by decide) (Nat.le_of_ble_eq_true rfl) (sp_X9_put 61 (a + 7) x0 x1) ?_ rfl
  refine ev_sub hQ (fun S1 hS1 hQ => ?_)
  refine ev_E.goal (pc' := 9) (L' := [some (ev_o 1 a), some (ev_i x0), some (ev_i x1), some (ev_i x2)]) (K' := []) (S' := S1) ?_ rfl rfl rfl hS1
  refine ev_aload_n (ev_o 1 a) dX1_keepPromise_9 rfl rfl ?_
  refine gf_1_4 dX1_keepPromise_10 kw_182 ?_
  refine ev_iload_n (x0) dX1_keepPromise_13 rfl ?_
  refine ev_iload_n (x2) dX1_keepPromise_14 rfl ?_
  refine ev_fNn ms_X9_put 1 [ev_y 61 (a + 8), ev_i x0, ev_i x2] [] dX1_keepPromise_15 (List.mem_of_getElem? (i := 26) rfl) rfl (by decide) (Nat.le_of_ble_eq_true rfl) (sp_X9_put 61 (a + 8) x0 x2) ?_ rfl
  refine ev_sub hQ (fun S2 hS2 hQ => ?_)
  refine ev_E.goal (pc' := 18) (L' := [some (ev_o 1 a), some (ev_i x0), some (ev_i x1), some (ev_i x2)]) (K' := []) (S' := S2) ?_ rfl rfl rfl hS2
  exact ev_return dX1_keepPromise_18 rfl hQ
set_option maxHeartbeats 4000000 in
set_option maxRecDepth 100000 in
theorem sp_X1_keepPromise {g : ev_G} {S : ev_S} (a : Nat) (x0 : Int32) (x1 : Int32) (x2 : Int32)  : ev_Fn g m_X1_keepPromise 2 [ev_o 1 a, ev_i x0, ev_i x1, ev_i x2] S none (j_put (j_put S (a + 7) 61 x0 x1) (a + 8) 61 x0 x2) := by
  intro Q hQ
  refine sg_X1_keepPromise_0 a x0 x1 x2 ?_
  intro S1 hS1
  intro S2 hS2
  subst hS2
  subst hS1
  exact hQ
set_option maxHeartbeats 4000000 in
set_option maxRecDepth 100000 in
theorem sg_X1_takeIn_0 {g : ev_G} {S : ev_S} {Q : ev_O → ev_S → Prop} (a : Nat) (x0 : Int32) (x1 : Int32) (x2 : Int32) (hQ : (x2 = (-1) → (
    (x0 ≤ (S.1 (a + 1) 6) → (
      Q (.inl (some (ev_i 0))) S)) ∧
    (¬ (x0 ≤ (S.1 (a + 1) 6)) → (
      ((j_at (S.1 (a + 6)) 61 x0) = (-1) → (
        ∀ S1 : ev_S, S1 = (j_put S (a + 6) 61 x0 x1) → (
          ∀ S2 : ev_S, S2 = (ev_up S1 a 5 ((S1.1 a 5) + 1)) → (
            Q (.inl (some (ev_i 1))) S2)))) ∧
      (¬ ((j_at (S.1 (a + 6)) 61 x0) = (-1)) → (
        Q (.inl (some (ev_i 0))) S)))))) ∧
  (¬ (x2 = (-1)) → (
    ((j_at (S.1 (a + 8)) 61 x0) = (-1) → (
      ∀ S3 : ev_S, S3 = (j_put (j_put S (a + 7) 61 x0 x2) (a + 8) 61 x0 x1) → (
        Q (.inl (some (ev_i 1))) S3))) ∧
    (¬ ((j_at (S.1 (a + 8)) 61 x0) = (-1)) → (
      Q (.inl (some (ev_i 0))) S))))) : ev_Cv g m_X1_takeIn 3 0 [ev_o 1 a, ev_i x0, ev_i x1, ev_i x2] S Q := by
  refine ev_enter (by decide) rfl rfl (Nat.le_of_ble_eq_true rfl) ?_
  show ev_E g m_X1_takeIn 3 0 0 [some (ev_o 1 a), some (ev_i x0), some (ev_i x1), some (ev_i x2)] [] S Q
  refine ev_iload_n (x2) dX1_takeIn_0 rfl ?_
  refine ev_iconst (-1) dX1_takeIn_1 rfl ?_
  refine ev_icmp_eq 24 dX1_takeIn_2 (by decide) (fun c1 => ?_) (fun c1 => ?_)
  · replace hQ := hQ.1 c1
    refine ev_iload_n (x0) dX1_takeIn_24 rfl ?_
    refine ev_aload_n (ev_o 1 a) dX1_takeIn_25 rfl rfl ?_
    refine gf_1_1 dX1_takeIn_26 kw_179 ?_
    refine ev_fV mv_X0_made 1 0 [] [ev_i x0] dX1_takeIn_29 kw_1458 rfl (by decide) rfl (by decide) (Nat.le_of_ble_eq_true rfl) (sp_X0_made (a + 1)) ?_ rfl
    refine ev_icmp_le 47 dX1_takeIn_32 (by decide) (fun c2 => ?_) (fun c2 => ?_)
    · replace hQ := hQ.1 c2
      refine ev_iconst (0) dX1_takeIn_47 rfl ?_
      exact ev_ireturn .boolean dX1_takeIn_48 rfl rfl hQ
    · replace hQ := hQ.2 c2
      refine ev_aload_n (ev_o 1 a) dX1_takeIn_35 rfl rfl ?_
      refine gf_1_2 dX1_takeIn_36 kw_180 ?_
      refine ev_iload_n (x0) dX1_takeIn_39 rfl ?_
      refine ev_fN ms_X9_at 1 [ev_y 61 (a + 6), ev_i x0] [] dX1_takeIn_40 (List.mem_of_getElem? (i := 25) rfl) rfl (by decide) (Nat.le_of_ble_eq_true rfl) (sp_X9_at 61 (a + 6) x0) ?_ rfl
      refine ev_iconst (-1) dX1_takeIn_43 rfl ?_
      refine ev_icmp_eq 49 dX1_takeIn_44 (by decide) (fun c3 => ?_) (fun c3 => ?_)
      · replace hQ := hQ.1 c3
        refine ev_aload_n (ev_o 1 a) dX1_takeIn_49 rfl rfl ?_
        refine gf_1_2 dX1_takeIn_50 kw_180 ?_
        refine ev_iload_n (x0) dX1_takeIn_53 rfl ?_
        refine ev_iload_n (x1) dX1_takeIn_54 rfl ?_
        refine ev_fNn ms_X9_put 1 [ev_y 61 (a + 6), ev_i x0, ev_i x1] [] dX1_takeIn_55 (List.mem_of_getElem? (i := 26) rfl) rfl (by decide) (Nat.le_of_ble_eq_true rfl) (sp_X9_put 61 (a + 6) x0 x1) ?_ rfl
        refine ev_sub hQ (fun S1 hS1 hQ => ?_)
        refine ev_E.goal (pc' := 58) (L' := [some (ev_o 1 a), some (ev_i x0), some (ev_i x1), some (ev_i x2)]) (K' := []) (S' := S1) ?_ rfl rfl rfl hS1
        refine ev_aload_n (ev_o 1 a) dX1_takeIn_58 rfl rfl ?_
        refine ev_dup dX1_takeIn_59 rfl ?_
        refine gf_1_5 dX1_takeIn_60 kw_183 ?_
        refine ev_iconst (1) dX1_takeIn_63 rfl ?_
        refine ev_iadd dX1_takeIn_64 ?_
        refine pf_1_5 dX1_takeIn_65 kw_183 ?_
        refine ev_sub hQ (fun S2 hS2 hQ => ?_)
        refine ev_E.goal (pc' := 68) (L' := [some (ev_o 1 a), some (ev_i x0), some (ev_i x1), some (ev_i x2)]) (K' := []) (S' := S2) ?_ rfl rfl rfl hS2
        refine ev_iconst (1) dX1_takeIn_68 rfl ?_
        exact ev_ireturn .boolean dX1_takeIn_69 rfl rfl hQ
      · replace hQ := hQ.2 c3
        refine ev_iconst (0) dX1_takeIn_47 rfl ?_
        exact ev_ireturn .boolean dX1_takeIn_48 rfl rfl hQ
  · replace hQ := hQ.2 c1
    refine ev_aload_n (ev_o 1 a) dX1_takeIn_5 rfl rfl ?_
    refine ev_iload_n (x0) dX1_takeIn_6 rfl ?_
    refine ev_fV mv_X1_hasPromise 2 1 [ev_i x0] [] dX1_takeIn_7 kw_1448 rfl (by decide) rfl (by decide) (Nat.le_of_ble_eq_true rfl) (sp_X1_hasPromise a x0) ?_ rfl
    by_cases c4 : (j_at (S.1 (a + 8)) 61 x0) = (-1)
    · rw [if_pos c4]
      replace hQ := hQ.1 c4
      refine ev_if_eq 15 dX1_takeIn_10 (by decide) (fun _ => ?_) (fun h9 => absurd (by decide : ((0 : Int32) = 0)) h9)
      refine ev_aload_n (ev_o 1 a) dX1_takeIn_15 rfl rfl ?_
      refine ev_iload_n (x0) dX1_takeIn_16 rfl ?_
      refine ev_iload_n (x2) dX1_takeIn_17 rfl ?_
      refine ev_iload_n (x1) dX1_takeIn_18 rfl ?_
      refine ev_fVn mv_X1_keepPromise 2 1 [ev_i x0, ev_i x2, ev_i x1] [] dX1_takeIn_19 kw_1453 rfl (by decide) rfl (by decide) (Nat.le_of_ble_eq_true rfl) (sp_X1_keepPromise a x0 x2 x1) ?_ rfl
      refine ev_sub hQ (fun S3 hS3 hQ => ?_)
      refine ev_E.goal (pc' := 22) (L' := [some (ev_o 1 a), some (ev_i x0), some (ev_i x1), some (ev_i x2)]) (K' := []) (S' := S3) ?_ rfl rfl rfl hS3
      refine ev_iconst (1) dX1_takeIn_22 rfl ?_
      exact ev_ireturn .boolean dX1_takeIn_23 rfl rfl hQ
    · rw [if_neg c4]
      replace hQ := hQ.2 c4
      refine ev_if_eq 15 dX1_takeIn_10 (by decide) (fun h9 => absurd h9 (by decide : ¬ ((1 : Int32) = 0))) (fun _ => ?_)
      refine ev_iconst (0) dX1_takeIn_13 rfl ?_
      exact ev_ireturn .boolean dX1_takeIn_14 rfl rfl hQ
set_option maxHeartbeats 4000000 in
set_option maxRecDepth 100000 in
theorem sg_X0_play_0 {g : ev_G} {S : ev_S} {Q : ev_O → ev_S → Prop} (a : Nat) (x0 : Int32) (hQ : ((j_at (S.1 (a + 1)) 64 (ev_rem x0 64)) = (-1) → (
    ∀ S1 : ev_S, S1 = (j_put S (a + 1) 64 (x0 / 64) (-1)) → (
      ∀ S2 : ev_S, S2 = (j_put S1 (a + 1) 64 (ev_rem x0 64) (j_at (S.1 (a + 1)) 64 (x0 / 64))) → (
        ∀ S3 : ev_S, S3 = (ev_up S2 a 6 ((S2.1 a 6) + 1)) → (
          ∀ S4 : ev_S, S4 = (j_put S3 (a + 3) 61 ((S2.1 a 6) + 1) x0) → (
            ∀ S5 : ev_S, S5 = (j_put S4 (a + 4) 61 (S4.1 a 6) 0) → (
              Q (.inl none) S5))))))) ∧
  (¬ ((j_at (S.1 (a + 1)) 64 (ev_rem x0 64)) = (-1)) → (
    ∀ S6 : ev_S, S6 = (j_put S (a + 2) 2 (j_at (S.1 (a + 1)) 64 (ev_rem x0 64)) ((j_at (S.1 (a + 2)) 2 (j_at (S.1 (a + 1)) 64 (ev_rem x0 64))) - 1)) → (
      ∀ S7 : ev_S, S7 = (ev_up S6 a 7 ((S6.1 a 7) + 1)) → (
        ∀ S8 : ev_S, S8 = (j_put S7 (a + 1) 64 (x0 / 64) (-1)) → (
          ∀ S9 : ev_S, S9 = (j_put S8 (a + 1) 64 (ev_rem x0 64) (j_at (S.1 (a + 1)) 64 (x0 / 64))) → (
            ∀ S10 : ev_S, S10 = (ev_up S9 a 6 ((S9.1 a 6) + 1)) → (
              ∀ S11 : ev_S, S11 = (j_put S10 (a + 3) 61 ((S9.1 a 6) + 1) x0) → (
                ∀ S12 : ev_S, S12 = (j_put S11 (a + 4) 61 (S11.1 a 6) 1) → (
                  Q (.inl none) S12)))))))))) : ev_Cv g m_X0_play 3 0 [ev_o 0 a, ev_i x0] S Q := by
  refine ev_enter (by decide) rfl rfl (Nat.le_of_ble_eq_true rfl) ?_
  show ev_E g m_X0_play 3 0 0 [some (ev_o 0 a), some (ev_i x0), none, none, none, none] [] S Q
  refine ev_iload_n (x0) dX0_play_0 rfl ?_
  refine ev_fN ms_X9_startOf 1 [ev_i x0] [] dX0_play_1 (List.mem_of_getElem? (i := 27) rfl) rfl (by decide) (Nat.le_of_ble_eq_true rfl) (sp_X9_startOf x0) ?_ rfl
  refine ev_istore_n dX0_play_4 (Nat.le_of_ble_eq_true rfl) (ev_hw rfl) ?_
  show ev_E g m_X0_play 3 0 5 [some (ev_o 0 a), some (ev_i x0), some (ev_i (x0 / 64)), none, none, none] [] S Q
  refine ev_iload_n (x0) dX0_play_5 rfl ?_
  refine ev_fN ms_X9_endOf 1 [ev_i x0] [] dX0_play_6 (List.mem_of_getElem? (i := 28) rfl) rfl (by decide) (Nat.le_of_ble_eq_true rfl) (sp_X9_endOf x0) ?_ rfl
  refine ev_istore_n dX0_play_9 (Nat.le_of_ble_eq_true rfl) (ev_hw rfl) ?_
  show ev_E g m_X0_play 3 0 10 [some (ev_o 0 a), some (ev_i x0), some (ev_i (x0 / 64)), some (ev_i (ev_rem x0 64)), none, none] [] S Q
  refine ev_aload_n (ev_o 0 a) dX0_play_10 rfl rfl ?_
  refine ev_iload_n ((x0 / 64)) dX0_play_11 rfl ?_
  refine ev_fV mv_X0_ownerOn 2 0 [ev_i (x0 / 64)] [] dX0_play_12 kw_1278 rfl (by decide) rfl (by decide) (Nat.le_of_ble_eq_true rfl) (sp_X0_ownerOn a (x0 / 64)) ?_ rfl
  refine ev_istore dX0_play_15 (Nat.le_of_ble_eq_true rfl) (ev_hw rfl) ?_
  show ev_E g m_X0_play 3 0 17 [some (ev_o 0 a), some (ev_i x0), some (ev_i (x0 / 64)), some (ev_i (ev_rem x0 64)), some (ev_i (j_at (S.1 (a + 1)) 64 (x0 / 64))), none] [] S Q
  refine ev_aload_n (ev_o 0 a) dX0_play_17 rfl rfl ?_
  refine ev_iload_n ((ev_rem x0 64)) dX0_play_18 rfl ?_
  refine ev_fV mv_X0_ownerOn 2 0 [ev_i (ev_rem x0 64)] [] dX0_play_19 kw_1278 rfl (by decide) rfl (by decide) (Nat.le_of_ble_eq_true rfl) (sp_X0_ownerOn a (ev_rem x0 64)) ?_ rfl
  refine ev_istore dX0_play_22 (Nat.le_of_ble_eq_true rfl) (ev_hw rfl) ?_
  show ev_E g m_X0_play 3 0 24 [some (ev_o 0 a), some (ev_i x0), some (ev_i (x0 / 64)), some (ev_i (ev_rem x0 64)), some (ev_i (j_at (S.1 (a + 1)) 64 (x0 / 64))), some (ev_i (j_at (S.1 (a + 1)) 64 (ev_rem x0 64)))] [] S Q
  refine ev_iload ((j_at (S.1 (a + 1)) 64 (ev_rem x0 64))) dX0_play_24 rfl ?_
  refine ev_iconst (-1) dX0_play_26 rfl ?_
  refine ev_icmp_eq 60 dX0_play_27 (by decide) (fun c1 => ?_) (fun c1 => ?_)
  · replace hQ := hQ.1 c1
    refine ev_aload_n (ev_o 0 a) dX0_play_60 rfl rfl ?_
    refine gf_0_0 dX0_play_61 kw_150 ?_
    refine ev_iload_n ((x0 / 64)) dX0_play_64 rfl ?_
    refine ev_iconst (-1) dX0_play_65 rfl ?_
    refine ev_fNn ms_X9_put 1 [ev_y 64 (a + 1), ev_i (x0 / 64), ev_i (-1)] [] dX0_play_66 (List.mem_of_getElem? (i := 12) rfl) rfl (by decide) (Nat.le_of_ble_eq_true rfl) (sp_X9_put 64 (a + 1) (x0 / 64) (-1)) ?_ rfl
    refine ev_sub hQ (fun S1 hS1 hQ => ?_)
    refine ev_E.goal (pc' := 69) (L' := [some (ev_o 0 a), some (ev_i x0), some (ev_i (x0 / 64)), some (ev_i (ev_rem x0 64)), some (ev_i (j_at (S.1 (a + 1)) 64 (x0 / 64))), some (ev_i (j_at (S.1 (a + 1)) 64 (ev_rem x0 64)))]) (K' := []) (S' := S1) ?_ rfl rfl rfl hS1
    refine ev_aload_n (ev_o 0 a) dX0_play_69 rfl rfl ?_
    refine gf_0_0 dX0_play_70 kw_150 ?_
    refine ev_iload_n ((ev_rem x0 64)) dX0_play_73 rfl ?_
    refine ev_iload ((j_at (S.1 (a + 1)) 64 (x0 / 64))) dX0_play_74 rfl ?_
    refine ev_fNn ms_X9_put 1 [ev_y 64 (a + 1), ev_i (ev_rem x0 64), ev_i (j_at (S.1 (a + 1)) 64 (x0 / 64))] [] dX0_play_76 (List.mem_of_getElem? (i := 12) rfl) rfl (by decide) (Nat.le_of_ble_eq_true rfl) (sp_X9_put 64 (a + 1) (ev_rem x0 64) (j_at (S.1 (a + 1)) 64 (x0 / 64))) ?_ rfl
    refine ev_sub hQ (fun S2 hS2 hQ => ?_)
    refine ev_E.goal (pc' := 79) (L' := [some (ev_o 0 a), some (ev_i x0), some (ev_i (x0 / 64)), some (ev_i (ev_rem x0 64)), some (ev_i (j_at (S.1 (a + 1)) 64 (x0 / 64))), some (ev_i (j_at (S.1 (a + 1)) 64 (ev_rem x0 64)))]) (K' := []) (S' := S2) ?_ rfl rfl rfl hS2
    refine ev_aload_n (ev_o 0 a) dX0_play_79 rfl rfl ?_
    refine ev_dup dX0_play_80 rfl ?_
    refine gf_0_6 dX0_play_81 kw_156 ?_
    refine ev_iconst (1) dX0_play_84 rfl ?_
    refine ev_iadd dX0_play_85 ?_
    refine pf_0_6 dX0_play_86 kw_156 ?_
    refine ev_sub hQ (fun S3 hS3 hQ => ?_)
    refine ev_E.goal (pc' := 89) (L' := [some (ev_o 0 a), some (ev_i x0), some (ev_i (x0 / 64)), some (ev_i (ev_rem x0 64)), some (ev_i (j_at (S.1 (a + 1)) 64 (x0 / 64))), some (ev_i (j_at (S.1 (a + 1)) 64 (ev_rem x0 64)))]) (K' := []) (S' := S3) ?_ rfl rfl rfl hS3
    refine ev_aload_n (ev_o 0 a) dX0_play_89 rfl rfl ?_
    refine gf_0_2 dX0_play_90 kw_152 ?_
    refine ev_aload_n (ev_o 0 a) dX0_play_93 rfl rfl ?_
    refine gf_0_6 dX0_play_94 kw_156 ?_
    refine ev_ke (j_rs hS3) ?_
    refine ev_iload_n (x0) dX0_play_97 rfl ?_
    refine ev_fNn ms_X9_put 1 [ev_y 61 (a + 3), ev_i ((S2.1 a 6) + 1), ev_i x0] [] dX0_play_98 (List.mem_of_getElem? (i := 12) rfl) rfl (by decide) (Nat.le_of_ble_eq_true rfl) (sp_X9_put 61 (a + 3) ((S2.1 a 6) + 1) x0) ?_ rfl
    refine ev_sub hQ (fun S4 hS4 hQ => ?_)
    refine ev_E.goal (pc' := 101) (L' := [some (ev_o 0 a), some (ev_i x0), some (ev_i (x0 / 64)), some (ev_i (ev_rem x0 64)), some (ev_i (j_at (S.1 (a + 1)) 64 (x0 / 64))), some (ev_i (j_at (S.1 (a + 1)) 64 (ev_rem x0 64)))]) (K' := []) (S' := S4) ?_ rfl rfl rfl hS4
    refine ev_aload_n (ev_o 0 a) dX0_play_101 rfl rfl ?_
    refine gf_0_3 dX0_play_102 kw_153 ?_
    refine ev_aload_n (ev_o 0 a) dX0_play_105 rfl rfl ?_
    refine gf_0_6 dX0_play_106 kw_156 ?_
    refine ev_iload ((j_at (S.1 (a + 1)) 64 (ev_rem x0 64))) dX0_play_109 rfl ?_
    refine ev_iconst (-1) dX0_play_111 rfl ?_
    refine ev_icmp_ne 119 dX0_play_112 (by decide) (fun h9 => absurd c1 h9) (fun _ => ?_)
    refine ev_iconst (0) dX0_play_115 rfl ?_
    refine ev_goto 120 dX0_play_116 (by decide) ?_
    refine ev_fNn ms_X9_put 1 [ev_y 61 (a + 4), ev_i (S4.1 a 6), ev_i 0] [] dX0_play_120 (List.mem_of_getElem? (i := 12) rfl) rfl (by decide) (Nat.le_of_ble_eq_true rfl) (sp_X9_put 61 (a + 4) (S4.1 a 6) 0) ?_ rfl
    refine ev_sub hQ (fun S5 hS5 hQ => ?_)
    refine ev_E.goal (pc' := 123) (L' := [some (ev_o 0 a), some (ev_i x0), some (ev_i (x0 / 64)), some (ev_i (ev_rem x0 64)), some (ev_i (j_at (S.1 (a + 1)) 64 (x0 / 64))), some (ev_i (j_at (S.1 (a + 1)) 64 (ev_rem x0 64)))]) (K' := []) (S' := S5) ?_ rfl rfl rfl hS5
    exact ev_return dX0_play_123 rfl hQ
  · replace hQ := hQ.2 c1
    refine ev_aload_n (ev_o 0 a) dX0_play_30 rfl rfl ?_
    refine gf_0_1 dX0_play_31 kw_151 ?_
    refine ev_iload ((j_at (S.1 (a + 1)) 64 (ev_rem x0 64))) dX0_play_34 rfl ?_
    refine ev_aload_n (ev_o 0 a) dX0_play_36 rfl rfl ?_
    refine gf_0_1 dX0_play_37 kw_151 ?_
    refine ev_iload ((j_at (S.1 (a + 1)) 64 (ev_rem x0 64))) dX0_play_40 rfl ?_
    refine ev_fN ms_X9_at 1 [ev_y 2 (a + 2), ev_i (j_at (S.1 (a + 1)) 64 (ev_rem x0 64))] [ev_i (j_at (S.1 (a + 1)) 64 (ev_rem x0 64)), ev_y 2 (a + 2)] dX0_play_42 (List.mem_of_getElem? (i := 11) rfl) rfl (by decide) (Nat.le_of_ble_eq_true rfl) (sp_X9_at 2 (a + 2) (j_at (S.1 (a + 1)) 64 (ev_rem x0 64))) ?_ rfl
    refine ev_iconst (1) dX0_play_45 rfl ?_
    refine ev_isub dX0_play_46 ?_
    refine ev_fNn ms_X9_put 1 [ev_y 2 (a + 2), ev_i (j_at (S.1 (a + 1)) 64 (ev_rem x0 64)), ev_i ((j_at (S.1 (a + 2)) 2 (j_at (S.1 (a + 1)) 64 (ev_rem x0 64))) - 1)] [] dX0_play_47 (List.mem_of_getElem? (i := 12) rfl) rfl (by decide) (Nat.le_of_ble_eq_true rfl) (sp_X9_put 2 (a + 2) (j_at (S.1 (a + 1)) 64 (ev_rem x0 64)) ((j_at (S.1 (a + 2)) 2 (j_at (S.1 (a + 1)) 64 (ev_rem x0 64))) - 1)) ?_ rfl
    refine ev_sub hQ (fun S6 hS6 hQ => ?_)
    refine ev_E.goal (pc' := 50) (L' := [some (ev_o 0 a), some (ev_i x0), some (ev_i (x0 / 64)), some (ev_i (ev_rem x0 64)), some (ev_i (j_at (S.1 (a + 1)) 64 (x0 / 64))), some (ev_i (j_at (S.1 (a + 1)) 64 (ev_rem x0 64)))]) (K' := []) (S' := S6) ?_ rfl rfl rfl hS6
    refine ev_aload_n (ev_o 0 a) dX0_play_50 rfl rfl ?_
    refine ev_dup dX0_play_51 rfl ?_
    refine gf_0_7 dX0_play_52 kw_157 ?_
    refine ev_iconst (1) dX0_play_55 rfl ?_
    refine ev_iadd dX0_play_56 ?_
    refine pf_0_7 dX0_play_57 kw_157 ?_
    refine ev_sub hQ (fun S7 hS7 hQ => ?_)
    refine ev_E.goal (pc' := 60) (L' := [some (ev_o 0 a), some (ev_i x0), some (ev_i (x0 / 64)), some (ev_i (ev_rem x0 64)), some (ev_i (j_at (S.1 (a + 1)) 64 (x0 / 64))), some (ev_i (j_at (S.1 (a + 1)) 64 (ev_rem x0 64)))]) (K' := []) (S' := S7) ?_ rfl rfl rfl hS7
    refine ev_aload_n (ev_o 0 a) dX0_play_60 rfl rfl ?_
    refine gf_0_0 dX0_play_61 kw_150 ?_
    refine ev_iload_n ((x0 / 64)) dX0_play_64 rfl ?_
    refine ev_iconst (-1) dX0_play_65 rfl ?_
    refine ev_fNn ms_X9_put 1 [ev_y 64 (a + 1), ev_i (x0 / 64), ev_i (-1)] [] dX0_play_66 (List.mem_of_getElem? (i := 12) rfl) rfl (by decide) (Nat.le_of_ble_eq_true rfl) (sp_X9_put 64 (a + 1) (x0 / 64) (-1)) ?_ rfl
    refine ev_sub hQ (fun S8 hS8 hQ => ?_)
    refine ev_E.goal (pc' := 69) (L' := [some (ev_o 0 a), some (ev_i x0), some (ev_i (x0 / 64)), some (ev_i (ev_rem x0 64)), some (ev_i (j_at (S.1 (a + 1)) 64 (x0 / 64))), some (ev_i (j_at (S.1 (a + 1)) 64 (ev_rem x0 64)))]) (K' := []) (S' := S8) ?_ rfl rfl rfl hS8
    refine ev_aload_n (ev_o 0 a) dX0_play_69 rfl rfl ?_
    refine gf_0_0 dX0_play_70 kw_150 ?_
    refine ev_iload_n ((ev_rem x0 64)) dX0_play_73 rfl ?_
    refine ev_iload ((j_at (S.1 (a + 1)) 64 (x0 / 64))) dX0_play_74 rfl ?_
    refine ev_fNn ms_X9_put 1 [ev_y 64 (a + 1), ev_i (ev_rem x0 64), ev_i (j_at (S.1 (a + 1)) 64 (x0 / 64))] [] dX0_play_76 (List.mem_of_getElem? (i := 12) rfl) rfl (by decide) (Nat.le_of_ble_eq_true rfl) (sp_X9_put 64 (a + 1) (ev_rem x0 64) (j_at (S.1 (a + 1)) 64 (x0 / 64))) ?_ rfl
    refine ev_sub hQ (fun S9 hS9 hQ => ?_)
    refine ev_E.goal (pc' := 79) (L' := [some (ev_o 0 a), some (ev_i x0), some (ev_i (x0 / 64)), some (ev_i (ev_rem x0 64)), some (ev_i (j_at (S.1 (a + 1)) 64 (x0 / 64))), some (ev_i (j_at (S.1 (a + 1)) 64 (ev_rem x0 64)))]) (K' := []) (S' := S9) ?_ rfl rfl rfl hS9
    refine ev_aload_n (ev_o 0 a) dX0_play_79 rfl rfl ?_
    refine ev_dup dX0_play_80 rfl ?_
    refine gf_0_6 dX0_play_81 kw_156 ?_
    refine ev_iconst (1) dX0_play_84 rfl ?_
    refine ev_iadd dX0_play_85 ?_
    refine pf_0_6 dX0_play_86 kw_156 ?_
    refine ev_sub hQ (fun S10 hS10 hQ => ?_)
    refine ev_E.goal (pc' := 89) (L' := [some (ev_o 0 a), some (ev_i x0), some (ev_i (x0 / 64)), some (ev_i (ev_rem x0 64)), some (ev_i (j_at (S.1 (a + 1)) 64 (x0 / 64))), some (ev_i (j_at (S.1 (a + 1)) 64 (ev_rem x0 64)))]) (K' := []) (S' := S10) ?_ rfl rfl rfl hS10
    refine ev_aload_n (ev_o 0 a) dX0_play_89 rfl rfl ?_
    refine gf_0_2 dX0_play_90 kw_152 ?_
    refine ev_aload_n (ev_o 0 a) dX0_play_93 rfl rfl ?_
    refine gf_0_6 dX0_play_94 kw_156 ?_
    refine ev_ke (j_rs hS10) ?_
    refine ev_iload_n (x0) dX0_play_97 rfl ?_
    refine ev_fNn ms_X9_put 1 [ev_y 61 (a + 3), ev_i ((S9.1 a 6) + 1), ev_i x0] [] dX0_play_98 (List.mem_of_getElem? (i := 12) rfl) rfl (by decide) (Nat.le_of_ble_eq_true rfl) (sp_X9_put 61 (a + 3) ((S9.1 a 6) + 1) x0) ?_ rfl
    refine ev_sub hQ (fun S11 hS11 hQ => ?_)
    refine ev_E.goal (pc' := 101) (L' := [some (ev_o 0 a), some (ev_i x0), some (ev_i (x0 / 64)), some (ev_i (ev_rem x0 64)), some (ev_i (j_at (S.1 (a + 1)) 64 (x0 / 64))), some (ev_i (j_at (S.1 (a + 1)) 64 (ev_rem x0 64)))]) (K' := []) (S' := S11) ?_ rfl rfl rfl hS11
    refine ev_aload_n (ev_o 0 a) dX0_play_101 rfl rfl ?_
    refine gf_0_3 dX0_play_102 kw_153 ?_
    refine ev_aload_n (ev_o 0 a) dX0_play_105 rfl rfl ?_
    refine gf_0_6 dX0_play_106 kw_156 ?_
    refine ev_iload ((j_at (S.1 (a + 1)) 64 (ev_rem x0 64))) dX0_play_109 rfl ?_
    refine ev_iconst (-1) dX0_play_111 rfl ?_
    refine ev_icmp_ne 119 dX0_play_112 (by decide) (fun _ => ?_) (fun h9 => absurd h9 c1)
    refine ev_iconst (1) dX0_play_119 rfl ?_
    refine ev_fNn ms_X9_put 1 [ev_y 61 (a + 4), ev_i (S11.1 a 6), ev_i 1] [] dX0_play_120 (List.mem_of_getElem? (i := 12) rfl) rfl (by decide) (Nat.le_of_ble_eq_true rfl) (sp_X9_put 61 (a + 4) (S11.1 a 6) 1) ?_ rfl
    refine ev_sub hQ (fun S12 hS12 hQ => ?_)
    refine ev_E.goal (pc' := 123) (L' := [some (ev_o 0 a), some (ev_i x0), some (ev_i (x0 / 64)), some (ev_i (ev_rem x0 64)), some (ev_i (j_at (S.1 (a + 1)) 64 (x0 / 64))), some (ev_i (j_at (S.1 (a + 1)) 64 (ev_rem x0 64)))]) (K' := []) (S' := S12) ?_ rfl rfl rfl hS12
    exact ev_return dX0_play_123 rfl hQ
set_option maxHeartbeats 4000000 in
set_option maxRecDepth 100000 in
theorem sg_X1_noteWait_0 {g : ev_G} {S : ev_S} {Q : ev_O → ev_S → Prop} (a : Nat) (x0 : Int32) (hQ : ((S.1 a 7) = (-1) → (
    Q (.inl none) S)) ∧
  (¬ ((S.1 a 7) = (-1)) → (
    ∀ S1 : ev_S, S1 = (ev_up S a 8 ((S.1 a 8) + 1)) → (
      ∀ S2 : ev_S, S2 = (ev_up S1 a 9 ((S.1 a 9) + (x0 - (S.1 a 7)))) → (
        ∀ S3 : ev_S, S3 = (ev_up S2 a 10 (ev_max (S.1 a 10) (x0 - (S.1 a 7)))) → (
          Q (.inl none) S3)))))) : ev_Cv g m_X1_noteWait 1 0 [ev_o 1 a, ev_i x0] S Q := by
  refine ev_enter (by decide) rfl rfl (Nat.le_of_ble_eq_true rfl) ?_
  show ev_E g m_X1_noteWait 1 0 0 [some (ev_o 1 a), some (ev_i x0)] [] S Q
  refine ev_aload_n (ev_o 1 a) dX1_noteWait_0 rfl rfl ?_
  refine gf_1_7 dX1_noteWait_1 kw_185 ?_
  refine ev_iconst (-1) dX1_noteWait_4 rfl ?_
  refine ev_icmp_eq 50 dX1_noteWait_5 (by decide) (fun c1 => ?_) (fun c1 => ?_)
  · replace hQ := hQ.1 c1
    exact ev_return dX1_noteWait_50 rfl hQ
  · replace hQ := hQ.2 c1
    refine ev_aload_n (ev_o 1 a) dX1_noteWait_8 rfl rfl ?_
    refine ev_dup dX1_noteWait_9 rfl ?_
    refine gf_1_8 dX1_noteWait_10 kw_186 ?_
    refine ev_iconst (1) dX1_noteWait_13 rfl ?_
    refine ev_iadd dX1_noteWait_14 ?_
    refine pf_1_8 dX1_noteWait_15 kw_186 ?_
    refine ev_sub hQ (fun S1 hS1 hQ => ?_)
    refine ev_E.goal (pc' := 18) (L' := [some (ev_o 1 a), some (ev_i x0)]) (K' := []) (S' := S1) ?_ rfl rfl rfl hS1
    refine ev_aload_n (ev_o 1 a) dX1_noteWait_18 rfl rfl ?_
    refine ev_dup dX1_noteWait_19 rfl ?_
    refine gf_1_9 dX1_noteWait_20 kw_187 ?_
    refine ev_ke (j_rk hS1 (Or.inr (by decide))) ?_
    refine ev_iload_n (x0) dX1_noteWait_23 rfl ?_
    refine ev_aload_n (ev_o 1 a) dX1_noteWait_24 rfl rfl ?_
    refine gf_1_7 dX1_noteWait_25 kw_185 ?_
    refine ev_ke (j_rk hS1 (Or.inr (by decide))) ?_
    refine ev_isub dX1_noteWait_28 ?_
    refine ev_iadd dX1_noteWait_29 ?_
    refine pf_1_9 dX1_noteWait_30 kw_187 ?_
    refine ev_sub hQ (fun S2 hS2 hQ => ?_)
    refine ev_E.goal (pc' := 33) (L' := [some (ev_o 1 a), some (ev_i x0)]) (K' := []) (S' := S2) ?_ rfl rfl rfl hS2
    refine ev_aload_n (ev_o 1 a) dX1_noteWait_33 rfl rfl ?_
    refine ev_aload_n (ev_o 1 a) dX1_noteWait_34 rfl rfl ?_
    refine gf_1_10 dX1_noteWait_35 kw_188 ?_
    refine ev_ke ((j_rk hS2 (Or.inr (by decide))).trans (j_rk hS1 (Or.inr (by decide)))) ?_
    refine ev_iload_n (x0) dX1_noteWait_38 rfl ?_
    refine ev_aload_n (ev_o 1 a) dX1_noteWait_39 rfl rfl ?_
    refine gf_1_7 dX1_noteWait_40 kw_185 ?_
    refine ev_ke ((j_rk hS2 (Or.inr (by decide))).trans (j_rk hS1 (Or.inr (by decide)))) ?_
    refine ev_isub dX1_noteWait_43 ?_
    refine ev_mathMax dX1_noteWait_44 kw_1474 kw_1389 kw_31 kw_1390 (Nat.le_of_ble_eq_true rfl) ?_
    refine pf_1_10 dX1_noteWait_47 kw_188 ?_
    refine ev_sub hQ (fun S3 hS3 hQ => ?_)
    refine ev_E.goal (pc' := 50) (L' := [some (ev_o 1 a), some (ev_i x0)]) (K' := []) (S' := S3) ?_ rfl rfl rfl hS3
    exact ev_return dX1_noteWait_50 rfl hQ
