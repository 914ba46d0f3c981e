set_option maxHeartbeats 4000000 in
set_option maxRecDepth 100000 in
theorem sg_X9_isTurn_0 {g : ev_G} {S : ev_S} {Q : ev_O → ev_S → Prop} (a : Nat) (x0 : Int32) (hQ : ((t_X9_isPlayer x0) = true → (
    ((t_X1_mayPlay S (a_X2_deskOf (a + 11) x0)) = true → (
      Q (.inl (some (ev_i 1))) S)) ∧
    (¬ ((t_X1_mayPlay S (a_X2_deskOf (a + 11) x0)) = true) → (
      Q (.inl (some (ev_i 0))) S)))) ∧
  (¬ ((t_X9_isPlayer x0) = true) → (
    Q (.inr 0) S))) : ev_Cv g m_X9_isTurn 5 1 [ev_o 9 a, ev_i x0] S Q := by
  refine ev_enter (by decide) rfl rfl (Nat.le_of_ble_eq_true rfl) ?_
  show ev_E g m_X9_isTurn 5 1 0 [some (ev_o 9 a), some (ev_i x0)] [] S Q
  refine ev_iload_n (x0) dX9_isTurn_0 rfl ?_
  refine ev_fS ms_X9_isPlayer 1 [ev_i x0] [] dX9_isTurn_1 kw_1341 rfl (by decide) (Nat.le_of_ble_eq_true rfl) (sp_X9_isPlayer x0) ?_ rfl
  by_cases c1 : (t_X9_isPlayer x0) = true
  · rw [if_pos c1]
    replace hQ := hQ.1 c1
    refine ev_cS ms_X9_require 1 1 [ev_i 1] [] dX9_isTurn_4 kw_1343 rfl (by decide) (by decide) (Nat.le_of_ble_eq_true rfl) (Q' := fun o z => ev_After g m_X9_isTurn 5 (1 - 1) 4 [some (ev_o 9 a), some (ev_i x0)] [] z Q o) (sg_X9_require_0 1 ?_) (fun o z h => h) rfl
    refine j_neg (by decide : ¬ ((1 : Int32) = 0)) ?_
    show ev_E g m_X9_isTurn 5 0 7 [some (ev_o 9 a), some (ev_i x0)] [] S Q
    refine ev_aload_n (ev_o 9 a) dX9_isTurn_7 rfl rfl ?_
    refine gf_9_3 dX9_isTurn_8 kw_690 ?_
    refine ev_iload_n (x0) dX9_isTurn_11 rfl ?_
    refine ev_fV mv_X2_deskOf 1 2 [ev_i x0] [] dX9_isTurn_12 kw_1384 rfl (by decide) rfl (by decide) (Nat.le_of_ble_eq_true rfl) (sp_X2_deskOf (a + 11) x0) ?_ rfl
    refine ev_fV mv_X1_mayPlay 4 1 [] [] dX9_isTurn_15 kw_1385 rfl (by decide) rfl (by decide) (Nat.le_of_ble_eq_true rfl) (sp_X1_mayPlay (a_X2_deskOf (a + 11) x0)) ?_ rfl
    by_cases c2 : (t_X1_mayPlay S (a_X2_deskOf (a + 11) x0)) = true
    · rw [if_pos c2]
      replace hQ := hQ.1 c2
      exact ev_ireturn .boolean dX9_isTurn_18 rfl rfl hQ
    · rw [if_neg c2]
      replace hQ := hQ.2 c2
      exact ev_ireturn .boolean dX9_isTurn_18 rfl rfl hQ
  · rw [if_neg c1]
    replace hQ := hQ.2 c1
    refine ev_cS ms_X9_require 1 1 [ev_i 0] [] dX9_isTurn_4 kw_1343 rfl (by decide) (by decide) (Nat.le_of_ble_eq_true rfl) (Q' := fun o z => ev_After g m_X9_isTurn 5 (1 - 1) 4 [some (ev_o 9 a), some (ev_i x0)] [] z Q o) (sg_X9_require_0 0 ?_) (fun o z h => h) rfl
    refine j_pos (by decide : ((0 : Int32) = 0)) ?_
    exact ev_T_out (by decide) rfl hQ
set_option maxHeartbeats 4000000 in
set_option maxRecDepth 100000 in
theorem sg_X9_isOver_0 {g : ev_G} {S : ev_S} {Q : ev_O → ev_S → Prop} (a : Nat) (x0 : Int32) (hQ : ((t_X9_isPlayer x0) = true → (
    ((t_X0_isFinished S ((a_X2_deskOf (a + 11) x0) + 1)) = true → (
      Q (.inl (some (ev_i 1))) S)) ∧
    (¬ ((t_X0_isFinished S ((a_X2_deskOf (a + 11) x0) + 1)) = true) → (
      Q (.inl (some (ev_i 0))) S)))) ∧
  (¬ ((t_X9_isPlayer x0) = true) → (
    Q (.inr 0) S))) : ev_Cv g m_X9_isOver 4 1 [ev_o 9 a, ev_i x0] S Q := by
  refine ev_enter (by decide) rfl rfl (Nat.le_of_ble_eq_true rfl) ?_
  show ev_E g m_X9_isOver 4 1 0 [some (ev_o 9 a), some (ev_i x0)] [] S Q
  refine ev_iload_n (x0) dX9_isOver_0 rfl ?_
  refine ev_fS ms_X9_isPlayer 1 [ev_i x0] [] dX9_isOver_1 kw_1341 rfl (by decide) (Nat.le_of_ble_eq_true rfl) (sp_X9_isPlayer x0) ?_ rfl
  by_cases c1 : (t_X9_isPlayer x0) = true
  · rw [if_pos c1]
    replace hQ := hQ.1 c1
    refine ev_cS ms_X9_require 1 1 [ev_i 1] [] dX9_isOver_4 kw_1343 rfl (by decide) (by decide) (Nat.le_of_ble_eq_true rfl) (Q' := fun o z => ev_After g m_X9_isOver 4 (1 - 1) 4 [some (ev_o 9 a), some (ev_i x0)] [] z Q o) (sg_X9_require_0 1 ?_) (fun o z h => h) rfl
    refine j_neg (by decide : ¬ ((1 : Int32) = 0)) ?_
    show ev_E g m_X9_isOver 4 0 7 [some (ev_o 9 a), some (ev_i x0)] [] S Q
    refine ev_aload_n (ev_o 9 a) dX9_isOver_7 rfl rfl ?_
    refine gf_9_3 dX9_isOver_8 kw_690 ?_
    refine ev_iload_n (x0) dX9_isOver_11 rfl ?_
    refine ev_fV mv_X2_boardOf 2 2 [ev_i x0] [] dX9_isOver_12 kw_577 rfl (by decide) rfl (by decide) (Nat.le_of_ble_eq_true rfl) (sp_X2_boardOf (a + 11) x0) ?_ rfl
    refine ev_fV mv_X0_isFinished 3 0 [] [] dX9_isOver_15 kw_1393 rfl (by decide) rfl (by decide) (Nat.le_of_ble_eq_true rfl) (sp_X0_isFinished ((a_X2_deskOf (a + 11) x0) + 1)) ?_ rfl
    by_cases c2 : (t_X0_isFinished S ((a_X2_deskOf (a + 11) x0) + 1)) = true
    · rw [if_pos c2]
      replace hQ := hQ.1 c2
      exact ev_ireturn .boolean dX9_isOver_18 rfl rfl hQ
    · rw [if_neg c2]
      replace hQ := hQ.2 c2
      exact ev_ireturn .boolean dX9_isOver_18 rfl rfl hQ
  · rw [if_neg c1]
    replace hQ := hQ.2 c1
    refine ev_cS ms_X9_require 1 1 [ev_i 0] [] dX9_isOver_4 kw_1343 rfl (by decide) (by decide) (Nat.le_of_ble_eq_true rfl) (Q' := fun o z => ev_After g m_X9_isOver 4 (1 - 1) 4 [some (ev_o 9 a), some (ev_i x0)] [] z Q o) (sg_X9_require_0 0 ?_) (fun o z h => h) rfl
    refine j_pos (by decide : ((0 : Int32) = 0)) ?_
    exact ev_T_out (by decide) rfl hQ
set_option maxHeartbeats 4000000 in
set_option maxRecDepth 100000 in
theorem sg_X9_winner_0 {g : ev_G} {S : ev_S} {Q : ev_O → ev_S → Prop} (a : Nat) (x0 : Int32) (hQ : ((t_X9_isPlayer x0) = true → (
    ((t_X0_isFinished S ((a_X2_deskOf (a + 11) x0) + 1)) = true → (
      (((j_at (S.1 ((a_X2_deskOf (a + 11) x0) + 3)) 2 0) - (j_at (S.1 ((a_X2_deskOf (a + 11) x0) + 3)) 2 1)) = 0 → (
        Q (.inl (some (ev_i (-1)))) S)) ∧
      (¬ (((j_at (S.1 ((a_X2_deskOf (a + 11) x0) + 3)) 2 0) - (j_at (S.1 ((a_X2_deskOf (a + 11) x0) + 3)) 2 1)) = 0) → (
        (((j_at (S.1 ((a_X2_deskOf (a + 11) x0) + 3)) 2 0) - (j_at (S.1 ((a_X2_deskOf (a + 11) x0) + 3)) 2 1)) ≤ 0 → (
          Q (.inl (some (ev_i 1))) S)) ∧
        (¬ (((j_at (S.1 ((a_X2_deskOf (a + 11) x0) + 3)) 2 0) - (j_at (S.1 ((a_X2_deskOf (a + 11) x0) + 3)) 2 1)) ≤ 0) → (
          Q (.inl (some (ev_i 0))) S)))))) ∧
    (¬ ((t_X0_isFinished S ((a_X2_deskOf (a + 11) x0) + 1)) = true) → (
      Q (.inl (some (ev_i (-1)))) S)))) ∧
  (¬ ((t_X9_isPlayer x0) = true) → (
    Q (.inr 0) S))) : ev_Cv g m_X9_winner 4 1 [ev_o 9 a, ev_i x0] S Q := by
  refine ev_enter (by decide) rfl rfl (Nat.le_of_ble_eq_true rfl) ?_
  show ev_E g m_X9_winner 4 1 0 [some (ev_o 9 a), some (ev_i x0), none, none] [] S Q
  refine ev_iload_n (x0) dX9_winner_0 rfl ?_
  refine ev_fS ms_X9_isPlayer 1 [ev_i x0] [] dX9_winner_1 kw_1341 rfl (by decide) (Nat.le_of_ble_eq_true rfl) (sp_X9_isPlayer x0) ?_ rfl
  by_cases c1 : (t_X9_isPlayer x0) = true
  · rw [if_pos c1]
    replace hQ := hQ.1 c1
    refine ev_cS ms_X9_require 1 1 [ev_i 1] [] dX9_winner_4 kw_1343 rfl (by decide) (by decide) (Nat.le_of_ble_eq_true rfl) (Q' := fun o z => ev_After g m_X9_winner 4 (1 - 1) 4 [some (ev_o 9 a), some (ev_i x0), none, none] [] z Q o) (sg_X9_require_0 1 ?_) (fun o z h => h) rfl
    refine j_neg (by decide : ¬ ((1 : Int32) = 0)) ?_
    show ev_E g m_X9_winner 4 0 7 [some (ev_o 9 a), some (ev_i x0), none, none] [] S Q
    refine ev_aload_n (ev_o 9 a) dX9_winner_7 rfl rfl ?_
    refine gf_9_3 dX9_winner_8 kw_690 ?_
    refine ev_iload_n (x0) dX9_winner_11 rfl ?_
    refine ev_fV mv_X2_boardOf 2 2 [ev_i x0] [] dX9_winner_12 kw_577 rfl (by decide) rfl (by decide) (Nat.le_of_ble_eq_true rfl) (sp_X2_boardOf (a + 11) x0) ?_ rfl
    refine ev_astore_n dX9_winner_15 rfl (Nat.le_of_ble_eq_true rfl) (ev_hw rfl) ?_
    show ev_E g m_X9_winner 4 0 16 [some (ev_o 9 a), some (ev_i x0), some (ev_o 0 ((a_X2_deskOf (a + 11) x0) + 1)), none] [] S Q
    refine ev_aload_n (ev_o 0 ((a_X2_deskOf (a + 11) x0) + 1)) dX9_winner_16 rfl rfl ?_
    refine ev_iconst (0) dX9_winner_17 rfl ?_
    refine ev_fV mv_X0_bishopsOf 2 0 [ev_i 0] [] dX9_winner_18 kw_589 rfl (by decide) rfl (by decide) (Nat.le_of_ble_eq_true rfl) (sp_X0_bishopsOf ((a_X2_deskOf (a + 11) x0) + 1) 0) ?_ rfl
    refine ev_aload_n (ev_o 0 ((a_X2_deskOf (a + 11) x0) + 1)) dX9_winner_21 rfl rfl ?_
    refine ev_iconst (1) dX9_winner_22 rfl ?_
    refine ev_fV mv_X0_bishopsOf 2 0 [ev_i 1] [ev_i (j_at (S.1 ((a_X2_deskOf (a + 11) x0) + 3)) 2 0)] dX9_winner_23 kw_589 rfl (by decide) rfl (by decide) (Nat.le_of_ble_eq_true rfl) (sp_X0_bishopsOf ((a_X2_deskOf (a + 11) x0) + 1) 1) ?_ rfl
    refine ev_isub dX9_winner_26 ?_
    refine ev_istore_n dX9_winner_27 (Nat.le_of_ble_eq_true rfl) (ev_hw rfl) ?_
    show ev_E g m_X9_winner 4 0 28 [some (ev_o 9 a), some (ev_i x0), some (ev_o 0 ((a_X2_deskOf (a + 11) x0) + 1)), some (ev_i ((j_at (S.1 ((a_X2_deskOf (a + 11) x0) + 3)) 2 0) - (j_at (S.1 ((a_X2_deskOf (a + 11) x0) + 3)) 2 1)))] [] S Q
    refine ev_aload_n (ev_o 0 ((a_X2_deskOf (a + 11) x0) + 1)) dX9_winner_28 rfl rfl ?_
    refine ev_fV mv_X0_isFinished 3 0 [] [] dX9_winner_29 kw_1393 rfl (by decide) rfl (by decide) (Nat.le_of_ble_eq_true rfl) (sp_X0_isFinished ((a_X2_deskOf (a + 11) x0) + 1)) ?_ rfl
    by_cases c2 : (t_X0_isFinished S ((a_X2_deskOf (a + 11) x0) + 1)) = true
    · rw [if_pos c2]
      replace hQ := hQ.1 c2
      refine ev_if_eq 39 dX9_winner_32 (by decide) (fun h9 => absurd h9 (by decide : ¬ ((1 : Int32) = 0))) (fun _ => ?_)
      refine ev_iload_n (((j_at (S.1 ((a_X2_deskOf (a + 11) x0) + 3)) 2 0) - (j_at (S.1 ((a_X2_deskOf (a + 11) x0) + 3)) 2 1))) dX9_winner_35 rfl ?_
      refine ev_if_ne 41 dX9_winner_36 (by decide) (fun c3 => ?_) (fun c3 => ?_)
      · replace hQ := hQ.2 c3
        refine ev_iload_n (((j_at (S.1 ((a_X2_deskOf (a + 11) x0) + 3)) 2 0) - (j_at (S.1 ((a_X2_deskOf (a + 11) x0) + 3)) 2 1))) dX9_winner_41 rfl ?_
        refine ev_if_le 49 dX9_winner_42 (by decide) (fun c4 => ?_) (fun c4 => ?_)
        · replace hQ := hQ.1 c4
          refine ev_iconst (1) dX9_winner_49 rfl ?_
          exact ev_ireturn .int dX9_winner_50 rfl rfl hQ
        · replace hQ := hQ.2 c4
          refine ev_iconst (0) dX9_winner_45 rfl ?_
          refine ev_goto 50 dX9_winner_46 (by decide) ?_
          exact ev_ireturn .int dX9_winner_50 rfl rfl hQ
      · replace hQ := hQ.1 c3
        refine ev_iconst (-1) dX9_winner_39 rfl ?_
        exact ev_ireturn .int dX9_winner_40 rfl rfl hQ
    · rw [if_neg c2]
      replace hQ := hQ.2 c2
      refine ev_if_eq 39 dX9_winner_32 (by decide) (fun _ => ?_) (fun h9 => absurd (by decide : ((0 : Int32) = 0)) h9)
      refine ev_iconst (-1) dX9_winner_39 rfl ?_
      exact ev_ireturn .int dX9_winner_40 rfl rfl hQ
  · rw [if_neg c1]
    replace hQ := hQ.2 c1
    refine ev_cS ms_X9_require 1 1 [ev_i 0] [] dX9_winner_4 kw_1343 rfl (by decide) (by decide) (Nat.le_of_ble_eq_true rfl) (Q' := fun o z => ev_After g m_X9_winner 4 (1 - 1) 4 [some (ev_o 9 a), some (ev_i x0), none, none] [] z Q o) (sg_X9_require_0 0 ?_) (fun o z h => h) rfl
    refine j_pos (by decide : ((0 : Int32) = 0)) ?_
    exact ev_T_out (by decide) rfl hQ
set_option maxHeartbeats 4000000 in
set_option maxRecDepth 100000 in
theorem sg_X9_canMove_0 {g : ev_G} {S : ev_S} {Q : ev_O → ev_S → Prop} (a : Nat) (x0 : Int32) (x1 : Int32) (x2 : Int32) (hQ : ((t_X9_isPlayer x0) = true → (
    ((t_X2_isSquare S (a + 11) x1) = true → (
      ((t_X2_isSquare S (a + 11) x2) = true → (
        ev_Cv g m_X0_canReach 3 0 [ev_o 0 ((a_X2_deskOf (a + 11) x0) + 1), ev_i x1, ev_i x2] S (fun o S1 => ∃ v1_ : Bool, o = .inl (some (ev_i (if v1_ = true then 1 else 0))) ∧ (
          (v1_ = true → (
            Q (.inl (some (ev_i 1))) S1)) ∧
          (¬ (v1_ = true) → (
            Q (.inl (some (ev_i 0))) S1)))))) ∧
      (¬ ((t_X2_isSquare S (a + 11) x2) = true) → (
        Q (.inr 0) S)))) ∧
    (¬ ((t_X2_isSquare S (a + 11) x1) = true) → (
      Q (.inr 0) S)))) ∧
  (¬ ((t_X9_isPlayer x0) = true) → (
    Q (.inr 0) S))) : ev_Cv g m_X9_canMove 4 1 [ev_o 9 a, ev_i x0, ev_i x1, ev_i x2] S Q := by
  refine ev_enter (by decide) rfl rfl (Nat.le_of_ble_eq_true rfl) ?_
  show ev_E g m_X9_canMove 4 1 0 [some (ev_o 9 a), some (ev_i x0), some (ev_i x1), some (ev_i x2)] [] S Q
  refine ev_iload_n (x0) dX9_canMove_0 rfl ?_
  refine ev_fS ms_X9_isPlayer 1 [ev_i x0] [] dX9_canMove_1 kw_1341 rfl (by decide) (Nat.le_of_ble_eq_true rfl) (sp_X9_isPlayer x0) ?_ rfl
  by_cases c1 : (t_X9_isPlayer x0) = true
  · rw [if_pos c1]
    replace hQ := hQ.1 c1
    refine ev_if_eq 33 dX9_canMove_4 (by decide) (fun h9 => absurd h9 (by decide : ¬ ((1 : Int32) = 0))) (fun _ => ?_)
    refine ev_aload_n (ev_o 9 a) dX9_canMove_7 rfl rfl ?_
    refine gf_9_3 dX9_canMove_8 kw_690 ?_
    refine ev_iload_n (x1) dX9_canMove_11 rfl ?_
    refine ev_fV mv_X2_isSquare 3 2 [ev_i x1] [] dX9_canMove_12 kw_1342 rfl (by decide) rfl (by decide) (Nat.le_of_ble_eq_true rfl) (sp_X2_isSquare (a + 11) x1) ?_ rfl
    by_cases c2 : (t_X2_isSquare S (a + 11) x1) = true
    · rw [if_pos c2]
      replace hQ := hQ.1 c2
      refine ev_if_eq 33 dX9_canMove_15 (by decide) (fun h9 => absurd h9 (by decide : ¬ ((1 : Int32) = 0))) (fun _ => ?_)
      refine ev_aload_n (ev_o 9 a) dX9_canMove_18 rfl rfl ?_
      refine gf_9_3 dX9_canMove_19 kw_690 ?_
      refine ev_iload_n (x2) dX9_canMove_22 rfl ?_
      refine ev_fV mv_X2_isSquare 3 2 [ev_i x2] [] dX9_canMove_23 kw_1342 rfl (by decide) rfl (by decide) (Nat.le_of_ble_eq_true rfl) (sp_X2_isSquare (a + 11) x2) ?_ rfl
      by_cases c3 : (t_X2_isSquare S (a + 11) x2) = true
      · rw [if_pos c3]
        replace hQ := hQ.1 c3
        refine ev_if_eq 33 dX9_canMove_26 (by decide) (fun h9 => absurd h9 (by decide : ¬ ((1 : Int32) = 0))) (fun _ => ?_)
        refine ev_iconst (1) dX9_canMove_29 rfl ?_
        refine ev_goto 34 dX9_canMove_30 (by decide) ?_
        refine ev_cS ms_X9_require 1 1 [ev_i 1] [] dX9_canMove_34 kw_1343 rfl (by decide) (by decide) (Nat.le_of_ble_eq_true rfl) (Q' := fun o z => ev_After g m_X9_canMove 4 (1 - 1) 34 [some (ev_o 9 a), some (ev_i x0), some (ev_i x1), some (ev_i x2)] [] z Q o) (sg_X9_require_0 1 ?_) (fun o z h => h) rfl
        refine j_neg (by decide : ¬ ((1 : Int32) = 0)) ?_
        show ev_E g m_X9_canMove 4 0 37 [some (ev_o 9 a), some (ev_i x0), some (ev_i x1), some (ev_i x2)] [] S Q
        refine ev_aload_n (ev_o 9 a) dX9_canMove_37 rfl rfl ?_
        refine gf_9_3 dX9_canMove_38 kw_690 ?_
        refine ev_iload_n (x0) dX9_canMove_41 rfl ?_
        refine ev_fV mv_X2_boardOf 2 2 [ev_i x0] [] dX9_canMove_42 kw_577 rfl (by decide) rfl (by decide) (Nat.le_of_ble_eq_true rfl) (sp_X2_boardOf (a + 11) x0) ?_ rfl
        refine ev_iload_n (x1) dX9_canMove_45 rfl ?_
        refine ev_iload_n (x2) dX9_canMove_46 rfl ?_
        refine ev_cV mv_X0_canReach 3 0 0 [ev_i x1, ev_i x2] [] dX9_canMove_47 kw_1408 rfl (by decide) rfl (by decide) (by decide) (Nat.le_of_ble_eq_true rfl) hQ ?_ rfl
        rintro o S1 ⟨v1_, rfl, hQ⟩
        show ev_E g m_X9_canMove 4 0 50 [some (ev_o 9 a), some (ev_i x0), some (ev_i x1), some (ev_i x2)] [ev_i (if v1_ = true then 1 else 0)] S1 Q
        by_cases c4 : v1_ = true
        · rw [if_pos c4]
          replace hQ := hQ.1 c4
          exact ev_ireturn .boolean dX9_canMove_50 rfl rfl hQ
        · rw [if_neg c4]
          replace hQ := hQ.2 c4
          exact ev_ireturn .boolean dX9_canMove_50 rfl rfl hQ
      · rw [if_neg c3]
        replace hQ := hQ.2 c3
        refine ev_if_eq 33 dX9_canMove_26 (by decide) (fun _ => ?_) (fun h9 => absurd (by decide : ((0 : Int32) = 0)) h9)
        refine ev_iconst (0) dX9_canMove_33 rfl ?_
        refine ev_cS ms_X9_require 1 1 [ev_i 0] [] dX9_canMove_34 kw_1343 rfl (by decide) (by decide) (Nat.le_of_ble_eq_true rfl) (Q' := fun o z => ev_After g m_X9_canMove 4 (1 - 1) 34 [some (ev_o 9 a), some (ev_i x0), some (ev_i x1), some (ev_i x2)] [] z Q o) (sg_X9_require_0 0 ?_) (fun o z h => h) rfl
        refine j_pos (by decide : ((0 : Int32) = 0)) ?_
        exact ev_T_out (by decide) rfl hQ
    · rw [if_neg c2]
      replace hQ := hQ.2 c2
      refine ev_if_eq 33 dX9_canMove_15 (by decide) (fun _ => ?_) (fun h9 => absurd (by decide : ((0 : Int32) = 0)) h9)
      refine ev_iconst (0) dX9_canMove_33 rfl ?_
      refine ev_cS ms_X9_require 1 1 [ev_i 0] [] dX9_canMove_34 kw_1343 rfl (by decide) (by decide) (Nat.le_of_ble_eq_true rfl) (Q' := fun o z => ev_After g m_X9_canMove 4 (1 - 1) 34 [some (ev_o 9 a), some (ev_i x0), some (ev_i x1), some (ev_i x2)] [] z Q o) (sg_X9_require_0 0 ?_) (fun o z h => h) rfl
      refine j_pos (by decide : ((0 : Int32) = 0)) ?_
      exact ev_T_out (by decide) rfl hQ
  · rw [if_neg c1]
    replace hQ := hQ.2 c1
    refine ev_if_eq 33 dX9_canMove_4 (by decide) (fun _ => ?_) (fun h9 => absurd (by decide : ((0 : Int32) = 0)) h9)
    refine ev_iconst (0) dX9_canMove_33 rfl ?_
    refine ev_cS ms_X9_require 1 1 [ev_i 0] [] dX9_canMove_34 kw_1343 rfl (by decide) (by decide) (Nat.le_of_ble_eq_true rfl) (Q' := fun o z => ev_After g m_X9_canMove 4 (1 - 1) 34 [some (ev_o 9 a), some (ev_i x0), some (ev_i x1), some (ev_i x2)] [] z Q o) (sg_X9_require_0 0 ?_) (fun o z h => h) rfl
    refine j_pos (by decide : ((0 : Int32) = 0)) ?_
    exact ev_T_out (by decide) rfl hQ
set_option maxHeartbeats 4000000 in
set_option maxRecDepth 100000 in
theorem sg_X0_waysOf_0 {g : ev_G} {S : ev_S} {Q : ev_O → ev_S → Prop} (a : Nat) (x0 : Int32) (hQ : ev_E g m_X0_waysOf 4 0 15 [some (ev_o 0 a), some (ev_i x0), some (ev_i 0), some (ev_i ((S.1 a 4) * (S.1 a 4))), some (ev_i 0), none] [] S Q) : ev_Cv g m_X0_waysOf 4 0 [ev_o 0 a, ev_i x0] S Q := by
  refine ev_enter (by decide) rfl rfl (Nat.le_of_ble_eq_true rfl) ?_
  show ev_E g m_X0_waysOf 4 0 0 [some (ev_o 0 a), some (ev_i x0), none, none, none, none] [] S Q
  refine ev_iconst (0) dX0_waysOf_0 rfl ?_
  refine ev_istore_n dX0_waysOf_1 (Nat.le_of_ble_eq_true rfl) (ev_hw rfl) ?_
  show ev_E g m_X0_waysOf 4 0 2 [some (ev_o 0 a), some (ev_i x0), some (ev_i 0), none, none, none] [] S Q
  refine ev_aload_n (ev_o 0 a) dX0_waysOf_2 rfl rfl ?_
  refine gf_0_4 dX0_waysOf_3 kw_243 ?_
  refine ev_aload_n (ev_o 0 a) dX0_waysOf_6 rfl rfl ?_
  refine gf_0_4 dX0_waysOf_7 kw_243 ?_
  refine ev_imul dX0_waysOf_10 ?_
  refine ev_istore_n dX0_waysOf_11 (Nat.le_of_ble_eq_true rfl) (ev_hw rfl) ?_
  show ev_E g m_X0_waysOf 4 0 12 [some (ev_o 0 a), some (ev_i x0), some (ev_i 0), some (ev_i ((S.1 a 4) * (S.1 a 4))), none, none] [] S Q
  refine ev_iconst (0) dX0_waysOf_12 rfl ?_
  refine ev_istore dX0_waysOf_13 (Nat.le_of_ble_eq_true rfl) (ev_hw rfl) ?_
  show ev_E g m_X0_waysOf 4 0 15 [some (ev_o 0 a), some (ev_i x0), some (ev_i 0), some (ev_i ((S.1 a 4) * (S.1 a 4))), some (ev_i 0), none] [] S Q
  exact hQ
set_option maxHeartbeats 4000000 in
set_option maxRecDepth 100000 in
theorem sg_X0_waysOf_15 {g : ev_G} {S : ev_S} {Q : ev_O → ev_S → Prop} (a : Nat) (u1 : Int32) (u2 : Int32) (u3 : Int32) (u4 : Int32) (hQ : (u3 ≤ u4 → (
    Q (.inl (some (ev_i u2))) S)) ∧
  (¬ (u3 ≤ u4) → (
    ((j_at (S.1 (a + 1)) 64 u4) = u1 → (
      ev_E g m_X0_waysOf 4 0 34 [some (ev_o 0 a), some (ev_i u1), some (ev_i u2), some (ev_i u3), some (ev_i u4), some (ev_i 0)] [] S Q)) ∧
    (¬ ((j_at (S.1 (a + 1)) 64 u4) = u1) → (
      ev_E g m_X0_waysOf 4 0 15 [some (ev_o 0 a), some (ev_i u1), some (ev_i u2), some (ev_i u3), some (ev_i (u4 + 1)), none] [] S Q))))) : ev_E g m_X0_waysOf 4 0 15 [some (ev_o 0 a), some (ev_i u1), some (ev_i u2), some (ev_i u3), some (ev_i u4), none] [] S Q := by
  refine ev_iload (u4) dX0_waysOf_15 rfl ?_
  refine ev_iload_n (u3) dX0_waysOf_17 rfl ?_
  refine ev_icmp_ge 66 dX0_waysOf_18 (by decide) (fun c1 => ?_) (fun c1 => ?_)
  · replace hQ := hQ.1 c1
    refine ev_iload_n (u2) dX0_waysOf_66 rfl ?_
    exact ev_ireturn .int dX0_waysOf_67 rfl rfl hQ
  · replace hQ := hQ.2 c1
    refine ev_aload_n (ev_o 0 a) dX0_waysOf_21 rfl rfl ?_
    refine ev_iload (u4) dX0_waysOf_22 rfl ?_
    refine ev_fV mv_X0_ownerOn 2 0 [ev_i u4] [] dX0_waysOf_24 kw_893 rfl (by decide) rfl (by decide) (Nat.le_of_ble_eq_true rfl) (sp_X0_ownerOn a u4) ?_ rfl
    refine ev_iload_n (u1) dX0_waysOf_27 rfl ?_
    refine ev_icmp_ne 60 dX0_waysOf_28 (by decide) (fun c2 => ?_) (fun c2 => ?_)
    · replace hQ := hQ.2 c2
      refine ev_iinc u4 (1) dX0_waysOf_60 rfl (by decide) (ev_hw rfl) ?_
      show ev_E g m_X0_waysOf 4 0 63 [some (ev_o 0 a), some (ev_i u1), some (ev_i u2), some (ev_i u3), some (ev_i (u4 + 1)), none] [] S Q
      refine ev_goto 15 dX0_waysOf_63 (by decide) ?_
      exact hQ
    · replace hQ := hQ.1 c2
      refine ev_iconst (0) dX0_waysOf_31 rfl ?_
      refine ev_istore dX0_waysOf_32 (Nat.le_of_ble_eq_true rfl) (ev_hw rfl) ?_
      show ev_E g m_X0_waysOf 4 0 34 [some (ev_o 0 a), some (ev_i u1), some (ev_i u2), some (ev_i u3), some (ev_i u4), some (ev_i 0)] [] S Q
      exact hQ
set_option maxHeartbeats 4000000 in
set_option maxRecDepth 100000 in
theorem sg_X0_waysOf_34 {g : ev_G} {S : ev_S} {Q : ev_O → ev_S → Prop} (a : Nat) (u1 : Int32) (u2 : Int32) (u3 : Int32) (u4 : Int32) (u5 : Int32) (hQ : (u3 ≤ u5 → (
    ev_E g m_X0_waysOf 4 0 15 [some (ev_o 0 a), some (ev_i u1), some (ev_i u2), some (ev_i u3), some (ev_i (u4 + 1)), none] [] S Q)) ∧
  (¬ (u3 ≤ u5) → (
    ev_Cv g m_X0_canReach 3 0 [ev_o 0 a, ev_i u4, ev_i u5] S (fun o S1 => ∃ v1_ : Bool, o = .inl (some (ev_i (if v1_ = true then 1 else 0))) ∧ (
      (v1_ = true → (
        ev_E g m_X0_waysOf 4 0 34 [some (ev_o 0 a), some (ev_i u1), some (ev_i (u2 + 1)), some (ev_i u3), some (ev_i u4), some (ev_i (u5 + 1))] [] S1 Q)) ∧
      (¬ (v1_ = true) → (
        ev_E g m_X0_waysOf 4 0 34 [some (ev_o 0 a), some (ev_i u1), some (ev_i u2), some (ev_i u3), some (ev_i u4), some (ev_i (u5 + 1))] [] S1 Q))))))) : ev_E g m_X0_waysOf 4 0 34 [some (ev_o 0 a), some (ev_i u1), some (ev_i u2), some (ev_i u3), some (ev_i u4), some (ev_i u5)] [] S Q := by
  refine ev_iload (u5) dX0_waysOf_34 rfl ?_
  refine ev_iload_n (u3) dX0_waysOf_36 rfl ?_
  refine ev_icmp_ge 60 dX0_waysOf_37 (by decide) (fun c1 => ?_) (fun c1 => ?_)
  · replace hQ := hQ.1 c1
    refine ev_iinc u4 (1) dX0_waysOf_60 rfl (by decide) (ev_hw rfl) ?_
    show ev_E g m_X0_waysOf 4 0 63 [some (ev_o 0 a), some (ev_i u1), some (ev_i u2), some (ev_i u3), some (ev_i (u4 + 1)), some (ev_i u5)] [] S Q
    refine ev_goto 15 dX0_waysOf_63 (by decide) ?_
    refine ev_fgm [true, true, true, true, true, false] ?_
    exact hQ
  · replace hQ := hQ.2 c1
    refine ev_aload_n (ev_o 0 a) dX0_waysOf_40 rfl rfl ?_
    refine ev_iload (u4) dX0_waysOf_41 rfl ?_
    refine ev_iload (u5) dX0_waysOf_43 rfl ?_
    refine ev_cV mv_X0_canReach 3 0 0 [ev_i u4, ev_i u5] [] dX0_waysOf_45 kw_1420 rfl (by decide) rfl (by decide) (by decide) (Nat.le_of_ble_eq_true rfl) hQ ?_ rfl
    rintro o S1 ⟨v1_, rfl, hQ⟩
    show ev_E g m_X0_waysOf 4 0 48 [some (ev_o 0 a), some (ev_i u1), some (ev_i u2), some (ev_i u3), some (ev_i u4), some (ev_i u5)] [ev_i (if v1_ = true then 1 else 0)] S1 Q
    by_cases c2 : v1_ = true
    · rw [if_pos c2]
      replace hQ := hQ.1 c2
      refine ev_if_eq 54 dX0_waysOf_48 (by decide) (fun h9 => absurd h9 (by decide : ¬ ((1 : Int32) = 0))) (fun _ => ?_)
      refine ev_iinc u2 (1) dX0_waysOf_51 rfl (by decide) (ev_hw rfl) ?_
      show ev_E g m_X0_waysOf 4 0 54 [some (ev_o 0 a), some (ev_i u1), some (ev_i (u2 + 1)), some (ev_i u3), some (ev_i u4), some (ev_i u5)] [] S1 Q
      refine ev_iinc u5 (1) dX0_waysOf_54 rfl (by decide) (ev_hw rfl) ?_
      show ev_E g m_X0_waysOf 4 0 57 [some (ev_o 0 a), some (ev_i u1), some (ev_i (u2 + 1)), some (ev_i u3), some (ev_i u4), some (ev_i (u5 + 1))] [] S1 Q
      refine ev_goto 34 dX0_waysOf_57 (by decide) ?_
      exact hQ
    · rw [if_neg c2]
      replace hQ := hQ.2 c2
      refine ev_if_eq 54 dX0_waysOf_48 (by decide) (fun _ => ?_) (fun h9 => absurd (by decide : ((0 : Int32) = 0)) h9)
      refine ev_iinc u5 (1) dX0_waysOf_54 rfl (by decide) (ev_hw rfl) ?_
      show ev_E g m_X0_waysOf 4 0 57 [some (ev_o 0 a), some (ev_i u1), some (ev_i u2), some (ev_i u3), some (ev_i u4), some (ev_i (u5 + 1))] [] S1 Q
      refine ev_goto 34 dX0_waysOf_57 (by decide) ?_
      exact hQ
set_option maxHeartbeats 4000000 in
set_option maxRecDepth 100000 in
theorem sg_X9_mobility_0 {g : ev_G} {S : ev_S} {Q : ev_O → ev_S → Prop} (a : Nat) (x0 : Int32) (x1 : Int32) (hQ : ((t_X9_isPlayer x0) = true → (
    ((t_X9_isPlayer x1) = true → (
      ev_Cv g m_X0_waysOf 4 0 [ev_o 0 ((a_X2_deskOf (a + 11) x0) + 1), ev_i x1] S (fun o S1 => ∃ v1_ : Int32, o = .inl (some (ev_i v1_)) ∧ (
        Q (.inl (some (ev_i v1_))) S1)))) ∧
    (¬ ((t_X9_isPlayer x1) = true) → (
      Q (.inr 0) S)))) ∧
  (¬ ((t_X9_isPlayer x0) = true) → (
    Q (.inr 0) S))) : ev_Cv g m_X9_mobility 5 1 [ev_o 9 a, ev_i x0, ev_i x1] S Q := by
  refine ev_enter (by decide) rfl rfl (Nat.le_of_ble_eq_true rfl) ?_
  show ev_E g m_X9_mobility 5 1 0 [some (ev_o 9 a), some (ev_i x0), some (ev_i x1)] [] S Q
  refine ev_iload_n (x0) dX9_mobility_0 rfl ?_
  refine ev_fS ms_X9_isPlayer 1 [ev_i x0] [] dX9_mobility_1 kw_1341 rfl (by decide) (Nat.le_of_ble_eq_true rfl) (sp_X9_isPlayer x0) ?_ rfl
  by_cases c1 : (t_X9_isPlayer x0) = true
  · rw [if_pos c1]
    replace hQ := hQ.1 c1
    refine ev_if_eq 18 dX9_mobility_4 (by decide) (fun h9 => absurd h9 (by decide : ¬ ((1 : Int32) = 0))) (fun _ => ?_)
    refine ev_iload_n (x1) dX9_mobility_7 rfl ?_
    refine ev_fS ms_X9_isPlayer 1 [ev_i x1] [] dX9_mobility_8 kw_1341 rfl (by decide) (Nat.le_of_ble_eq_true rfl) (sp_X9_isPlayer x1) ?_ rfl
    by_cases c2 : (t_X9_isPlayer x1) = true
    · rw [if_pos c2]
      replace hQ := hQ.1 c2
      refine ev_if_eq 18 dX9_mobility_11 (by decide) (fun h9 => absurd h9 (by decide : ¬ ((1 : Int32) = 0))) (fun _ => ?_)
      refine ev_iconst (1) dX9_mobility_14 rfl ?_
      refine ev_goto 19 dX9_mobility_15 (by decide) ?_
      refine ev_cS ms_X9_require 1 1 [ev_i 1] [] dX9_mobility_19 kw_1343 rfl (by decide) (by decide) (Nat.le_of_ble_eq_true rfl) (Q' := fun o z => ev_After g m_X9_mobility 5 (1 - 1) 19 [some (ev_o 9 a), some (ev_i x0), some (ev_i x1)] [] z Q o) (sg_X9_require_0 1 ?_) (fun o z h => h) rfl
      refine j_neg (by decide : ¬ ((1 : Int32) = 0)) ?_
      show ev_E g m_X9_mobility 5 0 22 [some (ev_o 9 a), some (ev_i x0), some (ev_i x1)] [] S Q
      refine ev_aload_n (ev_o 9 a) dX9_mobility_22 rfl rfl ?_
      refine gf_9_3 dX9_mobility_23 kw_690 ?_
      refine ev_iload_n (x0) dX9_mobility_26 rfl ?_
      refine ev_fV mv_X2_boardOf 2 2 [ev_i x0] [] dX9_mobility_27 kw_577 rfl (by decide) rfl (by decide) (Nat.le_of_ble_eq_true rfl) (sp_X2_boardOf (a + 11) x0) ?_ rfl
      refine ev_iload_n (x1) dX9_mobility_30 rfl ?_
      refine ev_cV mv_X0_waysOf 4 0 0 [ev_i x1] [] dX9_mobility_31 kw_1416 rfl (by decide) rfl (by decide) (by decide) (Nat.le_of_ble_eq_true rfl) hQ ?_ rfl
      rintro o S1 ⟨v1_, rfl, hQ⟩
      show ev_E g m_X9_mobility 5 0 34 [some (ev_o 9 a), some (ev_i x0), some (ev_i x1)] [ev_i v1_] S1 Q
      exact ev_ireturn .int dX9_mobility_34 rfl rfl hQ
    · rw [if_neg c2]
      replace hQ := hQ.2 c2
      refine ev_if_eq 18 dX9_mobility_11 (by decide) (fun _ => ?_) (fun h9 => absurd (by decide : ((0 : Int32) = 0)) h9)
      refine ev_iconst (0) dX9_mobility_18 rfl ?_
      refine ev_cS ms_X9_require 1 1 [ev_i 0] [] dX9_mobility_19 kw_1343 rfl (by decide) (by decide) (Nat.le_of_ble_eq_true rfl) (Q' := fun o z => ev_After g m_X9_mobility 5 (1 - 1) 19 [some (ev_o 9 a), some (ev_i x0), some (ev_i x1)] [] z Q o) (sg_X9_require_0 0 ?_) (fun o z h => h) rfl
      refine j_pos (by decide : ((0 : Int32) = 0)) ?_
      exact ev_T_out (by decide) rfl hQ
  · rw [if_neg c1]
    replace hQ := hQ.2 c1
    refine ev_if_eq 18 dX9_mobility_4 (by decide) (fun _ => ?_) (fun h9 => absurd (by decide : ((0 : Int32) = 0)) h9)
    refine ev_iconst (0) dX9_mobility_18 rfl ?_
    refine ev_cS ms_X9_require 1 1 [ev_i 0] [] dX9_mobility_19 kw_1343 rfl (by decide) (by decide) (Nat.le_of_ble_eq_true rfl) (Q' := fun o z => ev_After g m_X9_mobility 5 (1 - 1) 19 [some (ev_o 9 a), some (ev_i x0), some (ev_i x1)] [] z Q o) (sg_X9_require_0 0 ?_) (fun o z h => h) rfl
    refine j_pos (by decide : ((0 : Int32) = 0)) ?_
    exact ev_T_out (by decide) rfl hQ
set_option maxHeartbeats 4000000 in
set_option maxRecDepth 100000 in
theorem sg_X9_appliedMove_0 {g : ev_G} {S : ev_S} {Q : ev_O → ev_S → Prop} (a : Nat) (x0 : Int32) (x1 : Int32) (hQ : ((t_X9_isPlayer x0) = true → (
    ((f_X0_moveAt S ((a_X2_deskOf (a + 11) x0) + 1) x1) = (-1) → (
      Q (.inr 3) S)) ∧
    (¬ ((f_X0_moveAt S ((a_X2_deskOf (a + 11) x0) + 1) x1) = (-1)) → (
      Q (.inl (some (ev_i (f_X0_moveAt S ((a_X2_deskOf (a + 11) x0) + 1) x1)))) S)))) ∧
  (¬ ((t_X9_isPlayer x0) = true) → (
    Q (.inr 0) S))) : ev_Cv g m_X9_appliedMove 3 2 [ev_o 9 a, ev_i x0, ev_i x1] S Q := by
  refine ev_enter (by decide) rfl rfl (Nat.le_of_ble_eq_true rfl) ?_
  show ev_E g m_X9_appliedMove 3 2 0 [some (ev_o 9 a), some (ev_i x0), some (ev_i x1), none] [] S Q
  refine ev_iload_n (x0) dX9_appliedMove_0 rfl ?_
  refine ev_fS ms_X9_isPlayer 1 [ev_i x0] [] dX9_appliedMove_1 kw_1341 rfl (by decide) (Nat.le_of_ble_eq_true rfl) (sp_X9_isPlayer x0) ?_ rfl
  by_cases c1 : (t_X9_isPlayer x0) = true
  · rw [if_pos c1]
    replace hQ := hQ.1 c1
    refine ev_cS ms_X9_require 1 1 [ev_i 1] [] dX9_appliedMove_4 kw_1343 rfl (by decide) (by decide) (Nat.le_of_ble_eq_true rfl) (Q' := fun o z => ev_After g m_X9_appliedMove 3 (2 - 1) 4 [some (ev_o 9 a), some (ev_i x0), some (ev_i x1), none] [] z Q o) (sg_X9_require_0 1 ?_) (fun o z h => h) rfl
    refine j_neg (by decide : ¬ ((1 : Int32) = 0)) ?_
    show ev_E g m_X9_appliedMove 3 1 7 [some (ev_o 9 a), some (ev_i x0), some (ev_i x1), none] [] S Q
    refine ev_aload_n (ev_o 9 a) dX9_appliedMove_7 rfl rfl ?_
    refine gf_9_3 dX9_appliedMove_8 kw_690 ?_
    refine ev_iload_n (x0) dX9_appliedMove_11 rfl ?_
    refine ev_fV mv_X2_boardOf 2 2 [ev_i x0] [] dX9_appliedMove_12 kw_577 rfl (by decide) rfl (by decide) (Nat.le_of_ble_eq_true rfl) (sp_X2_boardOf (a + 11) x0) ?_ rfl
    refine ev_iload_n (x1) dX9_appliedMove_15 rfl ?_
    refine ev_fV mv_X0_moveAt 2 0 [ev_i x1] [] dX9_appliedMove_16 kw_1433 rfl (by decide) rfl (by decide) (Nat.le_of_ble_eq_true rfl) (sp_X0_moveAt ((a_X2_deskOf (a + 11) x0) + 1) x1) ?_ rfl
    refine ev_istore_n dX9_appliedMove_19 (Nat.le_of_ble_eq_true rfl) (ev_hw rfl) ?_
    show ev_E g m_X9_appliedMove 3 1 20 [some (ev_o 9 a), some (ev_i x0), some (ev_i x1), some (ev_i (f_X0_moveAt S ((a_X2_deskOf (a + 11) x0) + 1) x1))] [] S Q
    refine ev_iload_n ((f_X0_moveAt S ((a_X2_deskOf (a + 11) x0) + 1) x1)) dX9_appliedMove_20 rfl ?_
    refine ev_iconst (-1) dX9_appliedMove_21 rfl ?_
    refine ev_icmp_ne 36 dX9_appliedMove_22 (by decide) (fun c2 => ?_) (fun c2 => ?_)
    · replace hQ := hQ.2 c2
      refine ev_iload_n ((f_X0_moveAt S ((a_X2_deskOf (a + 11) x0) + 1) x1)) dX9_appliedMove_36 rfl ?_
      exact ev_ireturn .int dX9_appliedMove_37 rfl rfl hQ
    · replace hQ := hQ.1 c2
      exact ev_throw3W 372 389 376 22 "no move with this number was applied" (by decide) rfl kw_1434 kw_133 (List.mem_of_getElem? (i := 22) rfl) at3_X9_376 dX9_appliedMove_25 dX9_appliedMove_28 dX9_appliedMove_29 dX9_appliedMove_32 dX9_appliedMove_35 (Nat.le_of_ble_eq_true rfl) hQ
  · rw [if_neg c1]
    replace hQ := hQ.2 c1
    refine ev_cS ms_X9_require 1 1 [ev_i 0] [] dX9_appliedMove_4 kw_1343 rfl (by decide) (by decide) (Nat.le_of_ble_eq_true rfl) (Q' := fun o z => ev_After g m_X9_appliedMove 3 (2 - 1) 4 [some (ev_o 9 a), some (ev_i x0), some (ev_i x1), none] [] z Q o) (sg_X9_require_0 0 ?_) (fun o z h => h) rfl
    refine j_pos (by decide : ((0 : Int32) = 0)) ?_
    exact ev_T_out (by decide) rfl hQ
set_option maxHeartbeats 4000000 in
set_option maxRecDepth 100000 in
theorem sg_X9_movedFrom_0 {g : ev_G} {S : ev_S} {Q : ev_O → ev_S → Prop} (a : Nat) (x0 : Int32) (x1 : Int32) (hQ : ((t_X9_isPlayer x0) = true → (
    ((f_X0_moveAt S ((a_X2_deskOf (a + 11) x0) + 1) x1) = (-1) → (
      Q (.inr 3) S)) ∧
    (¬ ((f_X0_moveAt S ((a_X2_deskOf (a + 11) x0) + 1) x1) = (-1)) → (
      Q (.inl (some (ev_i ((f_X0_moveAt S ((a_X2_deskOf (a + 11) x0) + 1) x1) / 64)))) S)))) ∧
  (¬ ((t_X9_isPlayer x0) = true) → (
    Q (.inr 0) S))) : ev_Cv g m_X9_movedFrom 4 2 [ev_o 9 a, ev_i x0, ev_i x1] S Q := by
  refine ev_enter (by decide) rfl rfl (Nat.le_of_ble_eq_true rfl) ?_
  show ev_E g m_X9_movedFrom 4 2 0 [some (ev_o 9 a), some (ev_i x0), some (ev_i x1)] [] S Q
  refine ev_aload_n (ev_o 9 a) dX9_movedFrom_0 rfl rfl ?_
  refine ev_iload_n (x0) dX9_movedFrom_1 rfl ?_
  refine ev_iload_n (x1) dX9_movedFrom_2 rfl ?_
  refine ev_cV mv_X9_appliedMove 3 2 9 [ev_i x0, ev_i x1] [] dX9_movedFrom_3 kw_1429 rfl (by decide) rfl (by decide) (by decide) (Nat.le_of_ble_eq_true rfl) (Q' := fun o z => ev_After g m_X9_movedFrom 4 (2 - 2) 3 [some (ev_o 9 a), some (ev_i x0), some (ev_i x1)] [] z Q o) (sg_X9_appliedMove_0 a x0 x1 ?_) (fun o z h => h) rfl
  refine ⟨fun c1 => ?_, fun c1 => ?_⟩
  · replace hQ := hQ.1 c1
    refine ⟨fun c2 => ?_, fun c2 => ?_⟩
    · replace hQ := hQ.1 c2
      exact ev_T_out (by decide) rfl hQ
    · replace hQ := hQ.2 c2
      show ev_E g m_X9_movedFrom 4 0 6 [some (ev_o 9 a), some (ev_i x0), some (ev_i x1)] [ev_i (f_X0_moveAt S ((a_X2_deskOf (a + 11) x0) + 1) x1)] S Q
      refine ev_fS ms_X9_startOf 1 [ev_i (f_X0_moveAt S ((a_X2_deskOf (a + 11) x0) + 1) x1)] [] dX9_movedFrom_6 kw_1450 rfl (by decide) (Nat.le_of_ble_eq_true rfl) (sp_X9_startOf (f_X0_moveAt S ((a_X2_deskOf (a + 11) x0) + 1) x1)) ?_ rfl
      exact ev_ireturn .int dX9_movedFrom_9 rfl rfl hQ
  · replace hQ := hQ.2 c1
    exact ev_T_out (by decide) rfl hQ
set_option maxHeartbeats 4000000 in
set_option maxRecDepth 100000 in
theorem sg_X9_movedTo_0 {g : ev_G} {S : ev_S} {Q : ev_O → ev_S → Prop} (a : Nat) (x0 : Int32) (x1 : Int32) (hQ : ((t_X9_isPlayer x0) = true → (
    ((f_X0_moveAt S ((a_X2_deskOf (a + 11) x0) + 1) x1) = (-1) → (
      Q (.inr 3) S)) ∧
    (¬ ((f_X0_moveAt S ((a_X2_deskOf (a + 11) x0) + 1) x1) = (-1)) → (
      Q (.inl (some (ev_i (ev_rem (f_X0_moveAt S ((a_X2_deskOf (a + 11) x0) + 1) x1) 64)))) S)))) ∧
  (¬ ((t_X9_isPlayer x0) = true) → (
    Q (.inr 0) S))) : ev_Cv g m_X9_movedTo 4 2 [ev_o 9 a, ev_i x0, ev_i x1] S Q := by
  refine ev_enter (by decide) rfl rfl (Nat.le_of_ble_eq_true rfl) ?_
  show ev_E g m_X9_movedTo 4 2 0 [some (ev_o 9 a), some (ev_i x0), some (ev_i x1)] [] S Q
  refine ev_aload_n (ev_o 9 a) dX9_movedTo_0 rfl rfl ?_
  refine ev_iload_n (x0) dX9_movedTo_1 rfl ?_
  refine ev_iload_n (x1) dX9_movedTo_2 rfl ?_
  refine ev_cV mv_X9_appliedMove 3 2 9 [ev_i x0, ev_i x1] [] dX9_movedTo_3 kw_1429 rfl (by decide) rfl (by decide) (by decide) (Nat.le_of_ble_eq_true rfl) (Q' := fun o z => ev_After g m_X9_movedTo 4 (2 - 2) 3 [some (ev_o 9 a), some (ev_i x0), some (ev_i x1)] [] z Q o) (sg_X9_appliedMove_0 a x0 x1 ?_) (fun o z h => h) rfl
  refine ⟨fun c1 => ?_, fun c1 => ?_⟩
  · replace hQ := hQ.1 c1
    refine ⟨fun c2 => ?_, fun c2 => ?_⟩
    · replace hQ := hQ.1 c2
      exact ev_T_out (by decide) rfl hQ
    · replace hQ := hQ.2 c2
      show ev_E g m_X9_movedTo 4 0 6 [some (ev_o 9 a), some (ev_i x0), some (ev_i x1)] [ev_i (f_X0_moveAt S ((a_X2_deskOf (a + 11) x0) + 1) x1)] S Q
      refine ev_fS ms_X9_endOf 1 [ev_i (f_X0_moveAt S ((a_X2_deskOf (a + 11) x0) + 1) x1)] [] dX9_movedTo_6 kw_1458 rfl (by decide) (Nat.le_of_ble_eq_true rfl) (sp_X9_endOf (f_X0_moveAt S ((a_X2_deskOf (a + 11) x0) + 1) x1)) ?_ rfl
      exact ev_ireturn .int dX9_movedTo_9 rfl rfl hQ
  · replace hQ := hQ.2 c1
    exact ev_T_out (by decide) rfl hQ
set_option maxHeartbeats 4000000 in
set_option maxRecDepth 100000 in
theorem sg_X1_storedCount_0 {g : ev_G} {S : ev_S} {Q : ev_O → ev_S → Prop} (a : Nat) (hQ : Q (.inl (some (ev_i (S.1 a 5)))) S) : ev_Cv g m_X1_storedCount 1 0 [ev_o 1 a] S Q := by
  refine ev_enter (by decide) rfl rfl (Nat.le_of_ble_eq_true rfl) ?_
  show ev_E g m_X1_storedCount 1 0 0 [some (ev_o 1 a)] [] S Q
  refine ev_aload_n (ev_o 1 a) dX1_storedCount_0 rfl rfl ?_
  refine gf_1_5 dX1_storedCount_1 kw_272 ?_
  exact ev_ireturn .int dX1_storedCount_4 rfl rfl hQ
set_option maxHeartbeats 4000000 in
set_option maxRecDepth 100000 in
theorem sp_X1_storedCount {g : ev_G} {S : ev_S} (a : Nat)  : ev_Fn g m_X1_storedCount 1 [ev_o 1 a] S (some (ev_i (S.1 a 5))) S := by
  intro Q hQ
  refine sg_X1_storedCount_0 a ?_
  exact hQ
set_option maxHeartbeats 4000000 in
set_option maxRecDepth 100000 in
theorem sg_X9_storedMoves_0 {g : ev_G} {S : ev_S} {Q : ev_O → ev_S → Prop} (a : Nat) (x0 : Int32) (hQ : ((t_X9_isPlayer x0) = true → (
    Q (.inl (some (ev_i (S.1 (a_X2_deskOf (a + 11) x0) 5)))) S)) ∧
  (¬ ((t_X9_isPlayer x0) = true) → (
    Q (.inr 0) S))) : ev_Cv g m_X9_storedMoves 2 1 [ev_o 9 a, ev_i x0] S Q := by
  refine ev_enter (by decide) rfl rfl (Nat.le_of_ble_eq_true rfl) ?_
  show ev_E g m_X9_storedMoves 2 1 0 [some (ev_o 9 a), some (ev_i x0)] [] S Q
  refine ev_iload_n (x0) dX9_storedMoves_0 rfl ?_
  refine ev_fS ms_X9_isPlayer 1 [ev_i x0] [] dX9_storedMoves_1 kw_1341 rfl (by decide) (Nat.le_of_ble_eq_true rfl) (sp_X9_isPlayer x0) ?_ rfl
  by_cases c1 : (t_X9_isPlayer x0) = true
  · rw [if_pos c1]
    replace hQ := hQ.1 c1
    refine ev_cS ms_X9_require 1 1 [ev_i 1] [] dX9_storedMoves_4 kw_1343 rfl (by decide) (by decide) (Nat.le_of_ble_eq_true rfl) (Q' := fun o z => ev_After g m_X9_storedMoves 2 (1 - 1) 4 [some (ev_o 9 a), some (ev_i x0)] [] z Q o) (sg_X9_require_0 1 ?_) (fun o z h => h) rfl
    refine j_neg (by decide : ¬ ((1 : Int32) = 0)) ?_
    show ev_E g m_X9_storedMoves 2 0 7 [some (ev_o 9 a), some (ev_i x0)] [] S Q
    refine ev_aload_n (ev_o 9 a) dX9_storedMoves_7 rfl rfl ?_
    refine gf_9_3 dX9_storedMoves_8 kw_690 ?_
    refine ev_iload_n (x0) dX9_storedMoves_11 rfl ?_
    refine ev_fV mv_X2_deskOf 1 2 [ev_i x0] [] dX9_storedMoves_12 kw_1384 rfl (by decide) rfl (by decide) (Nat.le_of_ble_eq_true rfl) (sp_X2_deskOf (a + 11) x0) ?_ rfl
    refine ev_fV mv_X1_storedCount 1 1 [] [] dX9_storedMoves_15 kw_1466 rfl (by decide) rfl (by decide) (Nat.le_of_ble_eq_true rfl) (sp_X1_storedCount (a_X2_deskOf (a + 11) x0)) ?_ rfl
    exact ev_ireturn .int dX9_storedMoves_18 rfl rfl hQ
  · rw [if_neg c1]
    replace hQ := hQ.2 c1
    refine ev_cS ms_X9_require 1 1 [ev_i 0] [] dX9_storedMoves_4 kw_1343 rfl (by decide) (by decide) (Nat.le_of_ble_eq_true rfl) (Q' := fun o z => ev_After g m_X9_storedMoves 2 (1 - 1) 4 [some (ev_o 9 a), some (ev_i x0)] [] z Q o) (sg_X9_require_0 0 ?_) (fun o z h => h) rfl
    refine j_pos (by decide : ((0 : Int32) = 0)) ?_
    exact ev_T_out (by decide) rfl hQ
set_option maxHeartbeats 4000000 in
set_option maxRecDepth 100000 in
theorem sg_X0_agreesWith_0 {g : ev_G} {S : ev_S} {Q : ev_O → ev_S → Prop} (a : Nat) (b0 : Nat) (hQ : ((S.1 a 6) = (S.1 b0 6) → (
    ev_E g m_X0_agreesWith 3 0 15 [some (ev_o 0 a), some (ev_o 0 b0), some (ev_i 0)] [] S Q)) ∧
  (¬ ((S.1 a 6) = (S.1 b0 6)) → (
    Q (.inl (some (ev_i 0))) S))) : ev_Cv g m_X0_agreesWith 3 0 [ev_o 0 a, ev_o 0 b0] S Q := by
  refine ev_enter (by decide) rfl rfl (Nat.le_of_ble_eq_true rfl) ?_
  show ev_E g m_X0_agreesWith 3 0 0 [some (ev_o 0 a), some (ev_o 0 b0), none] [] S Q
  refine ev_aload_n (ev_o 0 a) dX0_agreesWith_0 rfl rfl ?_
  refine gf_0_6 dX0_agreesWith_1 kw_245 ?_
  refine ev_aload_n (ev_o 0 b0) dX0_agreesWith_4 rfl rfl ?_
  refine gf_0_6 dX0_agreesWith_5 kw_245 ?_
  refine ev_icmp_eq 13 dX0_agreesWith_8 (by decide) (fun c1 => ?_) (fun c1 => ?_)
  · replace hQ := hQ.1 c1
    refine ev_iconst (0) dX0_agreesWith_13 rfl ?_
    refine ev_istore_n dX0_agreesWith_14 (Nat.le_of_ble_eq_true rfl) (ev_hw rfl) ?_
    show ev_E g m_X0_agreesWith 3 0 15 [some (ev_o 0 a), some (ev_o 0 b0), some (ev_i 0)] [] S Q
    exact hQ
  · replace hQ := hQ.2 c1
    refine ev_iconst (0) dX0_agreesWith_11 rfl ?_
    exact ev_ireturn .boolean dX0_agreesWith_12 rfl rfl hQ
set_option maxHeartbeats 4000000 in
set_option maxRecDepth 100000 in
theorem sg_X0_agreesWith_15 {g : ev_G} {S : ev_S} {Q : ev_O → ev_S → Prop} (a : Nat) (b0 : Nat) (u2 : Int32) (hQ : (64 ≤ u2 → (
    Q (.inl (some (ev_i 1))) S)) ∧
  (¬ (64 ≤ u2) → (
    ((j_at (S.1 (a + 1)) 64 u2) = (j_at (S.1 (b0 + 1)) 64 u2) → (
      ev_E g m_X0_agreesWith 3 0 15 [some (ev_o 0 a), some (ev_o 0 b0), some (ev_i (u2 + 1))] [] S Q)) ∧
    (¬ ((j_at (S.1 (a + 1)) 64 u2) = (j_at (S.1 (b0 + 1)) 64 u2)) → (
      Q (.inl (some (ev_i 0))) S))))) : ev_E g m_X0_agreesWith 3 0 15 [some (ev_o 0 a), some (ev_o 0 b0), some (ev_i u2)] [] S Q := by
  refine ev_iload_n (u2) dX0_agreesWith_15 rfl ?_
  refine ev_bipush (64) dX0_agreesWith_16 (by decide) ?_
  refine ev_icmp_ge 42 dX0_agreesWith_18 (by decide) (fun c1 => ?_) (fun c1 => ?_)
  · replace hQ := hQ.1 c1
    refine ev_iconst (1) dX0_agreesWith_42 rfl ?_
    exact ev_ireturn .boolean dX0_agreesWith_43 rfl rfl hQ
  · replace hQ := hQ.2 c1
    refine ev_aload_n (ev_o 0 a) dX0_agreesWith_21 rfl rfl ?_
    refine ev_iload_n (u2) dX0_agreesWith_22 rfl ?_
    refine ev_fV mv_X0_ownerOn 2 0 [ev_i u2] [] dX0_agreesWith_23 kw_893 rfl (by decide) rfl (by decide) (Nat.le_of_ble_eq_true rfl) (sp_X0_ownerOn a u2) ?_ rfl
    refine ev_aload_n (ev_o 0 b0) dX0_agreesWith_26 rfl rfl ?_
    refine ev_iload_n (u2) dX0_agreesWith_27 rfl ?_
    refine ev_fV mv_X0_ownerOn 2 0 [ev_i u2] [ev_i (j_at (S.1 (a + 1)) 64 u2)] dX0_agreesWith_28 kw_893 rfl (by decide) rfl (by decide) (Nat.le_of_ble_eq_true rfl) (sp_X0_ownerOn b0 u2) ?_ rfl
    refine ev_icmp_eq 36 dX0_agreesWith_31 (by decide) (fun c2 => ?_) (fun c2 => ?_)
    · replace hQ := hQ.1 c2
      refine ev_iinc u2 (1) dX0_agreesWith_36 rfl (by decide) (ev_hw rfl) ?_
      show ev_E g m_X0_agreesWith 3 0 39 [some (ev_o 0 a), some (ev_o 0 b0), some (ev_i (u2 + 1))] [] S Q
      refine ev_goto 15 dX0_agreesWith_39 (by decide) ?_
      exact hQ
    · replace hQ := hQ.2 c2
      refine ev_iconst (0) dX0_agreesWith_34 rfl ?_
      exact ev_ireturn .boolean dX0_agreesWith_35 rfl rfl hQ
set_option maxHeartbeats 4000000 in
set_option maxRecDepth 100000 in
theorem sg_X2_boardsAgree_0 {g : ev_G} {S : ev_S} {Q : ev_O → ev_S → Prop} (a : Nat) (hQ : ev_Cv g m_X0_agreesWith 3 0 [ev_o 0 ((a_X2_deskOf a 0) + 1), ev_o 0 ((a_X2_deskOf a 1) + 1)] S (fun o S1 => ∃ v1_ : Bool, o = .inl (some (ev_i (if v1_ = true then 1 else 0))) ∧ (
    (v1_ = true → (
      Q (.inl (some (ev_i 1))) S1)) ∧
    (¬ (v1_ = true) → (
      Q (.inl (some (ev_i 0))) S1))))) : ev_Cv g m_X2_boardsAgree 4 0 [ev_o 2 a] S Q := by
  refine ev_enter (by decide) rfl rfl (Nat.le_of_ble_eq_true rfl) ?_
  show ev_E g m_X2_boardsAgree 4 0 0 [some (ev_o 2 a)] [] S Q
  refine ev_aload_n (ev_o 2 a) dX2_boardsAgree_0 rfl rfl ?_
  refine ev_iconst (0) dX2_boardsAgree_1 rfl ?_
  refine ev_fV mv_X2_boardOf 2 2 [ev_i 0] [] dX2_boardsAgree_2 kw_858 rfl (by decide) rfl (by decide) (Nat.le_of_ble_eq_true rfl) (sp_X2_boardOf a 0) ?_ rfl
  refine ev_aload_n (ev_o 2 a) dX2_boardsAgree_5 rfl rfl ?_
  refine ev_iconst (1) dX2_boardsAgree_6 rfl ?_
  refine ev_fV mv_X2_boardOf 2 2 [ev_i 1] [ev_o 0 ((a_X2_deskOf a 0) + 1)] dX2_boardsAgree_7 kw_858 rfl (by decide) rfl (by decide) (Nat.le_of_ble_eq_true rfl) (sp_X2_boardOf a 1) ?_ rfl
  refine ev_cV mv_X0_agreesWith 3 0 0 [ev_o 0 ((a_X2_deskOf a 1) + 1)] [] dX2_boardsAgree_10 kw_1125 rfl (by decide) rfl (by decide) (by decide) (Nat.le_of_ble_eq_true rfl) hQ ?_ rfl
  rintro o S1 ⟨v1_, rfl, hQ⟩
  show ev_E g m_X2_boardsAgree 4 0 13 [some (ev_o 2 a)] [ev_i (if v1_ = true then 1 else 0)] S1 Q
  by_cases c1 : v1_ = true
  · rw [if_pos c1]
    replace hQ := hQ.1 c1
    exact ev_ireturn .boolean dX2_boardsAgree_13 rfl rfl hQ
  · rw [if_neg c1]
    replace hQ := hQ.2 c1
    exact ev_ireturn .boolean dX2_boardsAgree_13 rfl rfl hQ
set_option maxHeartbeats 4000000 in
set_option maxRecDepth 100000 in
theorem sg_X9_areBoardsEqual_0 {g : ev_G} {S : ev_S} {Q : ev_O → ev_S → Prop} (a : Nat) (hQ : ev_Cv g m_X2_boardsAgree 4 0 [ev_o 2 (a + 11)] S (fun o S1 => ∃ v1_ : Bool, o = .inl (some (ev_i (if v1_ = true then 1 else 0))) ∧ (
    (v1_ = true → (
      Q (.inl (some (ev_i 1))) S1)) ∧
    (¬ (v1_ = true) → (
      Q (.inl (some (ev_i 0))) S1))))) : ev_Cv g m_X9_areBoardsEqual 5 0 [ev_o 9 a] S Q := by
  refine ev_enter (by decide) rfl rfl (Nat.le_of_ble_eq_true rfl) ?_
  show ev_E g m_X9_areBoardsEqual 5 0 0 [some (ev_o 9 a)] [] S Q
  refine ev_aload_n (ev_o 9 a) dX9_areBoardsEqual_0 rfl rfl ?_
  refine gf_9_3 dX9_areBoardsEqual_1 kw_690 ?_
  refine ev_cV mv_X2_boardsAgree 4 0 2 [] [] dX9_areBoardsEqual_4 kw_1121 rfl (by decide) rfl (by decide) (by decide) (Nat.le_of_ble_eq_true rfl) hQ ?_ rfl
  rintro o S1 ⟨v1_, rfl, hQ⟩
  show ev_E g m_X9_areBoardsEqual 5 0 7 [some (ev_o 9 a)] [ev_i (if v1_ = true then 1 else 0)] S1 Q
  by_cases c1 : v1_ = true
  · rw [if_pos c1]
    replace hQ := hQ.1 c1
    exact ev_ireturn .boolean dX9_areBoardsEqual_7 rfl rfl hQ
  · rw [if_neg c1]
    replace hQ := hQ.2 c1
    exact ev_ireturn .boolean dX9_areBoardsEqual_7 rfl rfl hQ
set_option maxHeartbeats 4000000 in
set_option maxRecDepth 100000 in
theorem sg_X9_passCount_0 {g : ev_G} {S : ev_S} {Q : ev_O → ev_S → Prop} (a : Nat) (hQ : Q (.inl (some (ev_i (S.1 (a + 31) 3)))) S) : ev_Cv g m_X9_passCount 3 0 [ev_o 9 a] S Q := by
  refine ev_enter (by decide) rfl rfl (Nat.le_of_ble_eq_true rfl) ?_
  show ev_E g m_X9_passCount 3 0 0 [some (ev_o 9 a)] [] S Q
  refine ev_aload_n (ev_o 9 a) dX9_passCount_0 rfl rfl ?_
  refine gf_9_3 dX9_passCount_1 kw_690 ?_
  refine ev_fV mv_X2_passes 2 2 [] [] dX9_passCount_4 kw_616 rfl (by decide) rfl (by decide) (Nat.le_of_ble_eq_true rfl) (sp_X2_passes (a + 11)) ?_ rfl
  refine ev_fV mv_X5_count 1 5 [] [] dX9_passCount_7 kw_630 rfl (by decide) rfl (by decide) (Nat.le_of_ble_eq_true rfl) (sp_X5_count (a + 31)) ?_ rfl
  exact ev_ireturn .int dX9_passCount_10 rfl rfl hQ
set_option maxHeartbeats 4000000 in
set_option maxRecDepth 100000 in
theorem sp_X9_passCount {g : ev_G} {S : ev_S} (a : Nat)  : ev_Fn g m_X9_passCount 3 [ev_o 9 a] S (some (ev_i (S.1 (a + 31) 3))) S := by
  intro Q hQ
  refine sg_X9_passCount_0 a ?_
  exact hQ
set_option maxHeartbeats 4000000 in
set_option maxRecDepth 100000 in
theorem sg_X9_snowDepth_0 {g : ev_G} {S : ev_S} {Q : ev_O → ev_S → Prop} (a : Nat) (x0 : Int32) (x1 : Int32) (hQ : ((t_X5_exists S (a + 31) x0) = true → (
    ((t_X9_isMonth x1) = true → (
      Q (.inl (some (ev_i (j_at (S.1 (a + 33)) 48 ((x0 * 12) + x1))))) S)) ∧
    (¬ ((t_X9_isMonth x1) = true) → (
      Q (.inr 0) S)))) ∧
  (¬ ((t_X5_exists S (a + 31) x0) = true) → (
    Q (.inr 0) S))) : ev_Cv g m_X9_snowDepth 3 1 [ev_o 9 a, ev_i x0, ev_i x1] S Q := by
  refine ev_enter (by decide) rfl rfl (Nat.le_of_ble_eq_true rfl) ?_
  show ev_E g m_X9_snowDepth 3 1 0 [some (ev_o 9 a), some (ev_i x0), some (ev_i x1)] [] S Q
  refine ev_aload_n (ev_o 9 a) dX9_snowDepth_0 rfl rfl ?_
  refine gf_9_3 dX9_snowDepth_1 kw_690 ?_
  refine ev_fV mv_X2_passes 2 2 [] [] dX9_snowDepth_4 kw_616 rfl (by decide) rfl (by decide) (Nat.le_of_ble_eq_true rfl) (sp_X2_passes (a + 11)) ?_ rfl
  refine ev_iload_n (x0) dX9_snowDepth_7 rfl ?_
  refine ev_fV mv_X5_exists 1 5 [ev_i x0] [] dX9_snowDepth_8 kw_1477 rfl (by decide) rfl (by decide) (Nat.le_of_ble_eq_true rfl) (sp_X5_exists (a + 31) x0) ?_ rfl
  by_cases c1 : (t_X5_exists S (a + 31) x0) = true
  · rw [if_pos c1]
    replace hQ := hQ.1 c1
    refine ev_if_eq 25 dX9_snowDepth_11 (by decide) (fun h9 => absurd h9 (by decide : ¬ ((1 : Int32) = 0))) (fun _ => ?_)
    refine ev_iload_n (x1) dX9_snowDepth_14 rfl ?_
    refine ev_fS ms_X9_isMonth 1 [ev_i x1] [] dX9_snowDepth_15 kw_1478 rfl (by decide) (Nat.le_of_ble_eq_true rfl) (sp_X9_isMonth x1) ?_ rfl
    by_cases c2 : (t_X9_isMonth x1) = true
    · rw [if_pos c2]
      replace hQ := hQ.1 c2
      refine ev_if_eq 25 dX9_snowDepth_18 (by decide) (fun h9 => absurd h9 (by decide : ¬ ((1 : Int32) = 0))) (fun _ => ?_)
      refine ev_iconst (1) dX9_snowDepth_21 rfl ?_
      refine ev_goto 26 dX9_snowDepth_22 (by decide) ?_
      refine ev_cS ms_X9_require 1 1 [ev_i 1] [] dX9_snowDepth_26 kw_1343 rfl (by decide) (by decide) (Nat.le_of_ble_eq_true rfl) (Q' := fun o z => ev_After g m_X9_snowDepth 3 (1 - 1) 26 [some (ev_o 9 a), some (ev_i x0), some (ev_i x1)] [] z Q o) (sg_X9_require_0 1 ?_) (fun o z h => h) rfl
      refine j_neg (by decide : ¬ ((1 : Int32) = 0)) ?_
      show ev_E g m_X9_snowDepth 3 0 29 [some (ev_o 9 a), some (ev_i x0), some (ev_i x1)] [] S Q
      refine ev_aload_n (ev_o 9 a) dX9_snowDepth_29 rfl rfl ?_
      refine gf_9_3 dX9_snowDepth_30 kw_690 ?_
      refine ev_fV mv_X2_passes 2 2 [] [] dX9_snowDepth_33 kw_616 rfl (by decide) rfl (by decide) (Nat.le_of_ble_eq_true rfl) (sp_X2_passes (a + 11)) ?_ rfl
      refine ev_iload_n (x0) dX9_snowDepth_36 rfl ?_
      refine ev_iload_n (x1) dX9_snowDepth_37 rfl ?_
      refine ev_fV mv_X5_snowIn 2 5 [ev_i x0, ev_i x1] [] dX9_snowDepth_38 kw_1479 rfl (by decide) rfl (by decide) (Nat.le_of_ble_eq_true rfl) (sp_X5_snowIn (a + 31) x0 x1) ?_ rfl
      exact ev_ireturn .int dX9_snowDepth_41 rfl rfl hQ
    · rw [if_neg c2]
      replace hQ := hQ.2 c2
      refine ev_if_eq 25 dX9_snowDepth_18 (by decide) (fun _ => ?_) (fun h9 => absurd (by decide : ((0 : Int32) = 0)) h9)
      refine ev_iconst (0) dX9_snowDepth_25 rfl ?_
      refine ev_cS ms_X9_require 1 1 [ev_i 0] [] dX9_snowDepth_26 kw_1343 rfl (by decide) (by decide) (Nat.le_of_ble_eq_true rfl) (Q' := fun o z => ev_After g m_X9_snowDepth 3 (1 - 1) 26 [some (ev_o 9 a), some (ev_i x0), some (ev_i x1)] [] z Q o) (sg_X9_require_0 0 ?_) (fun o z h => h) rfl
      refine j_pos (by decide : ((0 : Int32) = 0)) ?_
      exact ev_T_out (by decide) rfl hQ
  · rw [if_neg c1]
    replace hQ := hQ.2 c1
    refine ev_if_eq 25 dX9_snowDepth_11 (by decide) (fun _ => ?_) (fun h9 => absurd (by decide : ((0 : Int32) = 0)) h9)
    refine ev_iconst (0) dX9_snowDepth_25 rfl ?_
    refine ev_cS ms_X9_require 1 1 [ev_i 0] [] dX9_snowDepth_26 kw_1343 rfl (by decide) (by decide) (Nat.le_of_ble_eq_true rfl) (Q' := fun o z => ev_After g m_X9_snowDepth 3 (1 - 1) 26 [some (ev_o 9 a), some (ev_i x0), some (ev_i x1)] [] z Q o) (sg_X9_require_0 0 ?_) (fun o z h => h) rfl
    refine j_pos (by decide : ((0 : Int32) = 0)) ?_
    exact ev_T_out (by decide) rfl hQ
set_option maxHeartbeats 4000000 in
set_option maxRecDepth 100000 in
theorem sg_X9_travelDays_0 {g : ev_G} {S : ev_S} {Q : ev_O → ev_S → Prop} (a : Nat) (x0 : Int32) (hQ : ((t_X5_exists S (a + 31) x0) = true → (
    Q (.inl (some (ev_i (f_X5_daysOver S (a + 31) x0 (ev_rem ((S.1 (a + 11) 4) / 30) 12))))) S)) ∧
  (¬ ((t_X5_exists S (a + 31) x0) = true) → (
    Q (.inr 0) S))) : ev_Cv g m_X9_travelDays 4 1 [ev_o 9 a, ev_i x0] S Q := by
  refine ev_enter (by decide) rfl rfl (Nat.le_of_ble_eq_true rfl) ?_
  show ev_E g m_X9_travelDays 4 1 0 [some (ev_o 9 a), some (ev_i x0)] [] S Q
  refine ev_aload_n (ev_o 9 a) dX9_travelDays_0 rfl rfl ?_
  refine gf_9_3 dX9_travelDays_1 kw_690 ?_
  refine ev_fV mv_X2_passes 2 2 [] [] dX9_travelDays_4 kw_616 rfl (by decide) rfl (by decide) (Nat.le_of_ble_eq_true rfl) (sp_X2_passes (a + 11)) ?_ rfl
  refine ev_iload_n (x0) dX9_travelDays_7 rfl ?_
  refine ev_fV mv_X5_exists 1 5 [ev_i x0] [] dX9_travelDays_8 kw_1477 rfl (by decide) rfl (by decide) (Nat.le_of_ble_eq_true rfl) (sp_X5_exists (a + 31) x0) ?_ rfl
  by_cases c1 : (t_X5_exists S (a + 31) x0) = true
  · rw [if_pos c1]
    replace hQ := hQ.1 c1
    refine ev_cS ms_X9_require 1 1 [ev_i 1] [] dX9_travelDays_11 kw_1343 rfl (by decide) (by decide) (Nat.le_of_ble_eq_true rfl) (Q' := fun o z => ev_After g m_X9_travelDays 4 (1 - 1) 11 [some (ev_o 9 a), some (ev_i x0)] [] z Q o) (sg_X9_require_0 1 ?_) (fun o z h => h) rfl
    refine j_neg (by decide : ¬ ((1 : Int32) = 0)) ?_
    show ev_E g m_X9_travelDays 4 0 14 [some (ev_o 9 a), some (ev_i x0)] [] S Q
    refine ev_aload_n (ev_o 9 a) dX9_travelDays_14 rfl rfl ?_
    refine gf_9_3 dX9_travelDays_15 kw_690 ?_
    refine ev_fV mv_X2_passes 2 2 [] [] dX9_travelDays_18 kw_616 rfl (by decide) rfl (by decide) (Nat.le_of_ble_eq_true rfl) (sp_X2_passes (a + 11)) ?_ rfl
    refine ev_iload_n (x0) dX9_travelDays_21 rfl ?_
    refine ev_aload_n (ev_o 9 a) dX9_travelDays_22 rfl rfl ?_
    refine gf_9_3 dX9_travelDays_23 kw_690 ?_
    refine ev_fV mv_X2_today 1 2 [] [ev_i x0, ev_o 5 (a + 31)] dX9_travelDays_26 kw_1108 rfl (by decide) rfl (by decide) (Nat.le_of_ble_eq_true rfl) (sp_X2_today (a + 11)) ?_ rfl
    refine ev_fS ms_X9_monthOf 1 [ev_i (S.1 (a + 11) 4)] [ev_i x0, ev_o 5 (a + 31)] dX9_travelDays_29 kw_1116 rfl (by decide) (Nat.le_of_ble_eq_true rfl) (sp_X9_monthOf (S.1 (a + 11) 4)) ?_ rfl
    refine ev_fV mv_X5_daysOver 3 5 [ev_i x0, ev_i (ev_rem ((S.1 (a + 11) 4) / 30) 12)] [] dX9_travelDays_32 kw_1487 rfl (by decide) rfl (by decide) (Nat.le_of_ble_eq_true rfl) (sp_X5_daysOver (a + 31) x0 (ev_rem ((S.1 (a + 11) 4) / 30) 12)) ?_ rfl
    exact ev_ireturn .int dX9_travelDays_35 rfl rfl hQ
  · rw [if_neg c1]
    replace hQ := hQ.2 c1
    refine ev_cS ms_X9_require 1 1 [ev_i 0] [] dX9_travelDays_11 kw_1343 rfl (by decide) (by decide) (Nat.le_of_ble_eq_true rfl) (Q' := fun o z => ev_After g m_X9_travelDays 4 (1 - 1) 11 [some (ev_o 9 a), some (ev_i x0)] [] z Q o) (sg_X9_require_0 0 ?_) (fun o z h => h) rfl
    refine j_pos (by decide : ((0 : Int32) = 0)) ?_
    exact ev_T_out (by decide) rfl hQ
set_option maxHeartbeats 4000000 in
set_option maxRecDepth 100000 in
theorem sg_X9_mules_0 {g : ev_G} {S : ev_S} {Q : ev_O → ev_S → Prop} (a : Nat) (x0 : Int32) (x1 : Int32) (hQ : ((t_X5_exists S (a + 31) x0) = true → (
    ((t_X9_isPlayer x1) = true → (
      Q (.inl (some (ev_i (j_at (S.1 (a + 34)) 8 ((x0 * 2) + x1))))) S)) ∧
    (¬ ((t_X9_isPlayer x1) = true) → (
      Q (.inr 0) S)))) ∧
  (¬ ((t_X5_exists S (a + 31) x0) = true) → (
    Q (.inr 0) S))) : ev_Cv g m_X9_mules 3 1 [ev_o 9 a, ev_i x0, ev_i x1] S Q := by
  refine ev_enter (by decide) rfl rfl (Nat.le_of_ble_eq_true rfl) ?_
  show ev_E g m_X9_mules 3 1 0 [some (ev_o 9 a), some (ev_i x0), some (ev_i x1)] [] S Q
  refine ev_aload_n (ev_o 9 a) dX9_mules_0 rfl rfl ?_
  refine gf_9_3 dX9_mules_1 kw_690 ?_
  refine ev_fV mv_X2_passes 2 2 [] [] dX9_mules_4 kw_616 rfl (by decide) rfl (by decide) (Nat.le_of_ble_eq_true rfl) (sp_X2_passes (a + 11)) ?_ rfl
  refine ev_iload_n (x0) dX9_mules_7 rfl ?_
  refine ev_fV mv_X5_exists 1 5 [ev_i x0] [] dX9_mules_8 kw_1477 rfl (by decide) rfl (by decide) (Nat.le_of_ble_eq_true rfl) (sp_X5_exists (a + 31) x0) ?_ rfl
  by_cases c1 : (t_X5_exists S (a + 31) x0) = true
  · rw [if_pos c1]
    replace hQ := hQ.1 c1
    refine ev_if_eq 25 dX9_mules_11 (by decide) (fun h9 => absurd h9 (by decide : ¬ ((1 : Int32) = 0))) (fun _ => ?_)
    refine ev_iload_n (x1) dX9_mules_14 rfl ?_
    refine ev_fS ms_X9_isPlayer 1 [ev_i x1] [] dX9_mules_15 kw_1341 rfl (by decide) (Nat.le_of_ble_eq_true rfl) (sp_X9_isPlayer x1) ?_ rfl
    by_cases c2 : (t_X9_isPlayer x1) = true
    · rw [if_pos c2]
      replace hQ := hQ.1 c2
      refine ev_if_eq 25 dX9_mules_18 (by decide) (fun h9 => absurd h9 (by decide : ¬ ((1 : Int32) = 0))) (fun _ => ?_)
      refine ev_iconst (1) dX9_mules_21 rfl ?_
      refine ev_goto 26 dX9_mules_22 (by decide) ?_
      refine ev_cS ms_X9_require 1 1 [ev_i 1] [] dX9_mules_26 kw_1343 rfl (by decide) (by decide) (Nat.le_of_ble_eq_true rfl) (Q' := fun o z => ev_After g m_X9_mules 3 (1 - 1) 26 [some (ev_o 9 a), some (ev_i x0), some (ev_i x1)] [] z Q o) (sg_X9_require_0 1 ?_) (fun o z h => h) rfl
      refine j_neg (by decide : ¬ ((1 : Int32) = 0)) ?_
      show ev_E g m_X9_mules 3 0 29 [some (ev_o 9 a), some (ev_i x0), some (ev_i x1)] [] S Q
      refine ev_aload_n (ev_o 9 a) dX9_mules_29 rfl rfl ?_
      refine gf_9_3 dX9_mules_30 kw_690 ?_
      refine ev_fV mv_X2_passes 2 2 [] [] dX9_mules_33 kw_616 rfl (by decide) rfl (by decide) (Nat.le_of_ble_eq_true rfl) (sp_X2_passes (a + 11)) ?_ rfl
      refine ev_iload_n (x0) dX9_mules_36 rfl ?_
      refine ev_iload_n (x1) dX9_mules_37 rfl ?_
      refine ev_fV mv_X5_mulesAt 2 5 [ev_i x0, ev_i x1] [] dX9_mules_38 kw_1495 rfl (by decide) rfl (by decide) (Nat.le_of_ble_eq_true rfl) (sp_X5_mulesAt (a + 31) x0 x1) ?_ rfl
      exact ev_ireturn .int dX9_mules_41 rfl rfl hQ
    · rw [if_neg c2]
      replace hQ := hQ.2 c2
      refine ev_if_eq 25 dX9_mules_18 (by decide) (fun _ => ?_) (fun h9 => absurd (by decide : ((0 : Int32) = 0)) h9)
      refine ev_iconst (0) dX9_mules_25 rfl ?_
      refine ev_cS ms_X9_require 1 1 [ev_i 0] [] dX9_mules_26 kw_1343 rfl (by decide) (by decide) (Nat.le_of_ble_eq_true rfl) (Q' := fun o z => ev_After g m_X9_mules 3 (1 - 1) 26 [some (ev_o 9 a), some (ev_i x0), some (ev_i x1)] [] z Q o) (sg_X9_require_0 0 ?_) (fun o z h => h) rfl
      refine j_pos (by decide : ((0 : Int32) = 0)) ?_
      exact ev_T_out (by decide) rfl hQ
  · rw [if_neg c1]
    replace hQ := hQ.2 c1
    refine ev_if_eq 25 dX9_mules_11 (by decide) (fun _ => ?_) (fun h9 => absurd (by decide : ((0 : Int32) = 0)) h9)
    refine ev_iconst (0) dX9_mules_25 rfl ?_
    refine ev_cS ms_X9_require 1 1 [ev_i 0] [] dX9_mules_26 kw_1343 rfl (by decide) (by decide) (Nat.le_of_ble_eq_true rfl) (Q' := fun o z => ev_After g m_X9_mules 3 (1 - 1) 26 [some (ev_o 9 a), some (ev_i x0), some (ev_i x1)] [] z Q o) (sg_X9_require_0 0 ?_) (fun o z h => h) rfl
    refine j_pos (by decide : ((0 : Int32) = 0)) ?_
    exact ev_T_out (by decide) rfl hQ
set_option maxHeartbeats 4000000 in
set_option maxRecDepth 100000 in
theorem sg_X2_post_0 {g : ev_G} {S : ev_S} {Q : ev_O → ev_S → Prop} (a : Nat) (hQ : Q (.inl (some (ev_o 6 (a + 19)))) S) : ev_Cv g m_X2_post 1 0 [ev_o 2 a] S Q := by
  refine ev_enter (by decide) rfl rfl (Nat.le_of_ble_eq_true rfl) ?_
  show ev_E g m_X2_post 1 0 0 [some (ev_o 2 a)] [] S Q
  refine ev_aload_n (ev_o 2 a) dX2_post_0 rfl rfl ?_
  refine gf_2_2 dX2_post_1 kw_388 ?_
  exact ev_areturn _ dX2_post_4 rfl rfl (Or.inl ⟨_, rfl⟩) hQ
set_option maxHeartbeats 4000000 in
set_option maxRecDepth 100000 in
theorem sp_X2_post {g : ev_G} {S : ev_S} (a : Nat)  : ev_Fn g m_X2_post 1 [ev_o 2 a] S (some (ev_o 6 (a + 19))) S := by
  intro Q hQ
  refine sg_X2_post_0 a ?_
  exact hQ
set_option maxHeartbeats 4000000 in
set_option maxRecDepth 100000 in
theorem sg_X9_queueLength_0 {g : ev_G} {S : ev_S} {Q : ev_O → ev_S → Prop} (a : Nat) (x0 : Int32) (x1 : Int32) (hQ : ((t_X5_exists S (a + 31) x0) = true → (
    ((t_X9_isPlayer x1) = true → (
      Q (.inl (some (ev_i (j_at (S.1 (a + 46)) 8 ((x0 * 2) + x1))))) S)) ∧
    (¬ ((t_X9_isPlayer x1) = true) → (
      Q (.inr 0) S)))) ∧
  (¬ ((t_X5_exists S (a + 31) x0) = true) → (
    Q (.inr 0) S))) : ev_Cv g m_X9_queueLength 3 1 [ev_o 9 a, ev_i x0, ev_i x1] S Q := by
  refine ev_enter (by decide) rfl rfl (Nat.le_of_ble_eq_true rfl) ?_
  show ev_E g m_X9_queueLength 3 1 0 [some (ev_o 9 a), some (ev_i x0), some (ev_i x1)] [] S Q
  refine ev_aload_n (ev_o 9 a) dX9_queueLength_0 rfl rfl ?_
  refine gf_9_3 dX9_queueLength_1 kw_690 ?_
  refine ev_fV mv_X2_passes 2 2 [] [] dX9_queueLength_4 kw_616 rfl (by decide) rfl (by decide) (Nat.le_of_ble_eq_true rfl) (sp_X2_passes (a + 11)) ?_ rfl
  refine ev_iload_n (x0) dX9_queueLength_7 rfl ?_
  refine ev_fV mv_X5_exists 1 5 [ev_i x0] [] dX9_queueLength_8 kw_1477 rfl (by decide) rfl (by decide) (Nat.le_of_ble_eq_true rfl) (sp_X5_exists (a + 31) x0) ?_ rfl
  by_cases c1 : (t_X5_exists S (a + 31) x0) = true
  · rw [if_pos c1]
    replace hQ := hQ.1 c1
    refine ev_if_eq 25 dX9_queueLength_11 (by decide) (fun h9 => absurd h9 (by decide : ¬ ((1 : Int32) = 0))) (fun _ => ?_)
    refine ev_iload_n (x1) dX9_queueLength_14 rfl ?_
    refine ev_fS ms_X9_isPlayer 1 [ev_i x1] [] dX9_queueLength_15 kw_1341 rfl (by decide) (Nat.le_of_ble_eq_true rfl) (sp_X9_isPlayer x1) ?_ rfl
    by_cases c2 : (t_X9_isPlayer x1) = true
    · rw [if_pos c2]
      replace hQ := hQ.1 c2
      refine ev_if_eq 25 dX9_queueLength_18 (by decide) (fun h9 => absurd h9 (by decide : ¬ ((1 : Int32) = 0))) (fun _ => ?_)
      refine ev_iconst (1) dX9_queueLength_21 rfl ?_
      refine ev_goto 26 dX9_queueLength_22 (by decide) ?_
      refine ev_cS ms_X9_require 1 1 [ev_i 1] [] dX9_queueLength_26 kw_1343 rfl (by decide) (by decide) (Nat.le_of_ble_eq_true rfl) (Q' := fun o z => ev_After g m_X9_queueLength 3 (1 - 1) 26 [some (ev_o 9 a), some (ev_i x0), some (ev_i x1)] [] z Q o) (sg_X9_require_0 1 ?_) (fun o z h => h) rfl
      refine j_neg (by decide : ¬ ((1 : Int32) = 0)) ?_
      show ev_E g m_X9_queueLength 3 0 29 [some (ev_o 9 a), some (ev_i x0), some (ev_i x1)] [] S Q
      refine ev_aload_n (ev_o 9 a) dX9_queueLength_29 rfl rfl ?_
      refine gf_9_3 dX9_queueLength_30 kw_690 ?_
      refine ev_fV mv_X2_post 1 2 [] [] dX9_queueLength_33 kw_1137 rfl (by decide) rfl (by decide) (Nat.le_of_ble_eq_true rfl) (sp_X2_post (a + 11)) ?_ rfl
      refine ev_iload_n (x0) dX9_queueLength_36 rfl ?_
      refine ev_iload_n (x1) dX9_queueLength_37 rfl ?_
      refine ev_fV mv_X6_waitingAt 2 6 [ev_i x0, ev_i x1] [] dX9_queueLength_38 kw_1503 rfl (by decide) rfl (by decide) (Nat.le_of_ble_eq_true rfl) (sp_X6_waitingAt (a + 30) x0 x1) ?_ rfl
      exact ev_ireturn .int dX9_queueLength_41 rfl rfl hQ
    · rw [if_neg c2]
      replace hQ := hQ.2 c2
      refine ev_if_eq 25 dX9_queueLength_18 (by decide) (fun _ => ?_) (fun h9 => absurd (by decide : ((0 : Int32) = 0)) h9)
      refine ev_iconst (0) dX9_queueLength_25 rfl ?_
      refine ev_cS ms_X9_require 1 1 [ev_i 0] [] dX9_queueLength_26 kw_1343 rfl (by decide) (by decide) (Nat.le_of_ble_eq_true rfl) (Q' := fun o z => ev_After g m_X9_queueLength 3 (1 - 1) 26 [some (ev_o 9 a), some (ev_i x0), some (ev_i x1)] [] z Q o) (sg_X9_require_0 0 ?_) (fun o z h => h) rfl
      refine j_pos (by decide : ((0 : Int32) = 0)) ?_
      exact ev_T_out (by decide) rfl hQ
  · rw [if_neg c1]
    replace hQ := hQ.2 c1
    refine ev_if_eq 25 dX9_queueLength_11 (by decide) (fun _ => ?_) (fun h9 => absurd (by decide : ((0 : Int32) = 0)) h9)
    refine ev_iconst (0) dX9_queueLength_25 rfl ?_
    refine ev_cS ms_X9_require 1 1 [ev_i 0] [] dX9_queueLength_26 kw_1343 rfl (by decide) (by decide) (Nat.le_of_ble_eq_true rfl) (Q' := fun o z => ev_After g m_X9_queueLength 3 (1 - 1) 26 [some (ev_o 9 a), some (ev_i x0), some (ev_i x1)] [] z Q o) (sg_X9_require_0 0 ?_) (fun o z h => h) rfl
    refine j_pos (by decide : ((0 : Int32) = 0)) ?_
    exact ev_T_out (by decide) rfl hQ
set_option maxHeartbeats 4000000 in
set_option maxRecDepth 100000 in
theorem sg_X6_count_0 {g : ev_G} {S : ev_S} {Q : ev_O → ev_S → Prop} (a : Nat) (hQ : Q (.inl (some (ev_i (S.1 a 13)))) S) : ev_Cv g m_X6_count 1 0 [ev_o 6 a] S Q := by
  refine ev_enter (by decide) rfl rfl (Nat.le_of_ble_eq_true rfl) ?_
  show ev_E g m_X6_count 1 0 0 [some (ev_o 6 a)] [] S Q
  refine ev_aload_n (ev_o 6 a) dX6_count_0 rfl rfl ?_
  refine gf_6_13 dX6_count_1 kw_342 ?_
  exact ev_ireturn .int dX6_count_4 rfl rfl hQ
set_option maxHeartbeats 4000000 in
set_option maxRecDepth 100000 in
theorem sp_X6_count {g : ev_G} {S : ev_S} (a : Nat)  : ev_Fn g m_X6_count 1 [ev_o 6 a] S (some (ev_i (S.1 a 13))) S := by
  intro Q hQ
  refine sg_X6_count_0 a ?_
  exact hQ
set_option maxHeartbeats 4000000 in
set_option maxRecDepth 100000 in
theorem sg_X9_letterCount_0 {g : ev_G} {S : ev_S} {Q : ev_O → ev_S → Prop} (a : Nat) (hQ : Q (.inl (some (ev_i (S.1 (a + 30) 13)))) S) : ev_Cv g m_X9_letterCount 2 0 [ev_o 9 a] S Q := by
  refine ev_enter (by decide) rfl rfl (Nat.le_of_ble_eq_true rfl) ?_
  show ev_E g m_X9_letterCount 2 0 0 [some (ev_o 9 a)] [] S Q
  refine ev_aload_n (ev_o 9 a) dX9_letterCount_0 rfl rfl ?_
  refine gf_9_3 dX9_letterCount_1 kw_690 ?_
  refine ev_fV mv_X2_post 1 2 [] [] dX9_letterCount_4 kw_1137 rfl (by decide) rfl (by decide) (Nat.le_of_ble_eq_true rfl) (sp_X2_post (a + 11)) ?_ rfl
  refine ev_fV mv_X6_count 1 6 [] [] dX9_letterCount_7 kw_1141 rfl (by decide) rfl (by decide) (Nat.le_of_ble_eq_true rfl) (sp_X6_count (a + 30)) ?_ rfl
  exact ev_ireturn .int dX9_letterCount_10 rfl rfl hQ
set_option maxHeartbeats 4000000 in
set_option maxRecDepth 100000 in
theorem sp_X9_letterCount {g : ev_G} {S : ev_S} (a : Nat)  : ev_Fn g m_X9_letterCount 2 [ev_o 9 a] S (some (ev_i (S.1 (a + 30) 13))) S := by
  intro Q hQ
  refine sg_X9_letterCount_0 a ?_
  exact hQ
set_option maxHeartbeats 4000000 in
set_option maxRecDepth 100000 in
theorem sg_X9_writer_0 {g : ev_G} {S : ev_S} {Q : ev_O → ev_S → Prop} (a : Nat) (x0 : Int32) (hQ : ((t_X6_exists S (a + 30) x0) = true → (
    Q (.inl (some (ev_i (j_at (S.1 (a + 35)) 84 x0)))) S)) ∧
  (¬ ((t_X6_exists S (a + 30) x0) = true) → (
    Q (.inr 0) S))) : ev_Cv g m_X9_writer 3 1 [ev_o 9 a, ev_i x0] S Q := by
  refine ev_enter (by decide) rfl rfl (Nat.le_of_ble_eq_true rfl) ?_
  show ev_E g m_X9_writer 3 1 0 [some (ev_o 9 a), some (ev_i x0)] [] S Q
  refine ev_aload_n (ev_o 9 a) dX9_writer_0 rfl rfl ?_
  refine gf_9_3 dX9_writer_1 kw_690 ?_
  refine ev_fV mv_X2_post 1 2 [] [] dX9_writer_4 kw_1137 rfl (by decide) rfl (by decide) (Nat.le_of_ble_eq_true rfl) (sp_X2_post (a + 11)) ?_ rfl
  refine ev_iload_n (x0) dX9_writer_7 rfl ?_
  refine ev_fV mv_X6_exists 1 6 [ev_i x0] [] dX9_writer_8 kw_1511 rfl (by decide) rfl (by decide) (Nat.le_of_ble_eq_true rfl) (sp_X6_exists (a + 30) x0) ?_ rfl
  by_cases c1 : (t_X6_exists S (a + 30) x0) = true
  · rw [if_pos c1]
    replace hQ := hQ.1 c1
    refine ev_cS ms_X9_require 1 1 [ev_i 1] [] dX9_writer_11 kw_1343 rfl (by decide) (by decide) (Nat.le_of_ble_eq_true rfl) (Q' := fun o z => ev_After g m_X9_writer 3 (1 - 1) 11 [some (ev_o 9 a), some (ev_i x0)] [] z Q o) (sg_X9_require_0 1 ?_) (fun o z h => h) rfl
    refine j_neg (by decide : ¬ ((1 : Int32) = 0)) ?_
    show ev_E g m_X9_writer 3 0 14 [some (ev_o 9 a), some (ev_i x0)] [] S Q
    refine ev_aload_n (ev_o 9 a) dX9_writer_14 rfl rfl ?_
    refine gf_9_3 dX9_writer_15 kw_690 ?_
    refine ev_fV mv_X2_post 1 2 [] [] dX9_writer_18 kw_1137 rfl (by decide) rfl (by decide) (Nat.le_of_ble_eq_true rfl) (sp_X2_post (a + 11)) ?_ rfl
    refine ev_iload_n (x0) dX9_writer_21 rfl ?_
    refine ev_fV mv_X6_writerOf 2 6 [ev_i x0] [] dX9_writer_22 kw_1512 rfl (by decide) rfl (by decide) (Nat.le_of_ble_eq_true rfl) (sp_X6_writerOf (a + 30) x0) ?_ rfl
    exact ev_ireturn .int dX9_writer_25 rfl rfl hQ
  · rw [if_neg c1]
    replace hQ := hQ.2 c1
    refine ev_cS ms_X9_require 1 1 [ev_i 0] [] dX9_writer_11 kw_1343 rfl (by decide) (by decide) (Nat.le_of_ble_eq_true rfl) (Q' := fun o z => ev_After g m_X9_writer 3 (1 - 1) 11 [some (ev_o 9 a), some (ev_i x0)] [] z Q o) (sg_X9_require_0 0 ?_) (fun o z h => h) rfl
    refine j_pos (by decide : ((0 : Int32) = 0)) ?_
    exact ev_T_out (by decide) rfl hQ
set_option maxHeartbeats 4000000 in
set_option maxRecDepth 100000 in
theorem sg_X9_letterNumber_0 {g : ev_G} {S : ev_S} {Q : ev_O → ev_S → Prop} (a : Nat) (x0 : Int32) (hQ : ((t_X6_exists S (a + 30) x0) = true → (
    Q (.inl (some (ev_i (j_at (S.1 (a + 36)) 84 x0)))) S)) ∧
  (¬ ((t_X6_exists S (a + 30) x0) = true) → (
    Q (.inr 0) S))) : ev_Cv g m_X9_letterNumber 3 1 [ev_o 9 a, ev_i x0] S Q := by
  refine ev_enter (by decide) rfl rfl (Nat.le_of_ble_eq_true rfl) ?_
  show ev_E g m_X9_letterNumber 3 1 0 [some (ev_o 9 a), some (ev_i x0)] [] S Q
  refine ev_aload_n (ev_o 9 a) dX9_letterNumber_0 rfl rfl ?_
  refine gf_9_3 dX9_letterNumber_1 kw_690 ?_
  refine ev_fV mv_X2_post 1 2 [] [] dX9_letterNumber_4 kw_1137 rfl (by decide) rfl (by decide) (Nat.le_of_ble_eq_true rfl) (sp_X2_post (a + 11)) ?_ rfl
  refine ev_iload_n (x0) dX9_letterNumber_7 rfl ?_
  refine ev_fV mv_X6_exists 1 6 [ev_i x0] [] dX9_letterNumber_8 kw_1511 rfl (by decide) rfl (by decide) (Nat.le_of_ble_eq_true rfl) (sp_X6_exists (a + 30) x0) ?_ rfl
  by_cases c1 : (t_X6_exists S (a + 30) x0) = true
  · rw [if_pos c1]
    replace hQ := hQ.1 c1
    refine ev_cS ms_X9_require 1 1 [ev_i 1] [] dX9_letterNumber_11 kw_1343 rfl (by decide) (by decide) (Nat.le_of_ble_eq_true rfl) (Q' := fun o z => ev_After g m_X9_letterNumber 3 (1 - 1) 11 [some (ev_o 9 a), some (ev_i x0)] [] z Q o) (sg_X9_require_0 1 ?_) (fun o z h => h) rfl
    refine j_neg (by decide : ¬ ((1 : Int32) = 0)) ?_
    show ev_E g m_X9_letterNumber 3 0 14 [some (ev_o 9 a), some (ev_i x0)] [] S Q
    refine ev_aload_n (ev_o 9 a) dX9_letterNumber_14 rfl rfl ?_
    refine gf_9_3 dX9_letterNumber_15 kw_690 ?_
    refine ev_fV mv_X2_post 1 2 [] [] dX9_letterNumber_18 kw_1137 rfl (by decide) rfl (by decide) (Nat.le_of_ble_eq_true rfl) (sp_X2_post (a + 11)) ?_ rfl
    refine ev_iload_n (x0) dX9_letterNumber_21 rfl ?_
    refine ev_fV mv_X6_numberOf 2 6 [ev_i x0] [] dX9_letterNumber_22 kw_1520 rfl (by decide) rfl (by decide) (Nat.le_of_ble_eq_true rfl) (sp_X6_numberOf (a + 30) x0) ?_ rfl
    exact ev_ireturn .int dX9_letterNumber_25 rfl rfl hQ
  · rw [if_neg c1]
    replace hQ := hQ.2 c1
    refine ev_cS ms_X9_require 1 1 [ev_i 0] [] dX9_letterNumber_11 kw_1343 rfl (by decide) (by decide) (Nat.le_of_ble_eq_true rfl) (Q' := fun o z => ev_After g m_X9_letterNumber 3 (1 - 1) 11 [some (ev_o 9 a), some (ev_i x0)] [] z Q o) (sg_X9_require_0 0 ?_) (fun o z h => h) rfl
    refine j_pos (by decide : ((0 : Int32) = 0)) ?_
    exact ev_T_out (by decide) rfl hQ
set_option maxHeartbeats 4000000 in
set_option maxRecDepth 100000 in
theorem sg_X9_isPromise_0 {g : ev_G} {S : ev_S} {Q : ev_O → ev_S → Prop} (a : Nat) (x0 : Int32) (hQ : ((t_X6_exists S (a + 30) x0) = true → (
    ((j_at (S.1 (a + 38)) 84 x0) = (-1) → (
      Q (.inl (some (ev_i 0))) S)) ∧
    (¬ ((j_at (S.1 (a + 38)) 84 x0) = (-1)) → (
      Q (.inl (some (ev_i 1))) S)))) ∧
  (¬ ((t_X6_exists S (a + 30) x0) = true) → (
    Q (.inr 0) S))) : ev_Cv g m_X9_isPromise 3 1 [ev_o 9 a, ev_i x0] S Q := by
  refine ev_enter (by decide) rfl rfl (Nat.le_of_ble_eq_true rfl) ?_
  show ev_E g m_X9_isPromise 3 1 0 [some (ev_o 9 a), some (ev_i x0)] [] S Q
  refine ev_aload_n (ev_o 9 a) dX9_isPromise_0 rfl rfl ?_
  refine gf_9_3 dX9_isPromise_1 kw_690 ?_
  refine ev_fV mv_X2_post 1 2 [] [] dX9_isPromise_4 kw_1137 rfl (by decide) rfl (by decide) (Nat.le_of_ble_eq_true rfl) (sp_X2_post (a + 11)) ?_ rfl
  refine ev_iload_n (x0) dX9_isPromise_7 rfl ?_
  refine ev_fV mv_X6_exists 1 6 [ev_i x0] [] dX9_isPromise_8 kw_1511 rfl (by decide) rfl (by decide) (Nat.le_of_ble_eq_true rfl) (sp_X6_exists (a + 30) x0) ?_ rfl
  by_cases c1 : (t_X6_exists S (a + 30) x0) = true
  · rw [if_pos c1]
    replace hQ := hQ.1 c1
    refine ev_cS ms_X9_require 1 1 [ev_i 1] [] dX9_isPromise_11 kw_1343 rfl (by decide) (by decide) (Nat.le_of_ble_eq_true rfl) (Q' := fun o z => ev_After g m_X9_isPromise 3 (1 - 1) 11 [some (ev_o 9 a), some (ev_i x0)] [] z Q o) (sg_X9_require_0 1 ?_) (fun o z h => h) rfl
    refine j_neg (by decide : ¬ ((1 : Int32) = 0)) ?_
    show ev_E g m_X9_isPromise 3 0 14 [some (ev_o 9 a), some (ev_i x0)] [] S Q
    refine ev_aload_n (ev_o 9 a) dX9_isPromise_14 rfl rfl ?_
    refine gf_9_3 dX9_isPromise_15 kw_690 ?_
    refine ev_fV mv_X2_post 1 2 [] [] dX9_isPromise_18 kw_1137 rfl (by decide) rfl (by decide) (Nat.le_of_ble_eq_true rfl) (sp_X2_post (a + 11)) ?_ rfl
    refine ev_iload_n (x0) dX9_isPromise_21 rfl ?_
    refine ev_fV mv_X6_expectedOf 2 6 [ev_i x0] [] dX9_isPromise_22 kw_1528 rfl (by decide) rfl (by decide) (Nat.le_of_ble_eq_true rfl) (sp_X6_expectedOf (a + 30) x0) ?_ rfl
    refine ev_iconst (-1) dX9_isPromise_25 rfl ?_
    refine ev_icmp_eq 33 dX9_isPromise_26 (by decide) (fun c2 => ?_) (fun c2 => ?_)
    · replace hQ := hQ.1 c2
      refine ev_iconst (0) dX9_isPromise_33 rfl ?_
      exact ev_ireturn .boolean dX9_isPromise_34 rfl rfl hQ
    · replace hQ := hQ.2 c2
      refine ev_iconst (1) dX9_isPromise_29 rfl ?_
      refine ev_goto 34 dX9_isPromise_30 (by decide) ?_
      exact ev_ireturn .boolean dX9_isPromise_34 rfl rfl hQ
  · rw [if_neg c1]
    replace hQ := hQ.2 c1
    refine ev_cS ms_X9_require 1 1 [ev_i 0] [] dX9_isPromise_11 kw_1343 rfl (by decide) (by decide) (Nat.le_of_ble_eq_true rfl) (Q' := fun o z => ev_After g m_X9_isPromise 3 (1 - 1) 11 [some (ev_o 9 a), some (ev_i x0)] [] z Q o) (sg_X9_require_0 0 ?_) (fun o z h => h) rfl
    refine j_pos (by decide : ((0 : Int32) = 0)) ?_
    exact ev_T_out (by decide) rfl hQ
set_option maxHeartbeats 4000000 in
set_option maxRecDepth 100000 in
theorem sg_X9_letterState_0 {g : ev_G} {S : ev_S} {Q : ev_O → ev_S → Prop} (a : Nat) (x0 : Int32) (hQ : ((t_X6_exists S (a + 30) x0) = true → (
    Q (.inl (some (ev_i (j_at (S.1 (a + 40)) 84 x0)))) S)) ∧
  (¬ ((t_X6_exists S (a + 30) x0) = true) → (
    Q (.inr 0) S))) : ev_Cv g m_X9_letterState 3 1 [ev_o 9 a, ev_i x0] S Q := by
  refine ev_enter (by decide) rfl rfl (Nat.le_of_ble_eq_true rfl) ?_
  show ev_E g m_X9_letterState 3 1 0 [some (ev_o 9 a), some (ev_i x0)] [] S Q
  refine ev_aload_n (ev_o 9 a) dX9_letterState_0 rfl rfl ?_
  refine gf_9_3 dX9_letterState_1 kw_690 ?_
  refine ev_fV mv_X2_post 1 2 [] [] dX9_letterState_4 kw_1137 rfl (by decide) rfl (by decide) (Nat.le_of_ble_eq_true rfl) (sp_X2_post (a + 11)) ?_ rfl
  refine ev_iload_n (x0) dX9_letterState_7 rfl ?_
  refine ev_fV mv_X6_exists 1 6 [ev_i x0] [] dX9_letterState_8 kw_1511 rfl (by decide) rfl (by decide) (Nat.le_of_ble_eq_true rfl) (sp_X6_exists (a + 30) x0) ?_ rfl
  by_cases c1 : (t_X6_exists S (a + 30) x0) = true
  · rw [if_pos c1]
    replace hQ := hQ.1 c1
    refine ev_cS ms_X9_require 1 1 [ev_i 1] [] dX9_letterState_11 kw_1343 rfl (by decide) (by decide) (Nat.le_of_ble_eq_true rfl) (Q' := fun o z => ev_After g m_X9_letterState 3 (1 - 1) 11 [some (ev_o 9 a), some (ev_i x0)] [] z Q o) (sg_X9_require_0 1 ?_) (fun o z h => h) rfl
    refine j_neg (by decide : ¬ ((1 : Int32) = 0)) ?_
    show ev_E g m_X9_letterState 3 0 14 [some (ev_o 9 a), some (ev_i x0)] [] S Q
    refine ev_aload_n (ev_o 9 a) dX9_letterState_14 rfl rfl ?_
    refine gf_9_3 dX9_letterState_15 kw_690 ?_
    refine ev_fV mv_X2_post 1 2 [] [] dX9_letterState_18 kw_1137 rfl (by decide) rfl (by decide) (Nat.le_of_ble_eq_true rfl) (sp_X2_post (a + 11)) ?_ rfl
    refine ev_iload_n (x0) dX9_letterState_21 rfl ?_
    refine ev_fV mv_X6_stateOf 2 6 [ev_i x0] [] dX9_letterState_22 kw_1536 rfl (by decide) rfl (by decide) (Nat.le_of_ble_eq_true rfl) (sp_X6_stateOf (a + 30) x0) ?_ rfl
    exact ev_ireturn .int dX9_letterState_25 rfl rfl hQ
  · rw [if_neg c1]
    replace hQ := hQ.2 c1
    refine ev_cS ms_X9_require 1 1 [ev_i 0] [] dX9_letterState_11 kw_1343 rfl (by decide) (by decide) (Nat.le_of_ble_eq_true rfl) (Q' := fun o z => ev_After g m_X9_letterState 3 (1 - 1) 11 [some (ev_o 9 a), some (ev_i x0)] [] z Q o) (sg_X9_require_0 0 ?_) (fun o z h => h) rfl
    refine j_pos (by decide : ((0 : Int32) = 0)) ?_
    exact ev_T_out (by decide) rfl hQ
set_option maxHeartbeats 4000000 in
set_option maxRecDepth 100000 in
theorem sg_X2_awaitedBy_0 {g : ev_G} {S : ev_S} {Q : ev_O → ev_S → Prop} (a : Nat) (x0 : Int32) (hQ : ev_E g m_X2_awaitedBy 3 0 11 [some (ev_o 2 a), some (ev_i x0), some (ev_i ((S.1 ((a_X2_deskOf a x0) + 1) 6) + 1)), some (ev_i 0)] [] S Q) : ev_Cv g m_X2_awaitedBy 3 0 [ev_o 2 a, ev_i x0] S Q := by
  refine ev_enter (by decide) rfl rfl (Nat.le_of_ble_eq_true rfl) ?_
  show ev_E g m_X2_awaitedBy 3 0 0 [some (ev_o 2 a), some (ev_i x0), none, none] [] S Q
  refine ev_aload_n (ev_o 2 a) dX2_awaitedBy_0 rfl rfl ?_
  refine ev_iload_n (x0) dX2_awaitedBy_1 rfl ?_
  refine ev_fV mv_X2_boardOf 2 2 [ev_i x0] [] dX2_awaitedBy_2 kw_858 rfl (by decide) rfl (by decide) (Nat.le_of_ble_eq_true rfl) (sp_X2_boardOf a x0) ?_ rfl
  refine ev_fV mv_X0_nextNumber 1 0 [] [] dX2_awaitedBy_5 kw_901 rfl (by decide) rfl (by decide) (Nat.le_of_ble_eq_true rfl) (sp_X0_nextNumber ((a_X2_deskOf a x0) + 1)) ?_ rfl
  refine ev_istore_n dX2_awaitedBy_8 (Nat.le_of_ble_eq_true rfl) (ev_hw rfl) ?_
  show ev_E g m_X2_awaitedBy 3 0 9 [some (ev_o 2 a), some (ev_i x0), some (ev_i ((S.1 ((a_X2_deskOf a x0) + 1) 6) + 1)), none] [] S Q
  refine ev_iconst (0) dX2_awaitedBy_9 rfl ?_
  refine ev_istore_n dX2_awaitedBy_10 (Nat.le_of_ble_eq_true rfl) (ev_hw rfl) ?_
  show ev_E g m_X2_awaitedBy 3 0 11 [some (ev_o 2 a), some (ev_i x0), some (ev_i ((S.1 ((a_X2_deskOf a x0) + 1) 6) + 1)), some (ev_i 0)] [] S Q
  exact hQ
set_option maxHeartbeats 4000000 in
set_option maxRecDepth 100000 in
theorem sg_X2_awaitedBy_11 {g : ev_G} {S : ev_S} {Q : ev_O → ev_S → Prop} (a : Nat) (u1 : Int32) (u2 : Int32) (u3 : Int32) (hQ : ((S.1 (a + 19) 13) ≤ u3 → (
    Q (.inl (some (ev_i (-1)))) S)) ∧
  (¬ ((S.1 (a + 19) 13) ≤ u3) → (
    ((j_at (S.1 (a + 24)) 84 u3) = u1 → (
      ev_E g m_X2_awaitedBy 3 0 11 [some (ev_o 2 a), some (ev_i u1), some (ev_i u2), some (ev_i (u3 + 1))] [] S Q)) ∧
    (¬ ((j_at (S.1 (a + 24)) 84 u3) = u1) → (
      ((j_at (S.1 (a + 29)) 84 u3) = 2 → (
        ev_E g m_X2_awaitedBy 3 0 11 [some (ev_o 2 a), some (ev_i u1), some (ev_i u2), some (ev_i (u3 + 1))] [] S Q)) ∧
      (¬ ((j_at (S.1 (a + 29)) 84 u3) = 2) → (
        ((j_at (S.1 (a + 25)) 84 u3) = u2 → (
          Q (.inl (some (ev_i u3))) S)) ∧
        (¬ ((j_at (S.1 (a + 25)) 84 u3) = u2) → (
          ev_E g m_X2_awaitedBy 3 0 11 [some (ev_o 2 a), some (ev_i u1), some (ev_i u2), some (ev_i (u3 + 1))] [] S Q))))))))) : ev_E g m_X2_awaitedBy 3 0 11 [some (ev_o 2 a), some (ev_i u1), some (ev_i u2), some (ev_i u3)] [] S Q := by
  refine ev_iload_n (u3) dX2_awaitedBy_11 rfl ?_
  refine ev_aload_n (ev_o 2 a) dX2_awaitedBy_12 rfl rfl ?_
  refine gf_2_2 dX2_awaitedBy_13 kw_388 ?_
  refine ev_fV mv_X6_count 1 6 [] [ev_i u3] dX2_awaitedBy_16 kw_1548 rfl (by decide) rfl (by decide) (Nat.le_of_ble_eq_true rfl) (sp_X6_count (a + 19)) ?_ rfl
  refine ev_icmp_ge 66 dX2_awaitedBy_19 (by decide) (fun c1 => ?_) (fun c1 => ?_)
  · replace hQ := hQ.1 c1
    refine ev_iconst (-1) dX2_awaitedBy_66 rfl ?_
    exact ev_ireturn .int dX2_awaitedBy_67 rfl rfl hQ
  · replace hQ := hQ.2 c1
    refine ev_aload_n (ev_o 2 a) dX2_awaitedBy_22 rfl rfl ?_
    refine gf_2_2 dX2_awaitedBy_23 kw_388 ?_
    refine ev_iload_n (u3) dX2_awaitedBy_26 rfl ?_
    refine ev_fV mv_X6_writerOf 2 6 [ev_i u3] [] dX2_awaitedBy_27 kw_983 rfl (by decide) rfl (by decide) (Nat.le_of_ble_eq_true rfl) (sp_X6_writerOf (a + 19) u3) ?_ rfl
    refine ev_iload_n (u1) dX2_awaitedBy_30 rfl ?_
    refine ev_icmp_eq 60 dX2_awaitedBy_31 (by decide) (fun c2 => ?_) (fun c2 => ?_)
    · replace hQ := hQ.1 c2
      refine ev_iinc u3 (1) dX2_awaitedBy_60 rfl (by decide) (ev_hw rfl) ?_
      show ev_E g m_X2_awaitedBy 3 0 63 [some (ev_o 2 a), some (ev_i u1), some (ev_i u2), some (ev_i (u3 + 1))] [] S Q
      refine ev_goto 11 dX2_awaitedBy_63 (by decide) ?_
      exact hQ
    · replace hQ := hQ.2 c2
      refine ev_aload_n (ev_o 2 a) dX2_awaitedBy_34 rfl rfl ?_
      refine gf_2_2 dX2_awaitedBy_35 kw_388 ?_
      refine ev_iload_n (u3) dX2_awaitedBy_38 rfl ?_
      refine ev_fV mv_X6_stateOf 2 6 [ev_i u3] [] dX2_awaitedBy_39 kw_1549 rfl (by decide) rfl (by decide) (Nat.le_of_ble_eq_true rfl) (sp_X6_stateOf (a + 19) u3) ?_ rfl
      refine ev_iconst (2) dX2_awaitedBy_42 rfl ?_
      refine ev_icmp_eq 60 dX2_awaitedBy_43 (by decide) (fun c3 => ?_) (fun c3 => ?_)
      · replace hQ := hQ.1 c3
        refine ev_iinc u3 (1) dX2_awaitedBy_60 rfl (by decide) (ev_hw rfl) ?_
        show ev_E g m_X2_awaitedBy 3 0 63 [some (ev_o 2 a), some (ev_i u1), some (ev_i u2), some (ev_i (u3 + 1))] [] S Q
        refine ev_goto 11 dX2_awaitedBy_63 (by decide) ?_
        exact hQ
      · replace hQ := hQ.2 c3
        refine ev_aload_n (ev_o 2 a) dX2_awaitedBy_46 rfl rfl ?_
        refine gf_2_2 dX2_awaitedBy_47 kw_388 ?_
        refine ev_iload_n (u3) dX2_awaitedBy_50 rfl ?_
        refine ev_fV mv_X6_numberOf 2 6 [ev_i u3] [] dX2_awaitedBy_51 kw_987 rfl (by decide) rfl (by decide) (Nat.le_of_ble_eq_true rfl) (sp_X6_numberOf (a + 19) u3) ?_ rfl
        refine ev_iload_n (u2) dX2_awaitedBy_54 rfl ?_
        refine ev_icmp_ne 60 dX2_awaitedBy_55 (by decide) (fun c4 => ?_) (fun c4 => ?_)
        · replace hQ := hQ.2 c4
          refine ev_iinc u3 (1) dX2_awaitedBy_60 rfl (by decide) (ev_hw rfl) ?_
          show ev_E g m_X2_awaitedBy 3 0 63 [some (ev_o 2 a), some (ev_i u1), some (ev_i u2), some (ev_i (u3 + 1))] [] S Q
          refine ev_goto 11 dX2_awaitedBy_63 (by decide) ?_
          exact hQ
        · replace hQ := hQ.1 c4
          refine ev_iload_n (u3) dX2_awaitedBy_58 rfl ?_
          exact ev_ireturn .int dX2_awaitedBy_59 rfl rfl hQ
set_option maxHeartbeats 4000000 in
set_option maxRecDepth 100000 in
theorem sg_X9_awaitedLetter_0 {g : ev_G} {S : ev_S} {Q : ev_O → ev_S → Prop} (a : Nat) (x0 : Int32) (hQ : ((t_X9_isPlayer x0) = true → (
    ev_Cv g m_X2_awaitedBy 3 0 [ev_o 2 (a + 11), ev_i x0] S (fun o S1 => ∃ v1_ : Int32, o = .inl (some (ev_i v1_)) ∧ (
      Q (.inl (some (ev_i v1_))) S1)))) ∧
  (¬ ((t_X9_isPlayer x0) = true) → (
    Q (.inr 0) S))) : ev_Cv g m_X9_awaitedLetter 4 1 [ev_o 9 a, ev_i x0] S Q := by
  refine ev_enter (by decide) rfl rfl (Nat.le_of_ble_eq_true rfl) ?_
  show ev_E g m_X9_awaitedLetter 4 1 0 [some (ev_o 9 a), some (ev_i x0)] [] S Q
  refine ev_iload_n (x0) dX9_awaitedLetter_0 rfl ?_
  refine ev_fS ms_X9_isPlayer 1 [ev_i x0] [] dX9_awaitedLetter_1 kw_1341 rfl (by decide) (Nat.le_of_ble_eq_true rfl) (sp_X9_isPlayer x0) ?_ rfl
  by_cases c1 : (t_X9_isPlayer x0) = true
  · rw [if_pos c1]
    replace hQ := hQ.1 c1
    refine ev_cS ms_X9_require 1 1 [ev_i 1] [] dX9_awaitedLetter_4 kw_1343 rfl (by decide) (by decide) (Nat.le_of_ble_eq_true rfl) (Q' := fun o z => ev_After g m_X9_awaitedLetter 4 (1 - 1) 4 [some (ev_o 9 a), some (ev_i x0)] [] z Q o) (sg_X9_require_0 1 ?_) (fun o z h => h) rfl
    refine j_neg (by decide : ¬ ((1 : Int32) = 0)) ?_
    show ev_E g m_X9_awaitedLetter 4 0 7 [some (ev_o 9 a), some (ev_i x0)] [] S Q
    refine ev_aload_n (ev_o 9 a) dX9_awaitedLetter_7 rfl rfl ?_
    refine gf_9_3 dX9_awaitedLetter_8 kw_690 ?_
    refine ev_iload_n (x0) dX9_awaitedLetter_11 rfl ?_
    refine ev_cV mv_X2_awaitedBy 3 0 2 [ev_i x0] [] dX9_awaitedLetter_12 kw_1544 rfl (by decide) rfl (by decide) (by decide) (Nat.le_of_ble_eq_true rfl) hQ ?_ rfl
    rintro o S1 ⟨v1_, rfl, hQ⟩
    show ev_E g m_X9_awaitedLetter 4 0 15 [some (ev_o 9 a), some (ev_i x0)] [ev_i v1_] S1 Q
    exact ev_ireturn .int dX9_awaitedLetter_15 rfl rfl hQ
  · rw [if_neg c1]
    replace hQ := hQ.2 c1
    refine ev_cS ms_X9_require 1 1 [ev_i 0] [] dX9_awaitedLetter_4 kw_1343 rfl (by decide) (by decide) (Nat.le_of_ble_eq_true rfl) (Q' := fun o z => ev_After g m_X9_awaitedLetter 4 (1 - 1) 4 [some (ev_o 9 a), some (ev_i x0)] [] z Q o) (sg_X9_require_0 0 ?_) (fun o z h => h) rfl
    refine j_pos (by decide : ((0 : Int32) = 0)) ?_
    exact ev_T_out (by decide) rfl hQ
set_option maxHeartbeats 4000000 in
set_option maxRecDepth 100000 in
theorem sg_X9_reasonToWait_0 {g : ev_G} {S : ev_S} {Q : ev_O → ev_S → Prop} (a : Nat) (x0 : Int32) (hQ : ((t_X9_isPlayer x0) = true → (
    ((t_X1_mayPlay S (a_X2_deskOf (a + 11) x0)) = true → (
      Q (.inl (some (ev_i 0))) S)) ∧
    (¬ ((t_X1_mayPlay S (a_X2_deskOf (a + 11) x0)) = true) → (
      ((t_X0_isFinished S ((a_X2_deskOf (a + 11) x0) + 1)) = true → (
        Q (.inl (some (ev_i 1))) S)) ∧
      (¬ ((t_X0_isFinished S ((a_X2_deskOf (a + 11) x0) + 1)) = true) → (
        ev_Cv g m_X2_awaitedBy 3 0 [ev_o 2 (a + 11), ev_i x0] S (fun o S1 => ∃ v1_ : Int32, o = .inl (some (ev_i v1_)) ∧ (
          (v1_ = (-1) → (
            Q (.inl (some (ev_i 2))) S1)) ∧
          (¬ (v1_ = (-1)) → (
            ((j_at (S1.1 (a + 40)) 84 v1_) = 0 → (
              Q (.inl (some (ev_i 3))) S1)) ∧
            (¬ ((j_at (S1.1 (a + 40)) 84 v1_) = 0) → (
              Q (.inl (some (ev_i 4))) S1)))))))))))) ∧
  (¬ ((t_X9_isPlayer x0) = true) → (
    Q (.inr 0) S))) : ev_Cv g m_X9_reasonToWait 5 1 [ev_o 9 a, ev_i x0] S Q := by
  refine ev_enter (by decide) rfl rfl (Nat.le_of_ble_eq_true rfl) ?_
  show ev_E g m_X9_reasonToWait 5 1 0 [some (ev_o 9 a), some (ev_i x0), none] [] S Q
  refine ev_iload_n (x0) dX9_reasonToWait_0 rfl ?_
  refine ev_fS ms_X9_isPlayer 1 [ev_i x0] [] dX9_reasonToWait_1 kw_1341 rfl (by decide) (Nat.le_of_ble_eq_true rfl) (sp_X9_isPlayer x0) ?_ rfl
  by_cases c1 : (t_X9_isPlayer x0) = true
  · rw [if_pos c1]
    replace hQ := hQ.1 c1
    refine ev_cS ms_X9_require 1 1 [ev_i 1] [] dX9_reasonToWait_4 kw_1343 rfl (by decide) (by decide) (Nat.le_of_ble_eq_true rfl) (Q' := fun o z => ev_After g m_X9_reasonToWait 5 (1 - 1) 4 [some (ev_o 9 a), some (ev_i x0), none] [] z Q o) (sg_X9_require_0 1 ?_) (fun o z h => h) rfl
    refine j_neg (by decide : ¬ ((1 : Int32) = 0)) ?_
    show ev_E g m_X9_reasonToWait 5 0 7 [some (ev_o 9 a), some (ev_i x0), none] [] S Q
    refine ev_aload_n (ev_o 9 a) dX9_reasonToWait_7 rfl rfl ?_
    refine gf_9_3 dX9_reasonToWait_8 kw_690 ?_
    refine ev_iload_n (x0) dX9_reasonToWait_11 rfl ?_
    refine ev_fV mv_X2_deskOf 1 2 [ev_i x0] [] dX9_reasonToWait_12 kw_1384 rfl (by decide) rfl (by decide) (Nat.le_of_ble_eq_true rfl) (sp_X2_deskOf (a + 11) x0) ?_ rfl
    refine ev_fV mv_X1_mayPlay 4 1 [] [] dX9_reasonToWait_15 kw_1385 rfl (by decide) rfl (by decide) (Nat.le_of_ble_eq_true rfl) (sp_X1_mayPlay (a_X2_deskOf (a + 11) x0)) ?_ rfl
    by_cases c2 : (t_X1_mayPlay S (a_X2_deskOf (a + 11) x0)) = true
    · rw [if_pos c2]
      replace hQ := hQ.1 c2
      refine ev_if_eq 23 dX9_reasonToWait_18 (by decide) (fun h9 => absurd h9 (by decide : ¬ ((1 : Int32) = 0))) (fun _ => ?_)
      refine ev_iconst (0) dX9_reasonToWait_21 rfl ?_
      exact ev_ireturn .int dX9_reasonToWait_22 rfl rfl hQ
    · rw [if_neg c2]
      replace hQ := hQ.2 c2
      refine ev_if_eq 23 dX9_reasonToWait_18 (by decide) (fun _ => ?_) (fun h9 => absurd (by decide : ((0 : Int32) = 0)) h9)
      refine ev_aload_n (ev_o 9 a) dX9_reasonToWait_23 rfl rfl ?_
      refine gf_9_3 dX9_reasonToWait_24 kw_690 ?_
      refine ev_iload_n (x0) dX9_reasonToWait_27 rfl ?_
      refine ev_fV mv_X2_boardOf 2 2 [ev_i x0] [] dX9_reasonToWait_28 kw_577 rfl (by decide) rfl (by decide) (Nat.le_of_ble_eq_true rfl) (sp_X2_boardOf (a + 11) x0) ?_ rfl
      refine ev_fV mv_X0_isFinished 3 0 [] [] dX9_reasonToWait_31 kw_1393 rfl (by decide) rfl (by decide) (Nat.le_of_ble_eq_true rfl) (sp_X0_isFinished ((a_X2_deskOf (a + 11) x0) + 1)) ?_ rfl
      by_cases c3 : (t_X0_isFinished S ((a_X2_deskOf (a + 11) x0) + 1)) = true
      · rw [if_pos c3]
        replace hQ := hQ.1 c3
        refine ev_if_eq 39 dX9_reasonToWait_34 (by decide) (fun h9 => absurd h9 (by decide : ¬ ((1 : Int32) = 0))) (fun _ => ?_)
        refine ev_iconst (1) dX9_reasonToWait_37 rfl ?_
        exact ev_ireturn .int dX9_reasonToWait_38 rfl rfl hQ
      · rw [if_neg c3]
        replace hQ := hQ.2 c3
        refine ev_if_eq 39 dX9_reasonToWait_34 (by decide) (fun _ => ?_) (fun h9 => absurd (by decide : ((0 : Int32) = 0)) h9)
        refine ev_aload_n (ev_o 9 a) dX9_reasonToWait_39 rfl rfl ?_
        refine gf_9_3 dX9_reasonToWait_40 kw_690 ?_
        refine ev_iload_n (x0) dX9_reasonToWait_43 rfl ?_
        refine ev_cV mv_X2_awaitedBy 3 0 2 [ev_i x0] [] dX9_reasonToWait_44 kw_1544 rfl (by decide) rfl (by decide) (by decide) (Nat.le_of_ble_eq_true rfl) hQ ?_ rfl
        rintro o S1 ⟨v1_, rfl, hQ⟩
        show ev_E g m_X9_reasonToWait 5 0 47 [some (ev_o 9 a), some (ev_i x0), none] [ev_i v1_] S1 Q
        refine ev_istore_n dX9_reasonToWait_47 (Nat.le_of_ble_eq_true rfl) (ev_hw rfl) ?_
        show ev_E g m_X9_reasonToWait 5 0 48 [some (ev_o 9 a), some (ev_i x0), some (ev_i v1_)] [] S1 Q
        refine ev_iload_n (v1_) dX9_reasonToWait_48 rfl ?_
        refine ev_iconst (-1) dX9_reasonToWait_49 rfl ?_
        refine ev_icmp_ne 55 dX9_reasonToWait_50 (by decide) (fun c4 => ?_) (fun c4 => ?_)
        · replace hQ := hQ.2 c4
          refine ev_aload_n (ev_o 9 a) dX9_reasonToWait_55 rfl rfl ?_
          refine gf_9_3 dX9_reasonToWait_56 kw_690 ?_
          refine ev_fV mv_X2_post 1 2 [] [] dX9_reasonToWait_59 kw_1137 rfl (by decide) rfl (by decide) (Nat.le_of_ble_eq_true rfl) (sp_X2_post (a + 11)) ?_ rfl
          refine ev_iload_n (v1_) dX9_reasonToWait_62 rfl ?_
          refine ev_fV mv_X6_stateOf 2 6 [ev_i v1_] [] dX9_reasonToWait_63 kw_1536 rfl (by decide) rfl (by decide) (Nat.le_of_ble_eq_true rfl) (sp_X6_stateOf (a + 30) v1_) ?_ rfl
          refine ev_if_ne 73 dX9_reasonToWait_66 (by decide) (fun c5 => ?_) (fun c5 => ?_)
          · replace hQ := hQ.2 c5
            refine ev_iconst (4) dX9_reasonToWait_73 rfl ?_
            exact ev_ireturn .int dX9_reasonToWait_74 rfl rfl hQ
          · replace hQ := hQ.1 c5
            refine ev_iconst (3) dX9_reasonToWait_69 rfl ?_
            refine ev_goto 74 dX9_reasonToWait_70 (by decide) ?_
            exact ev_ireturn .int dX9_reasonToWait_74 rfl rfl hQ
        · replace hQ := hQ.1 c4
          refine ev_iconst (2) dX9_reasonToWait_53 rfl ?_
          exact ev_ireturn .int dX9_reasonToWait_54 rfl rfl hQ
  · rw [if_neg c1]
    replace hQ := hQ.2 c1
    refine ev_cS ms_X9_require 1 1 [ev_i 0] [] dX9_reasonToWait_4 kw_1343 rfl (by decide) (by decide) (Nat.le_of_ble_eq_true rfl) (Q' := fun o z => ev_After g m_X9_reasonToWait 5 (1 - 1) 4 [some (ev_o 9 a), some (ev_i x0), none] [] z Q o) (sg_X9_require_0 0 ?_) (fun o z h => h) rfl
    refine j_pos (by decide : ((0 : Int32) = 0)) ?_
    exact ev_T_out (by decide) rfl hQ
set_option maxHeartbeats 4000000 in
set_option maxRecDepth 100000 in
theorem sg_X2_duplicates_0 {g : ev_G} {S : ev_S} {Q : ev_O → ev_S → Prop} (a : Nat) (hQ : Q (.inl (some (ev_i (S.1 a 5)))) S) : ev_Cv g m_X2_duplicates 1 0 [ev_o 2 a] S Q := by
  refine ev_enter (by decide) rfl rfl (Nat.le_of_ble_eq_true rfl) ?_
  show ev_E g m_X2_duplicates 1 0 0 [some (ev_o 2 a)] [] S Q
  refine ev_aload_n (ev_o 2 a) dX2_duplicates_0 rfl rfl ?_
  refine gf_2_5 dX2_duplicates_1 kw_391 ?_
  exact ev_ireturn .int dX2_duplicates_4 rfl rfl hQ
set_option maxHeartbeats 4000000 in
set_option maxRecDepth 100000 in
theorem sp_X2_duplicates {g : ev_G} {S : ev_S} (a : Nat)  : ev_Fn g m_X2_duplicates 1 [ev_o 2 a] S (some (ev_i (S.1 a 5))) S := by
  intro Q hQ
  refine sg_X2_duplicates_0 a ?_
  exact hQ
set_option maxHeartbeats 4000000 in
set_option maxRecDepth 100000 in
theorem sg_X9_duplicateCount_0 {g : ev_G} {S : ev_S} {Q : ev_O → ev_S → Prop} (a : Nat) (hQ : Q (.inl (some (ev_i (S.1 (a + 11) 5)))) S) : ev_Cv g m_X9_duplicateCount 2 0 [ev_o 9 a] S Q := by
  refine ev_enter (by decide) rfl rfl (Nat.le_of_ble_eq_true rfl) ?_
  show ev_E g m_X9_duplicateCount 2 0 0 [some (ev_o 9 a)] [] S Q
  refine ev_aload_n (ev_o 9 a) dX9_duplicateCount_0 rfl rfl ?_
  refine gf_9_3 dX9_duplicateCount_1 kw_690 ?_
  refine ev_fV mv_X2_duplicates 1 2 [] [] dX9_duplicateCount_4 kw_1149 rfl (by decide) rfl (by decide) (Nat.le_of_ble_eq_true rfl) (sp_X2_duplicates (a + 11)) ?_ rfl
  exact ev_ireturn .int dX9_duplicateCount_7 rfl rfl hQ
set_option maxHeartbeats 4000000 in
set_option maxRecDepth 100000 in
theorem sp_X9_duplicateCount {g : ev_G} {S : ev_S} (a : Nat)  : ev_Fn g m_X9_duplicateCount 2 [ev_o 9 a] S (some (ev_i (S.1 (a + 11) 5))) S := by
  intro Q hQ
  refine sg_X9_duplicateCount_0 a ?_
  exact hQ
set_option maxHeartbeats 4000000 in
set_option maxRecDepth 100000 in
theorem sg_X1_keptCount_0 {g : ev_G} {S : ev_S} {Q : ev_O → ev_S → Prop} (a : Nat) (hQ : Q (.inl (some (ev_i (S.1 a 6)))) S) : ev_Cv g m_X1_keptCount 1 0 [ev_o 1 a] S Q := by
  refine ev_enter (by decide) rfl rfl (Nat.le_of_ble_eq_true rfl) ?_
  show ev_E g m_X1_keptCount 1 0 0 [some (ev_o 1 a)] [] S Q
  refine ev_aload_n (ev_o 1 a) dX1_keptCount_0 rfl rfl ?_
  refine gf_1_6 dX1_keptCount_1 kw_273 ?_
  exact ev_ireturn .int dX1_keptCount_4 rfl rfl hQ
set_option maxHeartbeats 4000000 in
set_option maxRecDepth 100000 in
theorem sp_X1_keptCount {g : ev_G} {S : ev_S} (a : Nat)  : ev_Fn g m_X1_keptCount 1 [ev_o 1 a] S (some (ev_i (S.1 a 6))) S := by
  intro Q hQ
  refine sg_X1_keptCount_0 a ?_
  exact hQ
set_option maxHeartbeats 4000000 in
set_option maxRecDepth 100000 in
theorem sg_X9_keptPromises_0 {g : ev_G} {S : ev_S} {Q : ev_O → ev_S → Prop} (a : Nat) (x0 : Int32) (hQ : ((t_X9_isPlayer x0) = true → (
    Q (.inl (some (ev_i (S.1 (a_X2_deskOf (a + 11) x0) 6)))) S)) ∧
  (¬ ((t_X9_isPlayer x0) = true) → (
    Q (.inr 0) S))) : ev_Cv g m_X9_keptPromises 2 1 [ev_o 9 a, ev_i x0] S Q := by
  refine ev_enter (by decide) rfl rfl (Nat.le_of_ble_eq_true rfl) ?_
  show ev_E g m_X9_keptPromises 2 1 0 [some (ev_o 9 a), some (ev_i x0)] [] S Q
  refine ev_iload_n (x0) dX9_keptPromises_0 rfl ?_
  refine ev_fS ms_X9_isPlayer 1 [ev_i x0] [] dX9_keptPromises_1 kw_1341 rfl (by decide) (Nat.le_of_ble_eq_true rfl) (sp_X9_isPlayer x0) ?_ rfl
  by_cases c1 : (t_X9_isPlayer x0) = true
  · rw [if_pos c1]
    replace hQ := hQ.1 c1
    refine ev_cS ms_X9_require 1 1 [ev_i 1] [] dX9_keptPromises_4 kw_1343 rfl (by decide) (by decide) (Nat.le_of_ble_eq_true rfl) (Q' := fun o z => ev_After g m_X9_keptPromises 2 (1 - 1) 4 [some (ev_o 9 a), some (ev_i x0)] [] z Q o) (sg_X9_require_0 1 ?_) (fun o z h => h) rfl
    refine j_neg (by decide : ¬ ((1 : Int32) = 0)) ?_
    show ev_E g m_X9_keptPromises 2 0 7 [some (ev_o 9 a), some (ev_i x0)] [] S Q
    refine ev_aload_n (ev_o 9 a) dX9_keptPromises_7 rfl rfl ?_
    refine gf_9_3 dX9_keptPromises_8 kw_690 ?_
    refine ev_iload_n (x0) dX9_keptPromises_11 rfl ?_
    refine ev_fV mv_X2_deskOf 1 2 [ev_i x0] [] dX9_keptPromises_12 kw_1384 rfl (by decide) rfl (by decide) (Nat.le_of_ble_eq_true rfl) (sp_X2_deskOf (a + 11) x0) ?_ rfl
    refine ev_fV mv_X1_keptCount 1 1 [] [] dX9_keptPromises_15 kw_1564 rfl (by decide) rfl (by decide) (Nat.le_of_ble_eq_true rfl) (sp_X1_keptCount (a_X2_deskOf (a + 11) x0)) ?_ rfl
    exact ev_ireturn .int dX9_keptPromises_18 rfl rfl hQ
  · rw [if_neg c1]
    replace hQ := hQ.2 c1
    refine ev_cS ms_X9_require 1 1 [ev_i 0] [] dX9_keptPromises_4 kw_1343 rfl (by decide) (by decide) (Nat.le_of_ble_eq_true rfl) (Q' := fun o z => ev_After g m_X9_keptPromises 2 (1 - 1) 4 [some (ev_o 9 a), some (ev_i x0)] [] z Q o) (sg_X9_require_0 0 ?_) (fun o z h => h) rfl
    refine j_pos (by decide : ((0 : Int32) = 0)) ?_
    exact ev_T_out (by decide) rfl hQ
set_option maxHeartbeats 4000000 in
set_option maxRecDepth 100000 in
theorem sg_X1_longest_0 {g : ev_G} {S : ev_S} {Q : ev_O → ev_S → Prop} (a : Nat) (hQ : Q (.inl (some (ev_i (S.1 a 10)))) S) : ev_Cv g m_X1_longest 1 0 [ev_o 1 a] S Q := by
  refine ev_enter (by decide) rfl rfl (Nat.le_of_ble_eq_true rfl) ?_
  show ev_E g m_X1_longest 1 0 0 [some (ev_o 1 a)] [] S Q
  refine ev_aload_n (ev_o 1 a) dX1_longest_0 rfl rfl ?_
  refine gf_1_10 dX1_longest_1 kw_277 ?_
  exact ev_ireturn .int dX1_longest_4 rfl rfl hQ
set_option maxHeartbeats 4000000 in
set_option maxRecDepth 100000 in
theorem sp_X1_longest {g : ev_G} {S : ev_S} (a : Nat)  : ev_Fn g m_X1_longest 1 [ev_o 1 a] S (some (ev_i (S.1 a 10))) S := by
  intro Q hQ
  refine sg_X1_longest_0 a ?_
  exact hQ
set_option maxHeartbeats 4000000 in
set_option maxRecDepth 100000 in
theorem sg_X9_longestWait_0 {g : ev_G} {S : ev_S} {Q : ev_O → ev_S → Prop} (a : Nat) (x0 : Int32) (hQ : ((t_X9_isPlayer x0) = true → (
    Q (.inl (some (ev_i (S.1 (a_X2_deskOf (a + 11) x0) 10)))) S)) ∧
  (¬ ((t_X9_isPlayer x0) = true) → (
    Q (.inr 0) S))) : ev_Cv g m_X9_longestWait 2 1 [ev_o 9 a, ev_i x0] S Q := by
  refine ev_enter (by decide) rfl rfl (Nat.le_of_ble_eq_true rfl) ?_
  show ev_E g m_X9_longestWait 2 1 0 [some (ev_o 9 a), some (ev_i x0)] [] S Q
  refine ev_iload_n (x0) dX9_longestWait_0 rfl ?_
  refine ev_fS ms_X9_isPlayer 1 [ev_i x0] [] dX9_longestWait_1 kw_1341 rfl (by decide) (Nat.le_of_ble_eq_true rfl) (sp_X9_isPlayer x0) ?_ rfl
  by_cases c1 : (t_X9_isPlayer x0) = true
  · rw [if_pos c1]
    replace hQ := hQ.1 c1
    refine ev_cS ms_X9_require 1 1 [ev_i 1] [] dX9_longestWait_4 kw_1343 rfl (by decide) (by decide) (Nat.le_of_ble_eq_true rfl) (Q' := fun o z => ev_After g m_X9_longestWait 2 (1 - 1) 4 [some (ev_o 9 a), some (ev_i x0)] [] z Q o) (sg_X9_require_0 1 ?_) (fun o z h => h) rfl
    refine j_neg (by decide : ¬ ((1 : Int32) = 0)) ?_
    show ev_E g m_X9_longestWait 2 0 7 [some (ev_o 9 a), some (ev_i x0)] [] S Q
    refine ev_aload_n (ev_o 9 a) dX9_longestWait_7 rfl rfl ?_
    refine gf_9_3 dX9_longestWait_8 kw_690 ?_
    refine ev_iload_n (x0) dX9_longestWait_11 rfl ?_
    refine ev_fV mv_X2_deskOf 1 2 [ev_i x0] [] dX9_longestWait_12 kw_1384 rfl (by decide) rfl (by decide) (Nat.le_of_ble_eq_true rfl) (sp_X2_deskOf (a + 11) x0) ?_ rfl
    refine ev_fV mv_X1_longest 1 1 [] [] dX9_longestWait_15 kw_1575 rfl (by decide) rfl (by decide) (Nat.le_of_ble_eq_true rfl) (sp_X1_longest (a_X2_deskOf (a + 11) x0)) ?_ rfl
    exact ev_ireturn .int dX9_longestWait_18 rfl rfl hQ
  · rw [if_neg c1]
    replace hQ := hQ.2 c1
    refine ev_cS ms_X9_require 1 1 [ev_i 0] [] dX9_longestWait_4 kw_1343 rfl (by decide) (by decide) (Nat.le_of_ble_eq_true rfl) (Q' := fun o z => ev_After g m_X9_longestWait 2 (1 - 1) 4 [some (ev_o 9 a), some (ev_i x0)] [] z Q o) (sg_X9_require_0 0 ?_) (fun o z h => h) rfl
    refine j_pos (by decide : ((0 : Int32) = 0)) ?_
    exact ev_T_out (by decide) rfl hQ
set_option maxHeartbeats 4000000 in
set_option maxRecDepth 100000 in
theorem sg_X1_waits_0 {g : ev_G} {S : ev_S} {Q : ev_O → ev_S → Prop} (a : Nat) (hQ : Q (.inl (some (ev_i (S.1 a 8)))) S) : ev_Cv g m_X1_waits 1 0 [ev_o 1 a] S Q := by
  refine ev_enter (by decide) rfl rfl (Nat.le_of_ble_eq_true rfl) ?_
  show ev_E g m_X1_waits 1 0 0 [some (ev_o 1 a)] [] S Q
  refine ev_aload_n (ev_o 1 a) dX1_waits_0 rfl rfl ?_
  refine gf_1_8 dX1_waits_1 kw_275 ?_
  exact ev_ireturn .int dX1_waits_4 rfl rfl hQ
set_option maxHeartbeats 4000000 in
set_option maxRecDepth 100000 in
theorem sp_X1_waits {g : ev_G} {S : ev_S} (a : Nat)  : ev_Fn g m_X1_waits 1 [ev_o 1 a] S (some (ev_i (S.1 a 8))) S := by
  intro Q hQ
  refine sg_X1_waits_0 a ?_
  exact hQ
set_option maxHeartbeats 4000000 in
set_option maxRecDepth 100000 in
theorem sg_X1_waitSum_0 {g : ev_G} {S : ev_S} {Q : ev_O → ev_S → Prop} (a : Nat) (hQ : Q (.inl (some (ev_i (S.1 a 9)))) S) : ev_Cv g m_X1_waitSum 1 0 [ev_o 1 a] S Q := by
  refine ev_enter (by decide) rfl rfl (Nat.le_of_ble_eq_true rfl) ?_
  show ev_E g m_X1_waitSum 1 0 0 [some (ev_o 1 a)] [] S Q
  refine ev_aload_n (ev_o 1 a) dX1_waitSum_0 rfl rfl ?_
  refine gf_1_9 dX1_waitSum_1 kw_276 ?_
  exact ev_ireturn .int dX1_waitSum_4 rfl rfl hQ
set_option maxHeartbeats 4000000 in
set_option maxRecDepth 100000 in
theorem sp_X1_waitSum {g : ev_G} {S : ev_S} (a : Nat)  : ev_Fn g m_X1_waitSum 1 [ev_o 1 a] S (some (ev_i (S.1 a 9))) S := by
  intro Q hQ
  refine sg_X1_waitSum_0 a ?_
  exact hQ
set_option maxHeartbeats 4000000 in
set_option maxRecDepth 100000 in
theorem sg_X9_meanWait_0 {g : ev_G} {S : ev_S} {Q : ev_O → ev_S → Prop} (a : Nat) (x0 : Int32) (hQ : ((t_X9_isPlayer x0) = true → (
    ((S.1 (a_X2_deskOf (a + 11) x0) 8) = 0 → (
      Q (.inl (some (ev_d 0))) S)) ∧
    (¬ ((S.1 (a_X2_deskOf (a + 11) x0) 8) = 0) → (
      (vf_n64 (FP.ddiv (FP.i2d (S.1 (a_X2_deskOf (a + 11) x0) 9)) (FP.i2d (S.1 (a_X2_deskOf (a + 11) x0) 8)))) ∧ (
        Q (.inl (some (ev_d (FP.ddiv (FP.i2d (S.1 (a_X2_deskOf (a + 11) x0) 9)) (FP.i2d (S.1 (a_X2_deskOf (a + 11) x0) 8)))))) S))))) ∧
  (¬ ((t_X9_isPlayer x0) = true) → (
    Q (.inr 0) S))) : ev_Cv g m_X9_meanWait 2 1 [ev_o 9 a, ev_i x0] S Q := by
  refine ev_enter (by decide) rfl rfl (Nat.le_of_ble_eq_true rfl) ?_
  show ev_E g m_X9_meanWait 2 1 0 [some (ev_o 9 a), some (ev_i x0), none, none] [] S Q
  refine ev_iload_n (x0) dX9_meanWait_0 rfl ?_
  refine ev_fS ms_X9_isPlayer 1 [ev_i x0] [] dX9_meanWait_1 kw_1341 rfl (by decide) (Nat.le_of_ble_eq_true rfl) (sp_X9_isPlayer x0) ?_ rfl
  by_cases c1 : (t_X9_isPlayer x0) = true
  · rw [if_pos c1]
    replace hQ := hQ.1 c1
    refine ev_cS ms_X9_require 1 1 [ev_i 1] [] dX9_meanWait_4 kw_1343 rfl (by decide) (by decide) (Nat.le_of_ble_eq_true rfl) (Q' := fun o z => ev_After g m_X9_meanWait 2 (1 - 1) 4 [some (ev_o 9 a), some (ev_i x0), none, none] [] z Q o) (sg_X9_require_0 1 ?_) (fun o z h => h) rfl
    refine j_neg (by decide : ¬ ((1 : Int32) = 0)) ?_
    show ev_E g m_X9_meanWait 2 0 7 [some (ev_o 9 a), some (ev_i x0), none, none] [] S Q
    refine ev_aload_n (ev_o 9 a) dX9_meanWait_7 rfl rfl ?_
    refine gf_9_3 dX9_meanWait_8 kw_690 ?_
    refine ev_iload_n (x0) dX9_meanWait_11 rfl ?_
    refine ev_fV mv_X2_deskOf 1 2 [ev_i x0] [] dX9_meanWait_12 kw_1384 rfl (by decide) rfl (by decide) (Nat.le_of_ble_eq_true rfl) (sp_X2_deskOf (a + 11) x0) ?_ rfl
    refine ev_astore_n dX9_meanWait_15 rfl (Nat.le_of_ble_eq_true rfl) (ev_hw rfl) ?_
    show ev_E g m_X9_meanWait 2 0 16 [some (ev_o 9 a), some (ev_i x0), some (ev_o 1 (a_X2_deskOf (a + 11) x0)), none] [] S Q
    refine ev_aload_n (ev_o 1 (a_X2_deskOf (a + 11) x0)) dX9_meanWait_16 rfl rfl ?_
    refine ev_fV mv_X1_waits 1 1 [] [] dX9_meanWait_17 kw_1586 rfl (by decide) rfl (by decide) (Nat.le_of_ble_eq_true rfl) (sp_X1_waits (a_X2_deskOf (a + 11) x0)) ?_ rfl
    refine ev_istore_n dX9_meanWait_20 (Nat.le_of_ble_eq_true rfl) (ev_hw rfl) ?_
    show ev_E g m_X9_meanWait 2 0 21 [some (ev_o 9 a), some (ev_i x0), some (ev_o 1 (a_X2_deskOf (a + 11) x0)), some (ev_i (S.1 (a_X2_deskOf (a + 11) x0) 8))] [] S Q
    refine ev_iload_n ((S.1 (a_X2_deskOf (a + 11) x0) 8)) dX9_meanWait_21 rfl ?_
    refine ev_if_ne 29 dX9_meanWait_22 (by decide) (fun c2 => ?_) (fun c2 => ?_)
    · replace hQ := hQ.2 c2
      refine ev_aload_n (ev_o 1 (a_X2_deskOf (a + 11) x0)) dX9_meanWait_29 rfl rfl ?_
      refine ev_fV mv_X1_waitSum 1 1 [] [] dX9_meanWait_30 kw_1590 rfl (by decide) rfl (by decide) (Nat.le_of_ble_eq_true rfl) (sp_X1_waitSum (a_X2_deskOf (a + 11) x0)) ?_ rfl
      refine ev_i2d dX9_meanWait_33 ?_
      refine ev_iload_n ((S.1 (a_X2_deskOf (a + 11) x0) 8)) dX9_meanWait_34 rfl ?_
      refine ev_i2d dX9_meanWait_35 ?_
      obtain ⟨h1, hQ⟩ := hQ
      refine ev_ddiv dX9_meanWait_36 h1 ?_
      exact ev_dreturn dX9_meanWait_37 rfl hQ
    · replace hQ := hQ.1 c2
      refine ev_dconst0 dX9_meanWait_25 ?_
      refine ev_goto 37 dX9_meanWait_26 (by decide) ?_
      exact ev_dreturn dX9_meanWait_37 rfl hQ
  · rw [if_neg c1]
    replace hQ := hQ.2 c1
    refine ev_cS ms_X9_require 1 1 [ev_i 0] [] dX9_meanWait_4 kw_1343 rfl (by decide) (by decide) (Nat.le_of_ble_eq_true rfl) (Q' := fun o z => ev_After g m_X9_meanWait 2 (1 - 1) 4 [some (ev_o 9 a), some (ev_i x0), none, none] [] z Q o) (sg_X9_require_0 0 ?_) (fun o z h => h) rfl
    refine j_pos (by decide : ((0 : Int32) = 0)) ?_
    exact ev_T_out (by decide) rfl hQ
set_option maxHeartbeats 4000000 in
set_option maxRecDepth 100000 in
theorem sg_X6_arrivedCount_0 {g : ev_G} {S : ev_S} {Q : ev_O → ev_S → Prop} (a : Nat) (hQ : Q (.inl (some (ev_i (S.1 a 16)))) S) : ev_Cv g m_X6_arrivedCount 1 0 [ev_o 6 a] S Q := by
  refine ev_enter (by decide) rfl rfl (Nat.le_of_ble_eq_true rfl) ?_
  show ev_E g m_X6_arrivedCount 1 0 0 [some (ev_o 6 a)] [] S Q
  refine ev_aload_n (ev_o 6 a) dX6_arrivedCount_0 rfl rfl ?_
  refine gf_6_16 dX6_arrivedCount_1 kw_345 ?_
  exact ev_ireturn .int dX6_arrivedCount_4 rfl rfl hQ
set_option maxHeartbeats 4000000 in
set_option maxRecDepth 100000 in
theorem sp_X6_arrivedCount {g : ev_G} {S : ev_S} (a : Nat)  : ev_Fn g m_X6_arrivedCount 1 [ev_o 6 a] S (some (ev_i (S.1 a 16))) S := by
  intro Q hQ
  refine sg_X6_arrivedCount_0 a ?_
  exact hQ
set_option maxHeartbeats 4000000 in
set_option maxRecDepth 100000 in
theorem sg_X6_travelSum_0 {g : ev_G} {S : ev_S} {Q : ev_O → ev_S → Prop} (a : Nat) (hQ : Q (.inl (some (ev_i (S.1 a 17)))) S) : ev_Cv g m_X6_travelSum 1 0 [ev_o 6 a] S Q := by
  refine ev_enter (by decide) rfl rfl (Nat.le_of_ble_eq_true rfl) ?_
  show ev_E g m_X6_travelSum 1 0 0 [some (ev_o 6 a)] [] S Q
  refine ev_aload_n (ev_o 6 a) dX6_travelSum_0 rfl rfl ?_
  refine gf_6_17 dX6_travelSum_1 kw_346 ?_
  exact ev_ireturn .int dX6_travelSum_4 rfl rfl hQ
set_option maxHeartbeats 4000000 in
set_option maxRecDepth 100000 in
theorem sp_X6_travelSum {g : ev_G} {S : ev_S} (a : Nat)  : ev_Fn g m_X6_travelSum 1 [ev_o 6 a] S (some (ev_i (S.1 a 17))) S := by
  intro Q hQ
  refine sg_X6_travelSum_0 a ?_
  exact hQ
set_option maxHeartbeats 4000000 in
set_option maxRecDepth 100000 in
theorem sg_X9_meanTravel_0 {g : ev_G} {S : ev_S} {Q : ev_O → ev_S → Prop} (a : Nat) (hQ : ((S.1 (a + 30) 16) = 0 → (
    Q (.inl (some (ev_f 0))) S)) ∧
  (¬ ((S.1 (a + 30) 16) = 0) → (
    (vf_n32 (FP.fdiv (FP.i2f (S.1 (a + 30) 17)) (FP.i2f (S.1 (a + 30) 16)))) ∧ (
      Q (.inl (some (ev_f (FP.fdiv (FP.i2f (S.1 (a + 30) 17)) (FP.i2f (S.1 (a + 30) 16)))))) S)))) : ev_Cv g m_X9_meanTravel 2 0 [ev_o 9 a] S Q := by
  refine ev_enter (by decide) rfl rfl (Nat.le_of_ble_eq_true rfl) ?_
  show ev_E g m_X9_meanTravel 2 0 0 [some (ev_o 9 a), none] [] S Q
  refine ev_aload_n (ev_o 9 a) dX9_meanTravel_0 rfl rfl ?_
  refine gf_9_3 dX9_meanTravel_1 kw_690 ?_
  refine ev_fV mv_X2_post 1 2 [] [] dX9_meanTravel_4 kw_1137 rfl (by decide) rfl (by decide) (Nat.le_of_ble_eq_true rfl) (sp_X2_post (a + 11)) ?_ rfl
  refine ev_fV mv_X6_arrivedCount 1 6 [] [] dX9_meanTravel_7 kw_1157 rfl (by decide) rfl (by decide) (Nat.le_of_ble_eq_true rfl) (sp_X6_arrivedCount (a + 30)) ?_ rfl
  refine ev_istore_n dX9_meanTravel_10 (Nat.le_of_ble_eq_true rfl) (ev_hw rfl) ?_
  show ev_E g m_X9_meanTravel 2 0 11 [some (ev_o 9 a), some (ev_i (S.1 (a + 30) 16))] [] S Q
  refine ev_iload_n ((S.1 (a + 30) 16)) dX9_meanTravel_11 rfl ?_
  refine ev_if_ne 19 dX9_meanTravel_12 (by decide) (fun c1 => ?_) (fun c1 => ?_)
  · replace hQ := hQ.2 c1
    refine ev_aload_n (ev_o 9 a) dX9_meanTravel_19 rfl rfl ?_
    refine gf_9_3 dX9_meanTravel_20 kw_690 ?_
    refine ev_fV mv_X2_post 1 2 [] [] dX9_meanTravel_23 kw_1137 rfl (by decide) rfl (by decide) (Nat.le_of_ble_eq_true rfl) (sp_X2_post (a + 11)) ?_ rfl
    refine ev_fV mv_X6_travelSum 1 6 [] [] dX9_meanTravel_26 kw_1161 rfl (by decide) rfl (by decide) (Nat.le_of_ble_eq_true rfl) (sp_X6_travelSum (a + 30)) ?_ rfl
    refine ev_i2f dX9_meanTravel_29 ?_
    refine ev_iload_n ((S.1 (a + 30) 16)) dX9_meanTravel_30 rfl ?_
    refine ev_i2f dX9_meanTravel_31 ?_
    obtain ⟨h1, hQ⟩ := hQ
    refine ev_fdiv dX9_meanTravel_32 h1 ?_
    exact ev_freturn dX9_meanTravel_33 rfl hQ
  · replace hQ := hQ.1 c1
    refine ev_fconst0 dX9_meanTravel_15 ?_
    refine ev_goto 33 dX9_meanTravel_16 (by decide) ?_
    exact ev_freturn dX9_meanTravel_33 rfl hQ
set_option maxHeartbeats 4000000 in
set_option maxRecDepth 100000 in
theorem sg_X0_differencesFrom_0 {g : ev_G} {S : ev_S} {Q : ev_O → ev_S → Prop} (a : Nat) (b0 : Nat) (hQ : ev_E g m_X0_differencesFrom 3 0 17 [some (ev_o 0 a), some (ev_o 0 b0), some (ev_i 0), some (ev_i (ev_min (S.1 a 6) (S.1 b0 6))), some (ev_i 1)] [] S Q) : ev_Cv g m_X0_differencesFrom 3 0 [ev_o 0 a, ev_o 0 b0] S Q := by
  refine ev_enter (by decide) rfl rfl (Nat.le_of_ble_eq_true rfl) ?_
  show ev_E g m_X0_differencesFrom 3 0 0 [some (ev_o 0 a), some (ev_o 0 b0), none, none, none] [] S Q
  refine ev_iconst (0) dX0_differencesFrom_0 rfl ?_
  refine ev_istore_n dX0_differencesFrom_1 (Nat.le_of_ble_eq_true rfl) (ev_hw rfl) ?_
  show ev_E g m_X0_differencesFrom 3 0 2 [some (ev_o 0 a), some (ev_o 0 b0), some (ev_i 0), none, none] [] S Q
  refine ev_aload_n (ev_o 0 a) dX0_differencesFrom_2 rfl rfl ?_
  refine gf_0_6 dX0_differencesFrom_3 kw_245 ?_
  refine ev_aload_n (ev_o 0 b0) dX0_differencesFrom_6 rfl rfl ?_
  refine gf_0_6 dX0_differencesFrom_7 kw_245 ?_
  refine ev_mathMin dX0_differencesFrom_10 kw_1177 kw_513 kw_123 kw_514 (Nat.le_of_ble_eq_true rfl) ?_
  refine ev_istore_n dX0_differencesFrom_13 (Nat.le_of_ble_eq_true rfl) (ev_hw rfl) ?_
  show ev_E g m_X0_differencesFrom 3 0 14 [some (ev_o 0 a), some (ev_o 0 b0), some (ev_i 0), some (ev_i (ev_min (S.1 a 6) (S.1 b0 6))), none] [] S Q
  refine ev_iconst (1) dX0_differencesFrom_14 rfl ?_
  refine ev_istore dX0_differencesFrom_15 (Nat.le_of_ble_eq_true rfl) (ev_hw rfl) ?_
  show ev_E g m_X0_differencesFrom 3 0 17 [some (ev_o 0 a), some (ev_o 0 b0), some (ev_i 0), some (ev_i (ev_min (S.1 a 6) (S.1 b0 6))), some (ev_i 1)] [] S Q
  exact hQ
set_option maxHeartbeats 4000000 in
set_option maxRecDepth 100000 in
theorem sg_X0_differencesFrom_17 {g : ev_G} {S : ev_S} {Q : ev_O → ev_S → Prop} (a : Nat) (b0 : Nat) (u2 : Int32) (u3 : Int32) (u4 : Int32) (hQ : (u3 < u4 → (
    Q (.inl (some (ev_i u2))) S)) ∧
  (¬ (u3 < u4) → (
    ((f_X0_moveAt S a u4) = (f_X0_moveAt S b0 u4) → (
      ev_E g m_X0_differencesFrom 3 0 17 [some (ev_o 0 a), some (ev_o 0 b0), some (ev_i u2), some (ev_i u3), some (ev_i (u4 + 1))] [] S Q)) ∧
    (¬ ((f_X0_moveAt S a u4) = (f_X0_moveAt S b0 u4)) → (
      ev_E g m_X0_differencesFrom 3 0 17 [some (ev_o 0 a), some (ev_o 0 b0), some (ev_i (u2 + 1)), some (ev_i u3), some (ev_i (u4 + 1))] [] S Q))))) : ev_E g m_X0_differencesFrom 3 0 17 [some (ev_o 0 a), some (ev_o 0 b0), some (ev_i u2), some (ev_i u3), some (ev_i u4)] [] S Q := by
  refine ev_iload (u4) dX0_differencesFrom_17 rfl ?_
  refine ev_iload_n (u3) dX0_differencesFrom_19 rfl ?_
  refine ev_icmp_gt 47 dX0_differencesFrom_20 (by decide) (fun c1 => ?_) (fun c1 => ?_)
  · replace hQ := hQ.1 c1
    refine ev_iload_n (u2) dX0_differencesFrom_47 rfl ?_
    exact ev_ireturn .int dX0_differencesFrom_48 rfl rfl hQ
  · replace hQ := hQ.2 c1
    refine ev_aload_n (ev_o 0 a) dX0_differencesFrom_23 rfl rfl ?_
    refine ev_iload (u4) dX0_differencesFrom_24 rfl ?_
    refine ev_fV mv_X0_moveAt 2 0 [ev_i u4] [] dX0_differencesFrom_26 kw_1178 rfl (by decide) rfl (by decide) (Nat.le_of_ble_eq_true rfl) (sp_X0_moveAt a u4) ?_ rfl
    refine ev_aload_n (ev_o 0 b0) dX0_differencesFrom_29 rfl rfl ?_
    refine ev_iload (u4) dX0_differencesFrom_30 rfl ?_
    refine ev_fV mv_X0_moveAt 2 0 [ev_i u4] [ev_i (f_X0_moveAt S a u4)] dX0_differencesFrom_32 kw_1178 rfl (by decide) rfl (by decide) (Nat.le_of_ble_eq_true rfl) (sp_X0_moveAt b0 u4) ?_ rfl
    refine ev_icmp_eq 41 dX0_differencesFrom_35 (by decide) (fun c2 => ?_) (fun c2 => ?_)
    · replace hQ := hQ.1 c2
      refine ev_iinc u4 (1) dX0_differencesFrom_41 rfl (by decide) (ev_hw rfl) ?_
      show ev_E g m_X0_differencesFrom 3 0 44 [some (ev_o 0 a), some (ev_o 0 b0), some (ev_i u2), some (ev_i u3), some (ev_i (u4 + 1))] [] S Q
      refine ev_goto 17 dX0_differencesFrom_44 (by decide) ?_
      exact hQ
    · replace hQ := hQ.2 c2
      refine ev_iinc u2 (1) dX0_differencesFrom_38 rfl (by decide) (ev_hw rfl) ?_
      show ev_E g m_X0_differencesFrom 3 0 41 [some (ev_o 0 a), some (ev_o 0 b0), some (ev_i (u2 + 1)), some (ev_i u3), some (ev_i u4)] [] S Q
      refine ev_iinc u4 (1) dX0_differencesFrom_41 rfl (by decide) (ev_hw rfl) ?_
      show ev_E g m_X0_differencesFrom 3 0 44 [some (ev_o 0 a), some (ev_o 0 b0), some (ev_i (u2 + 1)), some (ev_i u3), some (ev_i (u4 + 1))] [] S Q
      refine ev_goto 17 dX0_differencesFrom_44 (by decide) ?_
      exact hQ
set_option maxHeartbeats 4000000 in
set_option maxRecDepth 100000 in
theorem sg_X0_bishopsAstray_0 {g : ev_G} {S : ev_S} {Q : ev_O → ev_S → Prop} (a : Nat) (hQ : ev_E g m_X0_bishopsAstray 3 0 4 [some (ev_o 0 a), some (ev_i 0), some (ev_i 0)] [] S Q) : ev_Cv g m_X0_bishopsAstray 3 0 [ev_o 0 a] S Q := by
  refine ev_enter (by decide) rfl rfl (Nat.le_of_ble_eq_true rfl) ?_
  show ev_E g m_X0_bishopsAstray 3 0 0 [some (ev_o 0 a), none, none] [] S Q
  refine ev_iconst (0) dX0_bishopsAstray_0 rfl ?_
  refine ev_istore_n dX0_bishopsAstray_1 (Nat.le_of_ble_eq_true rfl) (ev_hw rfl) ?_
  show ev_E g m_X0_bishopsAstray 3 0 2 [some (ev_o 0 a), some (ev_i 0), none] [] S Q
  refine ev_iconst (0) dX0_bishopsAstray_2 rfl ?_
  refine ev_istore_n dX0_bishopsAstray_3 (Nat.le_of_ble_eq_true rfl) (ev_hw rfl) ?_
  show ev_E g m_X0_bishopsAstray 3 0 4 [some (ev_o 0 a), some (ev_i 0), some (ev_i 0)] [] S Q
  exact hQ
set_option maxHeartbeats 4000000 in
set_option maxRecDepth 100000 in
theorem sg_X0_bishopsAstray_4 {g : ev_G} {S : ev_S} {Q : ev_O → ev_S → Prop} (a : Nat) (u1 : Int32) (u2 : Int32) (hQ : (64 ≤ u2 → (
    Q (.inl (some (ev_i (ev_abs ((S.1 a 8) - (u1 + (S.1 a 7))))))) S)) ∧
  (¬ (64 ≤ u2) → (
    ((j_at (S.1 (a + 1)) 64 u2) = (-1) → (
      ev_E g m_X0_bishopsAstray 3 0 4 [some (ev_o 0 a), some (ev_i u1), some (ev_i (u2 + 1))] [] S Q)) ∧
    (¬ ((j_at (S.1 (a + 1)) 64 u2) = (-1)) → (
      ev_E g m_X0_bishopsAstray 3 0 4 [some (ev_o 0 a), some (ev_i (u1 + 1)), some (ev_i (u2 + 1))] [] S Q))))) : ev_E g m_X0_bishopsAstray 3 0 4 [some (ev_o 0 a), some (ev_i u1), some (ev_i u2)] [] S Q := by
  refine ev_iload_n (u2) dX0_bishopsAstray_4 rfl ?_
  refine ev_bipush (64) dX0_bishopsAstray_5 (by decide) ?_
  refine ev_icmp_ge 28 dX0_bishopsAstray_7 (by decide) (fun c1 => ?_) (fun c1 => ?_)
  · replace hQ := hQ.1 c1
    refine ev_aload_n (ev_o 0 a) dX0_bishopsAstray_28 rfl rfl ?_
    refine gf_0_8 dX0_bishopsAstray_29 kw_247 ?_
    refine ev_iload_n (u1) dX0_bishopsAstray_32 rfl ?_
    refine ev_aload_n (ev_o 0 a) dX0_bishopsAstray_33 rfl rfl ?_
    refine gf_0_7 dX0_bishopsAstray_34 kw_246 ?_
    refine ev_iadd dX0_bishopsAstray_37 ?_
    refine ev_isub dX0_bishopsAstray_38 ?_
    refine ev_mathAbs dX0_bishopsAstray_39 kw_894 kw_895 kw_123 kw_896 (Nat.le_of_ble_eq_true rfl) ?_
    exact ev_ireturn .int dX0_bishopsAstray_42 rfl rfl hQ
  · replace hQ := hQ.2 c1
    refine ev_aload_n (ev_o 0 a) dX0_bishopsAstray_10 rfl rfl ?_
    refine ev_iload_n (u2) dX0_bishopsAstray_11 rfl ?_
    refine ev_fV mv_X0_ownerOn 2 0 [ev_i u2] [] dX0_bishopsAstray_12 kw_893 rfl (by decide) rfl (by decide) (Nat.le_of_ble_eq_true rfl) (sp_X0_ownerOn a u2) ?_ rfl
    refine ev_iconst (-1) dX0_bishopsAstray_15 rfl ?_
    refine ev_icmp_eq 22 dX0_bishopsAstray_16 (by decide) (fun c2 => ?_) (fun c2 => ?_)
    · replace hQ := hQ.1 c2
      refine ev_iinc u2 (1) dX0_bishopsAstray_22 rfl (by decide) (ev_hw rfl) ?_
      show ev_E g m_X0_bishopsAstray 3 0 25 [some (ev_o 0 a), some (ev_i u1), some (ev_i (u2 + 1))] [] S Q
      refine ev_goto 4 dX0_bishopsAstray_25 (by decide) ?_
      exact hQ
    · replace hQ := hQ.2 c2
      refine ev_iinc u1 (1) dX0_bishopsAstray_19 rfl (by decide) (ev_hw rfl) ?_
      show ev_E g m_X0_bishopsAstray 3 0 22 [some (ev_o 0 a), some (ev_i (u1 + 1)), some (ev_i u2)] [] S Q
      refine ev_iinc u2 (1) dX0_bishopsAstray_22 rfl (by decide) (ev_hw rfl) ?_
      show ev_E g m_X0_bishopsAstray 3 0 25 [some (ev_o 0 a), some (ev_i (u1 + 1)), some (ev_i (u2 + 1))] [] S Q
      refine ev_goto 4 dX0_bishopsAstray_25 (by decide) ?_
      exact hQ
set_option maxHeartbeats 4000000 in
set_option maxRecDepth 100000 in
theorem sg_X6_onRoad_0 {g : ev_G} {S : ev_S} {Q : ev_O → ev_S → Prop} (a : Nat) (hQ : Q (.inl (some (ev_i (S.1 a 14)))) S) : ev_Cv g m_X6_onRoad 1 0 [ev_o 6 a] S Q := by
  refine ev_enter (by decide) rfl rfl (Nat.le_of_ble_eq_true rfl) ?_
  show ev_E g m_X6_onRoad 1 0 0 [some (ev_o 6 a)] [] S Q
  refine ev_aload_n (ev_o 6 a) dX6_onRoad_0 rfl rfl ?_
  refine gf_6_14 dX6_onRoad_1 kw_343 ?_
  exact ev_ireturn .int dX6_onRoad_4 rfl rfl hQ
set_option maxHeartbeats 4000000 in
set_option maxRecDepth 100000 in
theorem sp_X6_onRoad {g : ev_G} {S : ev_S} (a : Nat)  : ev_Fn g m_X6_onRoad 1 [ev_o 6 a] S (some (ev_i (S.1 a 14))) S := by
  intro Q hQ
  refine sg_X6_onRoad_0 a ?_
  exact hQ
set_option maxHeartbeats 4000000 in
set_option maxRecDepth 100000 in
theorem sg_X5_mulesAstray_0 {g : ev_G} {S : ev_S} {Q : ev_O → ev_S → Prop} (a : Nat) (x0 : Int32) (hQ : ev_E g m_X5_mulesAstray 2 0 4 [some (ev_o 5 a), some (ev_i x0), some (ev_i 0), some (ev_i 0)] [] S Q) : ev_Cv g m_X5_mulesAstray 2 0 [ev_o 5 a, ev_i x0] S Q := by
  refine ev_enter (by decide) rfl rfl (Nat.le_of_ble_eq_true rfl) ?_
  show ev_E g m_X5_mulesAstray 2 0 0 [some (ev_o 5 a), some (ev_i x0), none, none] [] S Q
  refine ev_iconst (0) dX5_mulesAstray_0 rfl ?_
  refine ev_istore_n dX5_mulesAstray_1 (Nat.le_of_ble_eq_true rfl) (ev_hw rfl) ?_
  show ev_E g m_X5_mulesAstray 2 0 2 [some (ev_o 5 a), some (ev_i x0), some (ev_i 0), none] [] S Q
  refine ev_iconst (0) dX5_mulesAstray_2 rfl ?_
  refine ev_istore_n dX5_mulesAstray_3 (Nat.le_of_ble_eq_true rfl) (ev_hw rfl) ?_
  show ev_E g m_X5_mulesAstray 2 0 4 [some (ev_o 5 a), some (ev_i x0), some (ev_i 0), some (ev_i 0)] [] S Q
  exact hQ
set_option maxHeartbeats 4000000 in
set_option maxRecDepth 100000 in
theorem sg_X5_mulesAstray_4 {g : ev_G} {S : ev_S} {Q : ev_O → ev_S → Prop} (a : Nat) (u1 : Int32) (u2 : Int32) (u3 : Int32) (hQ : (8 ≤ u3 → (
    Q (.inl (some (ev_i (ev_abs ((S.1 a 4) - (u2 + u1)))))) S)) ∧
  (¬ (8 ≤ u3) → (
    ev_E g m_X5_mulesAstray 2 0 4 [some (ev_o 5 a), some (ev_i u1), some (ev_i (u2 + (j_at (S.1 (a + 3)) 8 u3))), some (ev_i (u3 + 1))] [] S Q))) : ev_E g m_X5_mulesAstray 2 0 4 [some (ev_o 5 a), some (ev_i u1), some (ev_i u2), some (ev_i u3)] [] S Q := by
  refine ev_iload_n (u3) dX5_mulesAstray_4 rfl ?_
  refine ev_aload_n (ev_o 5 a) dX5_mulesAstray_5 rfl rfl ?_
  refine gf_5_2 dX5_mulesAstray_6 kw_315 ?_
  refine ev_alen 8 dX5_mulesAstray_9 rfl ?_
  refine ev_icmp_ge 30 dX5_mulesAstray_10 (by decide) (fun c1 => ?_) (fun c1 => ?_)
  · replace hQ := hQ.1 c1
    refine ev_aload_n (ev_o 5 a) dX5_mulesAstray_30 rfl rfl ?_
    refine gf_5_4 dX5_mulesAstray_31 kw_317 ?_
    refine ev_iload_n (u2) dX5_mulesAstray_34 rfl ?_
    refine ev_iload_n (u1) dX5_mulesAstray_35 rfl ?_
    refine ev_iadd dX5_mulesAstray_36 ?_
    refine ev_isub dX5_mulesAstray_37 ?_
    refine ev_mathAbs dX5_mulesAstray_38 kw_1191 kw_895 kw_123 kw_896 (Nat.le_of_ble_eq_true rfl) ?_
    exact ev_ireturn .int dX5_mulesAstray_41 rfl rfl hQ
  · replace hQ := hQ.2 c1
    refine ev_iload_n (u2) dX5_mulesAstray_13 rfl ?_
    refine ev_aload_n (ev_o 5 a) dX5_mulesAstray_14 rfl rfl ?_
    refine gf_5_2 dX5_mulesAstray_15 kw_315 ?_
    refine ev_iload_n (u3) dX5_mulesAstray_18 rfl ?_
    refine ev_fN ms_X9_at 1 [ev_y 8 (a + 3), ev_i u3] [ev_i u2] dX5_mulesAstray_19 (List.mem_of_getElem? (i := 14) rfl) rfl (by decide) (Nat.le_of_ble_eq_true rfl) (sp_X9_at 8 (a + 3) u3) ?_ rfl
    refine ev_iadd dX5_mulesAstray_22 ?_
    refine ev_istore_n dX5_mulesAstray_23 (Nat.le_of_ble_eq_true rfl) (ev_hw rfl) ?_
    show ev_E g m_X5_mulesAstray 2 0 24 [some (ev_o 5 a), some (ev_i u1), some (ev_i (u2 + (j_at (S.1 (a + 3)) 8 u3))), some (ev_i u3)] [] S Q
    refine ev_iinc u3 (1) dX5_mulesAstray_24 rfl (by decide) (ev_hw rfl) ?_
    show ev_E g m_X5_mulesAstray 2 0 27 [some (ev_o 5 a), some (ev_i u1), some (ev_i (u2 + (j_at (S.1 (a + 3)) 8 u3))), some (ev_i (u3 + 1))] [] S Q
    refine ev_goto 4 dX5_mulesAstray_27 (by decide) ?_
    exact hQ
set_option maxHeartbeats 4000000 in
set_option maxRecDepth 100000 in
theorem sg_X2_flaws_0 {g : ev_G} {S : ev_S} {Q : ev_O → ev_S → Prop} (a : Nat) (hQ : ev_Cv g m_X0_differencesFrom 3 0 [ev_o 0 ((a_X2_deskOf a 0) + 1), ev_o 0 ((a_X2_deskOf a 1) + 1)] S (fun o S1 => ∃ v1_ : Int32, o = .inl (some (ev_i v1_)) ∧ (
    ev_Cv g m_X0_bishopsAstray 3 0 [ev_o 0 ((a_X2_deskOf a 0) + 1)] S1 (fun o S2 => ∃ v2_ : Int32, o = .inl (some (ev_i v2_)) ∧ (
      ev_Cv g m_X0_bishopsAstray 3 0 [ev_o 0 ((a_X2_deskOf a 1) + 1)] S2 (fun o S3 => ∃ v3_ : Int32, o = .inl (some (ev_i v3_)) ∧ (
        ev_Cv g m_X5_mulesAstray 2 0 [ev_o 5 (a + 20), ev_i (S3.1 (a + 19) 14)] S3 (fun o S4 => ∃ v4_ : Int32, o = .inl (some (ev_i v4_)) ∧ (
          Q (.inl (some (ev_i (((v1_ + v2_) + v3_) + v4_)))) S4))))))))) : ev_Cv g m_X2_flaws 4 0 [ev_o 2 a] S Q := by
  refine ev_enter (by decide) rfl rfl (Nat.le_of_ble_eq_true rfl) ?_
  show ev_E g m_X2_flaws 4 0 0 [some (ev_o 2 a)] [] S Q
  refine ev_aload_n (ev_o 2 a) dX2_flaws_0 rfl rfl ?_
  refine ev_iconst (0) dX2_flaws_1 rfl ?_
  refine ev_fV mv_X2_boardOf 2 2 [ev_i 0] [] dX2_flaws_2 kw_858 rfl (by decide) rfl (by decide) (Nat.le_of_ble_eq_true rfl) (sp_X2_boardOf a 0) ?_ rfl
  refine ev_aload_n (ev_o 2 a) dX2_flaws_5 rfl rfl ?_
  refine ev_iconst (1) dX2_flaws_6 rfl ?_
  refine ev_fV mv_X2_boardOf 2 2 [ev_i 1] [ev_o 0 ((a_X2_deskOf a 0) + 1)] dX2_flaws_7 kw_858 rfl (by decide) rfl (by decide) (Nat.le_of_ble_eq_true rfl) (sp_X2_boardOf a 1) ?_ rfl
  refine ev_cV mv_X0_differencesFrom 3 0 0 [ev_o 0 ((a_X2_deskOf a 1) + 1)] [] dX2_flaws_10 kw_1173 rfl (by decide) rfl (by decide) (by decide) (Nat.le_of_ble_eq_true rfl) hQ ?_ rfl
  rintro o S1 ⟨v1_, rfl, hQ⟩
  show ev_E g m_X2_flaws 4 0 13 [some (ev_o 2 a)] [ev_i v1_] S1 Q
  refine ev_aload_n (ev_o 2 a) dX2_flaws_13 rfl rfl ?_
  refine ev_iconst (0) dX2_flaws_14 rfl ?_
  refine ev_fV mv_X2_boardOf 2 2 [ev_i 0] [ev_i v1_] dX2_flaws_15 kw_858 rfl (by decide) rfl (by decide) (Nat.le_of_ble_eq_true rfl) (sp_X2_boardOf a 0) ?_ rfl
  refine ev_cV mv_X0_bishopsAstray 3 0 0 [] [ev_i v1_] dX2_flaws_18 kw_1179 rfl (by decide) rfl (by decide) (by decide) (Nat.le_of_ble_eq_true rfl) hQ ?_ rfl
  rintro o S2 ⟨v2_, rfl, hQ⟩
  show ev_E g m_X2_flaws 4 0 21 [some (ev_o 2 a)] [ev_i v2_, ev_i v1_] S2 Q
  refine ev_iadd dX2_flaws_21 ?_
  refine ev_aload_n (ev_o 2 a) dX2_flaws_22 rfl rfl ?_
  refine ev_iconst (1) dX2_flaws_23 rfl ?_
  refine ev_fV mv_X2_boardOf 2 2 [ev_i 1] [ev_i (v1_ + v2_)] dX2_flaws_24 kw_858 rfl (by decide) rfl (by decide) (Nat.le_of_ble_eq_true rfl) (sp_X2_boardOf a 1) ?_ rfl
  refine ev_cV mv_X0_bishopsAstray 3 0 0 [] [ev_i (v1_ + v2_)] dX2_flaws_27 kw_1179 rfl (by decide) rfl (by decide) (by decide) (Nat.le_of_ble_eq_true rfl) hQ ?_ rfl
  rintro o S3 ⟨v3_, rfl, hQ⟩
  show ev_E g m_X2_flaws 4 0 30 [some (ev_o 2 a)] [ev_i v3_, ev_i (v1_ + v2_)] S3 Q
  refine ev_iadd dX2_flaws_30 ?_
  refine ev_aload_n (ev_o 2 a) dX2_flaws_31 rfl rfl ?_
  refine ev_fV mv_X2_passes 2 2 [] [ev_i ((v1_ + v2_) + v3_)] dX2_flaws_32 kw_863 rfl (by decide) rfl (by decide) (Nat.le_of_ble_eq_true rfl) (sp_X2_passes a) ?_ rfl
  refine ev_aload_n (ev_o 2 a) dX2_flaws_35 rfl rfl ?_
  refine gf_2_2 dX2_flaws_36 kw_388 ?_
  refine ev_fV mv_X6_onRoad 1 6 [] [ev_o 5 (a + 20), ev_i ((v1_ + v2_) + v3_)] dX2_flaws_39 kw_1183 rfl (by decide) rfl (by decide) (Nat.le_of_ble_eq_true rfl) (sp_X6_onRoad (a + 19)) ?_ rfl
  refine ev_cV mv_X5_mulesAstray 2 0 5 [ev_i (S3.1 (a + 19) 14)] [ev_i ((v1_ + v2_) + v3_)] dX2_flaws_42 kw_1187 rfl (by decide) rfl (by decide) (by decide) (Nat.le_of_ble_eq_true rfl) hQ ?_ rfl
  rintro o S4 ⟨v4_, rfl, hQ⟩
  show ev_E g m_X2_flaws 4 0 45 [some (ev_o 2 a)] [ev_i v4_, ev_i ((v1_ + v2_) + v3_)] S4 Q
  refine ev_iadd dX2_flaws_45 ?_
  exact ev_ireturn .int dX2_flaws_46 rfl rfl hQ
set_option maxHeartbeats 4000000 in
set_option maxRecDepth 100000 in
theorem sg_X9_contradictions_0 {g : ev_G} {S : ev_S} {Q : ev_O → ev_S → Prop} (a : Nat) (hQ : ev_Cv g m_X2_flaws 4 0 [ev_o 2 (a + 11)] S (fun o S1 => ∃ v1_ : Int32, o = .inl (some (ev_i v1_)) ∧ (
    Q (.inl (some (ev_i v1_))) S1))) : ev_Cv g m_X9_contradictions 5 0 [ev_o 9 a] S Q := by
  refine ev_enter (by decide) rfl rfl (Nat.le_of_ble_eq_true rfl) ?_
  show ev_E g m_X9_contradictions 5 0 0 [some (ev_o 9 a)] [] S Q
  refine ev_aload_n (ev_o 9 a) dX9_contradictions_0 rfl rfl ?_
  refine gf_9_3 dX9_contradictions_1 kw_690 ?_
  refine ev_cV mv_X2_flaws 4 0 2 [] [] dX9_contradictions_4 kw_1169 rfl (by decide) rfl (by decide) (by decide) (Nat.le_of_ble_eq_true rfl) hQ ?_ rfl
  rintro o S1 ⟨v1_, rfl, hQ⟩
  show ev_E g m_X9_contradictions 5 0 7 [some (ev_o 9 a)] [ev_i v1_] S1 Q
  exact ev_ireturn .int dX9_contradictions_7 rfl rfl hQ
set_option maxHeartbeats 4000000 in
set_option maxRecDepth 100000 in
theorem sg_X6_arrivalOf_0 {g : ev_G} {S : ev_S} {Q : ev_O → ev_S → Prop} (a : Nat) (x0 : Int32) (hQ : Q (.inl (some (ev_i (j_at (S.1 (a + 13)) 84 x0)))) S) : ev_Cv g m_X6_arrivalOf 2 0 [ev_o 6 a, ev_i x0] S Q := by
  refine ev_enter (by decide) rfl rfl (Nat.le_of_ble_eq_true rfl) ?_
  show ev_E g m_X6_arrivalOf 2 0 0 [some (ev_o 6 a), some (ev_i x0)] [] S Q
  refine ev_aload_n (ev_o 6 a) dX6_arrivalOf_0 rfl rfl ?_
  refine gf_6_9 dX6_arrivalOf_1 kw_338 ?_
  refine ev_iload_n (x0) dX6_arrivalOf_4 rfl ?_
  refine ev_fN ms_X9_at 1 [ev_y 84 (a + 13), ev_i x0] [] dX6_arrivalOf_5 (List.mem_of_getElem? (i := 27) rfl) rfl (by decide) (Nat.le_of_ble_eq_true rfl) (sp_X9_at 84 (a + 13) x0) ?_ rfl
  exact ev_ireturn .int dX6_arrivalOf_8 rfl rfl hQ
set_option maxHeartbeats 4000000 in
set_option maxRecDepth 100000 in
theorem sp_X6_arrivalOf {g : ev_G} {S : ev_S} (a : Nat) (x0 : Int32)  : ev_Fn g m_X6_arrivalOf 2 [ev_o 6 a, ev_i x0] S (some (ev_i (j_at (S.1 (a + 13)) 84 x0))) S := by
  intro Q hQ
  refine sg_X6_arrivalOf_0 a x0 ?_
  exact hQ
