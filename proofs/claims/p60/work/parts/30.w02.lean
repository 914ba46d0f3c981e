set_option maxHeartbeats 4000000 in
set_option maxRecDepth 100000 in
theorem sg_X0_isFinished_0 {g : ev_G} {S : ev_S} {Q : ev_O → ev_S → Prop} (a : Nat) (hQ : ((S.1 a 6) = (S.1 a 5) → (
    Q (.inl (some (ev_i 1))) S)) ∧
  (¬ ((S.1 a 6) = (S.1 a 5)) → (
    ((j_at (S.1 (a + 2)) 2 0) = 0 → (
      Q (.inl (some (ev_i 1))) S)) ∧
    (¬ ((j_at (S.1 (a + 2)) 2 0) = 0) → (
      ((j_at (S.1 (a + 2)) 2 1) = 0 → (
        Q (.inl (some (ev_i 1))) S)) ∧
      (¬ ((j_at (S.1 (a + 2)) 2 1) = 0) → (
        Q (.inl (some (ev_i 0))) S))))))) : ev_Cv g m_X0_isFinished 3 0 [ev_o 0 a] S Q := by
  refine ev_enter (by decide) rfl rfl (Nat.le_of_ble_eq_true rfl) ?_
  show ev_E g m_X0_isFinished 3 0 0 [some (ev_o 0 a)] [] S Q
  refine ev_aload_n (ev_o 0 a) dX0_isFinished_0 rfl rfl ?_
  refine gf_0_6 dX0_isFinished_1 kw_156 ?_
  refine ev_aload_n (ev_o 0 a) dX0_isFinished_4 rfl rfl ?_
  refine gf_0_5 dX0_isFinished_5 kw_155 ?_
  refine ev_icmp_eq 27 dX0_isFinished_8 (by decide) (fun c1 => ?_) (fun c1 => ?_)
  · replace hQ := hQ.1 c1
    refine ev_iconst (1) dX0_isFinished_27 rfl ?_
    refine ev_goto 32 dX0_isFinished_28 (by decide) ?_
    exact ev_ireturn .boolean dX0_isFinished_32 rfl rfl hQ
  · replace hQ := hQ.2 c1
    refine ev_aload_n (ev_o 0 a) dX0_isFinished_11 rfl rfl ?_
    refine ev_iconst (0) dX0_isFinished_12 rfl ?_
    refine ev_fV mv_X0_bishopsOf 2 0 [ev_i 0] [] dX0_isFinished_13 kw_1066 rfl (by decide) rfl (by decide) (Nat.le_of_ble_eq_true rfl) (sp_X0_bishopsOf a 0) ?_ rfl
    refine ev_if_eq 27 dX0_isFinished_16 (by decide) (fun c2 => ?_) (fun c2 => ?_)
    · replace hQ := hQ.1 c2
      refine ev_iconst (1) dX0_isFinished_27 rfl ?_
      refine ev_goto 32 dX0_isFinished_28 (by decide) ?_
      exact ev_ireturn .boolean dX0_isFinished_32 rfl rfl hQ
    · replace hQ := hQ.2 c2
      refine ev_aload_n (ev_o 0 a) dX0_isFinished_19 rfl rfl ?_
      refine ev_iconst (1) dX0_isFinished_20 rfl ?_
      refine ev_fV mv_X0_bishopsOf 2 0 [ev_i 1] [] dX0_isFinished_21 kw_1066 rfl (by decide) rfl (by decide) (Nat.le_of_ble_eq_true rfl) (sp_X0_bishopsOf a 1) ?_ rfl
      refine ev_if_ne 31 dX0_isFinished_24 (by decide) (fun c3 => ?_) (fun c3 => ?_)
      · replace hQ := hQ.2 c3
        refine ev_iconst (0) dX0_isFinished_31 rfl ?_
        exact ev_ireturn .boolean dX0_isFinished_32 rfl rfl hQ
      · replace hQ := hQ.1 c3
        refine ev_iconst (1) dX0_isFinished_27 rfl ?_
        refine ev_goto 32 dX0_isFinished_28 (by decide) ?_
        exact ev_ireturn .boolean dX0_isFinished_32 rfl rfl hQ
def t_X0_isFinished (S : ev_S) (a : Nat) : Bool := if (S.1 a 6) = (S.1 a 5) then (true) else (if (j_at (S.1 (a + 2)) 2 0) = 0 then (true) else (if (j_at (S.1 (a + 2)) 2 1) = 0 then (true) else (false)))
set_option maxHeartbeats 4000000 in
set_option maxRecDepth 100000 in
theorem sp_X0_isFinished {g : ev_G} {S : ev_S} (a : Nat)  : ev_Fn g m_X0_isFinished 3 [ev_o 0 a] S (some (ev_i (if (t_X0_isFinished S a) = true then 1 else 0))) S := by
  intro Q hQ
  refine sg_X0_isFinished_0 a ?_
  unfold t_X0_isFinished at hQ
  refine ⟨fun c1 => ?_, fun c1 => ?_⟩
  · rw [if_pos c1] at hQ
    exact hQ
  · rw [if_neg c1] at hQ
    refine ⟨fun c2 => ?_, fun c2 => ?_⟩
    · rw [if_pos c2] at hQ
      exact hQ
    · rw [if_neg c2] at hQ
      refine ⟨fun c3 => ?_, fun c3 => ?_⟩
      · rw [if_pos c3] at hQ
        exact hQ
      · rw [if_neg c3] at hQ
        exact hQ
set_option maxHeartbeats 4000000 in
set_option maxRecDepth 100000 in
theorem sg_X0_nextNumber_0 {g : ev_G} {S : ev_S} {Q : ev_O → ev_S → Prop} (a : Nat) (hQ : Q (.inl (some (ev_i ((S.1 a 6) + 1)))) S) : ev_Cv g m_X0_nextNumber 1 0 [ev_o 0 a] S Q := by
  refine ev_enter (by decide) rfl rfl (Nat.le_of_ble_eq_true rfl) ?_
  show ev_E g m_X0_nextNumber 1 0 0 [some (ev_o 0 a)] [] S Q
  refine ev_aload_n (ev_o 0 a) dX0_nextNumber_0 rfl rfl ?_
  refine gf_0_6 dX0_nextNumber_1 kw_156 ?_
  refine ev_iconst (1) dX0_nextNumber_4 rfl ?_
  refine ev_iadd dX0_nextNumber_5 ?_
  exact ev_ireturn .int dX0_nextNumber_6 rfl rfl hQ
set_option maxHeartbeats 4000000 in
set_option maxRecDepth 100000 in
theorem sp_X0_nextNumber {g : ev_G} {S : ev_S} (a : Nat)  : ev_Fn g m_X0_nextNumber 1 [ev_o 0 a] S (some (ev_i ((S.1 a 6) + 1))) S := by
  intro Q hQ
  refine sg_X0_nextNumber_0 a ?_
  exact hQ
set_option maxHeartbeats 4000000 in
set_option maxRecDepth 100000 in
theorem sg_X9_moverOf_0 {g : ev_G} {S : ev_S} {Q : ev_O → ev_S → Prop} (x0 : Int32) (hQ : ((ev_rem x0 2) = 1 → (
    Q (.inl (some (ev_i 0))) S)) ∧
  (¬ ((ev_rem x0 2) = 1) → (
    Q (.inl (some (ev_i 1))) S))) : ev_Cv g m_X9_moverOf 1 0 [ev_i x0] S Q := by
  refine ev_enter (by decide) rfl rfl (Nat.le_of_ble_eq_true rfl) ?_
  show ev_E g m_X9_moverOf 1 0 0 [some (ev_i x0)] [] S Q
  refine ev_iload_n (x0) dX9_moverOf_0 rfl ?_
  refine ev_iconst (2) dX9_moverOf_1 rfl ?_
  refine ev_irem dX9_moverOf_2 (by decide) ?_
  refine ev_iconst (1) dX9_moverOf_3 rfl ?_
  refine ev_icmp_ne 11 dX9_moverOf_4 (by decide) (fun c1 => ?_) (fun c1 => ?_)
  · replace hQ := hQ.2 c1
    refine ev_iconst (1) dX9_moverOf_11 rfl ?_
    exact ev_ireturn .int dX9_moverOf_12 rfl rfl hQ
  · replace hQ := hQ.1 c1
    refine ev_iconst (0) dX9_moverOf_7 rfl ?_
    refine ev_goto 12 dX9_moverOf_8 (by decide) ?_
    exact ev_ireturn .int dX9_moverOf_12 rfl rfl hQ
def f_X9_moverOf (x0 : Int32) : Int32 := if (ev_rem x0 2) = 1 then (0) else (1)
set_option maxHeartbeats 4000000 in
set_option maxRecDepth 100000 in
theorem sp_X9_moverOf {g : ev_G} {S : ev_S} (x0 : Int32)  : ev_Fn g m_X9_moverOf 1 [ev_i x0] S (some (ev_i (f_X9_moverOf x0))) S := by
  intro Q hQ
  refine sg_X9_moverOf_0 x0 ?_
  unfold f_X9_moverOf at hQ
  refine ⟨fun c1 => ?_, fun c1 => ?_⟩
  · rw [if_pos c1] at hQ
    exact hQ
  · rw [if_neg c1] at hQ
    exact hQ
set_option maxHeartbeats 4000000 in
set_option maxRecDepth 100000 in
theorem sg_X1_mayPlay_0 {g : ev_G} {S : ev_S} {Q : ev_O → ev_S → Prop} (a : Nat) (hQ : ((t_X0_isFinished S (a + 1)) = true → (
    Q (.inl (some (ev_i 0))) S)) ∧
  (¬ ((t_X0_isFinished S (a + 1)) = true) → (
    ((f_X9_moverOf ((S.1 (a + 1) 6) + 1)) = (S.1 a 0) → (
      Q (.inl (some (ev_i 1))) S)) ∧
    (¬ ((f_X9_moverOf ((S.1 (a + 1) 6) + 1)) = (S.1 a 0)) → (
      Q (.inl (some (ev_i 0))) S))))) : ev_Cv g m_X1_mayPlay 4 0 [ev_o 1 a] S Q := by
  refine ev_enter (by decide) rfl rfl (Nat.le_of_ble_eq_true rfl) ?_
  show ev_E g m_X1_mayPlay 4 0 0 [some (ev_o 1 a)] [] S Q
  refine ev_aload_n (ev_o 1 a) dX1_mayPlay_0 rfl rfl ?_
  refine gf_1_1 dX1_mayPlay_1 kw_179 ?_
  refine ev_fV mv_X0_isFinished 3 0 [] [] dX1_mayPlay_4 kw_1062 rfl (by decide) rfl (by decide) (Nat.le_of_ble_eq_true rfl) (sp_X0_isFinished (a + 1)) ?_ rfl
  by_cases c1 : (t_X0_isFinished S (a + 1)) = true
  · rw [if_pos c1]
    replace hQ := hQ.1 c1
    refine ev_if_ne 31 dX1_mayPlay_7 (by decide) (fun _ => ?_) (fun h9 => absurd h9 (by decide : ¬ ((1 : Int32) = 0)))
    refine ev_iconst (0) dX1_mayPlay_31 rfl ?_
    exact ev_ireturn .boolean dX1_mayPlay_32 rfl rfl hQ
  · rw [if_neg c1]
    replace hQ := hQ.2 c1
    refine ev_if_ne 31 dX1_mayPlay_7 (by decide) (fun h9 => absurd (by decide : ((0 : Int32) = 0)) h9) (fun _ => ?_)
    refine ev_aload_n (ev_o 1 a) dX1_mayPlay_10 rfl rfl ?_
    refine gf_1_1 dX1_mayPlay_11 kw_179 ?_
    refine ev_fV mv_X0_nextNumber 1 0 [] [] dX1_mayPlay_14 kw_1067 rfl (by decide) rfl (by decide) (Nat.le_of_ble_eq_true rfl) (sp_X0_nextNumber (a + 1)) ?_ rfl
    refine ev_fN ms_X9_moverOf 1 [ev_i ((S.1 (a + 1) 6) + 1)] [] dX1_mayPlay_17 (List.mem_of_getElem? (i := 21) rfl) rfl (by decide) (Nat.le_of_ble_eq_true rfl) (sp_X9_moverOf ((S.1 (a + 1) 6) + 1)) ?_ rfl
    refine ev_aload_n (ev_o 1 a) dX1_mayPlay_20 rfl rfl ?_
    refine gf_1_0 dX1_mayPlay_21 kw_178 ?_
    refine ev_icmp_ne 31 dX1_mayPlay_24 (by decide) (fun c2 => ?_) (fun c2 => ?_)
    · replace hQ := hQ.2 c2
      refine ev_iconst (0) dX1_mayPlay_31 rfl ?_
      exact ev_ireturn .boolean dX1_mayPlay_32 rfl rfl hQ
    · replace hQ := hQ.1 c2
      refine ev_iconst (1) dX1_mayPlay_27 rfl ?_
      refine ev_goto 32 dX1_mayPlay_28 (by decide) ?_
      exact ev_ireturn .boolean dX1_mayPlay_32 rfl rfl hQ
def t_X1_mayPlay (S : ev_S) (a : Nat) : Bool := if (t_X0_isFinished S (a + 1)) = true then (false) else (if (f_X9_moverOf ((S.1 (a + 1) 6) + 1)) = (S.1 a 0) then (true) else (false))
set_option maxHeartbeats 4000000 in
set_option maxRecDepth 100000 in
theorem sp_X1_mayPlay {g : ev_G} {S : ev_S} (a : Nat)  : ev_Fn g m_X1_mayPlay 4 [ev_o 1 a] S (some (ev_i (if (t_X1_mayPlay S a) = true then 1 else 0))) S := by
  intro Q hQ
  refine sg_X1_mayPlay_0 a ?_
  unfold t_X1_mayPlay at hQ
  refine ⟨fun c1 => ?_, fun c1 => ?_⟩
  · rw [if_pos c1] at hQ
    exact hQ
  · rw [if_neg c1] at hQ
    refine ⟨fun c2 => ?_, fun c2 => ?_⟩
    · rw [if_pos c2] at hQ
      exact hQ
    · rw [if_neg c2] at hQ
      exact hQ
set_option maxHeartbeats 4000000 in
set_option maxRecDepth 100000 in
theorem sg_X9_isTurn_0 {g : ev_G} {S : ev_S} {Q : ev_O → ev_S → Prop} (a : Nat) (x0 : Int32) (hQ : ((t_X9_isPlayer x0) = true → (
    ((t_X1_mayPlay S (a_X2_deskOf (a + 11) x0)) = true → (
      Q (.inl (some (ev_i 1))) S)) ∧
    (¬ ((t_X1_mayPlay S (a_X2_deskOf (a + 11) x0)) = true) → (
      Q (.inl (some (ev_i 0))) S)))) ∧
  (¬ ((t_X9_isPlayer x0) = true) → (
    Q (.inr 0) S))) : ev_Cv g m_X9_isTurn 5 1 [ev_o 9 a, ev_i x0] S Q := by
  refine ev_enter (by decide) rfl rfl (Nat.le_of_ble_eq_true rfl) ?_
  show ev_E g m_X9_isTurn 5 1 0 [some (ev_o 9 a), some (ev_i x0)] [] S Q
  refine ev_iload_n (x0) dX9_isTurn_0 rfl ?_
  refine ev_fS ms_X9_isPlayer 1 [ev_i x0] [] dX9_isTurn_1 kw_954 rfl (by decide) (Nat.le_of_ble_eq_true rfl) (sp_X9_isPlayer x0) ?_ rfl
  by_cases c1 : (t_X9_isPlayer x0) = true
  · rw [if_pos c1]
    replace hQ := hQ.1 c1
    refine ev_cS ms_X9_require 1 1 [ev_i 1] [] dX9_isTurn_4 kw_966 rfl (by decide) (by decide) (Nat.le_of_ble_eq_true rfl) (Q' := fun o z => ev_After g m_X9_isTurn 5 (1 - 1) 4 [some (ev_o 9 a), some (ev_i x0)] [] z Q o) (sg_X9_require_0 1 ?_) (fun o z h => h) rfl
    refine j_neg (by decide : ¬ ((1 : Int32) = 0)) ?_
    show ev_E g m_X9_isTurn 5 0 7 [some (ev_o 9 a), some (ev_i x0)] [] S Q
    refine ev_aload_n (ev_o 9 a) dX9_isTurn_7 rfl rfl ?_
    refine gf_9_3 dX9_isTurn_8 kw_601 ?_
    refine ev_iload_n (x0) dX9_isTurn_11 rfl ?_
    refine ev_fV mv_X2_deskOf 1 2 [ev_i x0] [] dX9_isTurn_12 kw_1057 rfl (by decide) rfl (by decide) (Nat.le_of_ble_eq_true rfl) (sp_X2_deskOf (a + 11) x0) ?_ rfl
    refine ev_fV mv_X1_mayPlay 4 1 [] [] dX9_isTurn_15 kw_1058 rfl (by decide) rfl (by decide) (Nat.le_of_ble_eq_true rfl) (sp_X1_mayPlay (a_X2_deskOf (a + 11) x0)) ?_ rfl
    by_cases c2 : (t_X1_mayPlay S (a_X2_deskOf (a + 11) x0)) = true
    · rw [if_pos c2]
      replace hQ := hQ.1 c2
      exact ev_ireturn .boolean dX9_isTurn_18 rfl rfl hQ
    · rw [if_neg c2]
      replace hQ := hQ.2 c2
      exact ev_ireturn .boolean dX9_isTurn_18 rfl rfl hQ
  · rw [if_neg c1]
    replace hQ := hQ.2 c1
    refine ev_cS ms_X9_require 1 1 [ev_i 0] [] dX9_isTurn_4 kw_966 rfl (by decide) (by decide) (Nat.le_of_ble_eq_true rfl) (Q' := fun o z => ev_After g m_X9_isTurn 5 (1 - 1) 4 [some (ev_o 9 a), some (ev_i x0)] [] z Q o) (sg_X9_require_0 0 ?_) (fun o z h => h) rfl
    refine j_pos (by decide : ((0 : Int32) = 0)) ?_
    exact ev_T_out (by decide) rfl hQ
set_option maxHeartbeats 4000000 in
set_option maxRecDepth 100000 in
theorem sg_X9_isOver_0 {g : ev_G} {S : ev_S} {Q : ev_O → ev_S → Prop} (a : Nat) (x0 : Int32) (hQ : ((t_X9_isPlayer x0) = true → (
    ((t_X0_isFinished S ((a_X2_deskOf (a + 11) x0) + 1)) = true → (
      Q (.inl (some (ev_i 1))) S)) ∧
    (¬ ((t_X0_isFinished S ((a_X2_deskOf (a + 11) x0) + 1)) = true) → (
      Q (.inl (some (ev_i 0))) S)))) ∧
  (¬ ((t_X9_isPlayer x0) = true) → (
    Q (.inr 0) S))) : ev_Cv g m_X9_isOver 4 1 [ev_o 9 a, ev_i x0] S Q := by
  refine ev_enter (by decide) rfl rfl (Nat.le_of_ble_eq_true rfl) ?_
  show ev_E g m_X9_isOver 4 1 0 [some (ev_o 9 a), some (ev_i x0)] [] S Q
  refine ev_iload_n (x0) dX9_isOver_0 rfl ?_
  refine ev_fS ms_X9_isPlayer 1 [ev_i x0] [] dX9_isOver_1 kw_954 rfl (by decide) (Nat.le_of_ble_eq_true rfl) (sp_X9_isPlayer x0) ?_ rfl
  by_cases c1 : (t_X9_isPlayer x0) = true
  · rw [if_pos c1]
    replace hQ := hQ.1 c1
    refine ev_cS ms_X9_require 1 1 [ev_i 1] [] dX9_isOver_4 kw_966 rfl (by decide) (by decide) (Nat.le_of_ble_eq_true rfl) (Q' := fun o z => ev_After g m_X9_isOver 4 (1 - 1) 4 [some (ev_o 9 a), some (ev_i x0)] [] z Q o) (sg_X9_require_0 1 ?_) (fun o z h => h) rfl
    refine j_neg (by decide : ¬ ((1 : Int32) = 0)) ?_
    show ev_E g m_X9_isOver 4 0 7 [some (ev_o 9 a), some (ev_i x0)] [] S Q
    refine ev_aload_n (ev_o 9 a) dX9_isOver_7 rfl rfl ?_
    refine gf_9_3 dX9_isOver_8 kw_601 ?_
    refine ev_iload_n (x0) dX9_isOver_11 rfl ?_
    refine ev_fV mv_X2_boardOf 2 2 [ev_i x0] [] dX9_isOver_12 kw_488 rfl (by decide) rfl (by decide) (Nat.le_of_ble_eq_true rfl) (sp_X2_boardOf (a + 11) x0) ?_ rfl
    refine ev_fV mv_X0_isFinished 3 0 [] [] dX9_isOver_15 kw_1078 rfl (by decide) rfl (by decide) (Nat.le_of_ble_eq_true rfl) (sp_X0_isFinished ((a_X2_deskOf (a + 11) x0) + 1)) ?_ rfl
    by_cases c2 : (t_X0_isFinished S ((a_X2_deskOf (a + 11) x0) + 1)) = true
    · rw [if_pos c2]
      replace hQ := hQ.1 c2
      exact ev_ireturn .boolean dX9_isOver_18 rfl rfl hQ
    · rw [if_neg c2]
      replace hQ := hQ.2 c2
      exact ev_ireturn .boolean dX9_isOver_18 rfl rfl hQ
  · rw [if_neg c1]
    replace hQ := hQ.2 c1
    refine ev_cS ms_X9_require 1 1 [ev_i 0] [] dX9_isOver_4 kw_966 rfl (by decide) (by decide) (Nat.le_of_ble_eq_true rfl) (Q' := fun o z => ev_After g m_X9_isOver 4 (1 - 1) 4 [some (ev_o 9 a), some (ev_i x0)] [] z Q o) (sg_X9_require_0 0 ?_) (fun o z h => h) rfl
    refine j_pos (by decide : ((0 : Int32) = 0)) ?_
    exact ev_T_out (by decide) rfl hQ
set_option maxHeartbeats 4000000 in
set_option maxRecDepth 100000 in
theorem sg_X9_winner_0 {g : ev_G} {S : ev_S} {Q : ev_O → ev_S → Prop} (a : Nat) (x0 : Int32) (hQ : ((t_X9_isPlayer x0) = true → (
    ((t_X0_isFinished S ((a_X2_deskOf (a + 11) x0) + 1)) = true → (
      (((j_at (S.1 ((a_X2_deskOf (a + 11) x0) + 3)) 2 0) - (j_at (S.1 ((a_X2_deskOf (a + 11) x0) + 3)) 2 1)) = 0 → (
        Q (.inl (some (ev_i (-1)))) S)) ∧
      (¬ (((j_at (S.1 ((a_X2_deskOf (a + 11) x0) + 3)) 2 0) - (j_at (S.1 ((a_X2_deskOf (a + 11) x0) + 3)) 2 1)) = 0) → (
        (((j_at (S.1 ((a_X2_deskOf (a + 11) x0) + 3)) 2 0) - (j_at (S.1 ((a_X2_deskOf (a + 11) x0) + 3)) 2 1)) ≤ 0 → (
          Q (.inl (some (ev_i 1))) S)) ∧
        (¬ (((j_at (S.1 ((a_X2_deskOf (a + 11) x0) + 3)) 2 0) - (j_at (S.1 ((a_X2_deskOf (a + 11) x0) + 3)) 2 1)) ≤ 0) → (
          Q (.inl (some (ev_i 0))) S)))))) ∧
    (¬ ((t_X0_isFinished S ((a_X2_deskOf (a + 11) x0) + 1)) = true) → (
      Q (.inl (some (ev_i (-1)))) S)))) ∧
  (¬ ((t_X9_isPlayer x0) = true) → (
    Q (.inr 0) S))) : ev_Cv g m_X9_winner 4 1 [ev_o 9 a, ev_i x0] S Q := by
  refine ev_enter (by decide) rfl rfl (Nat.le_of_ble_eq_true rfl) ?_
  show ev_E g m_X9_winner 4 1 0 [some (ev_o 9 a), some (ev_i x0), none, none] [] S Q
  refine ev_iload_n (x0) dX9_winner_0 rfl ?_
  refine ev_fS ms_X9_isPlayer 1 [ev_i x0] [] dX9_winner_1 kw_954 rfl (by decide) (Nat.le_of_ble_eq_true rfl) (sp_X9_isPlayer x0) ?_ rfl
  by_cases c1 : (t_X9_isPlayer x0) = true
  · rw [if_pos c1]
    replace hQ := hQ.1 c1
    refine ev_cS ms_X9_require 1 1 [ev_i 1] [] dX9_winner_4 kw_966 rfl (by decide) (by decide) (Nat.le_of_ble_eq_true rfl) (Q' := fun o z => ev_After g m_X9_winner 4 (1 - 1) 4 [some (ev_o 9 a), some (ev_i x0), none, none] [] z Q o) (sg_X9_require_0 1 ?_) (fun o z h => h) rfl
    refine j_neg (by decide : ¬ ((1 : Int32) = 0)) ?_
    show ev_E g m_X9_winner 4 0 7 [some (ev_o 9 a), some (ev_i x0), none, none] [] S Q
    refine ev_aload_n (ev_o 9 a) dX9_winner_7 rfl rfl ?_
    refine gf_9_3 dX9_winner_8 kw_601 ?_
    refine ev_iload_n (x0) dX9_winner_11 rfl ?_
    refine ev_fV mv_X2_boardOf 2 2 [ev_i x0] [] dX9_winner_12 kw_488 rfl (by decide) rfl (by decide) (Nat.le_of_ble_eq_true rfl) (sp_X2_boardOf (a + 11) x0) ?_ rfl
    refine ev_astore_n dX9_winner_15 rfl (Nat.le_of_ble_eq_true rfl) (ev_hw rfl) ?_
    show ev_E g m_X9_winner 4 0 16 [some (ev_o 9 a), some (ev_i x0), some (ev_o 0 ((a_X2_deskOf (a + 11) x0) + 1)), none] [] S Q
    refine ev_aload_n (ev_o 0 ((a_X2_deskOf (a + 11) x0) + 1)) dX9_winner_16 rfl rfl ?_
    refine ev_iconst (0) dX9_winner_17 rfl ?_
    refine ev_fV mv_X0_bishopsOf 2 0 [ev_i 0] [] dX9_winner_18 kw_500 rfl (by decide) rfl (by decide) (Nat.le_of_ble_eq_true rfl) (sp_X0_bishopsOf ((a_X2_deskOf (a + 11) x0) + 1) 0) ?_ rfl
    refine ev_aload_n (ev_o 0 ((a_X2_deskOf (a + 11) x0) + 1)) dX9_winner_21 rfl rfl ?_
    refine ev_iconst (1) dX9_winner_22 rfl ?_
    refine ev_fV mv_X0_bishopsOf 2 0 [ev_i 1] [ev_i (j_at (S.1 ((a_X2_deskOf (a + 11) x0) + 3)) 2 0)] dX9_winner_23 kw_500 rfl (by decide) rfl (by decide) (Nat.le_of_ble_eq_true rfl) (sp_X0_bishopsOf ((a_X2_deskOf (a + 11) x0) + 1) 1) ?_ rfl
    refine ev_isub dX9_winner_26 ?_
    refine ev_istore_n dX9_winner_27 (Nat.le_of_ble_eq_true rfl) (ev_hw rfl) ?_
    show ev_E g m_X9_winner 4 0 28 [some (ev_o 9 a), some (ev_i x0), some (ev_o 0 ((a_X2_deskOf (a + 11) x0) + 1)), some (ev_i ((j_at (S.1 ((a_X2_deskOf (a + 11) x0) + 3)) 2 0) - (j_at (S.1 ((a_X2_deskOf (a + 11) x0) + 3)) 2 1)))] [] S Q
    refine ev_aload_n (ev_o 0 ((a_X2_deskOf (a + 11) x0) + 1)) dX9_winner_28 rfl rfl ?_
    refine ev_fV mv_X0_isFinished 3 0 [] [] dX9_winner_29 kw_1078 rfl (by decide) rfl (by decide) (Nat.le_of_ble_eq_true rfl) (sp_X0_isFinished ((a_X2_deskOf (a + 11) x0) + 1)) ?_ rfl
    by_cases c2 : (t_X0_isFinished S ((a_X2_deskOf (a + 11) x0) + 1)) = true
    · rw [if_pos c2]
      replace hQ := hQ.1 c2
      refine ev_if_eq 39 dX9_winner_32 (by decide) (fun h9 => absurd h9 (by decide : ¬ ((1 : Int32) = 0))) (fun _ => ?_)
      refine ev_iload_n (((j_at (S.1 ((a_X2_deskOf (a + 11) x0) + 3)) 2 0) - (j_at (S.1 ((a_X2_deskOf (a + 11) x0) + 3)) 2 1))) dX9_winner_35 rfl ?_
      refine ev_if_ne 41 dX9_winner_36 (by decide) (fun c3 => ?_) (fun c3 => ?_)
      · replace hQ := hQ.2 c3
        refine ev_iload_n (((j_at (S.1 ((a_X2_deskOf (a + 11) x0) + 3)) 2 0) - (j_at (S.1 ((a_X2_deskOf (a + 11) x0) + 3)) 2 1))) dX9_winner_41 rfl ?_
        refine ev_if_le 49 dX9_winner_42 (by decide) (fun c4 => ?_) (fun c4 => ?_)
        · replace hQ := hQ.1 c4
          refine ev_iconst (1) dX9_winner_49 rfl ?_
          exact ev_ireturn .int dX9_winner_50 rfl rfl hQ
        · replace hQ := hQ.2 c4
          refine ev_iconst (0) dX9_winner_45 rfl ?_
          refine ev_goto 50 dX9_winner_46 (by decide) ?_
          exact ev_ireturn .int dX9_winner_50 rfl rfl hQ
      · replace hQ := hQ.1 c3
        refine ev_iconst (-1) dX9_winner_39 rfl ?_
        exact ev_ireturn .int dX9_winner_40 rfl rfl hQ
    · rw [if_neg c2]
      replace hQ := hQ.2 c2
      refine ev_if_eq 39 dX9_winner_32 (by decide) (fun _ => ?_) (fun h9 => absurd (by decide : ((0 : Int32) = 0)) h9)
      refine ev_iconst (-1) dX9_winner_39 rfl ?_
      exact ev_ireturn .int dX9_winner_40 rfl rfl hQ
  · rw [if_neg c1]
    replace hQ := hQ.2 c1
    refine ev_cS ms_X9_require 1 1 [ev_i 0] [] dX9_winner_4 kw_966 rfl (by decide) (by decide) (Nat.le_of_ble_eq_true rfl) (Q' := fun o z => ev_After g m_X9_winner 4 (1 - 1) 4 [some (ev_o 9 a), some (ev_i x0), none, none] [] z Q o) (sg_X9_require_0 0 ?_) (fun o z h => h) rfl
    refine j_pos (by decide : ((0 : Int32) = 0)) ?_
    exact ev_T_out (by decide) rfl hQ
set_option maxHeartbeats 4000000 in
set_option maxRecDepth 100000 in
theorem sg_X0_canReach_0 {g : ev_G} {S : ev_S} {Q : ev_O → ev_S → Prop} (a : Nat) (x0 : Int32) (x1 : Int32) (hQ : ((j_at (S.1 (a + 1)) 64 x0) = (-1) → (
    Q (.inl (some (ev_i 0))) S)) ∧
  (¬ ((j_at (S.1 (a + 1)) 64 x0) = (-1)) → (
    ((j_at (S.1 (a + 1)) 64 x0) = (j_at (S.1 (a + 1)) 64 x1) → (
      Q (.inl (some (ev_i 0))) S)) ∧
    (¬ ((j_at (S.1 (a + 1)) 64 x0) = (j_at (S.1 (a + 1)) 64 x1)) → (
      (4 ≤ (S.1 a 4) → (
        (¬ (S.1 a 4) = 0) ∧ (
          ((ev_abs ((x1 / (S.1 a 4)) - (x0 / (S.1 a 4)))) = 0 → (
            Q (.inl (some (ev_i 0))) S)) ∧
          (¬ ((ev_abs ((x1 / (S.1 a 4)) - (x0 / (S.1 a 4)))) = 0) → (
            ((ev_abs ((x1 / (S.1 a 4)) - (x0 / (S.1 a 4)))) = (ev_abs ((ev_rem x1 (S.1 a 4)) - (ev_rem x0 (S.1 a 4)))) → (
              (((x1 / (S.1 a 4)) - (x0 / (S.1 a 4))) ≤ 0 → (
                (((ev_rem x1 (S.1 a 4)) - (ev_rem x0 (S.1 a 4))) ≤ 0 → (
                  ev_E g m_X0_canReach 3 0 117 [some (ev_o 0 a), some (ev_i x0), none, none, none, none, some (ev_i (ev_abs ((x1 / (S.1 a 4)) - (x0 / (S.1 a 4))))), some (ev_i ((-(S.1 a 4)) + (-1))), some (ev_i 1)] [] S Q)) ∧
                (¬ (((ev_rem x1 (S.1 a 4)) - (ev_rem x0 (S.1 a 4))) ≤ 0) → (
                  ev_E g m_X0_canReach 3 0 117 [some (ev_o 0 a), some (ev_i x0), none, none, none, none, some (ev_i (ev_abs ((x1 / (S.1 a 4)) - (x0 / (S.1 a 4))))), some (ev_i ((-(S.1 a 4)) + 1)), some (ev_i 1)] [] S Q)))) ∧
              (¬ (((x1 / (S.1 a 4)) - (x0 / (S.1 a 4))) ≤ 0) → (
                (((ev_rem x1 (S.1 a 4)) - (ev_rem x0 (S.1 a 4))) ≤ 0 → (
                  ev_E g m_X0_canReach 3 0 117 [some (ev_o 0 a), some (ev_i x0), none, none, none, none, some (ev_i (ev_abs ((x1 / (S.1 a 4)) - (x0 / (S.1 a 4))))), some (ev_i ((S.1 a 4) + (-1))), some (ev_i 1)] [] S Q)) ∧
                (¬ (((ev_rem x1 (S.1 a 4)) - (ev_rem x0 (S.1 a 4))) ≤ 0) → (
                  ev_E g m_X0_canReach 3 0 117 [some (ev_o 0 a), some (ev_i x0), none, none, none, none, some (ev_i (ev_abs ((x1 / (S.1 a 4)) - (x0 / (S.1 a 4))))), some (ev_i ((S.1 a 4) + 1)), some (ev_i 1)] [] S Q)))))) ∧
            (¬ ((ev_abs ((x1 / (S.1 a 4)) - (x0 / (S.1 a 4)))) = (ev_abs ((ev_rem x1 (S.1 a 4)) - (ev_rem x0 (S.1 a 4))))) → (
              Q (.inl (some (ev_i 0))) S))))))) ∧
      (¬ (4 ≤ (S.1 a 4)) → (
        Q (.inl (some (ev_i 0))) S))))))) : ev_Cv g m_X0_canReach 3 0 [ev_o 0 a, ev_i x0, ev_i x1] S Q := by
  refine ev_enter (by decide) rfl rfl (Nat.le_of_ble_eq_true rfl) ?_
  show ev_E g m_X0_canReach 3 0 0 [some (ev_o 0 a), some (ev_i x0), some (ev_i x1), none, none, none, none, none, none] [] S Q
  refine ev_aload_n (ev_o 0 a) dX0_canReach_0 rfl rfl ?_
  refine ev_iload_n (x0) dX0_canReach_1 rfl ?_
  refine ev_fV mv_X0_ownerOn 2 0 [ev_i x0] [] dX0_canReach_2 kw_1278 rfl (by decide) rfl (by decide) (Nat.le_of_ble_eq_true rfl) (sp_X0_ownerOn a x0) ?_ rfl
  refine ev_istore_n dX0_canReach_5 (Nat.le_of_ble_eq_true rfl) (ev_hw rfl) ?_
  show ev_E g m_X0_canReach 3 0 6 [some (ev_o 0 a), some (ev_i x0), some (ev_i x1), some (ev_i (j_at (S.1 (a + 1)) 64 x0)), none, none, none, none, none] [] S Q
  refine ev_iload_n ((j_at (S.1 (a + 1)) 64 x0)) dX0_canReach_6 rfl ?_
  refine ev_iconst (-1) dX0_canReach_7 rfl ?_
  refine ev_icmp_eq 28 dX0_canReach_8 (by decide) (fun c1 => ?_) (fun c1 => ?_)
  · replace hQ := hQ.1 c1
    refine ev_iconst (0) dX0_canReach_28 rfl ?_
    exact ev_ireturn .boolean dX0_canReach_29 rfl rfl hQ
  · replace hQ := hQ.2 c1
    refine ev_iload_n ((j_at (S.1 (a + 1)) 64 x0)) dX0_canReach_11 rfl ?_
    refine ev_aload_n (ev_o 0 a) dX0_canReach_12 rfl rfl ?_
    refine ev_iload_n (x1) dX0_canReach_13 rfl ?_
    refine ev_fV mv_X0_ownerOn 2 0 [ev_i x1] [ev_i (j_at (S.1 (a + 1)) 64 x0)] dX0_canReach_14 kw_1278 rfl (by decide) rfl (by decide) (Nat.le_of_ble_eq_true rfl) (sp_X0_ownerOn a x1) ?_ rfl
    refine ev_icmp_eq 28 dX0_canReach_17 (by decide) (fun c2 => ?_) (fun c2 => ?_)
    · replace hQ := hQ.1 c2
      refine ev_iconst (0) dX0_canReach_28 rfl ?_
      exact ev_ireturn .boolean dX0_canReach_29 rfl rfl hQ
    · replace hQ := hQ.2 c2
      refine ev_aload_n (ev_o 0 a) dX0_canReach_20 rfl rfl ?_
      refine gf_0_4 dX0_canReach_21 kw_154 ?_
      refine ev_iconst (4) dX0_canReach_24 rfl ?_
      refine ev_icmp_ge 30 dX0_canReach_25 (by decide) (fun c3 => ?_) (fun c3 => ?_)
      · replace hQ := hQ.1 c3
        refine ev_iload_n (x1) dX0_canReach_30 rfl ?_
        refine ev_aload_n (ev_o 0 a) dX0_canReach_31 rfl rfl ?_
        refine gf_0_4 dX0_canReach_32 kw_154 ?_
        obtain ⟨h1, hQ⟩ := hQ
        refine ev_idiv dX0_canReach_35 h1 ?_
        refine ev_iload_n (x0) dX0_canReach_36 rfl ?_
        refine ev_aload_n (ev_o 0 a) dX0_canReach_37 rfl rfl ?_
        refine gf_0_4 dX0_canReach_38 kw_154 ?_
        refine ev_idiv dX0_canReach_41 h1 ?_
        refine ev_isub dX0_canReach_42 ?_
        refine ev_istore dX0_canReach_43 (Nat.le_of_ble_eq_true rfl) (ev_hw rfl) ?_
        show ev_E g m_X0_canReach 3 0 45 [some (ev_o 0 a), some (ev_i x0), some (ev_i x1), some (ev_i (j_at (S.1 (a + 1)) 64 x0)), some (ev_i ((x1 / (S.1 a 4)) - (x0 / (S.1 a 4)))), none, none, none, none] [] S Q
        refine ev_iload_n (x1) dX0_canReach_45 rfl ?_
        refine ev_aload_n (ev_o 0 a) dX0_canReach_46 rfl rfl ?_
        refine gf_0_4 dX0_canReach_47 kw_154 ?_
        refine ev_irem dX0_canReach_50 h1 ?_
        refine ev_iload_n (x0) dX0_canReach_51 rfl ?_
        refine ev_aload_n (ev_o 0 a) dX0_canReach_52 rfl rfl ?_
        refine gf_0_4 dX0_canReach_53 kw_154 ?_
        refine ev_irem dX0_canReach_56 h1 ?_
        refine ev_isub dX0_canReach_57 ?_
        refine ev_istore dX0_canReach_58 (Nat.le_of_ble_eq_true rfl) (ev_hw rfl) ?_
        show ev_E g m_X0_canReach 3 0 60 [some (ev_o 0 a), some (ev_i x0), some (ev_i x1), some (ev_i (j_at (S.1 (a + 1)) 64 x0)), some (ev_i ((x1 / (S.1 a 4)) - (x0 / (S.1 a 4)))), some (ev_i ((ev_rem x1 (S.1 a 4)) - (ev_rem x0 (S.1 a 4)))), none, none, none] [] S Q
        refine ev_iload (((x1 / (S.1 a 4)) - (x0 / (S.1 a 4)))) dX0_canReach_60 rfl ?_
        refine ev_mathAbs dX0_canReach_62 kw_1309 kw_1310 kw_31 kw_1311 (Nat.le_of_ble_eq_true rfl) ?_
        refine ev_istore dX0_canReach_65 (Nat.le_of_ble_eq_true rfl) (ev_hw rfl) ?_
        show ev_E g m_X0_canReach 3 0 67 [some (ev_o 0 a), some (ev_i x0), some (ev_i x1), some (ev_i (j_at (S.1 (a + 1)) 64 x0)), some (ev_i ((x1 / (S.1 a 4)) - (x0 / (S.1 a 4)))), some (ev_i ((ev_rem x1 (S.1 a 4)) - (ev_rem x0 (S.1 a 4)))), some (ev_i (ev_abs ((x1 / (S.1 a 4)) - (x0 / (S.1 a 4))))), none, none] [] S Q
        refine ev_iload ((ev_abs ((x1 / (S.1 a 4)) - (x0 / (S.1 a 4))))) dX0_canReach_67 rfl ?_
        refine ev_if_eq 82 dX0_canReach_69 (by decide) (fun c4 => ?_) (fun c4 => ?_)
        · replace hQ := hQ.1 c4
          refine ev_iconst (0) dX0_canReach_82 rfl ?_
          exact ev_ireturn .boolean dX0_canReach_83 rfl rfl hQ
        · replace hQ := hQ.2 c4
          refine ev_iload ((ev_abs ((x1 / (S.1 a 4)) - (x0 / (S.1 a 4))))) dX0_canReach_72 rfl ?_
          refine ev_iload (((ev_rem x1 (S.1 a 4)) - (ev_rem x0 (S.1 a 4)))) dX0_canReach_74 rfl ?_
          refine ev_mathAbs dX0_canReach_76 kw_1309 kw_1310 kw_31 kw_1311 (Nat.le_of_ble_eq_true rfl) ?_
          refine ev_icmp_eq 84 dX0_canReach_79 (by decide) (fun c5 => ?_) (fun c5 => ?_)
          · replace hQ := hQ.1 c5
            refine ev_iload (((x1 / (S.1 a 4)) - (x0 / (S.1 a 4)))) dX0_canReach_84 rfl ?_
            refine ev_if_le 96 dX0_canReach_86 (by decide) (fun c6 => ?_) (fun c6 => ?_)
            · replace hQ := hQ.1 c6
              refine ev_aload_n (ev_o 0 a) dX0_canReach_96 rfl rfl ?_
              refine gf_0_4 dX0_canReach_97 kw_154 ?_
              refine ev_ineg dX0_canReach_100 ?_
              refine ev_iload (((ev_rem x1 (S.1 a 4)) - (ev_rem x0 (S.1 a 4)))) dX0_canReach_101 rfl ?_
              refine ev_if_le 110 dX0_canReach_103 (by decide) (fun c7 => ?_) (fun c7 => ?_)
              · replace hQ := hQ.1 c7
                refine ev_iconst (-1) dX0_canReach_110 rfl ?_
                refine ev_iadd dX0_canReach_111 ?_
                refine ev_istore dX0_canReach_112 (Nat.le_of_ble_eq_true rfl) (ev_hw rfl) ?_
                show ev_E g m_X0_canReach 3 0 114 [some (ev_o 0 a), some (ev_i x0), some (ev_i x1), some (ev_i (j_at (S.1 (a + 1)) 64 x0)), some (ev_i ((x1 / (S.1 a 4)) - (x0 / (S.1 a 4)))), some (ev_i ((ev_rem x1 (S.1 a 4)) - (ev_rem x0 (S.1 a 4)))), some (ev_i (ev_abs ((x1 / (S.1 a 4)) - (x0 / (S.1 a 4))))), some (ev_i ((-(S.1 a 4)) + (-1))), none] [] S Q
                refine ev_iconst (1) dX0_canReach_114 rfl ?_
                refine ev_istore dX0_canReach_115 (Nat.le_of_ble_eq_true rfl) (ev_hw rfl) ?_
                show ev_E g m_X0_canReach 3 0 117 [some (ev_o 0 a), some (ev_i x0), some (ev_i x1), some (ev_i (j_at (S.1 (a + 1)) 64 x0)), some (ev_i ((x1 / (S.1 a 4)) - (x0 / (S.1 a 4)))), some (ev_i ((ev_rem x1 (S.1 a 4)) - (ev_rem x0 (S.1 a 4)))), some (ev_i (ev_abs ((x1 / (S.1 a 4)) - (x0 / (S.1 a 4))))), some (ev_i ((-(S.1 a 4)) + (-1))), some (ev_i 1)] [] S Q
                refine ev_fgm [true, true, false, false, false, false, true, true, true] ?_
                exact hQ
              · replace hQ := hQ.2 c7
                refine ev_iconst (1) dX0_canReach_106 rfl ?_
                refine ev_goto 111 dX0_canReach_107 (by decide) ?_
                refine ev_iadd dX0_canReach_111 ?_
                refine ev_istore dX0_canReach_112 (Nat.le_of_ble_eq_true rfl) (ev_hw rfl) ?_
                show ev_E g m_X0_canReach 3 0 114 [some (ev_o 0 a), some (ev_i x0), some (ev_i x1), some (ev_i (j_at (S.1 (a + 1)) 64 x0)), some (ev_i ((x1 / (S.1 a 4)) - (x0 / (S.1 a 4)))), some (ev_i ((ev_rem x1 (S.1 a 4)) - (ev_rem x0 (S.1 a 4)))), some (ev_i (ev_abs ((x1 / (S.1 a 4)) - (x0 / (S.1 a 4))))), some (ev_i ((-(S.1 a 4)) + 1)), none] [] S Q
                refine ev_iconst (1) dX0_canReach_114 rfl ?_
                refine ev_istore dX0_canReach_115 (Nat.le_of_ble_eq_true rfl) (ev_hw rfl) ?_
                show ev_E g m_X0_canReach 3 0 117 [some (ev_o 0 a), some (ev_i x0), some (ev_i x1), some (ev_i (j_at (S.1 (a + 1)) 64 x0)), some (ev_i ((x1 / (S.1 a 4)) - (x0 / (S.1 a 4)))), some (ev_i ((ev_rem x1 (S.1 a 4)) - (ev_rem x0 (S.1 a 4)))), some (ev_i (ev_abs ((x1 / (S.1 a 4)) - (x0 / (S.1 a 4))))), some (ev_i ((-(S.1 a 4)) + 1)), some (ev_i 1)] [] S Q
                refine ev_fgm [true, true, false, false, false, false, true, true, true] ?_
                exact hQ
            · replace hQ := hQ.2 c6
              refine ev_aload_n (ev_o 0 a) dX0_canReach_89 rfl rfl ?_
              refine gf_0_4 dX0_canReach_90 kw_154 ?_
              refine ev_goto 101 dX0_canReach_93 (by decide) ?_
              refine ev_iload (((ev_rem x1 (S.1 a 4)) - (ev_rem x0 (S.1 a 4)))) dX0_canReach_101 rfl ?_
              refine ev_if_le 110 dX0_canReach_103 (by decide) (fun c8 => ?_) (fun c8 => ?_)
              · replace hQ := hQ.1 c8
                refine ev_iconst (-1) dX0_canReach_110 rfl ?_
                refine ev_iadd dX0_canReach_111 ?_
                refine ev_istore dX0_canReach_112 (Nat.le_of_ble_eq_true rfl) (ev_hw rfl) ?_
                show ev_E g m_X0_canReach 3 0 114 [some (ev_o 0 a), some (ev_i x0), some (ev_i x1), some (ev_i (j_at (S.1 (a + 1)) 64 x0)), some (ev_i ((x1 / (S.1 a 4)) - (x0 / (S.1 a 4)))), some (ev_i ((ev_rem x1 (S.1 a 4)) - (ev_rem x0 (S.1 a 4)))), some (ev_i (ev_abs ((x1 / (S.1 a 4)) - (x0 / (S.1 a 4))))), some (ev_i ((S.1 a 4) + (-1))), none] [] S Q
                refine ev_iconst (1) dX0_canReach_114 rfl ?_
                refine ev_istore dX0_canReach_115 (Nat.le_of_ble_eq_true rfl) (ev_hw rfl) ?_
                show ev_E g m_X0_canReach 3 0 117 [some (ev_o 0 a), some (ev_i x0), some (ev_i x1), some (ev_i (j_at (S.1 (a + 1)) 64 x0)), some (ev_i ((x1 / (S.1 a 4)) - (x0 / (S.1 a 4)))), some (ev_i ((ev_rem x1 (S.1 a 4)) - (ev_rem x0 (S.1 a 4)))), some (ev_i (ev_abs ((x1 / (S.1 a 4)) - (x0 / (S.1 a 4))))), some (ev_i ((S.1 a 4) + (-1))), some (ev_i 1)] [] S Q
                refine ev_fgm [true, true, false, false, false, false, true, true, true] ?_
                exact hQ
              · replace hQ := hQ.2 c8
                refine ev_iconst (1) dX0_canReach_106 rfl ?_
                refine ev_goto 111 dX0_canReach_107 (by decide) ?_
                refine ev_iadd dX0_canReach_111 ?_
                refine ev_istore dX0_canReach_112 (Nat.le_of_ble_eq_true rfl) (ev_hw rfl) ?_
                show ev_E g m_X0_canReach 3 0 114 [some (ev_o 0 a), some (ev_i x0), some (ev_i x1), some (ev_i (j_at (S.1 (a + 1)) 64 x0)), some (ev_i ((x1 / (S.1 a 4)) - (x0 / (S.1 a 4)))), some (ev_i ((ev_rem x1 (S.1 a 4)) - (ev_rem x0 (S.1 a 4)))), some (ev_i (ev_abs ((x1 / (S.1 a 4)) - (x0 / (S.1 a 4))))), some (ev_i ((S.1 a 4) + 1)), none] [] S Q
                refine ev_iconst (1) dX0_canReach_114 rfl ?_
                refine ev_istore dX0_canReach_115 (Nat.le_of_ble_eq_true rfl) (ev_hw rfl) ?_
                show ev_E g m_X0_canReach 3 0 117 [some (ev_o 0 a), some (ev_i x0), some (ev_i x1), some (ev_i (j_at (S.1 (a + 1)) 64 x0)), some (ev_i ((x1 / (S.1 a 4)) - (x0 / (S.1 a 4)))), some (ev_i ((ev_rem x1 (S.1 a 4)) - (ev_rem x0 (S.1 a 4)))), some (ev_i (ev_abs ((x1 / (S.1 a 4)) - (x0 / (S.1 a 4))))), some (ev_i ((S.1 a 4) + 1)), some (ev_i 1)] [] S Q
                refine ev_fgm [true, true, false, false, false, false, true, true, true] ?_
                exact hQ
          · replace hQ := hQ.2 c5
            refine ev_iconst (0) dX0_canReach_82 rfl ?_
            exact ev_ireturn .boolean dX0_canReach_83 rfl rfl hQ
      · replace hQ := hQ.2 c3
        refine ev_iconst (0) dX0_canReach_28 rfl ?_
        exact ev_ireturn .boolean dX0_canReach_29 rfl rfl hQ
set_option maxHeartbeats 4000000 in
set_option maxRecDepth 100000 in
theorem sg_X0_canReach_117 {g : ev_G} {S : ev_S} {Q : ev_O → ev_S → Prop} (a : Nat) (u1 : Int32) (u6 : Int32) (u7 : Int32) (u8 : Int32) (hQ : (u6 ≤ u8 → (
    Q (.inl (some (ev_i 1))) S)) ∧
  (¬ (u6 ≤ u8) → (
    ((j_at (S.1 (a + 1)) 64 (u1 + (u8 * u7))) = (-1) → (
      ev_E g m_X0_canReach 3 0 117 [some (ev_o 0 a), some (ev_i u1), none, none, none, none, some (ev_i u6), some (ev_i u7), some (ev_i (u8 + 1))] [] S Q)) ∧
    (¬ ((j_at (S.1 (a + 1)) 64 (u1 + (u8 * u7))) = (-1)) → (
      Q (.inl (some (ev_i 0))) S))))) : ev_E g m_X0_canReach 3 0 117 [some (ev_o 0 a), some (ev_i u1), none, none, none, none, some (ev_i u6), some (ev_i u7), some (ev_i u8)] [] S Q := by
  refine ev_iload (u8) dX0_canReach_117 rfl ?_
  refine ev_iload (u6) dX0_canReach_119 rfl ?_
  refine ev_icmp_ge 147 dX0_canReach_121 (by decide) (fun c1 => ?_) (fun c1 => ?_)
  · replace hQ := hQ.1 c1
    refine ev_iconst (1) dX0_canReach_147 rfl ?_
    exact ev_ireturn .boolean dX0_canReach_148 rfl rfl hQ
  · replace hQ := hQ.2 c1
    refine ev_aload_n (ev_o 0 a) dX0_canReach_124 rfl rfl ?_
    refine ev_iload_n (u1) dX0_canReach_125 rfl ?_
    refine ev_iload (u8) dX0_canReach_126 rfl ?_
    refine ev_iload (u7) dX0_canReach_128 rfl ?_
    refine ev_imul dX0_canReach_130 ?_
    refine ev_iadd dX0_canReach_131 ?_
    refine ev_fV mv_X0_ownerOn 2 0 [ev_i (u1 + (u8 * u7))] [] dX0_canReach_132 kw_1278 rfl (by decide) rfl (by decide) (Nat.le_of_ble_eq_true rfl) (sp_X0_ownerOn a (u1 + (u8 * u7))) ?_ rfl
    refine ev_iconst (-1) dX0_canReach_135 rfl ?_
    refine ev_icmp_eq 141 dX0_canReach_136 (by decide) (fun c2 => ?_) (fun c2 => ?_)
    · replace hQ := hQ.1 c2
      refine ev_iinc u8 (1) dX0_canReach_141 rfl (by decide) (ev_hw rfl) ?_
      show ev_E g m_X0_canReach 3 0 144 [some (ev_o 0 a), some (ev_i u1), none, none, none, none, some (ev_i u6), some (ev_i u7), some (ev_i (u8 + 1))] [] S Q
      refine ev_goto 117 dX0_canReach_144 (by decide) ?_
      exact hQ
    · replace hQ := hQ.2 c2
      refine ev_iconst (0) dX0_canReach_139 rfl ?_
      exact ev_ireturn .boolean dX0_canReach_140 rfl rfl hQ
set_option maxHeartbeats 4000000 in
set_option maxRecDepth 100000 in
theorem sg_X9_canMove_0 {g : ev_G} {S : ev_S} {Q : ev_O → ev_S → Prop} (a : Nat) (x0 : Int32) (x1 : Int32) (x2 : Int32) (hQ : ((t_X9_isPlayer x0) = true → (
    ((t_X2_isSquare S (a + 11) x1) = true → (
      ((t_X2_isSquare S (a + 11) x2) = true → (
        ev_Cv g m_X0_canReach 3 0 [ev_o 0 ((a_X2_deskOf (a + 11) x0) + 1), ev_i x1, ev_i x2] S (fun o S1 => ∃ v1_ : Bool, o = .inl (some (ev_i (if v1_ = true then 1 else 0))) ∧ (
          (v1_ = true → (
            Q (.inl (some (ev_i 1))) S1)) ∧
          (¬ (v1_ = true) → (
            Q (.inl (some (ev_i 0))) S1)))))) ∧
      (¬ ((t_X2_isSquare S (a + 11) x2) = true) → (
        Q (.inr 0) S)))) ∧
    (¬ ((t_X2_isSquare S (a + 11) x1) = true) → (
      Q (.inr 0) S)))) ∧
  (¬ ((t_X9_isPlayer x0) = true) → (
    Q (.inr 0) S))) : ev_Cv g m_X9_canMove 4 1 [ev_o 9 a, ev_i x0, ev_i x1, ev_i x2] S Q := by
  refine ev_enter (by decide) rfl rfl (Nat.le_of_ble_eq_true rfl) ?_
  show ev_E g m_X9_canMove 4 1 0 [some (ev_o 9 a), some (ev_i x0), some (ev_i x1), some (ev_i x2)] [] S Q
  refine ev_iload_n (x0) dX9_canMove_0 rfl ?_
  refine ev_fS ms_X9_isPlayer 1 [ev_i x0] [] dX9_canMove_1 kw_954 rfl (by decide) (Nat.le_of_ble_eq_true rfl) (sp_X9_isPlayer x0) ?_ rfl
  by_cases c1 : (t_X9_isPlayer x0) = true
  · rw [if_pos c1]
    replace hQ := hQ.1 c1
    refine ev_if_eq 33 dX9_canMove_4 (by decide) (fun h9 => absurd h9 (by decide : ¬ ((1 : Int32) = 0))) (fun _ => ?_)
    refine ev_aload_n (ev_o 9 a) dX9_canMove_7 rfl rfl ?_
    refine gf_9_3 dX9_canMove_8 kw_601 ?_
    refine ev_iload_n (x1) dX9_canMove_11 rfl ?_
    refine ev_fV mv_X2_isSquare 3 2 [ev_i x1] [] dX9_canMove_12 kw_957 rfl (by decide) rfl (by decide) (Nat.le_of_ble_eq_true rfl) (sp_X2_isSquare (a + 11) x1) ?_ rfl
    by_cases c2 : (t_X2_isSquare S (a + 11) x1) = true
    · rw [if_pos c2]
      replace hQ := hQ.1 c2
      refine ev_if_eq 33 dX9_canMove_15 (by decide) (fun h9 => absurd h9 (by decide : ¬ ((1 : Int32) = 0))) (fun _ => ?_)
      refine ev_aload_n (ev_o 9 a) dX9_canMove_18 rfl rfl ?_
      refine gf_9_3 dX9_canMove_19 kw_601 ?_
      refine ev_iload_n (x2) dX9_canMove_22 rfl ?_
      refine ev_fV mv_X2_isSquare 3 2 [ev_i x2] [] dX9_canMove_23 kw_957 rfl (by decide) rfl (by decide) (Nat.le_of_ble_eq_true rfl) (sp_X2_isSquare (a + 11) x2) ?_ rfl
      by_cases c3 : (t_X2_isSquare S (a + 11) x2) = true
      · rw [if_pos c3]
        replace hQ := hQ.1 c3
        refine ev_if_eq 33 dX9_canMove_26 (by decide) (fun h9 => absurd h9 (by decide : ¬ ((1 : Int32) = 0))) (fun _ => ?_)
        refine ev_iconst (1) dX9_canMove_29 rfl ?_
        refine ev_goto 34 dX9_canMove_30 (by decide) ?_
        refine ev_cS ms_X9_require 1 1 [ev_i 1] [] dX9_canMove_34 kw_966 rfl (by decide) (by decide) (Nat.le_of_ble_eq_true rfl) (Q' := fun o z => ev_After g m_X9_canMove 4 (1 - 1) 34 [some (ev_o 9 a), some (ev_i x0), some (ev_i x1), some (ev_i x2)] [] z Q o) (sg_X9_require_0 1 ?_) (fun o z h => h) rfl
        refine j_neg (by decide : ¬ ((1 : Int32) = 0)) ?_
        show ev_E g m_X9_canMove 4 0 37 [some (ev_o 9 a), some (ev_i x0), some (ev_i x1), some (ev_i x2)] [] S Q
        refine ev_aload_n (ev_o 9 a) dX9_canMove_37 rfl rfl ?_
        refine gf_9_3 dX9_canMove_38 kw_601 ?_
        refine ev_iload_n (x0) dX9_canMove_41 rfl ?_
        refine ev_fV mv_X2_boardOf 2 2 [ev_i x0] [] dX9_canMove_42 kw_488 rfl (by decide) rfl (by decide) (Nat.le_of_ble_eq_true rfl) (sp_X2_boardOf (a + 11) x0) ?_ rfl
        refine ev_iload_n (x1) dX9_canMove_45 rfl ?_
        refine ev_iload_n (x2) dX9_canMove_46 rfl ?_
        refine ev_cV mv_X0_canReach 3 0 0 [ev_i x1, ev_i x2] [] dX9_canMove_47 kw_1355 rfl (by decide) rfl (by decide) (by decide) (Nat.le_of_ble_eq_true rfl) hQ ?_ rfl
        rintro o S1 ⟨v1_, rfl, hQ⟩
        show ev_E g m_X9_canMove 4 0 50 [some (ev_o 9 a), some (ev_i x0), some (ev_i x1), some (ev_i x2)] [ev_i (if v1_ = true then 1 else 0)] S1 Q
        by_cases c4 : v1_ = true
        · rw [if_pos c4]
          replace hQ := hQ.1 c4
          exact ev_ireturn .boolean dX9_canMove_50 rfl rfl hQ
        · rw [if_neg c4]
          replace hQ := hQ.2 c4
          exact ev_ireturn .boolean dX9_canMove_50 rfl rfl hQ
      · rw [if_neg c3]
        replace hQ := hQ.2 c3
        refine ev_if_eq 33 dX9_canMove_26 (by decide) (fun _ => ?_) (fun h9 => absurd (by decide : ((0 : Int32) = 0)) h9)
        refine ev_iconst (0) dX9_canMove_33 rfl ?_
        refine ev_cS ms_X9_require 1 1 [ev_i 0] [] dX9_canMove_34 kw_966 rfl (by decide) (by decide) (Nat.le_of_ble_eq_true rfl) (Q' := fun o z => ev_After g m_X9_canMove 4 (1 - 1) 34 [some (ev_o 9 a), some (ev_i x0), some (ev_i x1), some (ev_i x2)] [] z Q o) (sg_X9_require_0 0 ?_) (fun o z h => h) rfl
        refine j_pos (by decide : ((0 : Int32) = 0)) ?_
        exact ev_T_out (by decide) rfl hQ
    · rw [if_neg c2]
      replace hQ := hQ.2 c2
      refine ev_if_eq 33 dX9_canMove_15 (by decide) (fun _ => ?_) (fun h9 => absurd (by decide : ((0 : Int32) = 0)) h9)
      refine ev_iconst (0) dX9_canMove_33 rfl ?_
      refine ev_cS ms_X9_require 1 1 [ev_i 0] [] dX9_canMove_34 kw_966 rfl (by decide) (by decide) (Nat.le_of_ble_eq_true rfl) (Q' := fun o z => ev_After g m_X9_canMove 4 (1 - 1) 34 [some (ev_o 9 a), some (ev_i x0), some (ev_i x1), some (ev_i x2)] [] z Q o) (sg_X9_require_0 0 ?_) (fun o z h => h) rfl
      refine j_pos (by decide : ((0 : Int32) = 0)) ?_
      exact ev_T_out (by decide) rfl hQ
  · rw [if_neg c1]
    replace hQ := hQ.2 c1
    refine ev_if_eq 33 dX9_canMove_4 (by decide) (fun _ => ?_) (fun h9 => absurd (by decide : ((0 : Int32) = 0)) h9)
    refine ev_iconst (0) dX9_canMove_33 rfl ?_
    refine ev_cS ms_X9_require 1 1 [ev_i 0] [] dX9_canMove_34 kw_966 rfl (by decide) (by decide) (Nat.le_of_ble_eq_true rfl) (Q' := fun o z => ev_After g m_X9_canMove 4 (1 - 1) 34 [some (ev_o 9 a), some (ev_i x0), some (ev_i x1), some (ev_i x2)] [] z Q o) (sg_X9_require_0 0 ?_) (fun o z h => h) rfl
    refine j_pos (by decide : ((0 : Int32) = 0)) ?_
    exact ev_T_out (by decide) rfl hQ
set_option maxHeartbeats 4000000 in
set_option maxRecDepth 100000 in
theorem sg_X0_waysOf_0 {g : ev_G} {S : ev_S} {Q : ev_O → ev_S → Prop} (a : Nat) (x0 : Int32) (hQ : ev_E g m_X0_waysOf 4 0 15 [some (ev_o 0 a), some (ev_i x0), some (ev_i 0), some (ev_i ((S.1 a 4) * (S.1 a 4))), some (ev_i 0), none] [] S Q) : ev_Cv g m_X0_waysOf 4 0 [ev_o 0 a, ev_i x0] S Q := by
  refine ev_enter (by decide) rfl rfl (Nat.le_of_ble_eq_true rfl) ?_
  show ev_E g m_X0_waysOf 4 0 0 [some (ev_o 0 a), some (ev_i x0), none, none, none, none] [] S Q
  refine ev_iconst (0) dX0_waysOf_0 rfl ?_
  refine ev_istore_n dX0_waysOf_1 (Nat.le_of_ble_eq_true rfl) (ev_hw rfl) ?_
  show ev_E g m_X0_waysOf 4 0 2 [some (ev_o 0 a), some (ev_i x0), some (ev_i 0), none, none, none] [] S Q
  refine ev_aload_n (ev_o 0 a) dX0_waysOf_2 rfl rfl ?_
  refine gf_0_4 dX0_waysOf_3 kw_154 ?_
  refine ev_aload_n (ev_o 0 a) dX0_waysOf_6 rfl rfl ?_
  refine gf_0_4 dX0_waysOf_7 kw_154 ?_
  refine ev_imul dX0_waysOf_10 ?_
  refine ev_istore_n dX0_waysOf_11 (Nat.le_of_ble_eq_true rfl) (ev_hw rfl) ?_
  show ev_E g m_X0_waysOf 4 0 12 [some (ev_o 0 a), some (ev_i x0), some (ev_i 0), some (ev_i ((S.1 a 4) * (S.1 a 4))), none, none] [] S Q
  refine ev_iconst (0) dX0_waysOf_12 rfl ?_
  refine ev_istore dX0_waysOf_13 (Nat.le_of_ble_eq_true rfl) (ev_hw rfl) ?_
  show ev_E g m_X0_waysOf 4 0 15 [some (ev_o 0 a), some (ev_i x0), some (ev_i 0), some (ev_i ((S.1 a 4) * (S.1 a 4))), some (ev_i 0), none] [] S Q
  exact hQ
set_option maxHeartbeats 4000000 in
set_option maxRecDepth 100000 in
theorem sg_X0_waysOf_15 {g : ev_G} {S : ev_S} {Q : ev_O → ev_S → Prop} (a : Nat) (u1 : Int32) (u2 : Int32) (u3 : Int32) (u4 : Int32) (hQ : (u3 ≤ u4 → (
    Q (.inl (some (ev_i u2))) S)) ∧
  (¬ (u3 ≤ u4) → (
    ((j_at (S.1 (a + 1)) 64 u4) = u1 → (
      ev_E g m_X0_waysOf 4 0 34 [some (ev_o 0 a), some (ev_i u1), some (ev_i u2), some (ev_i u3), some (ev_i u4), some (ev_i 0)] [] S Q)) ∧
    (¬ ((j_at (S.1 (a + 1)) 64 u4) = u1) → (
      ev_E g m_X0_waysOf 4 0 15 [some (ev_o 0 a), some (ev_i u1), some (ev_i u2), some (ev_i u3), some (ev_i (u4 + 1)), none] [] S Q))))) : ev_E g m_X0_waysOf 4 0 15 [some (ev_o 0 a), some (ev_i u1), some (ev_i u2), some (ev_i u3), some (ev_i u4), none] [] S Q := by
  refine ev_iload (u4) dX0_waysOf_15 rfl ?_
  refine ev_iload_n (u3) dX0_waysOf_17 rfl ?_
  refine ev_icmp_ge 66 dX0_waysOf_18 (by decide) (fun c1 => ?_) (fun c1 => ?_)
  · replace hQ := hQ.1 c1
    refine ev_iload_n (u2) dX0_waysOf_66 rfl ?_
    exact ev_ireturn .int dX0_waysOf_67 rfl rfl hQ
  · replace hQ := hQ.2 c1
    refine ev_aload_n (ev_o 0 a) dX0_waysOf_21 rfl rfl ?_
    refine ev_iload (u4) dX0_waysOf_22 rfl ?_
    refine ev_fV mv_X0_ownerOn 2 0 [ev_i u4] [] dX0_waysOf_24 kw_1278 rfl (by decide) rfl (by decide) (Nat.le_of_ble_eq_true rfl) (sp_X0_ownerOn a u4) ?_ rfl
    refine ev_iload_n (u1) dX0_waysOf_27 rfl ?_
    refine ev_icmp_ne 60 dX0_waysOf_28 (by decide) (fun c2 => ?_) (fun c2 => ?_)
    · replace hQ := hQ.2 c2
      refine ev_iinc u4 (1) dX0_waysOf_60 rfl (by decide) (ev_hw rfl) ?_
      show ev_E g m_X0_waysOf 4 0 63 [some (ev_o 0 a), some (ev_i u1), some (ev_i u2), some (ev_i u3), some (ev_i (u4 + 1)), none] [] S Q
      refine ev_goto 15 dX0_waysOf_63 (by decide) ?_
      exact hQ
    · replace hQ := hQ.1 c2
      refine ev_iconst (0) dX0_waysOf_31 rfl ?_
      refine ev_istore dX0_waysOf_32 (Nat.le_of_ble_eq_true rfl) (ev_hw rfl) ?_
      show ev_E g m_X0_waysOf 4 0 34 [some (ev_o 0 a), some (ev_i u1), some (ev_i u2), some (ev_i u3), some (ev_i u4), some (ev_i 0)] [] S Q
      exact hQ
set_option maxHeartbeats 4000000 in
set_option maxRecDepth 100000 in
theorem sg_X0_waysOf_34 {g : ev_G} {S : ev_S} {Q : ev_O → ev_S → Prop} (a : Nat) (u1 : Int32) (u2 : Int32) (u3 : Int32) (u4 : Int32) (u5 : Int32) (hQ : (u3 ≤ u5 → (
    ev_E g m_X0_waysOf 4 0 15 [some (ev_o 0 a), some (ev_i u1), some (ev_i u2), some (ev_i u3), some (ev_i (u4 + 1)), none] [] S Q)) ∧
  (¬ (u3 ≤ u5) → (
    ev_Cv g m_X0_canReach 3 0 [ev_o 0 a, ev_i u4, ev_i u5] S (fun o S1 => ∃ v1_ : Bool, o = .inl (some (ev_i (if v1_ = true then 1 else 0))) ∧ (
      (v1_ = true → (
        ev_E g m_X0_waysOf 4 0 34 [some (ev_o 0 a), some (ev_i u1), some (ev_i (u2 + 1)), some (ev_i u3), some (ev_i u4), some (ev_i (u5 + 1))] [] S1 Q)) ∧
      (¬ (v1_ = true) → (
        ev_E g m_X0_waysOf 4 0 34 [some (ev_o 0 a), some (ev_i u1), some (ev_i u2), some (ev_i u3), some (ev_i u4), some (ev_i (u5 + 1))] [] S1 Q))))))) : ev_E g m_X0_waysOf 4 0 34 [some (ev_o 0 a), some (ev_i u1), some (ev_i u2), some (ev_i u3), some (ev_i u4), some (ev_i u5)] [] S Q := by
  refine ev_iload (u5) dX0_waysOf_34 rfl ?_
  refine ev_iload_n (u3) dX0_waysOf_36 rfl ?_
  refine ev_icmp_ge 60 dX0_waysOf_37 (by decide) (fun c1 => ?_) (fun c1 => ?_)
  · replace hQ := hQ.1 c1
    refine ev_iinc u4 (1) dX0_waysOf_60 rfl (by decide) (ev_hw rfl) ?_
    show ev_E g m_X0_waysOf 4 0 63 [some (ev_o 0 a), some (ev_i u1), some (ev_i u2), some (ev_i u3), some (ev_i (u4 + 1)), some (ev_i u5)] [] S Q
    refine ev_goto 15 dX0_waysOf_63 (by decide) ?_
    refine ev_fgm [true, true, true, true, true, false] ?_
    exact hQ
  · replace hQ := hQ.2 c1
    refine ev_aload_n (ev_o 0 a) dX0_waysOf_40 rfl rfl ?_
    refine ev_iload (u4) dX0_waysOf_41 rfl ?_
    refine ev_iload (u5) dX0_waysOf_43 rfl ?_
    refine ev_cV mv_X0_canReach 3 0 0 [ev_i u4, ev_i u5] [] dX0_waysOf_45 kw_1367 rfl (by decide) rfl (by decide) (by decide) (Nat.le_of_ble_eq_true rfl) hQ ?_ rfl
    rintro o S1 ⟨v1_, rfl, hQ⟩
    show ev_E g m_X0_waysOf 4 0 48 [some (ev_o 0 a), some (ev_i u1), some (ev_i u2), some (ev_i u3), some (ev_i u4), some (ev_i u5)] [ev_i (if v1_ = true then 1 else 0)] S1 Q
    by_cases c2 : v1_ = true
    · rw [if_pos c2]
      replace hQ := hQ.1 c2
      refine ev_if_eq 54 dX0_waysOf_48 (by decide) (fun h9 => absurd h9 (by decide : ¬ ((1 : Int32) = 0))) (fun _ => ?_)
      refine ev_iinc u2 (1) dX0_waysOf_51 rfl (by decide) (ev_hw rfl) ?_
      show ev_E g m_X0_waysOf 4 0 54 [some (ev_o 0 a), some (ev_i u1), some (ev_i (u2 + 1)), some (ev_i u3), some (ev_i u4), some (ev_i u5)] [] S1 Q
      refine ev_iinc u5 (1) dX0_waysOf_54 rfl (by decide) (ev_hw rfl) ?_
      show ev_E g m_X0_waysOf 4 0 57 [some (ev_o 0 a), some (ev_i u1), some (ev_i (u2 + 1)), some (ev_i u3), some (ev_i u4), some (ev_i (u5 + 1))] [] S1 Q
      refine ev_goto 34 dX0_waysOf_57 (by decide) ?_
      exact hQ
    · rw [if_neg c2]
      replace hQ := hQ.2 c2
      refine ev_if_eq 54 dX0_waysOf_48 (by decide) (fun _ => ?_) (fun h9 => absurd (by decide : ((0 : Int32) = 0)) h9)
      refine ev_iinc u5 (1) dX0_waysOf_54 rfl (by decide) (ev_hw rfl) ?_
      show ev_E g m_X0_waysOf 4 0 57 [some (ev_o 0 a), some (ev_i u1), some (ev_i u2), some (ev_i u3), some (ev_i u4), some (ev_i (u5 + 1))] [] S1 Q
      refine ev_goto 34 dX0_waysOf_57 (by decide) ?_
      exact hQ
set_option maxHeartbeats 4000000 in
set_option maxRecDepth 100000 in
theorem sg_X9_mobility_0 {g : ev_G} {S : ev_S} {Q : ev_O → ev_S → Prop} (a : Nat) (x0 : Int32) (x1 : Int32) (hQ : ((t_X9_isPlayer x0) = true → (
    ((t_X9_isPlayer x1) = true → (
      ev_Cv g m_X0_waysOf 4 0 [ev_o 0 ((a_X2_deskOf (a + 11) x0) + 1), ev_i x1] S (fun o S1 => ∃ v1_ : Int32, o = .inl (some (ev_i v1_)) ∧ (
        Q (.inl (some (ev_i v1_))) S1)))) ∧
    (¬ ((t_X9_isPlayer x1) = true) → (
      Q (.inr 0) S)))) ∧
  (¬ ((t_X9_isPlayer x0) = true) → (
    Q (.inr 0) S))) : ev_Cv g m_X9_mobility 5 1 [ev_o 9 a, ev_i x0, ev_i x1] S Q := by
  refine ev_enter (by decide) rfl rfl (Nat.le_of_ble_eq_true rfl) ?_
  show ev_E g m_X9_mobility 5 1 0 [some (ev_o 9 a), some (ev_i x0), some (ev_i x1)] [] S Q
  refine ev_iload_n (x0) dX9_mobility_0 rfl ?_
  refine ev_fS ms_X9_isPlayer 1 [ev_i x0] [] dX9_mobility_1 kw_954 rfl (by decide) (Nat.le_of_ble_eq_true rfl) (sp_X9_isPlayer x0) ?_ rfl
  by_cases c1 : (t_X9_isPlayer x0) = true
  · rw [if_pos c1]
    replace hQ := hQ.1 c1
    refine ev_if_eq 18 dX9_mobility_4 (by decide) (fun h9 => absurd h9 (by decide : ¬ ((1 : Int32) = 0))) (fun _ => ?_)
    refine ev_iload_n (x1) dX9_mobility_7 rfl ?_
    refine ev_fS ms_X9_isPlayer 1 [ev_i x1] [] dX9_mobility_8 kw_954 rfl (by decide) (Nat.le_of_ble_eq_true rfl) (sp_X9_isPlayer x1) ?_ rfl
    by_cases c2 : (t_X9_isPlayer x1) = true
    · rw [if_pos c2]
      replace hQ := hQ.1 c2
      refine ev_if_eq 18 dX9_mobility_11 (by decide) (fun h9 => absurd h9 (by decide : ¬ ((1 : Int32) = 0))) (fun _ => ?_)
      refine ev_iconst (1) dX9_mobility_14 rfl ?_
      refine ev_goto 19 dX9_mobility_15 (by decide) ?_
      refine ev_cS ms_X9_require 1 1 [ev_i 1] [] dX9_mobility_19 kw_966 rfl (by decide) (by decide) (Nat.le_of_ble_eq_true rfl) (Q' := fun o z => ev_After g m_X9_mobility 5 (1 - 1) 19 [some (ev_o 9 a), some (ev_i x0), some (ev_i x1)] [] z Q o) (sg_X9_require_0 1 ?_) (fun o z h => h) rfl
      refine j_neg (by decide : ¬ ((1 : Int32) = 0)) ?_
      show ev_E g m_X9_mobility 5 0 22 [some (ev_o 9 a), some (ev_i x0), some (ev_i x1)] [] S Q
      refine ev_aload_n (ev_o 9 a) dX9_mobility_22 rfl rfl ?_
      refine gf_9_3 dX9_mobility_23 kw_601 ?_
      refine ev_iload_n (x0) dX9_mobility_26 rfl ?_
      refine ev_fV mv_X2_boardOf 2 2 [ev_i x0] [] dX9_mobility_27 kw_488 rfl (by decide) rfl (by decide) (Nat.le_of_ble_eq_true rfl) (sp_X2_boardOf (a + 11) x0) ?_ rfl
      refine ev_iload_n (x1) dX9_mobility_30 rfl ?_
      refine ev_cV mv_X0_waysOf 4 0 0 [ev_i x1] [] dX9_mobility_31 kw_1363 rfl (by decide) rfl (by decide) (by decide) (Nat.le_of_ble_eq_true rfl) hQ ?_ rfl
      rintro o S1 ⟨v1_, rfl, hQ⟩
      show ev_E g m_X9_mobility 5 0 34 [some (ev_o 9 a), some (ev_i x0), some (ev_i x1)] [ev_i v1_] S1 Q
      exact ev_ireturn .int dX9_mobility_34 rfl rfl hQ
    · rw [if_neg c2]
      replace hQ := hQ.2 c2
      refine ev_if_eq 18 dX9_mobility_11 (by decide) (fun _ => ?_) (fun h9 => absurd (by decide : ((0 : Int32) = 0)) h9)
      refine ev_iconst (0) dX9_mobility_18 rfl ?_
      refine ev_cS ms_X9_require 1 1 [ev_i 0] [] dX9_mobility_19 kw_966 rfl (by decide) (by decide) (Nat.le_of_ble_eq_true rfl) (Q' := fun o z => ev_After g m_X9_mobility 5 (1 - 1) 19 [some (ev_o 9 a), some (ev_i x0), some (ev_i x1)] [] z Q o) (sg_X9_require_0 0 ?_) (fun o z h => h) rfl
      refine j_pos (by decide : ((0 : Int32) = 0)) ?_
      exact ev_T_out (by decide) rfl hQ
  · rw [if_neg c1]
    replace hQ := hQ.2 c1
    refine ev_if_eq 18 dX9_mobility_4 (by decide) (fun _ => ?_) (fun h9 => absurd (by decide : ((0 : Int32) = 0)) h9)
    refine ev_iconst (0) dX9_mobility_18 rfl ?_
    refine ev_cS ms_X9_require 1 1 [ev_i 0] [] dX9_mobility_19 kw_966 rfl (by decide) (by decide) (Nat.le_of_ble_eq_true rfl) (Q' := fun o z => ev_After g m_X9_mobility 5 (1 - 1) 19 [some (ev_o 9 a), some (ev_i x0), some (ev_i x1)] [] z Q o) (sg_X9_require_0 0 ?_) (fun o z h => h) rfl
    refine j_pos (by decide : ((0 : Int32) = 0)) ?_
    exact ev_T_out (by decide) rfl hQ
set_option maxHeartbeats 4000000 in
set_option maxRecDepth 100000 in
theorem sg_X0_moveAt_0 {g : ev_G} {S : ev_S} {Q : ev_O → ev_S → Prop} (a : Nat) (x0 : Int32) (hQ : (x0 < 1 → (
    Q (.inl (some (ev_i (-1)))) S)) ∧
  (¬ (x0 < 1) → (
    ((S.1 a 6) < x0 → (
      Q (.inl (some (ev_i (-1)))) S)) ∧
    (¬ ((S.1 a 6) < x0) → (
      Q (.inl (some (ev_i (j_at (S.1 (a + 3)) 61 x0)))) S))))) : ev_Cv g m_X0_moveAt 2 0 [ev_o 0 a, ev_i x0] S Q := by
  refine ev_enter (by decide) rfl rfl (Nat.le_of_ble_eq_true rfl) ?_
  show ev_E g m_X0_moveAt 2 0 0 [some (ev_o 0 a), some (ev_i x0)] [] S Q
  refine ev_iload_n (x0) dX0_moveAt_0 rfl ?_
  refine ev_iconst (1) dX0_moveAt_1 rfl ?_
  refine ev_icmp_lt 24 dX0_moveAt_2 (by decide) (fun c1 => ?_) (fun c1 => ?_)
  · replace hQ := hQ.1 c1
    refine ev_iconst (-1) dX0_moveAt_24 rfl ?_
    exact ev_ireturn .int dX0_moveAt_25 rfl rfl hQ
  · replace hQ := hQ.2 c1
    refine ev_iload_n (x0) dX0_moveAt_5 rfl ?_
    refine ev_aload_n (ev_o 0 a) dX0_moveAt_6 rfl rfl ?_
    refine gf_0_6 dX0_moveAt_7 kw_156 ?_
    refine ev_icmp_gt 24 dX0_moveAt_10 (by decide) (fun c2 => ?_) (fun c2 => ?_)
    · replace hQ := hQ.1 c2
      refine ev_iconst (-1) dX0_moveAt_24 rfl ?_
      exact ev_ireturn .int dX0_moveAt_25 rfl rfl hQ
    · replace hQ := hQ.2 c2
      refine ev_aload_n (ev_o 0 a) dX0_moveAt_13 rfl rfl ?_
      refine gf_0_2 dX0_moveAt_14 kw_152 ?_
      refine ev_iload_n (x0) dX0_moveAt_17 rfl ?_
      refine ev_fN ms_X9_at 1 [ev_y 61 (a + 3), ev_i x0] [] dX0_moveAt_18 (List.mem_of_getElem? (i := 11) rfl) rfl (by decide) (Nat.le_of_ble_eq_true rfl) (sp_X9_at 61 (a + 3) x0) ?_ rfl
      refine ev_goto 25 dX0_moveAt_21 (by decide) ?_
      exact ev_ireturn .int dX0_moveAt_25 rfl rfl hQ
def f_X0_moveAt (S : ev_S) (a : Nat) (x0 : Int32) : Int32 := if x0 < 1 then ((-1)) else (if (S.1 a 6) < x0 then ((-1)) else ((j_at (S.1 (a + 3)) 61 x0)))
set_option maxHeartbeats 4000000 in
set_option maxRecDepth 100000 in
theorem sp_X0_moveAt {g : ev_G} {S : ev_S} (a : Nat) (x0 : Int32)  : ev_Fn g m_X0_moveAt 2 [ev_o 0 a, ev_i x0] S (some (ev_i (f_X0_moveAt S a x0))) S := by
  intro Q hQ
  refine sg_X0_moveAt_0 a x0 ?_
  unfold f_X0_moveAt at hQ
  refine ⟨fun c1 => ?_, fun c1 => ?_⟩
  · rw [if_pos c1] at hQ
    exact hQ
  · rw [if_neg c1] at hQ
    refine ⟨fun c2 => ?_, fun c2 => ?_⟩
    · rw [if_pos c2] at hQ
      exact hQ
    · rw [if_neg c2] at hQ
      exact hQ
set_option maxHeartbeats 4000000 in
set_option maxRecDepth 100000 in
theorem sg_X9_appliedMove_0 {g : ev_G} {S : ev_S} {Q : ev_O → ev_S → Prop} (a : Nat) (x0 : Int32) (x1 : Int32) (hQ : ((t_X9_isPlayer x0) = true → (
    ((f_X0_moveAt S ((a_X2_deskOf (a + 11) x0) + 1) x1) = (-1) → (
      Q (.inr 3) S)) ∧
    (¬ ((f_X0_moveAt S ((a_X2_deskOf (a + 11) x0) + 1) x1) = (-1)) → (
      Q (.inl (some (ev_i (f_X0_moveAt S ((a_X2_deskOf (a + 11) x0) + 1) x1)))) S)))) ∧
  (¬ ((t_X9_isPlayer x0) = true) → (
    Q (.inr 0) S))) : ev_Cv g m_X9_appliedMove 3 2 [ev_o 9 a, ev_i x0, ev_i x1] S Q := by
  refine ev_enter (by decide) rfl rfl (Nat.le_of_ble_eq_true rfl) ?_
  show ev_E g m_X9_appliedMove 3 2 0 [some (ev_o 9 a), some (ev_i x0), some (ev_i x1), none] [] S Q
  refine ev_iload_n (x0) dX9_appliedMove_0 rfl ?_
  refine ev_fS ms_X9_isPlayer 1 [ev_i x0] [] dX9_appliedMove_1 kw_954 rfl (by decide) (Nat.le_of_ble_eq_true rfl) (sp_X9_isPlayer x0) ?_ rfl
  by_cases c1 : (t_X9_isPlayer x0) = true
  · rw [if_pos c1]
    replace hQ := hQ.1 c1
    refine ev_cS ms_X9_require 1 1 [ev_i 1] [] dX9_appliedMove_4 kw_966 rfl (by decide) (by decide) (Nat.le_of_ble_eq_true rfl) (Q' := fun o z => ev_After g m_X9_appliedMove 3 (2 - 1) 4 [some (ev_o 9 a), some (ev_i x0), some (ev_i x1), none] [] z Q o) (sg_X9_require_0 1 ?_) (fun o z h => h) rfl
    refine j_neg (by decide : ¬ ((1 : Int32) = 0)) ?_
    show ev_E g m_X9_appliedMove 3 1 7 [some (ev_o 9 a), some (ev_i x0), some (ev_i x1), none] [] S Q
    refine ev_aload_n (ev_o 9 a) dX9_appliedMove_7 rfl rfl ?_
    refine gf_9_3 dX9_appliedMove_8 kw_601 ?_
    refine ev_iload_n (x0) dX9_appliedMove_11 rfl ?_
    refine ev_fV mv_X2_boardOf 2 2 [ev_i x0] [] dX9_appliedMove_12 kw_488 rfl (by decide) rfl (by decide) (Nat.le_of_ble_eq_true rfl) (sp_X2_boardOf (a + 11) x0) ?_ rfl
    refine ev_iload_n (x1) dX9_appliedMove_15 rfl ?_
    refine ev_fV mv_X0_moveAt 2 0 [ev_i x1] [] dX9_appliedMove_16 kw_993 rfl (by decide) rfl (by decide) (Nat.le_of_ble_eq_true rfl) (sp_X0_moveAt ((a_X2_deskOf (a + 11) x0) + 1) x1) ?_ rfl
    refine ev_istore_n dX9_appliedMove_19 (Nat.le_of_ble_eq_true rfl) (ev_hw rfl) ?_
    show ev_E g m_X9_appliedMove 3 1 20 [some (ev_o 9 a), some (ev_i x0), some (ev_i x1), some (ev_i (f_X0_moveAt S ((a_X2_deskOf (a + 11) x0) + 1) x1))] [] S Q
    refine ev_iload_n ((f_X0_moveAt S ((a_X2_deskOf (a + 11) x0) + 1) x1)) dX9_appliedMove_20 rfl ?_
    refine ev_iconst (-1) dX9_appliedMove_21 rfl ?_
    refine ev_icmp_ne 36 dX9_appliedMove_22 (by decide) (fun c2 => ?_) (fun c2 => ?_)
    · replace hQ := hQ.2 c2
      refine ev_iload_n ((f_X0_moveAt S ((a_X2_deskOf (a + 11) x0) + 1) x1)) dX9_appliedMove_36 rfl ?_
      exact ev_ireturn .int dX9_appliedMove_37 rfl rfl hQ
    · replace hQ := hQ.1 c2
      exact ev_throw3W 372 389 376 7 "no move with this number was applied" (by decide) rfl kw_997 kw_46 (List.mem_of_getElem? (i := 7) rfl) at3_X9_376 dX9_appliedMove_25 dX9_appliedMove_28 dX9_appliedMove_29 dX9_appliedMove_32 dX9_appliedMove_35 (Nat.le_of_ble_eq_true rfl) hQ
  · rw [if_neg c1]
    replace hQ := hQ.2 c1
    refine ev_cS ms_X9_require 1 1 [ev_i 0] [] dX9_appliedMove_4 kw_966 rfl (by decide) (by decide) (Nat.le_of_ble_eq_true rfl) (Q' := fun o z => ev_After g m_X9_appliedMove 3 (2 - 1) 4 [some (ev_o 9 a), some (ev_i x0), some (ev_i x1), none] [] z Q o) (sg_X9_require_0 0 ?_) (fun o z h => h) rfl
    refine j_pos (by decide : ((0 : Int32) = 0)) ?_
    exact ev_T_out (by decide) rfl hQ
set_option maxHeartbeats 4000000 in
set_option maxRecDepth 100000 in
theorem sg_X9_startOf_0 {g : ev_G} {S : ev_S} {Q : ev_O → ev_S → Prop} (x0 : Int32) (hQ : Q (.inl (some (ev_i (x0 / 64)))) S) : ev_Cv g m_X9_startOf 1 0 [ev_i x0] S Q := by
  refine ev_enter (by decide) rfl rfl (Nat.le_of_ble_eq_true rfl) ?_
  show ev_E g m_X9_startOf 1 0 0 [some (ev_i x0)] [] S Q
  refine ev_iload_n (x0) dX9_startOf_0 rfl ?_
  refine ev_bipush (64) dX9_startOf_1 (by decide) ?_
  refine ev_idiv dX9_startOf_3 (by decide) ?_
  exact ev_ireturn .int dX9_startOf_4 rfl rfl hQ
set_option maxHeartbeats 4000000 in
set_option maxRecDepth 100000 in
theorem sp_X9_startOf {g : ev_G} {S : ev_S} (x0 : Int32)  : ev_Fn g m_X9_startOf 1 [ev_i x0] S (some (ev_i (x0 / 64))) S := by
  intro Q hQ
  refine sg_X9_startOf_0 x0 ?_
  exact hQ
set_option maxHeartbeats 4000000 in
set_option maxRecDepth 100000 in
theorem sg_X9_movedFrom_0 {g : ev_G} {S : ev_S} {Q : ev_O → ev_S → Prop} (a : Nat) (x0 : Int32) (x1 : Int32) (hQ : ((t_X9_isPlayer x0) = true → (
    ((f_X0_moveAt S ((a_X2_deskOf (a + 11) x0) + 1) x1) = (-1) → (
      Q (.inr 3) S)) ∧
    (¬ ((f_X0_moveAt S ((a_X2_deskOf (a + 11) x0) + 1) x1) = (-1)) → (
      Q (.inl (some (ev_i ((f_X0_moveAt S ((a_X2_deskOf (a + 11) x0) + 1) x1) / 64)))) S)))) ∧
  (¬ ((t_X9_isPlayer x0) = true) → (
    Q (.inr 0) S))) : ev_Cv g m_X9_movedFrom 4 2 [ev_o 9 a, ev_i x0, ev_i x1] S Q := by
  refine ev_enter (by decide) rfl rfl (Nat.le_of_ble_eq_true rfl) ?_
  show ev_E g m_X9_movedFrom 4 2 0 [some (ev_o 9 a), some (ev_i x0), some (ev_i x1)] [] S Q
  refine ev_aload_n (ev_o 9 a) dX9_movedFrom_0 rfl rfl ?_
  refine ev_iload_n (x0) dX9_movedFrom_1 rfl ?_
  refine ev_iload_n (x1) dX9_movedFrom_2 rfl ?_
  refine ev_cV mv_X9_appliedMove 3 2 9 [ev_i x0, ev_i x1] [] dX9_movedFrom_3 kw_989 rfl (by decide) rfl (by decide) (by decide) (Nat.le_of_ble_eq_true rfl) (Q' := fun o z => ev_After g m_X9_movedFrom 4 (2 - 2) 3 [some (ev_o 9 a), some (ev_i x0), some (ev_i x1)] [] z Q o) (sg_X9_appliedMove_0 a x0 x1 ?_) (fun o z h => h) rfl
  refine ⟨fun c1 => ?_, fun c1 => ?_⟩
  · replace hQ := hQ.1 c1
    refine ⟨fun c2 => ?_, fun c2 => ?_⟩
    · replace hQ := hQ.1 c2
      exact ev_T_out (by decide) rfl hQ
    · replace hQ := hQ.2 c2
      show ev_E g m_X9_movedFrom 4 0 6 [some (ev_o 9 a), some (ev_i x0), some (ev_i x1)] [ev_i (f_X0_moveAt S ((a_X2_deskOf (a + 11) x0) + 1) x1)] S Q
      refine ev_fS ms_X9_startOf 1 [ev_i (f_X0_moveAt S ((a_X2_deskOf (a + 11) x0) + 1) x1)] [] dX9_movedFrom_6 kw_1013 rfl (by decide) (Nat.le_of_ble_eq_true rfl) (sp_X9_startOf (f_X0_moveAt S ((a_X2_deskOf (a + 11) x0) + 1) x1)) ?_ rfl
      exact ev_ireturn .int dX9_movedFrom_9 rfl rfl hQ
  · replace hQ := hQ.2 c1
    exact ev_T_out (by decide) rfl hQ
set_option maxHeartbeats 4000000 in
set_option maxRecDepth 100000 in
theorem sg_X9_endOf_0 {g : ev_G} {S : ev_S} {Q : ev_O → ev_S → Prop} (x0 : Int32) (hQ : Q (.inl (some (ev_i (ev_rem x0 64)))) S) : ev_Cv g m_X9_endOf 1 0 [ev_i x0] S Q := by
  refine ev_enter (by decide) rfl rfl (Nat.le_of_ble_eq_true rfl) ?_
  show ev_E g m_X9_endOf 1 0 0 [some (ev_i x0)] [] S Q
  refine ev_iload_n (x0) dX9_endOf_0 rfl ?_
  refine ev_bipush (64) dX9_endOf_1 (by decide) ?_
  refine ev_irem dX9_endOf_3 (by decide) ?_
  exact ev_ireturn .int dX9_endOf_4 rfl rfl hQ
set_option maxHeartbeats 4000000 in
set_option maxRecDepth 100000 in
theorem sp_X9_endOf {g : ev_G} {S : ev_S} (x0 : Int32)  : ev_Fn g m_X9_endOf 1 [ev_i x0] S (some (ev_i (ev_rem x0 64))) S := by
  intro Q hQ
  refine sg_X9_endOf_0 x0 ?_
  exact hQ
set_option maxHeartbeats 4000000 in
set_option maxRecDepth 100000 in
theorem sg_X9_movedTo_0 {g : ev_G} {S : ev_S} {Q : ev_O → ev_S → Prop} (a : Nat) (x0 : Int32) (x1 : Int32) (hQ : ((t_X9_isPlayer x0) = true → (
    ((f_X0_moveAt S ((a_X2_deskOf (a + 11) x0) + 1) x1) = (-1) → (
      Q (.inr 3) S)) ∧
    (¬ ((f_X0_moveAt S ((a_X2_deskOf (a + 11) x0) + 1) x1) = (-1)) → (
      Q (.inl (some (ev_i (ev_rem (f_X0_moveAt S ((a_X2_deskOf (a + 11) x0) + 1) x1) 64)))) S)))) ∧
  (¬ ((t_X9_isPlayer x0) = true) → (
    Q (.inr 0) S))) : ev_Cv g m_X9_movedTo 4 2 [ev_o 9 a, ev_i x0, ev_i x1] S Q := by
  refine ev_enter (by decide) rfl rfl (Nat.le_of_ble_eq_true rfl) ?_
  show ev_E g m_X9_movedTo 4 2 0 [some (ev_o 9 a), some (ev_i x0), some (ev_i x1)] [] S Q
  refine ev_aload_n (ev_o 9 a) dX9_movedTo_0 rfl rfl ?_
  refine ev_iload_n (x0) dX9_movedTo_1 rfl ?_
  refine ev_iload_n (x1) dX9_movedTo_2 rfl ?_
  refine ev_cV mv_X9_appliedMove 3 2 9 [ev_i x0, ev_i x1] [] dX9_movedTo_3 kw_989 rfl (by decide) rfl (by decide) (by decide) (Nat.le_of_ble_eq_true rfl) (Q' := fun o z => ev_After g m_X9_movedTo 4 (2 - 2) 3 [some (ev_o 9 a), some (ev_i x0), some (ev_i x1)] [] z Q o) (sg_X9_appliedMove_0 a x0 x1 ?_) (fun o z h => h) rfl
  refine ⟨fun c1 => ?_, fun c1 => ?_⟩
  · replace hQ := hQ.1 c1
    refine ⟨fun c2 => ?_, fun c2 => ?_⟩
    · replace hQ := hQ.1 c2
      exact ev_T_out (by decide) rfl hQ
    · replace hQ := hQ.2 c2
      show ev_E g m_X9_movedTo 4 0 6 [some (ev_o 9 a), some (ev_i x0), some (ev_i x1)] [ev_i (f_X0_moveAt S ((a_X2_deskOf (a + 11) x0) + 1) x1)] S Q
      refine ev_fS ms_X9_endOf 1 [ev_i (f_X0_moveAt S ((a_X2_deskOf (a + 11) x0) + 1) x1)] [] dX9_movedTo_6 kw_1020 rfl (by decide) (Nat.le_of_ble_eq_true rfl) (sp_X9_endOf (f_X0_moveAt S ((a_X2_deskOf (a + 11) x0) + 1) x1)) ?_ rfl
      exact ev_ireturn .int dX9_movedTo_9 rfl rfl hQ
  · replace hQ := hQ.2 c1
    exact ev_T_out (by decide) rfl hQ
set_option maxHeartbeats 4000000 in
set_option maxRecDepth 100000 in
theorem sg_X1_storedCount_0 {g : ev_G} {S : ev_S} {Q : ev_O → ev_S → Prop} (a : Nat) (hQ : Q (.inl (some (ev_i (S.1 a 5)))) S) : ev_Cv g m_X1_storedCount 1 0 [ev_o 1 a] S Q := by
  refine ev_enter (by decide) rfl rfl (Nat.le_of_ble_eq_true rfl) ?_
  show ev_E g m_X1_storedCount 1 0 0 [some (ev_o 1 a)] [] S Q
  refine ev_aload_n (ev_o 1 a) dX1_storedCount_0 rfl rfl ?_
  refine gf_1_5 dX1_storedCount_1 kw_183 ?_
  exact ev_ireturn .int dX1_storedCount_4 rfl rfl hQ
set_option maxHeartbeats 4000000 in
set_option maxRecDepth 100000 in
theorem sp_X1_storedCount {g : ev_G} {S : ev_S} (a : Nat)  : ev_Fn g m_X1_storedCount 1 [ev_o 1 a] S (some (ev_i (S.1 a 5))) S := by
  intro Q hQ
  refine sg_X1_storedCount_0 a ?_
  exact hQ
set_option maxHeartbeats 4000000 in
set_option maxRecDepth 100000 in
theorem sg_X9_storedMoves_0 {g : ev_G} {S : ev_S} {Q : ev_O → ev_S → Prop} (a : Nat) (x0 : Int32) (hQ : ((t_X9_isPlayer x0) = true → (
    Q (.inl (some (ev_i (S.1 (a_X2_deskOf (a + 11) x0) 5)))) S)) ∧
  (¬ ((t_X9_isPlayer x0) = true) → (
    Q (.inr 0) S))) : ev_Cv g m_X9_storedMoves 2 1 [ev_o 9 a, ev_i x0] S Q := by
  refine ev_enter (by decide) rfl rfl (Nat.le_of_ble_eq_true rfl) ?_
  show ev_E g m_X9_storedMoves 2 1 0 [some (ev_o 9 a), some (ev_i x0)] [] S Q
  refine ev_iload_n (x0) dX9_storedMoves_0 rfl ?_
  refine ev_fS ms_X9_isPlayer 1 [ev_i x0] [] dX9_storedMoves_1 kw_954 rfl (by decide) (Nat.le_of_ble_eq_true rfl) (sp_X9_isPlayer x0) ?_ rfl
  by_cases c1 : (t_X9_isPlayer x0) = true
  · rw [if_pos c1]
    replace hQ := hQ.1 c1
    refine ev_cS ms_X9_require 1 1 [ev_i 1] [] dX9_storedMoves_4 kw_966 rfl (by decide) (by decide) (Nat.le_of_ble_eq_true rfl) (Q' := fun o z => ev_After g m_X9_storedMoves 2 (1 - 1) 4 [some (ev_o 9 a), some (ev_i x0)] [] z Q o) (sg_X9_require_0 1 ?_) (fun o z h => h) rfl
    refine j_neg (by decide : ¬ ((1 : Int32) = 0)) ?_
    show ev_E g m_X9_storedMoves 2 0 7 [some (ev_o 9 a), some (ev_i x0)] [] S Q
    refine ev_aload_n (ev_o 9 a) dX9_storedMoves_7 rfl rfl ?_
    refine gf_9_3 dX9_storedMoves_8 kw_601 ?_
    refine ev_iload_n (x0) dX9_storedMoves_11 rfl ?_
    refine ev_fV mv_X2_deskOf 1 2 [ev_i x0] [] dX9_storedMoves_12 kw_1057 rfl (by decide) rfl (by decide) (Nat.le_of_ble_eq_true rfl) (sp_X2_deskOf (a + 11) x0) ?_ rfl
    refine ev_fV mv_X1_storedCount 1 1 [] [] dX9_storedMoves_15 kw_1087 rfl (by decide) rfl (by decide) (Nat.le_of_ble_eq_true rfl) (sp_X1_storedCount (a_X2_deskOf (a + 11) x0)) ?_ rfl
    exact ev_ireturn .int dX9_storedMoves_18 rfl rfl hQ
  · rw [if_neg c1]
    replace hQ := hQ.2 c1
    refine ev_cS ms_X9_require 1 1 [ev_i 0] [] dX9_storedMoves_4 kw_966 rfl (by decide) (by decide) (Nat.le_of_ble_eq_true rfl) (Q' := fun o z => ev_After g m_X9_storedMoves 2 (1 - 1) 4 [some (ev_o 9 a), some (ev_i x0)] [] z Q o) (sg_X9_require_0 0 ?_) (fun o z h => h) rfl
    refine j_pos (by decide : ((0 : Int32) = 0)) ?_
    exact ev_T_out (by decide) rfl hQ
set_option maxHeartbeats 4000000 in
set_option maxRecDepth 100000 in
theorem sg_X0_agreesWith_0 {g : ev_G} {S : ev_S} {Q : ev_O → ev_S → Prop} (a : Nat) (b0 : Nat) (hQ : ((S.1 a 6) = (S.1 b0 6) → (
    ev_E g m_X0_agreesWith 3 0 15 [some (ev_o 0 a), some (ev_o 0 b0), some (ev_i 0)] [] S Q)) ∧
  (¬ ((S.1 a 6) = (S.1 b0 6)) → (
    Q (.inl (some (ev_i 0))) S))) : ev_Cv g m_X0_agreesWith 3 0 [ev_o 0 a, ev_o 0 b0] S Q := by
  refine ev_enter (by decide) rfl rfl (Nat.le_of_ble_eq_true rfl) ?_
  show ev_E g m_X0_agreesWith 3 0 0 [some (ev_o 0 a), some (ev_o 0 b0), none] [] S Q
  refine ev_aload_n (ev_o 0 a) dX0_agreesWith_0 rfl rfl ?_
  refine gf_0_6 dX0_agreesWith_1 kw_156 ?_
  refine ev_aload_n (ev_o 0 b0) dX0_agreesWith_4 rfl rfl ?_
  refine gf_0_6 dX0_agreesWith_5 kw_156 ?_
  refine ev_icmp_eq 13 dX0_agreesWith_8 (by decide) (fun c1 => ?_) (fun c1 => ?_)
  · replace hQ := hQ.1 c1
    refine ev_iconst (0) dX0_agreesWith_13 rfl ?_
    refine ev_istore_n dX0_agreesWith_14 (Nat.le_of_ble_eq_true rfl) (ev_hw rfl) ?_
    show ev_E g m_X0_agreesWith 3 0 15 [some (ev_o 0 a), some (ev_o 0 b0), some (ev_i 0)] [] S Q
    exact hQ
  · replace hQ := hQ.2 c1
    refine ev_iconst (0) dX0_agreesWith_11 rfl ?_
    exact ev_ireturn .boolean dX0_agreesWith_12 rfl rfl hQ
set_option maxHeartbeats 4000000 in
set_option maxRecDepth 100000 in
theorem sg_X0_agreesWith_15 {g : ev_G} {S : ev_S} {Q : ev_O → ev_S → Prop} (a : Nat) (b0 : Nat) (u2 : Int32) (hQ : (64 ≤ u2 → (
    Q (.inl (some (ev_i 1))) S)) ∧
  (¬ (64 ≤ u2) → (
    ((j_at (S.1 (a + 1)) 64 u2) = (j_at (S.1 (b0 + 1)) 64 u2) → (
      ev_E g m_X0_agreesWith 3 0 15 [some (ev_o 0 a), some (ev_o 0 b0), some (ev_i (u2 + 1))] [] S Q)) ∧
    (¬ ((j_at (S.1 (a + 1)) 64 u2) = (j_at (S.1 (b0 + 1)) 64 u2)) → (
      Q (.inl (some (ev_i 0))) S))))) : ev_E g m_X0_agreesWith 3 0 15 [some (ev_o 0 a), some (ev_o 0 b0), some (ev_i u2)] [] S Q := by
  refine ev_iload_n (u2) dX0_agreesWith_15 rfl ?_
  refine ev_bipush (64) dX0_agreesWith_16 (by decide) ?_
  refine ev_icmp_ge 42 dX0_agreesWith_18 (by decide) (fun c1 => ?_) (fun c1 => ?_)
  · replace hQ := hQ.1 c1
    refine ev_iconst (1) dX0_agreesWith_42 rfl ?_
    exact ev_ireturn .boolean dX0_agreesWith_43 rfl rfl hQ
  · replace hQ := hQ.2 c1
    refine ev_aload_n (ev_o 0 a) dX0_agreesWith_21 rfl rfl ?_
    refine ev_iload_n (u2) dX0_agreesWith_22 rfl ?_
    refine ev_fV mv_X0_ownerOn 2 0 [ev_i u2] [] dX0_agreesWith_23 kw_1278 rfl (by decide) rfl (by decide) (Nat.le_of_ble_eq_true rfl) (sp_X0_ownerOn a u2) ?_ rfl
    refine ev_aload_n (ev_o 0 b0) dX0_agreesWith_26 rfl rfl ?_
    refine ev_iload_n (u2) dX0_agreesWith_27 rfl ?_
    refine ev_fV mv_X0_ownerOn 2 0 [ev_i u2] [ev_i (j_at (S.1 (a + 1)) 64 u2)] dX0_agreesWith_28 kw_1278 rfl (by decide) rfl (by decide) (Nat.le_of_ble_eq_true rfl) (sp_X0_ownerOn b0 u2) ?_ rfl
    refine ev_icmp_eq 36 dX0_agreesWith_31 (by decide) (fun c2 => ?_) (fun c2 => ?_)
    · replace hQ := hQ.1 c2
      refine ev_iinc u2 (1) dX0_agreesWith_36 rfl (by decide) (ev_hw rfl) ?_
      show ev_E g m_X0_agreesWith 3 0 39 [some (ev_o 0 a), some (ev_o 0 b0), some (ev_i (u2 + 1))] [] S Q
      refine ev_goto 15 dX0_agreesWith_39 (by decide) ?_
      exact hQ
    · replace hQ := hQ.2 c2
      refine ev_iconst (0) dX0_agreesWith_34 rfl ?_
      exact ev_ireturn .boolean dX0_agreesWith_35 rfl rfl hQ
set_option maxHeartbeats 4000000 in
set_option maxRecDepth 100000 in
theorem sg_X2_boardsAgree_0 {g : ev_G} {S : ev_S} {Q : ev_O → ev_S → Prop} (a : Nat) (hQ : ev_Cv g m_X0_agreesWith 3 0 [ev_o 0 ((a_X2_deskOf a 0) + 1), ev_o 0 ((a_X2_deskOf a 1) + 1)] S (fun o S1 => ∃ v1_ : Bool, o = .inl (some (ev_i (if v1_ = true then 1 else 0))) ∧ (
    (v1_ = true → (
      Q (.inl (some (ev_i 1))) S1)) ∧
    (¬ (v1_ = true) → (
      Q (.inl (some (ev_i 0))) S1))))) : ev_Cv g m_X2_boardsAgree 4 0 [ev_o 2 a] S Q := by
  refine ev_enter (by decide) rfl rfl (Nat.le_of_ble_eq_true rfl) ?_
  show ev_E g m_X2_boardsAgree 4 0 0 [some (ev_o 2 a)] [] S Q
  refine ev_aload_n (ev_o 2 a) dX2_boardsAgree_0 rfl rfl ?_
  refine ev_iconst (0) dX2_boardsAgree_1 rfl ?_
  refine ev_fV mv_X2_boardOf 2 2 [ev_i 0] [] dX2_boardsAgree_2 kw_961 rfl (by decide) rfl (by decide) (Nat.le_of_ble_eq_true rfl) (sp_X2_boardOf a 0) ?_ rfl
  refine ev_aload_n (ev_o 2 a) dX2_boardsAgree_5 rfl rfl ?_
  refine ev_iconst (1) dX2_boardsAgree_6 rfl ?_
  refine ev_fV mv_X2_boardOf 2 2 [ev_i 1] [ev_o 0 ((a_X2_deskOf a 0) + 1)] dX2_boardsAgree_7 kw_961 rfl (by decide) rfl (by decide) (Nat.le_of_ble_eq_true rfl) (sp_X2_boardOf a 1) ?_ rfl
  refine ev_cV mv_X0_agreesWith 3 0 0 [ev_o 0 ((a_X2_deskOf a 1) + 1)] [] dX2_boardsAgree_10 kw_1274 rfl (by decide) rfl (by decide) (by decide) (Nat.le_of_ble_eq_true rfl) hQ ?_ rfl
  rintro o S1 ⟨v1_, rfl, hQ⟩
  show ev_E g m_X2_boardsAgree 4 0 13 [some (ev_o 2 a)] [ev_i (if v1_ = true then 1 else 0)] S1 Q
  by_cases c1 : v1_ = true
  · rw [if_pos c1]
    replace hQ := hQ.1 c1
    exact ev_ireturn .boolean dX2_boardsAgree_13 rfl rfl hQ
  · rw [if_neg c1]
    replace hQ := hQ.2 c1
    exact ev_ireturn .boolean dX2_boardsAgree_13 rfl rfl hQ
set_option maxHeartbeats 4000000 in
set_option maxRecDepth 100000 in
theorem sg_X9_areBoardsEqual_0 {g : ev_G} {S : ev_S} {Q : ev_O → ev_S → Prop} (a : Nat) (hQ : ev_Cv g m_X2_boardsAgree 4 0 [ev_o 2 (a + 11)] S (fun o S1 => ∃ v1_ : Bool, o = .inl (some (ev_i (if v1_ = true then 1 else 0))) ∧ (
    (v1_ = true → (
      Q (.inl (some (ev_i 1))) S1)) ∧
    (¬ (v1_ = true) → (
      Q (.inl (some (ev_i 0))) S1))))) : ev_Cv g m_X9_areBoardsEqual 5 0 [ev_o 9 a] S Q := by
  refine ev_enter (by decide) rfl rfl (Nat.le_of_ble_eq_true rfl) ?_
  show ev_E g m_X9_areBoardsEqual 5 0 0 [some (ev_o 9 a)] [] S Q
  refine ev_aload_n (ev_o 9 a) dX9_areBoardsEqual_0 rfl rfl ?_
  refine gf_9_3 dX9_areBoardsEqual_1 kw_601 ?_
  refine ev_cV mv_X2_boardsAgree 4 0 2 [] [] dX9_areBoardsEqual_4 kw_1270 rfl (by decide) rfl (by decide) (by decide) (Nat.le_of_ble_eq_true rfl) hQ ?_ rfl
  rintro o S1 ⟨v1_, rfl, hQ⟩
  show ev_E g m_X9_areBoardsEqual 5 0 7 [some (ev_o 9 a)] [ev_i (if v1_ = true then 1 else 0)] S1 Q
  by_cases c1 : v1_ = true
  · rw [if_pos c1]
    replace hQ := hQ.1 c1
    exact ev_ireturn .boolean dX9_areBoardsEqual_7 rfl rfl hQ
  · rw [if_neg c1]
    replace hQ := hQ.2 c1
    exact ev_ireturn .boolean dX9_areBoardsEqual_7 rfl rfl hQ
set_option maxHeartbeats 4000000 in
set_option maxRecDepth 100000 in
theorem sg_X9_passCount_0 {g : ev_G} {S : ev_S} {Q : ev_O → ev_S → Prop} (a : Nat) (hQ : Q (.inl (some (ev_i (S.1 (a + 31) 3)))) S) : ev_Cv g m_X9_passCount 3 0 [ev_o 9 a] S Q := by
  refine ev_enter (by decide) rfl rfl (Nat.le_of_ble_eq_true rfl) ?_
  show ev_E g m_X9_passCount 3 0 0 [some (ev_o 9 a)] [] S Q
  refine ev_aload_n (ev_o 9 a) dX9_passCount_0 rfl rfl ?_
  refine gf_9_3 dX9_passCount_1 kw_601 ?_
  refine ev_fV mv_X2_passes 2 2 [] [] dX9_passCount_4 kw_527 rfl (by decide) rfl (by decide) (Nat.le_of_ble_eq_true rfl) (sp_X2_passes (a + 11)) ?_ rfl
  refine ev_fV mv_X5_count 1 5 [] [] dX9_passCount_7 kw_541 rfl (by decide) rfl (by decide) (Nat.le_of_ble_eq_true rfl) (sp_X5_count (a + 31)) ?_ rfl
  exact ev_ireturn .int dX9_passCount_10 rfl rfl hQ
set_option maxHeartbeats 4000000 in
set_option maxRecDepth 100000 in
theorem sp_X9_passCount {g : ev_G} {S : ev_S} (a : Nat)  : ev_Fn g m_X9_passCount 3 [ev_o 9 a] S (some (ev_i (S.1 (a + 31) 3))) S := by
  intro Q hQ
  refine sg_X9_passCount_0 a ?_
  exact hQ
set_option maxHeartbeats 4000000 in
set_option maxRecDepth 100000 in
theorem sg_X5_exists_0 {g : ev_G} {S : ev_S} {Q : ev_O → ev_S → Prop} (a : Nat) (x0 : Int32) (hQ : (x0 < 0 → (
    Q (.inl (some (ev_i 0))) S)) ∧
  (¬ (x0 < 0) → (
    ((S.1 a 3) ≤ x0 → (
      Q (.inl (some (ev_i 0))) S)) ∧
    (¬ ((S.1 a 3) ≤ x0) → (
      Q (.inl (some (ev_i 1))) S))))) : ev_Cv g m_X5_exists 1 0 [ev_o 5 a, ev_i x0] S Q := by
  refine ev_enter (by decide) rfl rfl (Nat.le_of_ble_eq_true rfl) ?_
  show ev_E g m_X5_exists 1 0 0 [some (ev_o 5 a), some (ev_i x0)] [] S Q
  refine ev_iload_n (x0) dX5_exists_0 rfl ?_
  refine ev_if_lt 16 dX5_exists_1 (by decide) (fun c1 => ?_) (fun c1 => ?_)
  · replace hQ := hQ.1 c1
    refine ev_iconst (0) dX5_exists_16 rfl ?_
    exact ev_ireturn .boolean dX5_exists_17 rfl rfl hQ
  · replace hQ := hQ.2 c1
    refine ev_iload_n (x0) dX5_exists_4 rfl ?_
    refine ev_aload_n (ev_o 5 a) dX5_exists_5 rfl rfl ?_
    refine gf_5_3 dX5_exists_6 kw_227 ?_
    refine ev_icmp_ge 16 dX5_exists_9 (by decide) (fun c2 => ?_) (fun c2 => ?_)
    · replace hQ := hQ.1 c2
      refine ev_iconst (0) dX5_exists_16 rfl ?_
      exact ev_ireturn .boolean dX5_exists_17 rfl rfl hQ
    · replace hQ := hQ.2 c2
      refine ev_iconst (1) dX5_exists_12 rfl ?_
      refine ev_goto 17 dX5_exists_13 (by decide) ?_
      exact ev_ireturn .boolean dX5_exists_17 rfl rfl hQ
def t_X5_exists (S : ev_S) (a : Nat) (x0 : Int32) : Bool := if x0 < 0 then (false) else (if (S.1 a 3) ≤ x0 then (false) else (true))
set_option maxHeartbeats 4000000 in
set_option maxRecDepth 100000 in
theorem sp_X5_exists {g : ev_G} {S : ev_S} (a : Nat) (x0 : Int32)  : ev_Fn g m_X5_exists 1 [ev_o 5 a, ev_i x0] S (some (ev_i (if (t_X5_exists S a x0) = true then 1 else 0))) S := by
  intro Q hQ
  refine sg_X5_exists_0 a x0 ?_
  unfold t_X5_exists at hQ
  refine ⟨fun c1 => ?_, fun c1 => ?_⟩
  · rw [if_pos c1] at hQ
    exact hQ
  · rw [if_neg c1] at hQ
    refine ⟨fun c2 => ?_, fun c2 => ?_⟩
    · rw [if_pos c2] at hQ
      exact hQ
    · rw [if_neg c2] at hQ
      exact hQ
set_option maxHeartbeats 4000000 in
set_option maxRecDepth 100000 in
theorem sg_X9_isMonth_0 {g : ev_G} {S : ev_S} {Q : ev_O → ev_S → Prop} (x0 : Int32) (hQ : (x0 < 0 → (
    Q (.inl (some (ev_i 0))) S)) ∧
  (¬ (x0 < 0) → (
    (12 ≤ x0 → (
      Q (.inl (some (ev_i 0))) S)) ∧
    (¬ (12 ≤ x0) → (
      Q (.inl (some (ev_i 1))) S))))) : ev_Cv g m_X9_isMonth 1 0 [ev_i x0] S Q := by
  refine ev_enter (by decide) rfl rfl (Nat.le_of_ble_eq_true rfl) ?_
  show ev_E g m_X9_isMonth 1 0 0 [some (ev_i x0)] [] S Q
  refine ev_iload_n (x0) dX9_isMonth_0 rfl ?_
  refine ev_if_lt 14 dX9_isMonth_1 (by decide) (fun c1 => ?_) (fun c1 => ?_)
  · replace hQ := hQ.1 c1
    refine ev_iconst (0) dX9_isMonth_14 rfl ?_
    exact ev_ireturn .boolean dX9_isMonth_15 rfl rfl hQ
  · replace hQ := hQ.2 c1
    refine ev_iload_n (x0) dX9_isMonth_4 rfl ?_
    refine ev_bipush (12) dX9_isMonth_5 (by decide) ?_
    refine ev_icmp_ge 14 dX9_isMonth_7 (by decide) (fun c2 => ?_) (fun c2 => ?_)
    · replace hQ := hQ.1 c2
      refine ev_iconst (0) dX9_isMonth_14 rfl ?_
      exact ev_ireturn .boolean dX9_isMonth_15 rfl rfl hQ
    · replace hQ := hQ.2 c2
      refine ev_iconst (1) dX9_isMonth_10 rfl ?_
      refine ev_goto 15 dX9_isMonth_11 (by decide) ?_
      exact ev_ireturn .boolean dX9_isMonth_15 rfl rfl hQ
def t_X9_isMonth (x0 : Int32) : Bool := if x0 < 0 then (false) else (if 12 ≤ x0 then (false) else (true))
set_option maxHeartbeats 4000000 in
set_option maxRecDepth 100000 in
theorem sp_X9_isMonth {g : ev_G} {S : ev_S} (x0 : Int32)  : ev_Fn g m_X9_isMonth 1 [ev_i x0] S (some (ev_i (if (t_X9_isMonth x0) = true then 1 else 0))) S := by
  intro Q hQ
  refine sg_X9_isMonth_0 x0 ?_
  unfold t_X9_isMonth at hQ
  refine ⟨fun c1 => ?_, fun c1 => ?_⟩
  · rw [if_pos c1] at hQ
    exact hQ
  · rw [if_neg c1] at hQ
    refine ⟨fun c2 => ?_, fun c2 => ?_⟩
    · rw [if_pos c2] at hQ
      exact hQ
    · rw [if_neg c2] at hQ
      exact hQ
set_option maxHeartbeats 4000000 in
set_option maxRecDepth 100000 in
theorem sg_X9_snowDepth_0 {g : ev_G} {S : ev_S} {Q : ev_O → ev_S → Prop} (a : Nat) (x0 : Int32) (x1 : Int32) (hQ : ((t_X5_exists S (a + 31) x0) = true → (
    ((t_X9_isMonth x1) = true → (
      Q (.inl (some (ev_i (j_at (S.1 (a + 33)) 48 ((x0 * 12) + x1))))) S)) ∧
    (¬ ((t_X9_isMonth x1) = true) → (
      Q (.inr 0) S)))) ∧
  (¬ ((t_X5_exists S (a + 31) x0) = true) → (
    Q (.inr 0) S))) : ev_Cv g m_X9_snowDepth 3 1 [ev_o 9 a, ev_i x0, ev_i x1] S Q := by
  refine ev_enter (by decide) rfl rfl (Nat.le_of_ble_eq_true rfl) ?_
  show ev_E g m_X9_snowDepth 3 1 0 [some (ev_o 9 a), some (ev_i x0), some (ev_i x1)] [] S Q
  refine ev_aload_n (ev_o 9 a) dX9_snowDepth_0 rfl rfl ?_
  refine gf_9_3 dX9_snowDepth_1 kw_601 ?_
  refine ev_fV mv_X2_passes 2 2 [] [] dX9_snowDepth_4 kw_527 rfl (by decide) rfl (by decide) (Nat.le_of_ble_eq_true rfl) (sp_X2_passes (a + 11)) ?_ rfl
  refine ev_iload_n (x0) dX9_snowDepth_7 rfl ?_
  refine ev_fV mv_X5_exists 1 5 [ev_i x0] [] dX9_snowDepth_8 kw_1158 rfl (by decide) rfl (by decide) (Nat.le_of_ble_eq_true rfl) (sp_X5_exists (a + 31) x0) ?_ rfl
  by_cases c1 : (t_X5_exists S (a + 31) x0) = true
  · rw [if_pos c1]
    replace hQ := hQ.1 c1
    refine ev_if_eq 25 dX9_snowDepth_11 (by decide) (fun h9 => absurd h9 (by decide : ¬ ((1 : Int32) = 0))) (fun _ => ?_)
    refine ev_iload_n (x1) dX9_snowDepth_14 rfl ?_
    refine ev_fS ms_X9_isMonth 1 [ev_i x1] [] dX9_snowDepth_15 kw_1162 rfl (by decide) (Nat.le_of_ble_eq_true rfl) (sp_X9_isMonth x1) ?_ rfl
    by_cases c2 : (t_X9_isMonth x1) = true
    · rw [if_pos c2]
      replace hQ := hQ.1 c2
      refine ev_if_eq 25 dX9_snowDepth_18 (by decide) (fun h9 => absurd h9 (by decide : ¬ ((1 : Int32) = 0))) (fun _ => ?_)
      refine ev_iconst (1) dX9_snowDepth_21 rfl ?_
      refine ev_goto 26 dX9_snowDepth_22 (by decide) ?_
      refine ev_cS ms_X9_require 1 1 [ev_i 1] [] dX9_snowDepth_26 kw_966 rfl (by decide) (by decide) (Nat.le_of_ble_eq_true rfl) (Q' := fun o z => ev_After g m_X9_snowDepth 3 (1 - 1) 26 [some (ev_o 9 a), some (ev_i x0), some (ev_i x1)] [] z Q o) (sg_X9_require_0 1 ?_) (fun o z h => h) rfl
      refine j_neg (by decide : ¬ ((1 : Int32) = 0)) ?_
      show ev_E g m_X9_snowDepth 3 0 29 [some (ev_o 9 a), some (ev_i x0), some (ev_i x1)] [] S Q
      refine ev_aload_n (ev_o 9 a) dX9_snowDepth_29 rfl rfl ?_
      refine gf_9_3 dX9_snowDepth_30 kw_601 ?_
      refine ev_fV mv_X2_passes 2 2 [] [] dX9_snowDepth_33 kw_527 rfl (by decide) rfl (by decide) (Nat.le_of_ble_eq_true rfl) (sp_X2_passes (a + 11)) ?_ rfl
      refine ev_iload_n (x0) dX9_snowDepth_36 rfl ?_
      refine ev_iload_n (x1) dX9_snowDepth_37 rfl ?_
      refine ev_fV mv_X5_snowIn 2 5 [ev_i x0, ev_i x1] [] dX9_snowDepth_38 kw_1165 rfl (by decide) rfl (by decide) (Nat.le_of_ble_eq_true rfl) (sp_X5_snowIn (a + 31) x0 x1) ?_ rfl
      exact ev_ireturn .int dX9_snowDepth_41 rfl rfl hQ
    · rw [if_neg c2]
      replace hQ := hQ.2 c2
      refine ev_if_eq 25 dX9_snowDepth_18 (by decide) (fun _ => ?_) (fun h9 => absurd (by decide : ((0 : Int32) = 0)) h9)
      refine ev_iconst (0) dX9_snowDepth_25 rfl ?_
      refine ev_cS ms_X9_require 1 1 [ev_i 0] [] dX9_snowDepth_26 kw_966 rfl (by decide) (by decide) (Nat.le_of_ble_eq_true rfl) (Q' := fun o z => ev_After g m_X9_snowDepth 3 (1 - 1) 26 [some (ev_o 9 a), some (ev_i x0), some (ev_i x1)] [] z Q o) (sg_X9_require_0 0 ?_) (fun o z h => h) rfl
      refine j_pos (by decide : ((0 : Int32) = 0)) ?_
      exact ev_T_out (by decide) rfl hQ
  · rw [if_neg c1]
    replace hQ := hQ.2 c1
    refine ev_if_eq 25 dX9_snowDepth_11 (by decide) (fun _ => ?_) (fun h9 => absurd (by decide : ((0 : Int32) = 0)) h9)
    refine ev_iconst (0) dX9_snowDepth_25 rfl ?_
    refine ev_cS ms_X9_require 1 1 [ev_i 0] [] dX9_snowDepth_26 kw_966 rfl (by decide) (by decide) (Nat.le_of_ble_eq_true rfl) (Q' := fun o z => ev_After g m_X9_snowDepth 3 (1 - 1) 26 [some (ev_o 9 a), some (ev_i x0), some (ev_i x1)] [] z Q o) (sg_X9_require_0 0 ?_) (fun o z h => h) rfl
    refine j_pos (by decide : ((0 : Int32) = 0)) ?_
    exact ev_T_out (by decide) rfl hQ
set_option maxHeartbeats 4000000 in
set_option maxRecDepth 100000 in
theorem sg_X5_daysOver_0 {g : ev_G} {S : ev_S} {Q : ev_O → ev_S → Prop} (a : Nat) (x0 : Int32) (x1 : Int32) (hQ : ((j_at (S.1 (a + 2)) 48 ((x0 * 12) + x1)) < 9 → (
    Q (.inl (some (ev_i ((j_at (S.1 (a + 1)) 4 x0) + (j_at (S.1 (a + 2)) 48 ((x0 * 12) + x1)))))) S)) ∧
  (¬ ((j_at (S.1 (a + 2)) 48 ((x0 * 12) + x1)) < 9) → (
    Q (.inl (some (ev_i (-1)))) S))) : ev_Cv g m_X5_daysOver 3 0 [ev_o 5 a, ev_i x0, ev_i x1] S Q := by
  refine ev_enter (by decide) rfl rfl (Nat.le_of_ble_eq_true rfl) ?_
  show ev_E g m_X5_daysOver 3 0 0 [some (ev_o 5 a), some (ev_i x0), some (ev_i x1), none] [] S Q
  refine ev_aload_n (ev_o 5 a) dX5_daysOver_0 rfl rfl ?_
  refine ev_iload_n (x0) dX5_daysOver_1 rfl ?_
  refine ev_iload_n (x1) dX5_daysOver_2 rfl ?_
  refine ev_fV mv_X5_snowIn 2 5 [ev_i x0, ev_i x1] [] dX5_daysOver_3 kw_555 rfl (by decide) rfl (by decide) (Nat.le_of_ble_eq_true rfl) (sp_X5_snowIn a x0 x1) ?_ rfl
  refine ev_istore_n dX5_daysOver_6 (Nat.le_of_ble_eq_true rfl) (ev_hw rfl) ?_
  show ev_E g m_X5_daysOver 3 0 7 [some (ev_o 5 a), some (ev_i x0), some (ev_i x1), some (ev_i (j_at (S.1 (a + 2)) 48 ((x0 * 12) + x1)))] [] S Q
  refine ev_iload_n ((j_at (S.1 (a + 2)) 48 ((x0 * 12) + x1))) dX5_daysOver_7 rfl ?_
  refine ev_bipush (9) dX5_daysOver_8 (by decide) ?_
  refine ev_icmp_lt 17 dX5_daysOver_10 (by decide) (fun c1 => ?_) (fun c1 => ?_)
  · replace hQ := hQ.1 c1
    refine ev_aload_n (ev_o 5 a) dX5_daysOver_17 rfl rfl ?_
    refine gf_5_0 dX5_daysOver_18 kw_224 ?_
    refine ev_iload_n (x0) dX5_daysOver_21 rfl ?_
    refine ev_fN ms_X9_at 1 [ev_y 4 (a + 1), ev_i x0] [] dX5_daysOver_22 (List.mem_of_getElem? (i := 14) rfl) rfl (by decide) (Nat.le_of_ble_eq_true rfl) (sp_X9_at 4 (a + 1) x0) ?_ rfl
    refine ev_iload_n ((j_at (S.1 (a + 2)) 48 ((x0 * 12) + x1))) dX5_daysOver_25 rfl ?_
    refine ev_iadd dX5_daysOver_26 ?_
    exact ev_ireturn .int dX5_daysOver_27 rfl rfl hQ
  · replace hQ := hQ.2 c1
    refine ev_iconst (-1) dX5_daysOver_13 rfl ?_
    refine ev_goto 27 dX5_daysOver_14 (by decide) ?_
    exact ev_ireturn .int dX5_daysOver_27 rfl rfl hQ
def f_X5_daysOver (S : ev_S) (a : Nat) (x0 : Int32) (x1 : Int32) : Int32 := if (j_at (S.1 (a + 2)) 48 ((x0 * 12) + x1)) < 9 then (((j_at (S.1 (a + 1)) 4 x0) + (j_at (S.1 (a + 2)) 48 ((x0 * 12) + x1)))) else ((-1))
set_option maxHeartbeats 4000000 in
set_option maxRecDepth 100000 in
theorem sp_X5_daysOver {g : ev_G} {S : ev_S} (a : Nat) (x0 : Int32) (x1 : Int32)  : ev_Fn g m_X5_daysOver 3 [ev_o 5 a, ev_i x0, ev_i x1] S (some (ev_i (f_X5_daysOver S a x0 x1))) S := by
  intro Q hQ
  refine sg_X5_daysOver_0 a x0 x1 ?_
  unfold f_X5_daysOver at hQ
  refine ⟨fun c1 => ?_, fun c1 => ?_⟩
  · rw [if_pos c1] at hQ
    exact hQ
  · rw [if_neg c1] at hQ
    exact hQ
set_option maxHeartbeats 4000000 in
set_option maxRecDepth 100000 in
theorem sg_X9_travelDays_0 {g : ev_G} {S : ev_S} {Q : ev_O → ev_S → Prop} (a : Nat) (x0 : Int32) (hQ : ((t_X5_exists S (a + 31) x0) = true → (
    Q (.inl (some (ev_i (f_X5_daysOver S (a + 31) x0 (ev_rem ((S.1 (a + 11) 4) / 30) 12))))) S)) ∧
  (¬ ((t_X5_exists S (a + 31) x0) = true) → (
    Q (.inr 0) S))) : ev_Cv g m_X9_travelDays 4 1 [ev_o 9 a, ev_i x0] S Q := by
  refine ev_enter (by decide) rfl rfl (Nat.le_of_ble_eq_true rfl) ?_
  show ev_E g m_X9_travelDays 4 1 0 [some (ev_o 9 a), some (ev_i x0)] [] S Q
  refine ev_aload_n (ev_o 9 a) dX9_travelDays_0 rfl rfl ?_
  refine gf_9_3 dX9_travelDays_1 kw_601 ?_
  refine ev_fV mv_X2_passes 2 2 [] [] dX9_travelDays_4 kw_527 rfl (by decide) rfl (by decide) (Nat.le_of_ble_eq_true rfl) (sp_X2_passes (a + 11)) ?_ rfl
  refine ev_iload_n (x0) dX9_travelDays_7 rfl ?_
  refine ev_fV mv_X5_exists 1 5 [ev_i x0] [] dX9_travelDays_8 kw_1158 rfl (by decide) rfl (by decide) (Nat.le_of_ble_eq_true rfl) (sp_X5_exists (a + 31) x0) ?_ rfl
  by_cases c1 : (t_X5_exists S (a + 31) x0) = true
  · rw [if_pos c1]
    replace hQ := hQ.1 c1
    refine ev_cS ms_X9_require 1 1 [ev_i 1] [] dX9_travelDays_11 kw_966 rfl (by decide) (by decide) (Nat.le_of_ble_eq_true rfl) (Q' := fun o z => ev_After g m_X9_travelDays 4 (1 - 1) 11 [some (ev_o 9 a), some (ev_i x0)] [] z Q o) (sg_X9_require_0 1 ?_) (fun o z h => h) rfl
    refine j_neg (by decide : ¬ ((1 : Int32) = 0)) ?_
    show ev_E g m_X9_travelDays 4 0 14 [some (ev_o 9 a), some (ev_i x0)] [] S Q
    refine ev_aload_n (ev_o 9 a) dX9_travelDays_14 rfl rfl ?_
    refine gf_9_3 dX9_travelDays_15 kw_601 ?_
    refine ev_fV mv_X2_passes 2 2 [] [] dX9_travelDays_18 kw_527 rfl (by decide) rfl (by decide) (Nat.le_of_ble_eq_true rfl) (sp_X2_passes (a + 11)) ?_ rfl
    refine ev_iload_n (x0) dX9_travelDays_21 rfl ?_
    refine ev_aload_n (ev_o 9 a) dX9_travelDays_22 rfl rfl ?_
    refine gf_9_3 dX9_travelDays_23 kw_601 ?_
    refine ev_fV mv_X2_today 1 2 [] [ev_i x0, ev_o 5 (a + 31)] dX9_travelDays_26 kw_1170 rfl (by decide) rfl (by decide) (Nat.le_of_ble_eq_true rfl) (sp_X2_today (a + 11)) ?_ rfl
    refine ev_fS ms_X9_monthOf 1 [ev_i (S.1 (a + 11) 4)] [ev_i x0, ev_o 5 (a + 31)] dX9_travelDays_29 kw_1174 rfl (by decide) (Nat.le_of_ble_eq_true rfl) (sp_X9_monthOf (S.1 (a + 11) 4)) ?_ rfl
    refine ev_fV mv_X5_daysOver 3 5 [ev_i x0, ev_i (ev_rem ((S.1 (a + 11) 4) / 30) 12)] [] dX9_travelDays_32 kw_1177 rfl (by decide) rfl (by decide) (Nat.le_of_ble_eq_true rfl) (sp_X5_daysOver (a + 31) x0 (ev_rem ((S.1 (a + 11) 4) / 30) 12)) ?_ rfl
    exact ev_ireturn .int dX9_travelDays_35 rfl rfl hQ
  · rw [if_neg c1]
    replace hQ := hQ.2 c1
    refine ev_cS ms_X9_require 1 1 [ev_i 0] [] dX9_travelDays_11 kw_966 rfl (by decide) (by decide) (Nat.le_of_ble_eq_true rfl) (Q' := fun o z => ev_After g m_X9_travelDays 4 (1 - 1) 11 [some (ev_o 9 a), some (ev_i x0)] [] z Q o) (sg_X9_require_0 0 ?_) (fun o z h => h) rfl
    refine j_pos (by decide : ((0 : Int32) = 0)) ?_
    exact ev_T_out (by decide) rfl hQ
set_option maxHeartbeats 4000000 in
set_option maxRecDepth 100000 in
theorem sg_X5_mulesAt_0 {g : ev_G} {S : ev_S} {Q : ev_O → ev_S → Prop} (a : Nat) (x0 : Int32) (x1 : Int32) (hQ : Q (.inl (some (ev_i (j_at (S.1 (a + 3)) 8 ((x0 * 2) + x1))))) S) : ev_Cv g m_X5_mulesAt 2 0 [ev_o 5 a, ev_i x0, ev_i x1] S Q := by
  refine ev_enter (by decide) rfl rfl (Nat.le_of_ble_eq_true rfl) ?_
  show ev_E g m_X5_mulesAt 2 0 0 [some (ev_o 5 a), some (ev_i x0), some (ev_i x1)] [] S Q
  refine ev_aload_n (ev_o 5 a) dX5_mulesAt_0 rfl rfl ?_
  refine gf_5_2 dX5_mulesAt_1 kw_226 ?_
  refine ev_iload_n (x0) dX5_mulesAt_4 rfl ?_
  refine ev_iconst (2) dX5_mulesAt_5 rfl ?_
  refine ev_imul dX5_mulesAt_6 ?_
  refine ev_iload_n (x1) dX5_mulesAt_7 rfl ?_
  refine ev_iadd dX5_mulesAt_8 ?_
  refine ev_fN ms_X9_at 1 [ev_y 8 (a + 3), ev_i ((x0 * 2) + x1)] [] dX5_mulesAt_9 (List.mem_of_getElem? (i := 14) rfl) rfl (by decide) (Nat.le_of_ble_eq_true rfl) (sp_X9_at 8 (a + 3) ((x0 * 2) + x1)) ?_ rfl
  exact ev_ireturn .int dX5_mulesAt_12 rfl rfl hQ
set_option maxHeartbeats 4000000 in
set_option maxRecDepth 100000 in
theorem sp_X5_mulesAt {g : ev_G} {S : ev_S} (a : Nat) (x0 : Int32) (x1 : Int32)  : ev_Fn g m_X5_mulesAt 2 [ev_o 5 a, ev_i x0, ev_i x1] S (some (ev_i (j_at (S.1 (a + 3)) 8 ((x0 * 2) + x1)))) S := by
  intro Q hQ
  refine sg_X5_mulesAt_0 a x0 x1 ?_
  exact hQ
set_option maxHeartbeats 4000000 in
set_option maxRecDepth 100000 in
theorem sg_X9_mules_0 {g : ev_G} {S : ev_S} {Q : ev_O → ev_S → Prop} (a : Nat) (x0 : Int32) (x1 : Int32) (hQ : ((t_X5_exists S (a + 31) x0) = true → (
    ((t_X9_isPlayer x1) = true → (
      Q (.inl (some (ev_i (j_at (S.1 (a + 34)) 8 ((x0 * 2) + x1))))) S)) ∧
    (¬ ((t_X9_isPlayer x1) = true) → (
      Q (.inr 0) S)))) ∧
  (¬ ((t_X5_exists S (a + 31) x0) = true) → (
    Q (.inr 0) S))) : ev_Cv g m_X9_mules 3 1 [ev_o 9 a, ev_i x0, ev_i x1] S Q := by
  refine ev_enter (by decide) rfl rfl (Nat.le_of_ble_eq_true rfl) ?_
  show ev_E g m_X9_mules 3 1 0 [some (ev_o 9 a), some (ev_i x0), some (ev_i x1)] [] S Q
  refine ev_aload_n (ev_o 9 a) dX9_mules_0 rfl rfl ?_
  refine gf_9_3 dX9_mules_1 kw_601 ?_
  refine ev_fV mv_X2_passes 2 2 [] [] dX9_mules_4 kw_527 rfl (by decide) rfl (by decide) (Nat.le_of_ble_eq_true rfl) (sp_X2_passes (a + 11)) ?_ rfl
  refine ev_iload_n (x0) dX9_mules_7 rfl ?_
  refine ev_fV mv_X5_exists 1 5 [ev_i x0] [] dX9_mules_8 kw_1158 rfl (by decide) rfl (by decide) (Nat.le_of_ble_eq_true rfl) (sp_X5_exists (a + 31) x0) ?_ rfl
  by_cases c1 : (t_X5_exists S (a + 31) x0) = true
  · rw [if_pos c1]
    replace hQ := hQ.1 c1
    refine ev_if_eq 25 dX9_mules_11 (by decide) (fun h9 => absurd h9 (by decide : ¬ ((1 : Int32) = 0))) (fun _ => ?_)
    refine ev_iload_n (x1) dX9_mules_14 rfl ?_
    refine ev_fS ms_X9_isPlayer 1 [ev_i x1] [] dX9_mules_15 kw_954 rfl (by decide) (Nat.le_of_ble_eq_true rfl) (sp_X9_isPlayer x1) ?_ rfl
    by_cases c2 : (t_X9_isPlayer x1) = true
    · rw [if_pos c2]
      replace hQ := hQ.1 c2
      refine ev_if_eq 25 dX9_mules_18 (by decide) (fun h9 => absurd h9 (by decide : ¬ ((1 : Int32) = 0))) (fun _ => ?_)
      refine ev_iconst (1) dX9_mules_21 rfl ?_
      refine ev_goto 26 dX9_mules_22 (by decide) ?_
      refine ev_cS ms_X9_require 1 1 [ev_i 1] [] dX9_mules_26 kw_966 rfl (by decide) (by decide) (Nat.le_of_ble_eq_true rfl) (Q' := fun o z => ev_After g m_X9_mules 3 (1 - 1) 26 [some (ev_o 9 a), some (ev_i x0), some (ev_i x1)] [] z Q o) (sg_X9_require_0 1 ?_) (fun o z h => h) rfl
      refine j_neg (by decide : ¬ ((1 : Int32) = 0)) ?_
      show ev_E g m_X9_mules 3 0 29 [some (ev_o 9 a), some (ev_i x0), some (ev_i x1)] [] S Q
      refine ev_aload_n (ev_o 9 a) dX9_mules_29 rfl rfl ?_
      refine gf_9_3 dX9_mules_30 kw_601 ?_
      refine ev_fV mv_X2_passes 2 2 [] [] dX9_mules_33 kw_527 rfl (by decide) rfl (by decide) (Nat.le_of_ble_eq_true rfl) (sp_X2_passes (a + 11)) ?_ rfl
      refine ev_iload_n (x0) dX9_mules_36 rfl ?_
      refine ev_iload_n (x1) dX9_mules_37 rfl ?_
      refine ev_fV mv_X5_mulesAt 2 5 [ev_i x0, ev_i x1] [] dX9_mules_38 kw_1193 rfl (by decide) rfl (by decide) (Nat.le_of_ble_eq_true rfl) (sp_X5_mulesAt (a + 31) x0 x1) ?_ rfl
      exact ev_ireturn .int dX9_mules_41 rfl rfl hQ
    · rw [if_neg c2]
      replace hQ := hQ.2 c2
      refine ev_if_eq 25 dX9_mules_18 (by decide) (fun _ => ?_) (fun h9 => absurd (by decide : ((0 : Int32) = 0)) h9)
      refine ev_iconst (0) dX9_mules_25 rfl ?_
      refine ev_cS ms_X9_require 1 1 [ev_i 0] [] dX9_mules_26 kw_966 rfl (by decide) (by decide) (Nat.le_of_ble_eq_true rfl) (Q' := fun o z => ev_After g m_X9_mules 3 (1 - 1) 26 [some (ev_o 9 a), some (ev_i x0), some (ev_i x1)] [] z Q o) (sg_X9_require_0 0 ?_) (fun o z h => h) rfl
      refine j_pos (by decide : ((0 : Int32) = 0)) ?_
      exact ev_T_out (by decide) rfl hQ
  · rw [if_neg c1]
    replace hQ := hQ.2 c1
    refine ev_if_eq 25 dX9_mules_11 (by decide) (fun _ => ?_) (fun h9 => absurd (by decide : ((0 : Int32) = 0)) h9)
    refine ev_iconst (0) dX9_mules_25 rfl ?_
    refine ev_cS ms_X9_require 1 1 [ev_i 0] [] dX9_mules_26 kw_966 rfl (by decide) (by decide) (Nat.le_of_ble_eq_true rfl) (Q' := fun o z => ev_After g m_X9_mules 3 (1 - 1) 26 [some (ev_o 9 a), some (ev_i x0), some (ev_i x1)] [] z Q o) (sg_X9_require_0 0 ?_) (fun o z h => h) rfl
    refine j_pos (by decide : ((0 : Int32) = 0)) ?_
    exact ev_T_out (by decide) rfl hQ
set_option maxHeartbeats 4000000 in
set_option maxRecDepth 100000 in
theorem sg_X2_post_0 {g : ev_G} {S : ev_S} {Q : ev_O → ev_S → Prop} (a : Nat) (hQ : Q (.inl (some (ev_o 6 (a + 19)))) S) : ev_Cv g m_X2_post 1 0 [ev_o 2 a] S Q := by
  refine ev_enter (by decide) rfl rfl (Nat.le_of_ble_eq_true rfl) ?_
  show ev_E g m_X2_post 1 0 0 [some (ev_o 2 a)] [] S Q
  refine ev_aload_n (ev_o 2 a) dX2_post_0 rfl rfl ?_
  refine gf_2_2 dX2_post_1 kw_299 ?_
  exact ev_areturn _ dX2_post_4 rfl rfl (Or.inl ⟨_, rfl⟩) hQ
set_option maxHeartbeats 4000000 in
set_option maxRecDepth 100000 in
theorem sp_X2_post {g : ev_G} {S : ev_S} (a : Nat)  : ev_Fn g m_X2_post 1 [ev_o 2 a] S (some (ev_o 6 (a + 19))) S := by
  intro Q hQ
  refine sg_X2_post_0 a ?_
  exact hQ
set_option maxHeartbeats 4000000 in
set_option maxRecDepth 100000 in
theorem sg_X6_waitingAt_0 {g : ev_G} {S : ev_S} {Q : ev_O → ev_S → Prop} (a : Nat) (x0 : Int32) (x1 : Int32) (hQ : Q (.inl (some (ev_i (j_at (S.1 (a + 16)) 8 ((x0 * 2) + x1))))) S) : ev_Cv g m_X6_waitingAt 2 0 [ev_o 6 a, ev_i x0, ev_i x1] S Q := by
  refine ev_enter (by decide) rfl rfl (Nat.le_of_ble_eq_true rfl) ?_
  show ev_E g m_X6_waitingAt 2 0 0 [some (ev_o 6 a), some (ev_i x0), some (ev_i x1)] [] S Q
  refine ev_aload_n (ev_o 6 a) dX6_waitingAt_0 rfl rfl ?_
  refine gf_6_12 dX6_waitingAt_1 kw_252 ?_
  refine ev_iload_n (x0) dX6_waitingAt_4 rfl ?_
  refine ev_iconst (2) dX6_waitingAt_5 rfl ?_
  refine ev_imul dX6_waitingAt_6 ?_
  refine ev_iload_n (x1) dX6_waitingAt_7 rfl ?_
  refine ev_iadd dX6_waitingAt_8 ?_
  refine ev_fN ms_X9_at 1 [ev_y 8 (a + 16), ev_i ((x0 * 2) + x1)] [] dX6_waitingAt_9 (List.mem_of_getElem? (i := 22) rfl) rfl (by decide) (Nat.le_of_ble_eq_true rfl) (sp_X9_at 8 (a + 16) ((x0 * 2) + x1)) ?_ rfl
  exact ev_ireturn .int dX6_waitingAt_12 rfl rfl hQ
set_option maxHeartbeats 4000000 in
set_option maxRecDepth 100000 in
theorem sp_X6_waitingAt {g : ev_G} {S : ev_S} (a : Nat) (x0 : Int32) (x1 : Int32)  : ev_Fn g m_X6_waitingAt 2 [ev_o 6 a, ev_i x0, ev_i x1] S (some (ev_i (j_at (S.1 (a + 16)) 8 ((x0 * 2) + x1)))) S := by
  intro Q hQ
  refine sg_X6_waitingAt_0 a x0 x1 ?_
  exact hQ
set_option maxHeartbeats 4000000 in
set_option maxRecDepth 100000 in
theorem sg_X9_queueLength_0 {g : ev_G} {S : ev_S} {Q : ev_O → ev_S → Prop} (a : Nat) (x0 : Int32) (x1 : Int32) (hQ : ((t_X5_exists S (a + 31) x0) = true → (
    ((t_X9_isPlayer x1) = true → (
      Q (.inl (some (ev_i (j_at (S.1 (a + 46)) 8 ((x0 * 2) + x1))))) S)) ∧
    (¬ ((t_X9_isPlayer x1) = true) → (
      Q (.inr 0) S)))) ∧
  (¬ ((t_X5_exists S (a + 31) x0) = true) → (
    Q (.inr 0) S))) : ev_Cv g m_X9_queueLength 3 1 [ev_o 9 a, ev_i x0, ev_i x1] S Q := by
  refine ev_enter (by decide) rfl rfl (Nat.le_of_ble_eq_true rfl) ?_
  show ev_E g m_X9_queueLength 3 1 0 [some (ev_o 9 a), some (ev_i x0), some (ev_i x1)] [] S Q
  refine ev_aload_n (ev_o 9 a) dX9_queueLength_0 rfl rfl ?_
  refine gf_9_3 dX9_queueLength_1 kw_601 ?_
  refine ev_fV mv_X2_passes 2 2 [] [] dX9_queueLength_4 kw_527 rfl (by decide) rfl (by decide) (Nat.le_of_ble_eq_true rfl) (sp_X2_passes (a + 11)) ?_ rfl
  refine ev_iload_n (x0) dX9_queueLength_7 rfl ?_
  refine ev_fV mv_X5_exists 1 5 [ev_i x0] [] dX9_queueLength_8 kw_1158 rfl (by decide) rfl (by decide) (Nat.le_of_ble_eq_true rfl) (sp_X5_exists (a + 31) x0) ?_ rfl
  by_cases c1 : (t_X5_exists S (a + 31) x0) = true
  · rw [if_pos c1]
    replace hQ := hQ.1 c1
    refine ev_if_eq 25 dX9_queueLength_11 (by decide) (fun h9 => absurd h9 (by decide : ¬ ((1 : Int32) = 0))) (fun _ => ?_)
    refine ev_iload_n (x1) dX9_queueLength_14 rfl ?_
    refine ev_fS ms_X9_isPlayer 1 [ev_i x1] [] dX9_queueLength_15 kw_954 rfl (by decide) (Nat.le_of_ble_eq_true rfl) (sp_X9_isPlayer x1) ?_ rfl
    by_cases c2 : (t_X9_isPlayer x1) = true
    · rw [if_pos c2]
      replace hQ := hQ.1 c2
      refine ev_if_eq 25 dX9_queueLength_18 (by decide) (fun h9 => absurd h9 (by decide : ¬ ((1 : Int32) = 0))) (fun _ => ?_)
      refine ev_iconst (1) dX9_queueLength_21 rfl ?_
      refine ev_goto 26 dX9_queueLength_22 (by decide) ?_
      refine ev_cS ms_X9_require 1 1 [ev_i 1] [] dX9_queueLength_26 kw_966 rfl (by decide) (by decide) (Nat.le_of_ble_eq_true rfl) (Q' := fun o z => ev_After g m_X9_queueLength 3 (1 - 1) 26 [some (ev_o 9 a), some (ev_i x0), some (ev_i x1)] [] z Q o) (sg_X9_require_0 1 ?_) (fun o z h => h) rfl
      refine j_neg (by decide : ¬ ((1 : Int32) = 0)) ?_
      show ev_E g m_X9_queueLength 3 0 29 [some (ev_o 9 a), some (ev_i x0), some (ev_i x1)] [] S Q
      refine ev_aload_n (ev_o 9 a) dX9_queueLength_29 rfl rfl ?_
      refine gf_9_3 dX9_queueLength_30 kw_601 ?_
      refine ev_fV mv_X2_post 1 2 [] [] dX9_queueLength_33 kw_1121 rfl (by decide) rfl (by decide) (Nat.le_of_ble_eq_true rfl) (sp_X2_post (a + 11)) ?_ rfl
      refine ev_iload_n (x0) dX9_queueLength_36 rfl ?_
      refine ev_iload_n (x1) dX9_queueLength_37 rfl ?_
      refine ev_fV mv_X6_waitingAt 2 6 [ev_i x0, ev_i x1] [] dX9_queueLength_38 kw_1201 rfl (by decide) rfl (by decide) (Nat.le_of_ble_eq_true rfl) (sp_X6_waitingAt (a + 30) x0 x1) ?_ rfl
      exact ev_ireturn .int dX9_queueLength_41 rfl rfl hQ
    · rw [if_neg c2]
      replace hQ := hQ.2 c2
      refine ev_if_eq 25 dX9_queueLength_18 (by decide) (fun _ => ?_) (fun h9 => absurd (by decide : ((0 : Int32) = 0)) h9)
      refine ev_iconst (0) dX9_queueLength_25 rfl ?_
      refine ev_cS ms_X9_require 1 1 [ev_i 0] [] dX9_queueLength_26 kw_966 rfl (by decide) (by decide) (Nat.le_of_ble_eq_true rfl) (Q' := fun o z => ev_After g m_X9_queueLength 3 (1 - 1) 26 [some (ev_o 9 a), some (ev_i x0), some (ev_i x1)] [] z Q o) (sg_X9_require_0 0 ?_) (fun o z h => h) rfl
      refine j_pos (by decide : ((0 : Int32) = 0)) ?_
      exact ev_T_out (by decide) rfl hQ
  · rw [if_neg c1]
    replace hQ := hQ.2 c1
    refine ev_if_eq 25 dX9_queueLength_11 (by decide) (fun _ => ?_) (fun h9 => absurd (by decide : ((0 : Int32) = 0)) h9)
    refine ev_iconst (0) dX9_queueLength_25 rfl ?_
    refine ev_cS ms_X9_require 1 1 [ev_i 0] [] dX9_queueLength_26 kw_966 rfl (by decide) (by decide) (Nat.le_of_ble_eq_true rfl) (Q' := fun o z => ev_After g m_X9_queueLength 3 (1 - 1) 26 [some (ev_o 9 a), some (ev_i x0), some (ev_i x1)] [] z Q o) (sg_X9_require_0 0 ?_) (fun o z h => h) rfl
    refine j_pos (by decide : ((0 : Int32) = 0)) ?_
    exact ev_T_out (by decide) rfl hQ
set_option maxHeartbeats 4000000 in
set_option maxRecDepth 100000 in
theorem sg_X6_count_0 {g : ev_G} {S : ev_S} {Q : ev_O → ev_S → Prop} (a : Nat) (hQ : Q (.inl (some (ev_i (S.1 a 13)))) S) : ev_Cv g m_X6_count 1 0 [ev_o 6 a] S Q := by
  refine ev_enter (by decide) rfl rfl (Nat.le_of_ble_eq_true rfl) ?_
  show ev_E g m_X6_count 1 0 0 [some (ev_o 6 a)] [] S Q
  refine ev_aload_n (ev_o 6 a) dX6_count_0 rfl rfl ?_
  refine gf_6_13 dX6_count_1 kw_253 ?_
  exact ev_ireturn .int dX6_count_4 rfl rfl hQ
set_option maxHeartbeats 4000000 in
set_option maxRecDepth 100000 in
theorem sp_X6_count {g : ev_G} {S : ev_S} (a : Nat)  : ev_Fn g m_X6_count 1 [ev_o 6 a] S (some (ev_i (S.1 a 13))) S := by
  intro Q hQ
  refine sg_X6_count_0 a ?_
  exact hQ
set_option maxHeartbeats 4000000 in
set_option maxRecDepth 100000 in
theorem sg_X9_letterCount_0 {g : ev_G} {S : ev_S} {Q : ev_O → ev_S → Prop} (a : Nat) (hQ : Q (.inl (some (ev_i (S.1 (a + 30) 13)))) S) : ev_Cv g m_X9_letterCount 2 0 [ev_o 9 a] S Q := by
  refine ev_enter (by decide) rfl rfl (Nat.le_of_ble_eq_true rfl) ?_
  show ev_E g m_X9_letterCount 2 0 0 [some (ev_o 9 a)] [] S Q
  refine ev_aload_n (ev_o 9 a) dX9_letterCount_0 rfl rfl ?_
  refine gf_9_3 dX9_letterCount_1 kw_601 ?_
  refine ev_fV mv_X2_post 1 2 [] [] dX9_letterCount_4 kw_1121 rfl (by decide) rfl (by decide) (Nat.le_of_ble_eq_true rfl) (sp_X2_post (a + 11)) ?_ rfl
  refine ev_fV mv_X6_count 1 6 [] [] dX9_letterCount_7 kw_1265 rfl (by decide) rfl (by decide) (Nat.le_of_ble_eq_true rfl) (sp_X6_count (a + 30)) ?_ rfl
  exact ev_ireturn .int dX9_letterCount_10 rfl rfl hQ
set_option maxHeartbeats 4000000 in
set_option maxRecDepth 100000 in
theorem sp_X9_letterCount {g : ev_G} {S : ev_S} (a : Nat)  : ev_Fn g m_X9_letterCount 2 [ev_o 9 a] S (some (ev_i (S.1 (a + 30) 13))) S := by
  intro Q hQ
  refine sg_X9_letterCount_0 a ?_
  exact hQ
set_option maxHeartbeats 4000000 in
set_option maxRecDepth 100000 in
theorem sg_X6_exists_0 {g : ev_G} {S : ev_S} {Q : ev_O → ev_S → Prop} (a : Nat) (x0 : Int32) (hQ : (x0 < 0 → (
    Q (.inl (some (ev_i 0))) S)) ∧
  (¬ (x0 < 0) → (
    ((S.1 a 13) ≤ x0 → (
      Q (.inl (some (ev_i 0))) S)) ∧
    (¬ ((S.1 a 13) ≤ x0) → (
      Q (.inl (some (ev_i 1))) S))))) : ev_Cv g m_X6_exists 1 0 [ev_o 6 a, ev_i x0] S Q := by
  refine ev_enter (by decide) rfl rfl (Nat.le_of_ble_eq_true rfl) ?_
  show ev_E g m_X6_exists 1 0 0 [some (ev_o 6 a), some (ev_i x0)] [] S Q
  refine ev_iload_n (x0) dX6_exists_0 rfl ?_
  refine ev_if_lt 16 dX6_exists_1 (by decide) (fun c1 => ?_) (fun c1 => ?_)
  · replace hQ := hQ.1 c1
    refine ev_iconst (0) dX6_exists_16 rfl ?_
    exact ev_ireturn .boolean dX6_exists_17 rfl rfl hQ
  · replace hQ := hQ.2 c1
    refine ev_iload_n (x0) dX6_exists_4 rfl ?_
    refine ev_aload_n (ev_o 6 a) dX6_exists_5 rfl rfl ?_
    refine gf_6_13 dX6_exists_6 kw_253 ?_
    refine ev_icmp_ge 16 dX6_exists_9 (by decide) (fun c2 => ?_) (fun c2 => ?_)
    · replace hQ := hQ.1 c2
      refine ev_iconst (0) dX6_exists_16 rfl ?_
      exact ev_ireturn .boolean dX6_exists_17 rfl rfl hQ
    · replace hQ := hQ.2 c2
      refine ev_iconst (1) dX6_exists_12 rfl ?_
      refine ev_goto 17 dX6_exists_13 (by decide) ?_
      exact ev_ireturn .boolean dX6_exists_17 rfl rfl hQ
def t_X6_exists (S : ev_S) (a : Nat) (x0 : Int32) : Bool := if x0 < 0 then (false) else (if (S.1 a 13) ≤ x0 then (false) else (true))
set_option maxHeartbeats 4000000 in
set_option maxRecDepth 100000 in
theorem sp_X6_exists {g : ev_G} {S : ev_S} (a : Nat) (x0 : Int32)  : ev_Fn g m_X6_exists 1 [ev_o 6 a, ev_i x0] S (some (ev_i (if (t_X6_exists S a x0) = true then 1 else 0))) S := by
  intro Q hQ
  refine sg_X6_exists_0 a x0 ?_
  unfold t_X6_exists at hQ
  refine ⟨fun c1 => ?_, fun c1 => ?_⟩
  · rw [if_pos c1] at hQ
    exact hQ
  · rw [if_neg c1] at hQ
    refine ⟨fun c2 => ?_, fun c2 => ?_⟩
    · rw [if_pos c2] at hQ
      exact hQ
    · rw [if_neg c2] at hQ
      exact hQ
set_option maxHeartbeats 4000000 in
set_option maxRecDepth 100000 in
theorem sg_X6_writerOf_0 {g : ev_G} {S : ev_S} {Q : ev_O → ev_S → Prop} (a : Nat) (x0 : Int32) (hQ : Q (.inl (some (ev_i (j_at (S.1 (a + 5)) 84 x0)))) S) : ev_Cv g m_X6_writerOf 2 0 [ev_o 6 a, ev_i x0] S Q := by
  refine ev_enter (by decide) rfl rfl (Nat.le_of_ble_eq_true rfl) ?_
  show ev_E g m_X6_writerOf 2 0 0 [some (ev_o 6 a), some (ev_i x0)] [] S Q
  refine ev_aload_n (ev_o 6 a) dX6_writerOf_0 rfl rfl ?_
  refine gf_6_1 dX6_writerOf_1 kw_241 ?_
  refine ev_iload_n (x0) dX6_writerOf_4 rfl ?_
  refine ev_fN ms_X9_at 1 [ev_y 84 (a + 5), ev_i x0] [] dX6_writerOf_5 (List.mem_of_getElem? (i := 22) rfl) rfl (by decide) (Nat.le_of_ble_eq_true rfl) (sp_X9_at 84 (a + 5) x0) ?_ rfl
  exact ev_ireturn .int dX6_writerOf_8 rfl rfl hQ
set_option maxHeartbeats 4000000 in
set_option maxRecDepth 100000 in
theorem sp_X6_writerOf {g : ev_G} {S : ev_S} (a : Nat) (x0 : Int32)  : ev_Fn g m_X6_writerOf 2 [ev_o 6 a, ev_i x0] S (some (ev_i (j_at (S.1 (a + 5)) 84 x0))) S := by
  intro Q hQ
  refine sg_X6_writerOf_0 a x0 ?_
  exact hQ
set_option maxHeartbeats 4000000 in
set_option maxRecDepth 100000 in
theorem sg_X9_writer_0 {g : ev_G} {S : ev_S} {Q : ev_O → ev_S → Prop} (a : Nat) (x0 : Int32) (hQ : ((t_X6_exists S (a + 30) x0) = true → (
    Q (.inl (some (ev_i (j_at (S.1 (a + 35)) 84 x0)))) S)) ∧
  (¬ ((t_X6_exists S (a + 30) x0) = true) → (
    Q (.inr 0) S))) : ev_Cv g m_X9_writer 3 1 [ev_o 9 a, ev_i x0] S Q := by
  refine ev_enter (by decide) rfl rfl (Nat.le_of_ble_eq_true rfl) ?_
  show ev_E g m_X9_writer 3 1 0 [some (ev_o 9 a), some (ev_i x0)] [] S Q
  refine ev_aload_n (ev_o 9 a) dX9_writer_0 rfl rfl ?_
  refine gf_9_3 dX9_writer_1 kw_601 ?_
  refine ev_fV mv_X2_post 1 2 [] [] dX9_writer_4 kw_1121 rfl (by decide) rfl (by decide) (Nat.le_of_ble_eq_true rfl) (sp_X2_post (a + 11)) ?_ rfl
  refine ev_iload_n (x0) dX9_writer_7 rfl ?_
  refine ev_fV mv_X6_exists 1 6 [ev_i x0] [] dX9_writer_8 kw_1213 rfl (by decide) rfl (by decide) (Nat.le_of_ble_eq_true rfl) (sp_X6_exists (a + 30) x0) ?_ rfl
  by_cases c1 : (t_X6_exists S (a + 30) x0) = true
  · rw [if_pos c1]
    replace hQ := hQ.1 c1
    refine ev_cS ms_X9_require 1 1 [ev_i 1] [] dX9_writer_11 kw_966 rfl (by decide) (by decide) (Nat.le_of_ble_eq_true rfl) (Q' := fun o z => ev_After g m_X9_writer 3 (1 - 1) 11 [some (ev_o 9 a), some (ev_i x0)] [] z Q o) (sg_X9_require_0 1 ?_) (fun o z h => h) rfl
    refine j_neg (by decide : ¬ ((1 : Int32) = 0)) ?_
    show ev_E g m_X9_writer 3 0 14 [some (ev_o 9 a), some (ev_i x0)] [] S Q
    refine ev_aload_n (ev_o 9 a) dX9_writer_14 rfl rfl ?_
    refine gf_9_3 dX9_writer_15 kw_601 ?_
    refine ev_fV mv_X2_post 1 2 [] [] dX9_writer_18 kw_1121 rfl (by decide) rfl (by decide) (Nat.le_of_ble_eq_true rfl) (sp_X2_post (a + 11)) ?_ rfl
    refine ev_iload_n (x0) dX9_writer_21 rfl ?_
    refine ev_fV mv_X6_writerOf 2 6 [ev_i x0] [] dX9_writer_22 kw_1217 rfl (by decide) rfl (by decide) (Nat.le_of_ble_eq_true rfl) (sp_X6_writerOf (a + 30) x0) ?_ rfl
    exact ev_ireturn .int dX9_writer_25 rfl rfl hQ
  · rw [if_neg c1]
    replace hQ := hQ.2 c1
    refine ev_cS ms_X9_require 1 1 [ev_i 0] [] dX9_writer_11 kw_966 rfl (by decide) (by decide) (Nat.le_of_ble_eq_true rfl) (Q' := fun o z => ev_After g m_X9_writer 3 (1 - 1) 11 [some (ev_o 9 a), some (ev_i x0)] [] z Q o) (sg_X9_require_0 0 ?_) (fun o z h => h) rfl
    refine j_pos (by decide : ((0 : Int32) = 0)) ?_
    exact ev_T_out (by decide) rfl hQ
set_option maxHeartbeats 4000000 in
set_option maxRecDepth 100000 in
theorem sg_X6_numberOf_0 {g : ev_G} {S : ev_S} {Q : ev_O → ev_S → Prop} (a : Nat) (x0 : Int32) (hQ : Q (.inl (some (ev_i (j_at (S.1 (a + 6)) 84 x0)))) S) : ev_Cv g m_X6_numberOf 2 0 [ev_o 6 a, ev_i x0] S Q := by
  refine ev_enter (by decide) rfl rfl (Nat.le_of_ble_eq_true rfl) ?_
  show ev_E g m_X6_numberOf 2 0 0 [some (ev_o 6 a), some (ev_i x0)] [] S Q
  refine ev_aload_n (ev_o 6 a) dX6_numberOf_0 rfl rfl ?_
  refine gf_6_2 dX6_numberOf_1 kw_242 ?_
  refine ev_iload_n (x0) dX6_numberOf_4 rfl ?_
  refine ev_fN ms_X9_at 1 [ev_y 84 (a + 6), ev_i x0] [] dX6_numberOf_5 (List.mem_of_getElem? (i := 22) rfl) rfl (by decide) (Nat.le_of_ble_eq_true rfl) (sp_X9_at 84 (a + 6) x0) ?_ rfl
  exact ev_ireturn .int dX6_numberOf_8 rfl rfl hQ
set_option maxHeartbeats 4000000 in
set_option maxRecDepth 100000 in
theorem sp_X6_numberOf {g : ev_G} {S : ev_S} (a : Nat) (x0 : Int32)  : ev_Fn g m_X6_numberOf 2 [ev_o 6 a, ev_i x0] S (some (ev_i (j_at (S.1 (a + 6)) 84 x0))) S := by
  intro Q hQ
  refine sg_X6_numberOf_0 a x0 ?_
  exact hQ
set_option maxHeartbeats 4000000 in
set_option maxRecDepth 100000 in
theorem sg_X9_letterNumber_0 {g : ev_G} {S : ev_S} {Q : ev_O → ev_S → Prop} (a : Nat) (x0 : Int32) (hQ : ((t_X6_exists S (a + 30) x0) = true → (
    Q (.inl (some (ev_i (j_at (S.1 (a + 36)) 84 x0)))) S)) ∧
  (¬ ((t_X6_exists S (a + 30) x0) = true) → (
    Q (.inr 0) S))) : ev_Cv g m_X9_letterNumber 3 1 [ev_o 9 a, ev_i x0] S Q := by
  refine ev_enter (by decide) rfl rfl (Nat.le_of_ble_eq_true rfl) ?_
  show ev_E g m_X9_letterNumber 3 1 0 [some (ev_o 9 a), some (ev_i x0)] [] S Q
  refine ev_aload_n (ev_o 9 a) dX9_letterNumber_0 rfl rfl ?_
  refine gf_9_3 dX9_letterNumber_1 kw_601 ?_
  refine ev_fV mv_X2_post 1 2 [] [] dX9_letterNumber_4 kw_1121 rfl (by decide) rfl (by decide) (Nat.le_of_ble_eq_true rfl) (sp_X2_post (a + 11)) ?_ rfl
  refine ev_iload_n (x0) dX9_letterNumber_7 rfl ?_
  refine ev_fV mv_X6_exists 1 6 [ev_i x0] [] dX9_letterNumber_8 kw_1213 rfl (by decide) rfl (by decide) (Nat.le_of_ble_eq_true rfl) (sp_X6_exists (a + 30) x0) ?_ rfl
  by_cases c1 : (t_X6_exists S (a + 30) x0) = true
  · rw [if_pos c1]
    replace hQ := hQ.1 c1
    refine ev_cS ms_X9_require 1 1 [ev_i 1] [] dX9_letterNumber_11 kw_966 rfl (by decide) (by decide) (Nat.le_of_ble_eq_true rfl) (Q' := fun o z => ev_After g m_X9_letterNumber 3 (1 - 1) 11 [some (ev_o 9 a), some (ev_i x0)] [] z Q o) (sg_X9_require_0 1 ?_) (fun o z h => h) rfl
    refine j_neg (by decide : ¬ ((1 : Int32) = 0)) ?_
    show ev_E g m_X9_letterNumber 3 0 14 [some (ev_o 9 a), some (ev_i x0)] [] S Q
    refine ev_aload_n (ev_o 9 a) dX9_letterNumber_14 rfl rfl ?_
    refine gf_9_3 dX9_letterNumber_15 kw_601 ?_
    refine ev_fV mv_X2_post 1 2 [] [] dX9_letterNumber_18 kw_1121 rfl (by decide) rfl (by decide) (Nat.le_of_ble_eq_true rfl) (sp_X2_post (a + 11)) ?_ rfl
    refine ev_iload_n (x0) dX9_letterNumber_21 rfl ?_
    refine ev_fV mv_X6_numberOf 2 6 [ev_i x0] [] dX9_letterNumber_22 kw_1222 rfl (by decide) rfl (by decide) (Nat.le_of_ble_eq_true rfl) (sp_X6_numberOf (a + 30) x0) ?_ rfl
    exact ev_ireturn .int dX9_letterNumber_25 rfl rfl hQ
  · rw [if_neg c1]
    replace hQ := hQ.2 c1
    refine ev_cS ms_X9_require 1 1 [ev_i 0] [] dX9_letterNumber_11 kw_966 rfl (by decide) (by decide) (Nat.le_of_ble_eq_true rfl) (Q' := fun o z => ev_After g m_X9_letterNumber 3 (1 - 1) 11 [some (ev_o 9 a), some (ev_i x0)] [] z Q o) (sg_X9_require_0 0 ?_) (fun o z h => h) rfl
    refine j_pos (by decide : ((0 : Int32) = 0)) ?_
    exact ev_T_out (by decide) rfl hQ
set_option maxHeartbeats 4000000 in
set_option maxRecDepth 100000 in
theorem sg_X6_expectedOf_0 {g : ev_G} {S : ev_S} {Q : ev_O → ev_S → Prop} (a : Nat) (x0 : Int32) (hQ : Q (.inl (some (ev_i (j_at (S.1 (a + 8)) 84 x0)))) S) : ev_Cv g m_X6_expectedOf 2 0 [ev_o 6 a, ev_i x0] S Q := by
  refine ev_enter (by decide) rfl rfl (Nat.le_of_ble_eq_true rfl) ?_
  show ev_E g m_X6_expectedOf 2 0 0 [some (ev_o 6 a), some (ev_i x0)] [] S Q
  refine ev_aload_n (ev_o 6 a) dX6_expectedOf_0 rfl rfl ?_
  refine gf_6_4 dX6_expectedOf_1 kw_244 ?_
  refine ev_iload_n (x0) dX6_expectedOf_4 rfl ?_
  refine ev_fN ms_X9_at 1 [ev_y 84 (a + 8), ev_i x0] [] dX6_expectedOf_5 (List.mem_of_getElem? (i := 22) rfl) rfl (by decide) (Nat.le_of_ble_eq_true rfl) (sp_X9_at 84 (a + 8) x0) ?_ rfl
  exact ev_ireturn .int dX6_expectedOf_8 rfl rfl hQ
set_option maxHeartbeats 4000000 in
set_option maxRecDepth 100000 in
theorem sp_X6_expectedOf {g : ev_G} {S : ev_S} (a : Nat) (x0 : Int32)  : ev_Fn g m_X6_expectedOf 2 [ev_o 6 a, ev_i x0] S (some (ev_i (j_at (S.1 (a + 8)) 84 x0))) S := by
  intro Q hQ
  refine sg_X6_expectedOf_0 a x0 ?_
  exact hQ
set_option maxHeartbeats 4000000 in
set_option maxRecDepth 100000 in
theorem sg_X9_isPromise_0 {g : ev_G} {S : ev_S} {Q : ev_O → ev_S → Prop} (a : Nat) (x0 : Int32) (hQ : ((t_X6_exists S (a + 30) x0) = true → (
    ((j_at (S.1 (a + 38)) 84 x0) = (-1) → (
      Q (.inl (some (ev_i 0))) S)) ∧
    (¬ ((j_at (S.1 (a + 38)) 84 x0) = (-1)) → (
      Q (.inl (some (ev_i 1))) S)))) ∧
  (¬ ((t_X6_exists S (a + 30) x0) = true) → (
    Q (.inr 0) S))) : ev_Cv g m_X9_isPromise 3 1 [ev_o 9 a, ev_i x0] S Q := by
  refine ev_enter (by decide) rfl rfl (Nat.le_of_ble_eq_true rfl) ?_
  show ev_E g m_X9_isPromise 3 1 0 [some (ev_o 9 a), some (ev_i x0)] [] S Q
  refine ev_aload_n (ev_o 9 a) dX9_isPromise_0 rfl rfl ?_
  refine gf_9_3 dX9_isPromise_1 kw_601 ?_
  refine ev_fV mv_X2_post 1 2 [] [] dX9_isPromise_4 kw_1121 rfl (by decide) rfl (by decide) (Nat.le_of_ble_eq_true rfl) (sp_X2_post (a + 11)) ?_ rfl
  refine ev_iload_n (x0) dX9_isPromise_7 rfl ?_
  refine ev_fV mv_X6_exists 1 6 [ev_i x0] [] dX9_isPromise_8 kw_1213 rfl (by decide) rfl (by decide) (Nat.le_of_ble_eq_true rfl) (sp_X6_exists (a + 30) x0) ?_ rfl
  by_cases c1 : (t_X6_exists S (a + 30) x0) = true
  · rw [if_pos c1]
    replace hQ := hQ.1 c1
    refine ev_cS ms_X9_require 1 1 [ev_i 1] [] dX9_isPromise_11 kw_966 rfl (by decide) (by decide) (Nat.le_of_ble_eq_true rfl) (Q' := fun o z => ev_After g m_X9_isPromise 3 (1 - 1) 11 [some (ev_o 9 a), some (ev_i x0)] [] z Q o) (sg_X9_require_0 1 ?_) (fun o z h => h) rfl
    refine j_neg (by decide : ¬ ((1 : Int32) = 0)) ?_
    show ev_E g m_X9_isPromise 3 0 14 [some (ev_o 9 a), some (ev_i x0)] [] S Q
    refine ev_aload_n (ev_o 9 a) dX9_isPromise_14 rfl rfl ?_
    refine gf_9_3 dX9_isPromise_15 kw_601 ?_
    refine ev_fV mv_X2_post 1 2 [] [] dX9_isPromise_18 kw_1121 rfl (by decide) rfl (by decide) (Nat.le_of_ble_eq_true rfl) (sp_X2_post (a + 11)) ?_ rfl
    refine ev_iload_n (x0) dX9_isPromise_21 rfl ?_
    refine ev_fV mv_X6_expectedOf 2 6 [ev_i x0] [] dX9_isPromise_22 kw_1227 rfl (by decide) rfl (by decide) (Nat.le_of_ble_eq_true rfl) (sp_X6_expectedOf (a + 30) x0) ?_ rfl
    refine ev_iconst (-1) dX9_isPromise_25 rfl ?_
    refine ev_icmp_eq 33 dX9_isPromise_26 (by decide) (fun c2 => ?_) (fun c2 => ?_)
    · replace hQ := hQ.1 c2
      refine ev_iconst (0) dX9_isPromise_33 rfl ?_
      exact ev_ireturn .boolean dX9_isPromise_34 rfl rfl hQ
    · replace hQ := hQ.2 c2
      refine ev_iconst (1) dX9_isPromise_29 rfl ?_
      refine ev_goto 34 dX9_isPromise_30 (by decide) ?_
      exact ev_ireturn .boolean dX9_isPromise_34 rfl rfl hQ
  · rw [if_neg c1]
    replace hQ := hQ.2 c1
    refine ev_cS ms_X9_require 1 1 [ev_i 0] [] dX9_isPromise_11 kw_966 rfl (by decide) (by decide) (Nat.le_of_ble_eq_true rfl) (Q' := fun o z => ev_After g m_X9_isPromise 3 (1 - 1) 11 [some (ev_o 9 a), some (ev_i x0)] [] z Q o) (sg_X9_require_0 0 ?_) (fun o z h => h) rfl
    refine j_pos (by decide : ((0 : Int32) = 0)) ?_
    exact ev_T_out (by decide) rfl hQ
set_option maxHeartbeats 4000000 in
set_option maxRecDepth 100000 in
theorem sg_X6_stateOf_0 {g : ev_G} {S : ev_S} {Q : ev_O → ev_S → Prop} (a : Nat) (x0 : Int32) (hQ : Q (.inl (some (ev_i (j_at (S.1 (a + 10)) 84 x0)))) S) : ev_Cv g m_X6_stateOf 2 0 [ev_o 6 a, ev_i x0] S Q := by
  refine ev_enter (by decide) rfl rfl (Nat.le_of_ble_eq_true rfl) ?_
  show ev_E g m_X6_stateOf 2 0 0 [some (ev_o 6 a), some (ev_i x0)] [] S Q
  refine ev_aload_n (ev_o 6 a) dX6_stateOf_0 rfl rfl ?_
  refine gf_6_6 dX6_stateOf_1 kw_246 ?_
  refine ev_iload_n (x0) dX6_stateOf_4 rfl ?_
  refine ev_fN ms_X9_at 1 [ev_y 84 (a + 10), ev_i x0] [] dX6_stateOf_5 (List.mem_of_getElem? (i := 22) rfl) rfl (by decide) (Nat.le_of_ble_eq_true rfl) (sp_X9_at 84 (a + 10) x0) ?_ rfl
  exact ev_ireturn .int dX6_stateOf_8 rfl rfl hQ
set_option maxHeartbeats 4000000 in
set_option maxRecDepth 100000 in
theorem sp_X6_stateOf {g : ev_G} {S : ev_S} (a : Nat) (x0 : Int32)  : ev_Fn g m_X6_stateOf 2 [ev_o 6 a, ev_i x0] S (some (ev_i (j_at (S.1 (a + 10)) 84 x0))) S := by
  intro Q hQ
  refine sg_X6_stateOf_0 a x0 ?_
  exact hQ
set_option maxHeartbeats 4000000 in
set_option maxRecDepth 100000 in
theorem sg_X9_letterState_0 {g : ev_G} {S : ev_S} {Q : ev_O → ev_S → Prop} (a : Nat) (x0 : Int32) (hQ : ((t_X6_exists S (a + 30) x0) = true → (
    Q (.inl (some (ev_i (j_at (S.1 (a + 40)) 84 x0)))) S)) ∧
  (¬ ((t_X6_exists S (a + 30) x0) = true) → (
    Q (.inr 0) S))) : ev_Cv g m_X9_letterState 3 1 [ev_o 9 a, ev_i x0] S Q := by
  refine ev_enter (by decide) rfl rfl (Nat.le_of_ble_eq_true rfl) ?_
  show ev_E g m_X9_letterState 3 1 0 [some (ev_o 9 a), some (ev_i x0)] [] S Q
  refine ev_aload_n (ev_o 9 a) dX9_letterState_0 rfl rfl ?_
  refine gf_9_3 dX9_letterState_1 kw_601 ?_
  refine ev_fV mv_X2_post 1 2 [] [] dX9_letterState_4 kw_1121 rfl (by decide) rfl (by decide) (Nat.le_of_ble_eq_true rfl) (sp_X2_post (a + 11)) ?_ rfl
  refine ev_iload_n (x0) dX9_letterState_7 rfl ?_
  refine ev_fV mv_X6_exists 1 6 [ev_i x0] [] dX9_letterState_8 kw_1213 rfl (by decide) rfl (by decide) (Nat.le_of_ble_eq_true rfl) (sp_X6_exists (a + 30) x0) ?_ rfl
  by_cases c1 : (t_X6_exists S (a + 30) x0) = true
  · rw [if_pos c1]
    replace hQ := hQ.1 c1
    refine ev_cS ms_X9_require 1 1 [ev_i 1] [] dX9_letterState_11 kw_966 rfl (by decide) (by decide) (Nat.le_of_ble_eq_true rfl) (Q' := fun o z => ev_After g m_X9_letterState 3 (1 - 1) 11 [some (ev_o 9 a), some (ev_i x0)] [] z Q o) (sg_X9_require_0 1 ?_) (fun o z h => h) rfl
    refine j_neg (by decide : ¬ ((1 : Int32) = 0)) ?_
    show ev_E g m_X9_letterState 3 0 14 [some (ev_o 9 a), some (ev_i x0)] [] S Q
    refine ev_aload_n (ev_o 9 a) dX9_letterState_14 rfl rfl ?_
    refine gf_9_3 dX9_letterState_15 kw_601 ?_
    refine ev_fV mv_X2_post 1 2 [] [] dX9_letterState_18 kw_1121 rfl (by decide) rfl (by decide) (Nat.le_of_ble_eq_true rfl) (sp_X2_post (a + 11)) ?_ rfl
    refine ev_iload_n (x0) dX9_letterState_21 rfl ?_
    refine ev_fV mv_X6_stateOf 2 6 [ev_i x0] [] dX9_letterState_22 kw_1125 rfl (by decide) rfl (by decide) (Nat.le_of_ble_eq_true rfl) (sp_X6_stateOf (a + 30) x0) ?_ rfl
    exact ev_ireturn .int dX9_letterState_25 rfl rfl hQ
  · rw [if_neg c1]
    replace hQ := hQ.2 c1
    refine ev_cS ms_X9_require 1 1 [ev_i 0] [] dX9_letterState_11 kw_966 rfl (by decide) (by decide) (Nat.le_of_ble_eq_true rfl) (Q' := fun o z => ev_After g m_X9_letterState 3 (1 - 1) 11 [some (ev_o 9 a), some (ev_i x0)] [] z Q o) (sg_X9_require_0 0 ?_) (fun o z h => h) rfl
    refine j_pos (by decide : ((0 : Int32) = 0)) ?_
    exact ev_T_out (by decide) rfl hQ
set_option maxHeartbeats 4000000 in
set_option maxRecDepth 100000 in
theorem sg_X2_awaitedBy_0 {g : ev_G} {S : ev_S} {Q : ev_O → ev_S → Prop} (a : Nat) (x0 : Int32) (hQ : ev_E g m_X2_awaitedBy 3 0 11 [some (ev_o 2 a), some (ev_i x0), some (ev_i ((S.1 ((a_X2_deskOf a x0) + 1) 6) + 1)), some (ev_i 0)] [] S Q) : ev_Cv g m_X2_awaitedBy 3 0 [ev_o 2 a, ev_i x0] S Q := by
  refine ev_enter (by decide) rfl rfl (Nat.le_of_ble_eq_true rfl) ?_
  show ev_E g m_X2_awaitedBy 3 0 0 [some (ev_o 2 a), some (ev_i x0), none, none] [] S Q
  refine ev_aload_n (ev_o 2 a) dX2_awaitedBy_0 rfl rfl ?_
  refine ev_iload_n (x0) dX2_awaitedBy_1 rfl ?_
  refine ev_fV mv_X2_boardOf 2 2 [ev_i x0] [] dX2_awaitedBy_2 kw_961 rfl (by decide) rfl (by decide) (Nat.le_of_ble_eq_true rfl) (sp_X2_boardOf a x0) ?_ rfl
  refine ev_fV mv_X0_nextNumber 1 0 [] [] dX2_awaitedBy_5 kw_1099 rfl (by decide) rfl (by decide) (Nat.le_of_ble_eq_true rfl) (sp_X0_nextNumber ((a_X2_deskOf a x0) + 1)) ?_ rfl
  refine ev_istore_n dX2_awaitedBy_8 (Nat.le_of_ble_eq_true rfl) (ev_hw rfl) ?_
  show ev_E g m_X2_awaitedBy 3 0 9 [some (ev_o 2 a), some (ev_i x0), some (ev_i ((S.1 ((a_X2_deskOf a x0) + 1) 6) + 1)), none] [] S Q
  refine ev_iconst (0) dX2_awaitedBy_9 rfl ?_
  refine ev_istore_n dX2_awaitedBy_10 (Nat.le_of_ble_eq_true rfl) (ev_hw rfl) ?_
  show ev_E g m_X2_awaitedBy 3 0 11 [some (ev_o 2 a), some (ev_i x0), some (ev_i ((S.1 ((a_X2_deskOf a x0) + 1) 6) + 1)), some (ev_i 0)] [] S Q
  exact hQ
set_option maxHeartbeats 4000000 in
set_option maxRecDepth 100000 in
theorem sg_X2_awaitedBy_11 {g : ev_G} {S : ev_S} {Q : ev_O → ev_S → Prop} (a : Nat) (u1 : Int32) (u2 : Int32) (u3 : Int32) (hQ : ((S.1 (a + 19) 13) ≤ u3 → (
    Q (.inl (some (ev_i (-1)))) S)) ∧
  (¬ ((S.1 (a + 19) 13) ≤ u3) → (
    ((j_at (S.1 (a + 24)) 84 u3) = u1 → (
      ev_E g m_X2_awaitedBy 3 0 11 [some (ev_o 2 a), some (ev_i u1), some (ev_i u2), some (ev_i (u3 + 1))] [] S Q)) ∧
    (¬ ((j_at (S.1 (a + 24)) 84 u3) = u1) → (
      ((j_at (S.1 (a + 29)) 84 u3) = 2 → (
        ev_E g m_X2_awaitedBy 3 0 11 [some (ev_o 2 a), some (ev_i u1), some (ev_i u2), some (ev_i (u3 + 1))] [] S Q)) ∧
      (¬ ((j_at (S.1 (a + 29)) 84 u3) = 2) → (
        ((j_at (S.1 (a + 25)) 84 u3) = u2 → (
          Q (.inl (some (ev_i u3))) S)) ∧
        (¬ ((j_at (S.1 (a + 25)) 84 u3) = u2) → (
          ev_E g m_X2_awaitedBy 3 0 11 [some (ev_o 2 a), some (ev_i u1), some (ev_i u2), some (ev_i (u3 + 1))] [] S Q))))))))) : ev_E g m_X2_awaitedBy 3 0 11 [some (ev_o 2 a), some (ev_i u1), some (ev_i u2), some (ev_i u3)] [] S Q := by
  refine ev_iload_n (u3) dX2_awaitedBy_11 rfl ?_
  refine ev_aload_n (ev_o 2 a) dX2_awaitedBy_12 rfl rfl ?_
  refine gf_2_2 dX2_awaitedBy_13 kw_299 ?_
  refine ev_fV mv_X6_count 1 6 [] [ev_i u3] dX2_awaitedBy_16 kw_1100 rfl (by decide) rfl (by decide) (Nat.le_of_ble_eq_true rfl) (sp_X6_count (a + 19)) ?_ rfl
  refine ev_icmp_ge 66 dX2_awaitedBy_19 (by decide) (fun c1 => ?_) (fun c1 => ?_)
  · replace hQ := hQ.1 c1
    refine ev_iconst (-1) dX2_awaitedBy_66 rfl ?_
    exact ev_ireturn .int dX2_awaitedBy_67 rfl rfl hQ
  · replace hQ := hQ.2 c1
    refine ev_aload_n (ev_o 2 a) dX2_awaitedBy_22 rfl rfl ?_
    refine gf_2_2 dX2_awaitedBy_23 kw_299 ?_
    refine ev_iload_n (u3) dX2_awaitedBy_26 rfl ?_
    refine ev_fV mv_X6_writerOf 2 6 [ev_i u3] [] dX2_awaitedBy_27 kw_1104 rfl (by decide) rfl (by decide) (Nat.le_of_ble_eq_true rfl) (sp_X6_writerOf (a + 19) u3) ?_ rfl
    refine ev_iload_n (u1) dX2_awaitedBy_30 rfl ?_
    refine ev_icmp_eq 60 dX2_awaitedBy_31 (by decide) (fun c2 => ?_) (fun c2 => ?_)
    · replace hQ := hQ.1 c2
      refine ev_iinc u3 (1) dX2_awaitedBy_60 rfl (by decide) (ev_hw rfl) ?_
      show ev_E g m_X2_awaitedBy 3 0 63 [some (ev_o 2 a), some (ev_i u1), some (ev_i u2), some (ev_i (u3 + 1))] [] S Q
      refine ev_goto 11 dX2_awaitedBy_63 (by decide) ?_
      exact hQ
    · replace hQ := hQ.2 c2
      refine ev_aload_n (ev_o 2 a) dX2_awaitedBy_34 rfl rfl ?_
      refine gf_2_2 dX2_awaitedBy_35 kw_299 ?_
      refine ev_iload_n (u3) dX2_awaitedBy_38 rfl ?_
      refine ev_fV mv_X6_stateOf 2 6 [ev_i u3] [] dX2_awaitedBy_39 kw_1109 rfl (by decide) rfl (by decide) (Nat.le_of_ble_eq_true rfl) (sp_X6_stateOf (a + 19) u3) ?_ rfl
      refine ev_iconst (2) dX2_awaitedBy_42 rfl ?_
      refine ev_icmp_eq 60 dX2_awaitedBy_43 (by decide) (fun c3 => ?_) (fun c3 => ?_)
      · replace hQ := hQ.1 c3
        refine ev_iinc u3 (1) dX2_awaitedBy_60 rfl (by decide) (ev_hw rfl) ?_
        show ev_E g m_X2_awaitedBy 3 0 63 [some (ev_o 2 a), some (ev_i u1), some (ev_i u2), some (ev_i (u3 + 1))] [] S Q
        refine ev_goto 11 dX2_awaitedBy_63 (by decide) ?_
        exact hQ
      · replace hQ := hQ.2 c3
        refine ev_aload_n (ev_o 2 a) dX2_awaitedBy_46 rfl rfl ?_
        refine gf_2_2 dX2_awaitedBy_47 kw_299 ?_
        refine ev_iload_n (u3) dX2_awaitedBy_50 rfl ?_
        refine ev_fV mv_X6_numberOf 2 6 [ev_i u3] [] dX2_awaitedBy_51 kw_1113 rfl (by decide) rfl (by decide) (Nat.le_of_ble_eq_true rfl) (sp_X6_numberOf (a + 19) u3) ?_ rfl
        refine ev_iload_n (u2) dX2_awaitedBy_54 rfl ?_
        refine ev_icmp_ne 60 dX2_awaitedBy_55 (by decide) (fun c4 => ?_) (fun c4 => ?_)
        · replace hQ := hQ.2 c4
          refine ev_iinc u3 (1) dX2_awaitedBy_60 rfl (by decide) (ev_hw rfl) ?_
          show ev_E g m_X2_awaitedBy 3 0 63 [some (ev_o 2 a), some (ev_i u1), some (ev_i u2), some (ev_i (u3 + 1))] [] S Q
          refine ev_goto 11 dX2_awaitedBy_63 (by decide) ?_
          exact hQ
        · replace hQ := hQ.1 c4
          refine ev_iload_n (u3) dX2_awaitedBy_58 rfl ?_
          exact ev_ireturn .int dX2_awaitedBy_59 rfl rfl hQ
set_option maxHeartbeats 4000000 in
set_option maxRecDepth 100000 in
theorem sg_X9_awaitedLetter_0 {g : ev_G} {S : ev_S} {Q : ev_O → ev_S → Prop} (a : Nat) (x0 : Int32) (hQ : ((t_X9_isPlayer x0) = true → (
    ev_Cv g m_X2_awaitedBy 3 0 [ev_o 2 (a + 11), ev_i x0] S (fun o S1 => ∃ v1_ : Int32, o = .inl (some (ev_i v1_)) ∧ (
      Q (.inl (some (ev_i v1_))) S1)))) ∧
  (¬ ((t_X9_isPlayer x0) = true) → (
    Q (.inr 0) S))) : ev_Cv g m_X9_awaitedLetter 4 1 [ev_o 9 a, ev_i x0] S Q := by
  refine ev_enter (by decide) rfl rfl (Nat.le_of_ble_eq_true rfl) ?_
  show ev_E g m_X9_awaitedLetter 4 1 0 [some (ev_o 9 a), some (ev_i x0)] [] S Q
  refine ev_iload_n (x0) dX9_awaitedLetter_0 rfl ?_
  refine ev_fS ms_X9_isPlayer 1 [ev_i x0] [] dX9_awaitedLetter_1 kw_954 rfl (by decide) (Nat.le_of_ble_eq_true rfl) (sp_X9_isPlayer x0) ?_ rfl
  by_cases c1 : (t_X9_isPlayer x0) = true
  · rw [if_pos c1]
    replace hQ := hQ.1 c1
    refine ev_cS ms_X9_require 1 1 [ev_i 1] [] dX9_awaitedLetter_4 kw_966 rfl (by decide) (by decide) (Nat.le_of_ble_eq_true rfl) (Q' := fun o z => ev_After g m_X9_awaitedLetter 4 (1 - 1) 4 [some (ev_o 9 a), some (ev_i x0)] [] z Q o) (sg_X9_require_0 1 ?_) (fun o z h => h) rfl
    refine j_neg (by decide : ¬ ((1 : Int32) = 0)) ?_
    show ev_E g m_X9_awaitedLetter 4 0 7 [some (ev_o 9 a), some (ev_i x0)] [] S Q
    refine ev_aload_n (ev_o 9 a) dX9_awaitedLetter_7 rfl rfl ?_
    refine gf_9_3 dX9_awaitedLetter_8 kw_601 ?_
    refine ev_iload_n (x0) dX9_awaitedLetter_11 rfl ?_
    refine ev_cV mv_X2_awaitedBy 3 0 2 [ev_i x0] [] dX9_awaitedLetter_12 kw_1095 rfl (by decide) rfl (by decide) (by decide) (Nat.le_of_ble_eq_true rfl) hQ ?_ rfl
    rintro o S1 ⟨v1_, rfl, hQ⟩
    show ev_E g m_X9_awaitedLetter 4 0 15 [some (ev_o 9 a), some (ev_i x0)] [ev_i v1_] S1 Q
    exact ev_ireturn .int dX9_awaitedLetter_15 rfl rfl hQ
  · rw [if_neg c1]
    replace hQ := hQ.2 c1
    refine ev_cS ms_X9_require 1 1 [ev_i 0] [] dX9_awaitedLetter_4 kw_966 rfl (by decide) (by decide) (Nat.le_of_ble_eq_true rfl) (Q' := fun o z => ev_After g m_X9_awaitedLetter 4 (1 - 1) 4 [some (ev_o 9 a), some (ev_i x0)] [] z Q o) (sg_X9_require_0 0 ?_) (fun o z h => h) rfl
    refine j_pos (by decide : ((0 : Int32) = 0)) ?_
    exact ev_T_out (by decide) rfl hQ
