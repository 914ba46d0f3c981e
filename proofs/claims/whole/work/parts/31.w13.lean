set_option maxHeartbeats 4000000 in
set_option maxRecDepth 100000 in
theorem sg_X10_movedAt_0 {g : ev_G} {S : ev_S} {Q : ev_O → ev_S → Prop} (a : Nat) (x0 : Int32) (x1 : Int32) (x2 : Int32) (hQ : ((t_X10_in x0 0 1) = true → (
    ((S.1 a 7) = 0 → (
      (vp_in ((12 + (7 * x0)) + 0) 2091) ∧ (
        ((t_X10_in x1 1 (S.1 (a + 1) ((12 + (7 * x0)) + 0).toNatClampNeg)) = true → (
          (vp_in (((154 + (180 * x0)) + (3 * (x1 - 1))) + x2) 2091) ∧ (
            Q (.inl (some (ev_i (S.1 (a + 1) (((154 + (180 * x0)) + (3 * (x1 - 1))) + x2).toNatClampNeg)))) S))) ∧
        (¬ ((t_X10_in x1 1 (S.1 (a + 1) ((12 + (7 * x0)) + 0).toNatClampNeg)) = true) → (
          ∀ S1 : ev_S, S1 = (ev_up S a 7 2) → (
            Q (.inl (some (ev_i 0))) S1)))))) ∧
    (¬ ((S.1 a 7) = 0) → (
      Q (.inl (some (ev_i 0))) S)))) ∧
  (¬ ((t_X10_in x0 0 1) = true) → (
    ((S.1 a 7) = 0 → (
      ∀ S2 : ev_S, S2 = (ev_up S a 7 1) → (
        Q (.inl (some (ev_i 0))) S2))) ∧
    (¬ ((S.1 a 7) = 0) → (
      Q (.inl (some (ev_i 0))) S))))) : ev_Cv g m_X10_movedAt 3 0 [ev_o 10 a, ev_i x0, ev_i x1, ev_i x2] S Q := by
  refine ev_enter (by decide) rfl rfl (Nat.le_of_ble_eq_true rfl) ?_
  show ev_E g m_X10_movedAt 3 0 0 [some (ev_o 10 a), some (ev_i x0), some (ev_i x1), some (ev_i x2)] [] S Q
  refine ev_aload_n (ev_o 10 a) dX10_movedAt_0 rfl rfl ?_
  refine ev_iload_n (x0) dX10_movedAt_1 rfl ?_
  refine ev_fS ms_X10_isPlayer 2 [ev_i x0] [ev_o 10 a] dX10_movedAt_2 kw_2029 rfl (by decide) (Nat.le_of_ble_eq_true rfl) (sp_X10_isPlayer x0) ?_ rfl
  by_cases c1 : (t_X10_in x0 0 1) = true
  · rw [if_pos c1]
    replace hQ := hQ.1 c1
    refine ev_iconst (1) dX10_movedAt_5 rfl ?_
    refine ev_cV mv_X10_right 1 0 10 [ev_i 1, ev_i 1] [] dX10_movedAt_6 kw_1951 rfl (by decide) rfl (by decide) (by decide) (Nat.le_of_ble_eq_true rfl) (Q' := fun o z => ev_After g m_X10_movedAt 3 (0 - 0) 6 [some (ev_o 10 a), some (ev_i x0), some (ev_i x1), some (ev_i x2)] [] z Q o) (sg_X10_right_0 a 1 1 ?_) (fun o z h => h) rfl
    refine ⟨fun c2 => ?_, fun c2 => ?_⟩
    · replace hQ := hQ.1 c2
      refine j_neg (by decide : ¬ ((1 : Int32) = 0)) ?_
      show ev_E g m_X10_movedAt 3 0 9 [some (ev_o 10 a), some (ev_i x0), some (ev_i x1), some (ev_i x2)] [ev_i 1] S Q
      refine ev_if_eq 31 dX10_movedAt_9 (by decide) (fun h9 => absurd h9 (by decide : ¬ ((1 : Int32) = 0))) (fun _ => ?_)
      refine ev_aload_n (ev_o 10 a) dX10_movedAt_12 rfl rfl ?_
      refine ev_iload_n (x1) dX10_movedAt_13 rfl ?_
      refine ev_iconst (1) dX10_movedAt_14 rfl ?_
      refine ev_aload_n (ev_o 10 a) dX10_movedAt_15 rfl rfl ?_
      refine ev_iload_n (x0) dX10_movedAt_16 rfl ?_
      refine ev_iconst (0) dX10_movedAt_17 rfl ?_
      obtain ⟨h1, hQ⟩ := hQ
      refine ev_fV mv_X10_ofP 1 10 [ev_i x0, ev_i 0] [ev_i 1, ev_i x1, ev_o 10 a] dX10_movedAt_18 kw_2048 rfl (by decide) rfl (by decide) (Nat.le_of_ble_eq_true rfl) (sp_X10_ofP a x0 0 h1) ?_ rfl
      refine ev_fS ms_X10_in 1 [ev_i x1, ev_i 1, ev_i (S.1 (a + 1) ((12 + (7 * x0)) + 0).toNatClampNeg)] [ev_o 10 a] dX10_movedAt_21 kw_1781 rfl (by decide) (Nat.le_of_ble_eq_true rfl) (sp_X10_in x1 1 (S.1 (a + 1) ((12 + (7 * x0)) + 0).toNatClampNeg)) ?_ rfl
      by_cases c3 : (t_X10_in x1 1 (S.1 (a + 1) ((12 + (7 * x0)) + 0).toNatClampNeg)) = true
      · rw [if_pos c3]
        replace hQ := hQ.1 c3
        refine ev_iconst (2) dX10_movedAt_24 rfl ?_
        refine ev_cV mv_X10_right 1 0 10 [ev_i 1, ev_i 2] [] dX10_movedAt_25 kw_1951 rfl (by decide) rfl (by decide) (by decide) (Nat.le_of_ble_eq_true rfl) (Q' := fun o z => ev_After g m_X10_movedAt 3 (0 - 0) 25 [some (ev_o 10 a), some (ev_i x0), some (ev_i x1), some (ev_i x2)] [] z Q o) (sg_X10_right_0 a 1 2 ?_) (fun o z h => h) rfl
        refine j_pos c2 ?_
        refine j_neg (by decide : ¬ ((1 : Int32) = 0)) ?_
        show ev_E g m_X10_movedAt 3 0 28 [some (ev_o 10 a), some (ev_i x0), some (ev_i x1), some (ev_i x2)] [ev_i 1] S Q
        refine ev_if_ne 33 dX10_movedAt_28 (by decide) (fun _ => ?_) (fun h9 => absurd h9 (by decide : ¬ ((1 : Int32) = 0)))
        refine ev_aload_n (ev_o 10 a) dX10_movedAt_33 rfl rfl ?_
        refine ev_iload_n (x0) dX10_movedAt_34 rfl ?_
        refine ev_iload_n (x1) dX10_movedAt_35 rfl ?_
        refine ev_iload_n (x2) dX10_movedAt_36 rfl ?_
        obtain ⟨h2, hQ⟩ := hQ
        refine ev_fV mv_X10_madeAt 1 10 [ev_i x0, ev_i x1, ev_i x2] [] dX10_movedAt_37 kw_2105 rfl (by decide) rfl (by decide) (Nat.le_of_ble_eq_true rfl) (sp_X10_madeAt a x0 x1 x2 h2) ?_ rfl
        exact ev_ireturn .int dX10_movedAt_40 rfl rfl hQ
      · rw [if_neg c3]
        replace hQ := hQ.2 c3
        refine ev_iconst (2) dX10_movedAt_24 rfl ?_
        refine ev_cV mv_X10_right 1 0 10 [ev_i 0, ev_i 2] [] dX10_movedAt_25 kw_1951 rfl (by decide) rfl (by decide) (by decide) (Nat.le_of_ble_eq_true rfl) (Q' := fun o z => ev_After g m_X10_movedAt 3 (0 - 0) 25 [some (ev_o 10 a), some (ev_i x0), some (ev_i x1), some (ev_i x2)] [] z Q o) (sg_X10_right_0 a 0 2 ?_) (fun o z h => h) rfl
        refine j_pos c2 ?_
        refine j_pos (by decide : ((0 : Int32) = 0)) ?_
        intro S1 hS1
        refine ev_sub1 hQ hS1 (fun hQ => ?_)
        refine j_neg (by decide : ¬ ((2 : Int32) = 0)) ?_
        show ev_E g m_X10_movedAt 3 0 28 [some (ev_o 10 a), some (ev_i x0), some (ev_i x1), some (ev_i x2)] [ev_i 0] S1 Q
        refine ev_if_ne 33 dX10_movedAt_28 (by decide) (fun h9 => absurd (by decide : ((0 : Int32) = 0)) h9) (fun _ => ?_)
        refine ev_iconst (0) dX10_movedAt_31 rfl ?_
        exact ev_ireturn .int dX10_movedAt_32 rfl rfl hQ
    · replace hQ := hQ.2 c2
      show ev_E g m_X10_movedAt 3 0 9 [some (ev_o 10 a), some (ev_i x0), some (ev_i x1), some (ev_i x2)] [ev_i 0] S Q
      refine ev_if_eq 31 dX10_movedAt_9 (by decide) (fun _ => ?_) (fun h9 => absurd (by decide : ((0 : Int32) = 0)) h9)
      refine ev_iconst (0) dX10_movedAt_31 rfl ?_
      exact ev_ireturn .int dX10_movedAt_32 rfl rfl hQ
  · rw [if_neg c1]
    replace hQ := hQ.2 c1
    refine ev_iconst (1) dX10_movedAt_5 rfl ?_
    refine ev_cV mv_X10_right 1 0 10 [ev_i 0, ev_i 1] [] dX10_movedAt_6 kw_1951 rfl (by decide) rfl (by decide) (by decide) (Nat.le_of_ble_eq_true rfl) (Q' := fun o z => ev_After g m_X10_movedAt 3 (0 - 0) 6 [some (ev_o 10 a), some (ev_i x0), some (ev_i x1), some (ev_i x2)] [] z Q o) (sg_X10_right_0 a 0 1 ?_) (fun o z h => h) rfl
    refine ⟨fun c4 => ?_, fun c4 => ?_⟩
    · replace hQ := hQ.1 c4
      refine j_pos (by decide : ((0 : Int32) = 0)) ?_
      intro S2 hS2
      refine ev_sub1 hQ hS2 (fun hQ => ?_)
      refine j_neg (by decide : ¬ ((1 : Int32) = 0)) ?_
      show ev_E g m_X10_movedAt 3 0 9 [some (ev_o 10 a), some (ev_i x0), some (ev_i x1), some (ev_i x2)] [ev_i 0] S2 Q
      refine ev_if_eq 31 dX10_movedAt_9 (by decide) (fun _ => ?_) (fun h9 => absurd (by decide : ((0 : Int32) = 0)) h9)
      refine ev_iconst (0) dX10_movedAt_31 rfl ?_
      exact ev_ireturn .int dX10_movedAt_32 rfl rfl hQ
    · replace hQ := hQ.2 c4
      show ev_E g m_X10_movedAt 3 0 9 [some (ev_o 10 a), some (ev_i x0), some (ev_i x1), some (ev_i x2)] [ev_i 0] S Q
      refine ev_if_eq 31 dX10_movedAt_9 (by decide) (fun _ => ?_) (fun h9 => absurd (by decide : ((0 : Int32) = 0)) h9)
      refine ev_iconst (0) dX10_movedAt_31 rfl ?_
      exact ev_ireturn .int dX10_movedAt_32 rfl rfl hQ
set_option maxHeartbeats 4000000 in
set_option maxRecDepth 100000 in
theorem sg_X10_movedFrom_0 {g : ev_G} {S : ev_S} {Q : ev_O → ev_S → Prop} (a : Nat) (x0 : Int32) (x1 : Int32) (hQ : ∀ S1 : ev_S, S1 = (ev_up S a 7 0) → (
    ev_Cv g m_X10_movedAt 3 0 [ev_o 10 a, ev_i x0, ev_i x1, ev_i 0] S1 (fun o S2 => ∃ v1_ : Int32, o = .inl (some (ev_i v1_)) ∧ (
      Q (.inl (some (ev_i v1_))) S2)))) : ev_Cv g m_X10_movedFrom 4 0 [ev_o 10 a, ev_i x0, ev_i x1] S Q := by
  refine ev_enter (by decide) rfl rfl (Nat.le_of_ble_eq_true rfl) ?_
  show ev_E g m_X10_movedFrom 4 0 0 [some (ev_o 10 a), some (ev_i x0), some (ev_i x1)] [] S Q
  refine ev_aload_n (ev_o 10 a) dX10_movedFrom_0 rfl rfl ?_
  refine ev_iconst (0) dX10_movedFrom_1 rfl ?_
  refine pf_10_7 dX10_movedFrom_2 kw_1860 ?_
  refine ev_sub hQ (fun S1 hS1 hQ => ?_)
  refine ev_E.goal (pc' := 5) (L' := [some (ev_o 10 a), some (ev_i x0), some (ev_i x1)]) (K' := []) (S' := S1) ?_ rfl rfl rfl hS1
  refine ev_aload_n (ev_o 10 a) dX10_movedFrom_5 rfl rfl ?_
  refine ev_iload_n (x0) dX10_movedFrom_6 rfl ?_
  refine ev_iload_n (x1) dX10_movedFrom_7 rfl ?_
  refine ev_iconst (0) dX10_movedFrom_8 rfl ?_
  refine ev_cV mv_X10_movedAt 3 0 10 [ev_i x0, ev_i x1, ev_i 0] [] dX10_movedFrom_9 kw_2241 rfl (by decide) rfl (by decide) (by decide) (Nat.le_of_ble_eq_true rfl) hQ ?_ rfl
  rintro o S2 ⟨v1_, rfl, hQ⟩
  show ev_E g m_X10_movedFrom 4 0 12 [some (ev_o 10 a), some (ev_i x0), some (ev_i x1)] [ev_i v1_] S2 Q
  exact ev_ireturn .int dX10_movedFrom_12 rfl rfl hQ
set_option maxHeartbeats 4000000 in
set_option maxRecDepth 100000 in
theorem sg_X10_movedTo_0 {g : ev_G} {S : ev_S} {Q : ev_O → ev_S → Prop} (a : Nat) (x0 : Int32) (x1 : Int32) (hQ : ∀ S1 : ev_S, S1 = (ev_up S a 7 0) → (
    ev_Cv g m_X10_movedAt 3 0 [ev_o 10 a, ev_i x0, ev_i x1, ev_i 1] S1 (fun o S2 => ∃ v1_ : Int32, o = .inl (some (ev_i v1_)) ∧ (
      Q (.inl (some (ev_i v1_))) S2)))) : ev_Cv g m_X10_movedTo 4 0 [ev_o 10 a, ev_i x0, ev_i x1] S Q := by
  refine ev_enter (by decide) rfl rfl (Nat.le_of_ble_eq_true rfl) ?_
  show ev_E g m_X10_movedTo 4 0 0 [some (ev_o 10 a), some (ev_i x0), some (ev_i x1)] [] S Q
  refine ev_aload_n (ev_o 10 a) dX10_movedTo_0 rfl rfl ?_
  refine ev_iconst (0) dX10_movedTo_1 rfl ?_
  refine pf_10_7 dX10_movedTo_2 kw_1860 ?_
  refine ev_sub hQ (fun S1 hS1 hQ => ?_)
  refine ev_E.goal (pc' := 5) (L' := [some (ev_o 10 a), some (ev_i x0), some (ev_i x1)]) (K' := []) (S' := S1) ?_ rfl rfl rfl hS1
  refine ev_aload_n (ev_o 10 a) dX10_movedTo_5 rfl rfl ?_
  refine ev_iload_n (x0) dX10_movedTo_6 rfl ?_
  refine ev_iload_n (x1) dX10_movedTo_7 rfl ?_
  refine ev_iconst (1) dX10_movedTo_8 rfl ?_
  refine ev_cV mv_X10_movedAt 3 0 10 [ev_i x0, ev_i x1, ev_i 1] [] dX10_movedTo_9 kw_2241 rfl (by decide) rfl (by decide) (by decide) (Nat.le_of_ble_eq_true rfl) hQ ?_ rfl
  rintro o S2 ⟨v1_, rfl, hQ⟩
  show ev_E g m_X10_movedTo 4 0 12 [some (ev_o 10 a), some (ev_i x0), some (ev_i x1)] [ev_i v1_] S2 Q
  exact ev_ireturn .int dX10_movedTo_12 rfl rfl hQ
set_option maxHeartbeats 4000000 in
set_option maxRecDepth 100000 in
theorem sg_X10_storedMoves_0 {g : ev_G} {S : ev_S} {Q : ev_O → ev_S → Prop} (a : Nat) (x0 : Int32) (hQ : ∀ S1 : ev_S, S1 = (ev_up S a 7 0) → (
    ((t_X10_in x0 0 1) = true → (
      ev_Cv g m_X10_storedOf 2 0 [ev_o 10 a, ev_i x0] S1 (fun o S2 => ∃ v1_ : Int32, o = .inl (some (ev_i v1_)) ∧ (
        Q (.inl (some (ev_i v1_))) S2)))) ∧
    (¬ ((t_X10_in x0 0 1) = true) → (
      ∀ S3 : ev_S, S3 = (ev_up S1 a 7 1) → (
        Q (.inl (some (ev_i 0))) S3))))) : ev_Cv g m_X10_storedMoves 3 0 [ev_o 10 a, ev_i x0] S Q := by
  refine ev_enter (by decide) rfl rfl (Nat.le_of_ble_eq_true rfl) ?_
  show ev_E g m_X10_storedMoves 3 0 0 [some (ev_o 10 a), some (ev_i x0)] [] S Q
  refine ev_aload_n (ev_o 10 a) dX10_storedMoves_0 rfl rfl ?_
  refine ev_iconst (0) dX10_storedMoves_1 rfl ?_
  refine pf_10_7 dX10_storedMoves_2 kw_1860 ?_
  refine ev_sub hQ (fun S1 hS1 hQ => ?_)
  refine ev_E.goal (pc' := 5) (L' := [some (ev_o 10 a), some (ev_i x0)]) (K' := []) (S' := S1) ?_ rfl rfl rfl hS1
  refine ev_aload_n (ev_o 10 a) dX10_storedMoves_5 rfl rfl ?_
  refine ev_iload_n (x0) dX10_storedMoves_6 rfl ?_
  refine ev_fS ms_X10_isPlayer 2 [ev_i x0] [ev_o 10 a] dX10_storedMoves_7 kw_2029 rfl (by decide) (Nat.le_of_ble_eq_true rfl) (sp_X10_isPlayer x0) ?_ rfl
  by_cases c1 : (t_X10_in x0 0 1) = true
  · rw [if_pos c1]
    replace hQ := hQ.1 c1
    refine ev_iconst (1) dX10_storedMoves_10 rfl ?_
    refine ev_cV mv_X10_right 1 0 10 [ev_i 1, ev_i 1] [] dX10_storedMoves_11 kw_1951 rfl (by decide) rfl (by decide) (by decide) (Nat.le_of_ble_eq_true rfl) (Q' := fun o z => ev_After g m_X10_storedMoves 3 (0 - 0) 11 [some (ev_o 10 a), some (ev_i x0)] [] z Q o) (sg_X10_right_0 a 1 1 ?_) (fun o z h => h) rfl
    refine j_pos (by rw [j_rs hS1] <;> decide : ((S1.1 a 7) = 0)) ?_
    refine j_neg (by decide : ¬ ((1 : Int32) = 0)) ?_
    show ev_E g m_X10_storedMoves 3 0 14 [some (ev_o 10 a), some (ev_i x0)] [ev_i 1] S1 Q
    refine ev_if_eq 25 dX10_storedMoves_14 (by decide) (fun h9 => absurd h9 (by decide : ¬ ((1 : Int32) = 0))) (fun _ => ?_)
    refine ev_aload_n (ev_o 10 a) dX10_storedMoves_17 rfl rfl ?_
    refine ev_iload_n (x0) dX10_storedMoves_18 rfl ?_
    refine ev_cV mv_X10_storedOf 2 0 10 [ev_i x0] [] dX10_storedMoves_19 kw_2253 rfl (by decide) rfl (by decide) (by decide) (Nat.le_of_ble_eq_true rfl) hQ ?_ rfl
    rintro o S2 ⟨v1_, rfl, hQ⟩
    show ev_E g m_X10_storedMoves 3 0 22 [some (ev_o 10 a), some (ev_i x0)] [ev_i v1_] S2 Q
    refine ev_goto 26 dX10_storedMoves_22 (by decide) ?_
    exact ev_ireturn .int dX10_storedMoves_26 rfl rfl hQ
  · rw [if_neg c1]
    replace hQ := hQ.2 c1
    refine ev_iconst (1) dX10_storedMoves_10 rfl ?_
    refine ev_cV mv_X10_right 1 0 10 [ev_i 0, ev_i 1] [] dX10_storedMoves_11 kw_1951 rfl (by decide) rfl (by decide) (by decide) (Nat.le_of_ble_eq_true rfl) (Q' := fun o z => ev_After g m_X10_storedMoves 3 (0 - 0) 11 [some (ev_o 10 a), some (ev_i x0)] [] z Q o) (sg_X10_right_0 a 0 1 ?_) (fun o z h => h) rfl
    refine j_pos (by rw [j_rs hS1] <;> decide : ((S1.1 a 7) = 0)) ?_
    refine j_pos (by decide : ((0 : Int32) = 0)) ?_
    intro S3 hS3
    refine ev_sub1 hQ hS3 (fun hQ => ?_)
    refine j_neg (by decide : ¬ ((1 : Int32) = 0)) ?_
    show ev_E g m_X10_storedMoves 3 0 14 [some (ev_o 10 a), some (ev_i x0)] [ev_i 0] S3 Q
    refine ev_if_eq 25 dX10_storedMoves_14 (by decide) (fun _ => ?_) (fun h9 => absurd (by decide : ((0 : Int32) = 0)) h9)
    refine ev_iconst (0) dX10_storedMoves_25 rfl ?_
    exact ev_ireturn .int dX10_storedMoves_26 rfl rfl hQ
set_option maxHeartbeats 4000000 in
set_option maxRecDepth 100000 in
theorem sg_X10_areBoardsEqual_0 {g : ev_G} {S : ev_S} {Q : ev_O → ev_S → Prop} (a : Nat) (hQ : ∀ S1 : ev_S, S1 = (ev_up S a 7 0) → (
    ev_Cv g m_X10_areEqual 2 0 [ev_o 10 a] S1 (fun o S2 => ∃ v1_ : Bool, o = .inl (some (ev_i (if v1_ = true then 1 else 0))) ∧ (
      (v1_ = true → (
        Q (.inl (some (ev_i 1))) S2)) ∧
      (¬ (v1_ = true) → (
        Q (.inl (some (ev_i 0))) S2)))))) : ev_Cv g m_X10_areBoardsEqual 3 0 [ev_o 10 a] S Q := by
  refine ev_enter (by decide) rfl rfl (Nat.le_of_ble_eq_true rfl) ?_
  show ev_E g m_X10_areBoardsEqual 3 0 0 [some (ev_o 10 a)] [] S Q
  refine ev_aload_n (ev_o 10 a) dX10_areBoardsEqual_0 rfl rfl ?_
  refine ev_iconst (0) dX10_areBoardsEqual_1 rfl ?_
  refine pf_10_7 dX10_areBoardsEqual_2 kw_1860 ?_
  refine ev_sub hQ (fun S1 hS1 hQ => ?_)
  refine ev_E.goal (pc' := 5) (L' := [some (ev_o 10 a)]) (K' := []) (S' := S1) ?_ rfl rfl rfl hS1
  refine ev_aload_n (ev_o 10 a) dX10_areBoardsEqual_5 rfl rfl ?_
  refine ev_cV mv_X10_areEqual 2 0 10 [] [] dX10_areBoardsEqual_6 kw_2261 rfl (by decide) rfl (by decide) (by decide) (Nat.le_of_ble_eq_true rfl) hQ ?_ rfl
  rintro o S2 ⟨v1_, rfl, hQ⟩
  show ev_E g m_X10_areBoardsEqual 3 0 9 [some (ev_o 10 a)] [ev_i (if v1_ = true then 1 else 0)] S2 Q
  by_cases c1 : v1_ = true
  · rw [if_pos c1]
    replace hQ := hQ.1 c1
    exact ev_ireturn .boolean dX10_areBoardsEqual_9 rfl rfl hQ
  · rw [if_neg c1]
    replace hQ := hQ.2 c1
    exact ev_ireturn .boolean dX10_areBoardsEqual_9 rfl rfl hQ
set_option maxHeartbeats 4000000 in
set_option maxRecDepth 100000 in
theorem sg_X10_passCount_0 {g : ev_G} {S : ev_S} {Q : ev_O → ev_S → Prop} (a : Nat) (hQ : ∀ S1 : ev_S, S1 = (ev_up S a 7 0) → (
    Q (.inl (some (ev_i (S.1 (a + 1) 3)))) S1)) : ev_Cv g m_X10_passCount 1 0 [ev_o 10 a] S Q := by
  refine ev_enter (by decide) rfl rfl (Nat.le_of_ble_eq_true rfl) ?_
  show ev_E g m_X10_passCount 1 0 0 [some (ev_o 10 a)] [] S Q
  refine ev_aload_n (ev_o 10 a) dX10_passCount_0 rfl rfl ?_
  refine ev_iconst (0) dX10_passCount_1 rfl ?_
  refine pf_10_7 dX10_passCount_2 kw_1860 ?_
  refine ev_sub hQ (fun S1 hS1 hQ => ?_)
  refine ev_E.goal (pc' := 5) (L' := [some (ev_o 10 a)]) (K' := []) (S' := S1) ?_ rfl rfl rfl hS1
  refine ev_aload_n (ev_o 10 a) dX10_passCount_5 rfl rfl ?_
  refine gf_10_0 dX10_passCount_6 kw_1853 ?_
  refine ev_iconst (3) dX10_passCount_9 rfl ?_
  refine ev_iaload dX10_passCount_10 (j_vin (by decide)) ?_
  refine ev_ke (j_rk hS1 (Or.inl (by omega))) ?_
  exact ev_ireturn .int dX10_passCount_11 rfl rfl hQ
set_option maxHeartbeats 4000000 in
set_option maxRecDepth 100000 in
theorem sp_X10_passCount {g : ev_G} {S : ev_S} (a : Nat)  : ev_Fn g m_X10_passCount 1 [ev_o 10 a] S (some (ev_i (S.1 (a + 1) 3))) (ev_up S a 7 0) := by
  intro Q hQ
  refine sg_X10_passCount_0 a ?_
  intro S1 hS1
  subst hS1
  exact hQ
set_option maxHeartbeats 4000000 in
set_option maxRecDepth 100000 in
theorem sg_X10_snowDepth_0 {g : ev_G} {S : ev_S} {Q : ev_O → ev_S → Prop} (a : Nat) (x0 : Int32) (x1 : Int32) (hQ : ∀ S1 : ev_S, S1 = (ev_up S a 7 0) → (
    ((t_X10_in x0 0 ((S1.1 (a + 1) 3) - 1)) = true → (
      ((t_X10_in x1 0 11) = true → (
        (vp_in ((1140 + (15 * x0)) + (3 + x1)) 2091) ∧ (
          Q (.inl (some (ev_i (S.1 (a + 1) ((1140 + (15 * x0)) + (3 + x1)).toNatClampNeg)))) S1))) ∧
      (¬ ((t_X10_in x1 0 11) = true) → (
        ∀ S2 : ev_S, S2 = (ev_up S1 a 7 1) → (
          Q (.inl (some (ev_i 0))) S2))))) ∧
    (¬ ((t_X10_in x0 0 ((S1.1 (a + 1) 3) - 1)) = true) → (
      ∀ S3 : ev_S, S3 = (ev_up S1 a 7 1) → (
        Q (.inl (some (ev_i 0))) S3))))) : ev_Cv g m_X10_snowDepth 3 0 [ev_o 10 a, ev_i x0, ev_i x1] S Q := by
  refine ev_enter (by decide) rfl rfl (Nat.le_of_ble_eq_true rfl) ?_
  show ev_E g m_X10_snowDepth 3 0 0 [some (ev_o 10 a), some (ev_i x0), some (ev_i x1)] [] S Q
  refine ev_aload_n (ev_o 10 a) dX10_snowDepth_0 rfl rfl ?_
  refine ev_iconst (0) dX10_snowDepth_1 rfl ?_
  refine pf_10_7 dX10_snowDepth_2 kw_1860 ?_
  refine ev_sub hQ (fun S1 hS1 hQ => ?_)
  refine ev_E.goal (pc' := 5) (L' := [some (ev_o 10 a), some (ev_i x0), some (ev_i x1)]) (K' := []) (S' := S1) ?_ rfl rfl rfl hS1
  refine ev_aload_n (ev_o 10 a) dX10_snowDepth_5 rfl rfl ?_
  refine ev_aload_n (ev_o 10 a) dX10_snowDepth_6 rfl rfl ?_
  refine ev_iload_n (x0) dX10_snowDepth_7 rfl ?_
  refine ev_fV mv_X10_isPass 2 10 [ev_i x0] [ev_o 10 a] dX10_snowDepth_8 kw_2036 rfl (by decide) rfl (by decide) (Nat.le_of_ble_eq_true rfl) (sp_X10_isPass a x0) ?_ rfl
  by_cases c1 : (t_X10_in x0 0 ((S1.1 (a + 1) 3) - 1)) = true
  · rw [if_pos c1]
    replace hQ := hQ.1 c1
    refine ev_if_eq 28 dX10_snowDepth_11 (by decide) (fun h9 => absurd h9 (by decide : ¬ ((1 : Int32) = 0))) (fun _ => ?_)
    refine ev_iload_n (x1) dX10_snowDepth_14 rfl ?_
    refine ev_iconst (0) dX10_snowDepth_15 rfl ?_
    refine ev_bipush (11) dX10_snowDepth_16 (by decide) ?_
    refine ev_fS ms_X10_in 1 [ev_i x1, ev_i 0, ev_i 11] [ev_o 10 a] dX10_snowDepth_18 kw_1781 rfl (by decide) (Nat.le_of_ble_eq_true rfl) (sp_X10_in x1 0 11) ?_ rfl
    by_cases c2 : (t_X10_in x1 0 11) = true
    · rw [if_pos c2]
      replace hQ := hQ.1 c2
      refine ev_if_eq 28 dX10_snowDepth_21 (by decide) (fun h9 => absurd h9 (by decide : ¬ ((1 : Int32) = 0))) (fun _ => ?_)
      refine ev_iconst (1) dX10_snowDepth_24 rfl ?_
      refine ev_goto 29 dX10_snowDepth_25 (by decide) ?_
      refine ev_iconst (1) dX10_snowDepth_29 rfl ?_
      refine ev_cV mv_X10_right 1 0 10 [ev_i 1, ev_i 1] [] dX10_snowDepth_30 kw_1951 rfl (by decide) rfl (by decide) (by decide) (Nat.le_of_ble_eq_true rfl) (Q' := fun o z => ev_After g m_X10_snowDepth 3 (0 - 0) 30 [some (ev_o 10 a), some (ev_i x0), some (ev_i x1)] [] z Q o) (sg_X10_right_0 a 1 1 ?_) (fun o z h => h) rfl
      refine j_pos (by rw [j_rs hS1] <;> decide : ((S1.1 a 7) = 0)) ?_
      refine j_neg (by decide : ¬ ((1 : Int32) = 0)) ?_
      show ev_E g m_X10_snowDepth 3 0 33 [some (ev_o 10 a), some (ev_i x0), some (ev_i x1)] [ev_i 1] S1 Q
      refine ev_if_eq 47 dX10_snowDepth_33 (by decide) (fun h9 => absurd h9 (by decide : ¬ ((1 : Int32) = 0))) (fun _ => ?_)
      refine ev_aload_n (ev_o 10 a) dX10_snowDepth_36 rfl rfl ?_
      refine ev_iload_n (x0) dX10_snowDepth_37 rfl ?_
      refine ev_iconst (3) dX10_snowDepth_38 rfl ?_
      refine ev_iload_n (x1) dX10_snowDepth_39 rfl ?_
      refine ev_iadd dX10_snowDepth_40 ?_
      obtain ⟨h1, hQ⟩ := hQ
      refine ev_fV mv_X10_ofPass 1 10 [ev_i x0, ev_i (3 + x1)] [] dX10_snowDepth_41 kw_2161 rfl (by decide) rfl (by decide) (Nat.le_of_ble_eq_true rfl) (sp_X10_ofPass a x0 (3 + x1) h1) ?_ rfl
      refine ev_ke (j_rk hS1 (Or.inl (by omega))) ?_
      refine ev_goto 48 dX10_snowDepth_44 (by decide) ?_
      exact ev_ireturn .int dX10_snowDepth_48 rfl rfl hQ
    · rw [if_neg c2]
      replace hQ := hQ.2 c2
      refine ev_if_eq 28 dX10_snowDepth_21 (by decide) (fun _ => ?_) (fun h9 => absurd (by decide : ((0 : Int32) = 0)) h9)
      refine ev_iconst (0) dX10_snowDepth_28 rfl ?_
      refine ev_iconst (1) dX10_snowDepth_29 rfl ?_
      refine ev_cV mv_X10_right 1 0 10 [ev_i 0, ev_i 1] [] dX10_snowDepth_30 kw_1951 rfl (by decide) rfl (by decide) (by decide) (Nat.le_of_ble_eq_true rfl) (Q' := fun o z => ev_After g m_X10_snowDepth 3 (0 - 0) 30 [some (ev_o 10 a), some (ev_i x0), some (ev_i x1)] [] z Q o) (sg_X10_right_0 a 0 1 ?_) (fun o z h => h) rfl
      refine j_pos (by rw [j_rs hS1] <;> decide : ((S1.1 a 7) = 0)) ?_
      refine j_pos (by decide : ((0 : Int32) = 0)) ?_
      intro S2 hS2
      refine ev_sub1 hQ hS2 (fun hQ => ?_)
      refine j_neg (by decide : ¬ ((1 : Int32) = 0)) ?_
      show ev_E g m_X10_snowDepth 3 0 33 [some (ev_o 10 a), some (ev_i x0), some (ev_i x1)] [ev_i 0] S2 Q
      refine ev_if_eq 47 dX10_snowDepth_33 (by decide) (fun _ => ?_) (fun h9 => absurd (by decide : ((0 : Int32) = 0)) h9)
      refine ev_iconst (0) dX10_snowDepth_47 rfl ?_
      exact ev_ireturn .int dX10_snowDepth_48 rfl rfl hQ
  · rw [if_neg c1]
    replace hQ := hQ.2 c1
    refine ev_if_eq 28 dX10_snowDepth_11 (by decide) (fun _ => ?_) (fun h9 => absurd (by decide : ((0 : Int32) = 0)) h9)
    refine ev_iconst (0) dX10_snowDepth_28 rfl ?_
    refine ev_iconst (1) dX10_snowDepth_29 rfl ?_
    refine ev_cV mv_X10_right 1 0 10 [ev_i 0, ev_i 1] [] dX10_snowDepth_30 kw_1951 rfl (by decide) rfl (by decide) (by decide) (Nat.le_of_ble_eq_true rfl) (Q' := fun o z => ev_After g m_X10_snowDepth 3 (0 - 0) 30 [some (ev_o 10 a), some (ev_i x0), some (ev_i x1)] [] z Q o) (sg_X10_right_0 a 0 1 ?_) (fun o z h => h) rfl
    refine j_pos (by rw [j_rs hS1] <;> decide : ((S1.1 a 7) = 0)) ?_
    refine j_pos (by decide : ((0 : Int32) = 0)) ?_
    intro S3 hS3
    refine ev_sub1 hQ hS3 (fun hQ => ?_)
    refine j_neg (by decide : ¬ ((1 : Int32) = 0)) ?_
    show ev_E g m_X10_snowDepth 3 0 33 [some (ev_o 10 a), some (ev_i x0), some (ev_i x1)] [ev_i 0] S3 Q
    refine ev_if_eq 47 dX10_snowDepth_33 (by decide) (fun _ => ?_) (fun h9 => absurd (by decide : ((0 : Int32) = 0)) h9)
    refine ev_iconst (0) dX10_snowDepth_47 rfl ?_
    exact ev_ireturn .int dX10_snowDepth_48 rfl rfl hQ
set_option maxHeartbeats 4000000 in
set_option maxRecDepth 100000 in
theorem sg_X10_travelDays_0 {g : ev_G} {S : ev_S} {Q : ev_O → ev_S → Prop} (a : Nat) (x0 : Int32) (hQ : ∀ S1 : ev_S, S1 = (ev_up S a 7 0) → (
    ((t_X10_in x0 0 ((S1.1 (a + 1) 3) - 1)) = true → (
      (vp_in ((1140 + (15 * x0)) + (3 + (ev_rem ((S1.1 (a + 1) 2) / 30) 12))) 2091) ∧ (
        ((t_X10_isClosed S1 a x0) = true → (
          Q (.inl (some (ev_i (-1)))) S1)) ∧
        (¬ ((t_X10_isClosed S1 a x0) = true) → (
          (vp_in ((1140 + (15 * x0)) + 0) 2091) ∧ (
            Q (.inl (some (ev_i ((S.1 (a + 1) ((1140 + (15 * x0)) + 0).toNatClampNeg) + (S.1 (a + 1) ((1140 + (15 * x0)) + (3 + (ev_rem ((S1.1 (a + 1) 2) / 30) 12))).toNatClampNeg))))) S1)))))) ∧
    (¬ ((t_X10_in x0 0 ((S1.1 (a + 1) 3) - 1)) = true) → (
      ∀ S2 : ev_S, S2 = (ev_up S1 a 7 1) → (
        Q (.inl (some (ev_i 0))) S2))))) : ev_Cv g m_X10_travelDays 4 0 [ev_o 10 a, ev_i x0] S Q := by
  refine ev_enter (by decide) rfl rfl (Nat.le_of_ble_eq_true rfl) ?_
  show ev_E g m_X10_travelDays 4 0 0 [some (ev_o 10 a), some (ev_i x0)] [] S Q
  refine ev_aload_n (ev_o 10 a) dX10_travelDays_0 rfl rfl ?_
  refine ev_iconst (0) dX10_travelDays_1 rfl ?_
  refine pf_10_7 dX10_travelDays_2 kw_1860 ?_
  refine ev_sub hQ (fun S1 hS1 hQ => ?_)
  refine ev_E.goal (pc' := 5) (L' := [some (ev_o 10 a), some (ev_i x0)]) (K' := []) (S' := S1) ?_ rfl rfl rfl hS1
  refine ev_aload_n (ev_o 10 a) dX10_travelDays_5 rfl rfl ?_
  refine ev_aload_n (ev_o 10 a) dX10_travelDays_6 rfl rfl ?_
  refine ev_iload_n (x0) dX10_travelDays_7 rfl ?_
  refine ev_fV mv_X10_isPass 2 10 [ev_i x0] [ev_o 10 a] dX10_travelDays_8 kw_2036 rfl (by decide) rfl (by decide) (Nat.le_of_ble_eq_true rfl) (sp_X10_isPass a x0) ?_ rfl
  by_cases c1 : (t_X10_in x0 0 ((S1.1 (a + 1) 3) - 1)) = true
  · rw [if_pos c1]
    replace hQ := hQ.1 c1
    refine ev_iconst (1) dX10_travelDays_11 rfl ?_
    refine ev_cV mv_X10_right 1 0 10 [ev_i 1, ev_i 1] [] dX10_travelDays_12 kw_1951 rfl (by decide) rfl (by decide) (by decide) (Nat.le_of_ble_eq_true rfl) (Q' := fun o z => ev_After g m_X10_travelDays 4 (0 - 0) 12 [some (ev_o 10 a), some (ev_i x0)] [] z Q o) (sg_X10_right_0 a 1 1 ?_) (fun o z h => h) rfl
    refine j_pos (by rw [j_rs hS1] <;> decide : ((S1.1 a 7) = 0)) ?_
    refine j_neg (by decide : ¬ ((1 : Int32) = 0)) ?_
    show ev_E g m_X10_travelDays 4 0 15 [some (ev_o 10 a), some (ev_i x0)] [ev_i 1] S1 Q
    refine ev_if_ne 20 dX10_travelDays_15 (by decide) (fun _ => ?_) (fun h9 => absurd h9 (by decide : ¬ ((1 : Int32) = 0)))
    refine ev_aload_n (ev_o 10 a) dX10_travelDays_20 rfl rfl ?_
    refine ev_iload_n (x0) dX10_travelDays_21 rfl ?_
    obtain ⟨h1, hQ⟩ := hQ
    refine ev_fV mv_X10_isClosed 3 10 [ev_i x0] [] dX10_travelDays_22 kw_2149 rfl (by decide) rfl (by decide) (Nat.le_of_ble_eq_true rfl) (sp_X10_isClosed a x0 h1) ?_ rfl
    by_cases c2 : (t_X10_isClosed S1 a x0) = true
    · rw [if_pos c2]
      replace hQ := hQ.1 c2
      refine ev_if_eq 32 dX10_travelDays_25 (by decide) (fun h9 => absurd h9 (by decide : ¬ ((1 : Int32) = 0))) (fun _ => ?_)
      refine ev_iconst (-1) dX10_travelDays_28 rfl ?_
      refine ev_goto 44 dX10_travelDays_29 (by decide) ?_
      exact ev_ireturn .int dX10_travelDays_44 rfl rfl hQ
    · rw [if_neg c2]
      replace hQ := hQ.2 c2
      refine ev_if_eq 32 dX10_travelDays_25 (by decide) (fun _ => ?_) (fun h9 => absurd (by decide : ((0 : Int32) = 0)) h9)
      refine ev_aload_n (ev_o 10 a) dX10_travelDays_32 rfl rfl ?_
      refine ev_iload_n (x0) dX10_travelDays_33 rfl ?_
      refine ev_iconst (0) dX10_travelDays_34 rfl ?_
      obtain ⟨h2, hQ⟩ := hQ
      refine ev_fV mv_X10_ofPass 1 10 [ev_i x0, ev_i 0] [] dX10_travelDays_35 kw_2161 rfl (by decide) rfl (by decide) (Nat.le_of_ble_eq_true rfl) (sp_X10_ofPass a x0 0 h2) ?_ rfl
      refine ev_ke (j_rk hS1 (Or.inl (by omega))) ?_
      refine ev_aload_n (ev_o 10 a) dX10_travelDays_38 rfl rfl ?_
      refine ev_iload_n (x0) dX10_travelDays_39 rfl ?_
      refine ev_fV mv_X10_snowNow 2 10 [ev_i x0] [ev_i (S.1 (a + 1) ((1140 + (15 * x0)) + 0).toNatClampNeg)] dX10_travelDays_40 kw_2153 rfl (by decide) rfl (by decide) (Nat.le_of_ble_eq_true rfl) (sp_X10_snowNow a x0 h1) ?_ rfl
      refine ev_ke (j_rk hS1 (Or.inl (by omega))) ?_
      refine ev_iadd dX10_travelDays_43 ?_
      exact ev_ireturn .int dX10_travelDays_44 rfl rfl hQ
  · rw [if_neg c1]
    replace hQ := hQ.2 c1
    refine ev_iconst (1) dX10_travelDays_11 rfl ?_
    refine ev_cV mv_X10_right 1 0 10 [ev_i 0, ev_i 1] [] dX10_travelDays_12 kw_1951 rfl (by decide) rfl (by decide) (by decide) (Nat.le_of_ble_eq_true rfl) (Q' := fun o z => ev_After g m_X10_travelDays 4 (0 - 0) 12 [some (ev_o 10 a), some (ev_i x0)] [] z Q o) (sg_X10_right_0 a 0 1 ?_) (fun o z h => h) rfl
    refine j_pos (by rw [j_rs hS1] <;> decide : ((S1.1 a 7) = 0)) ?_
    refine j_pos (by decide : ((0 : Int32) = 0)) ?_
    intro S2 hS2
    refine ev_sub1 hQ hS2 (fun hQ => ?_)
    refine j_neg (by decide : ¬ ((1 : Int32) = 0)) ?_
    show ev_E g m_X10_travelDays 4 0 15 [some (ev_o 10 a), some (ev_i x0)] [ev_i 0] S2 Q
    refine ev_if_ne 20 dX10_travelDays_15 (by decide) (fun h9 => absurd (by decide : ((0 : Int32) = 0)) h9) (fun _ => ?_)
    refine ev_iconst (0) dX10_travelDays_18 rfl ?_
    exact ev_ireturn .int dX10_travelDays_19 rfl rfl hQ
set_option maxHeartbeats 4000000 in
set_option maxRecDepth 100000 in
theorem sg_X10_mules_0 {g : ev_G} {S : ev_S} {Q : ev_O → ev_S → Prop} (a : Nat) (x0 : Int32) (x1 : Int32) (hQ : ∀ S1 : ev_S, S1 = (ev_up S a 7 0) → (
    ((t_X10_in x0 0 ((S1.1 (a + 1) 3) - 1)) = true → (
      ((t_X10_in x1 0 1) = true → (
        (vp_in ((1140 + (15 * x0)) + (1 + x1)) 2091) ∧ (
          Q (.inl (some (ev_i (S.1 (a + 1) ((1140 + (15 * x0)) + (1 + x1)).toNatClampNeg)))) S1))) ∧
      (¬ ((t_X10_in x1 0 1) = true) → (
        ∀ S2 : ev_S, S2 = (ev_up S1 a 7 1) → (
          Q (.inl (some (ev_i 0))) S2))))) ∧
    (¬ ((t_X10_in x0 0 ((S1.1 (a + 1) 3) - 1)) = true) → (
      ∀ S3 : ev_S, S3 = (ev_up S1 a 7 1) → (
        Q (.inl (some (ev_i 0))) S3))))) : ev_Cv g m_X10_mules 3 0 [ev_o 10 a, ev_i x0, ev_i x1] S Q := by
  refine ev_enter (by decide) rfl rfl (Nat.le_of_ble_eq_true rfl) ?_
  show ev_E g m_X10_mules 3 0 0 [some (ev_o 10 a), some (ev_i x0), some (ev_i x1)] [] S Q
  refine ev_aload_n (ev_o 10 a) dX10_mules_0 rfl rfl ?_
  refine ev_iconst (0) dX10_mules_1 rfl ?_
  refine pf_10_7 dX10_mules_2 kw_1860 ?_
  refine ev_sub hQ (fun S1 hS1 hQ => ?_)
  refine ev_E.goal (pc' := 5) (L' := [some (ev_o 10 a), some (ev_i x0), some (ev_i x1)]) (K' := []) (S' := S1) ?_ rfl rfl rfl hS1
  refine ev_aload_n (ev_o 10 a) dX10_mules_5 rfl rfl ?_
  refine ev_aload_n (ev_o 10 a) dX10_mules_6 rfl rfl ?_
  refine ev_iload_n (x0) dX10_mules_7 rfl ?_
  refine ev_fV mv_X10_isPass 2 10 [ev_i x0] [ev_o 10 a] dX10_mules_8 kw_2036 rfl (by decide) rfl (by decide) (Nat.le_of_ble_eq_true rfl) (sp_X10_isPass a x0) ?_ rfl
  by_cases c1 : (t_X10_in x0 0 ((S1.1 (a + 1) 3) - 1)) = true
  · rw [if_pos c1]
    replace hQ := hQ.1 c1
    refine ev_if_eq 25 dX10_mules_11 (by decide) (fun h9 => absurd h9 (by decide : ¬ ((1 : Int32) = 0))) (fun _ => ?_)
    refine ev_iload_n (x1) dX10_mules_14 rfl ?_
    refine ev_fS ms_X10_isPlayer 2 [ev_i x1] [ev_o 10 a] dX10_mules_15 kw_2029 rfl (by decide) (Nat.le_of_ble_eq_true rfl) (sp_X10_isPlayer x1) ?_ rfl
    by_cases c2 : (t_X10_in x1 0 1) = true
    · rw [if_pos c2]
      replace hQ := hQ.1 c2
      refine ev_if_eq 25 dX10_mules_18 (by decide) (fun h9 => absurd h9 (by decide : ¬ ((1 : Int32) = 0))) (fun _ => ?_)
      refine ev_iconst (1) dX10_mules_21 rfl ?_
      refine ev_goto 26 dX10_mules_22 (by decide) ?_
      refine ev_iconst (1) dX10_mules_26 rfl ?_
      refine ev_cV mv_X10_right 1 0 10 [ev_i 1, ev_i 1] [] dX10_mules_27 kw_1951 rfl (by decide) rfl (by decide) (by decide) (Nat.le_of_ble_eq_true rfl) (Q' := fun o z => ev_After g m_X10_mules 3 (0 - 0) 27 [some (ev_o 10 a), some (ev_i x0), some (ev_i x1)] [] z Q o) (sg_X10_right_0 a 1 1 ?_) (fun o z h => h) rfl
      refine j_pos (by rw [j_rs hS1] <;> decide : ((S1.1 a 7) = 0)) ?_
      refine j_neg (by decide : ¬ ((1 : Int32) = 0)) ?_
      show ev_E g m_X10_mules 3 0 30 [some (ev_o 10 a), some (ev_i x0), some (ev_i x1)] [ev_i 1] S1 Q
      refine ev_if_eq 44 dX10_mules_30 (by decide) (fun h9 => absurd h9 (by decide : ¬ ((1 : Int32) = 0))) (fun _ => ?_)
      refine ev_aload_n (ev_o 10 a) dX10_mules_33 rfl rfl ?_
      refine ev_iload_n (x0) dX10_mules_34 rfl ?_
      refine ev_iconst (1) dX10_mules_35 rfl ?_
      refine ev_iload_n (x1) dX10_mules_36 rfl ?_
      refine ev_iadd dX10_mules_37 ?_
      obtain ⟨h1, hQ⟩ := hQ
      refine ev_fV mv_X10_ofPass 1 10 [ev_i x0, ev_i (1 + x1)] [] dX10_mules_38 kw_2161 rfl (by decide) rfl (by decide) (Nat.le_of_ble_eq_true rfl) (sp_X10_ofPass a x0 (1 + x1) h1) ?_ rfl
      refine ev_ke (j_rk hS1 (Or.inl (by omega))) ?_
      refine ev_goto 45 dX10_mules_41 (by decide) ?_
      exact ev_ireturn .int dX10_mules_45 rfl rfl hQ
    · rw [if_neg c2]
      replace hQ := hQ.2 c2
      refine ev_if_eq 25 dX10_mules_18 (by decide) (fun _ => ?_) (fun h9 => absurd (by decide : ((0 : Int32) = 0)) h9)
      refine ev_iconst (0) dX10_mules_25 rfl ?_
      refine ev_iconst (1) dX10_mules_26 rfl ?_
      refine ev_cV mv_X10_right 1 0 10 [ev_i 0, ev_i 1] [] dX10_mules_27 kw_1951 rfl (by decide) rfl (by decide) (by decide) (Nat.le_of_ble_eq_true rfl) (Q' := fun o z => ev_After g m_X10_mules 3 (0 - 0) 27 [some (ev_o 10 a), some (ev_i x0), some (ev_i x1)] [] z Q o) (sg_X10_right_0 a 0 1 ?_) (fun o z h => h) rfl
      refine j_pos (by rw [j_rs hS1] <;> decide : ((S1.1 a 7) = 0)) ?_
      refine j_pos (by decide : ((0 : Int32) = 0)) ?_
      intro S2 hS2
      refine ev_sub1 hQ hS2 (fun hQ => ?_)
      refine j_neg (by decide : ¬ ((1 : Int32) = 0)) ?_
      show ev_E g m_X10_mules 3 0 30 [some (ev_o 10 a), some (ev_i x0), some (ev_i x1)] [ev_i 0] S2 Q
      refine ev_if_eq 44 dX10_mules_30 (by decide) (fun _ => ?_) (fun h9 => absurd (by decide : ((0 : Int32) = 0)) h9)
      refine ev_iconst (0) dX10_mules_44 rfl ?_
      exact ev_ireturn .int dX10_mules_45 rfl rfl hQ
  · rw [if_neg c1]
    replace hQ := hQ.2 c1
    refine ev_if_eq 25 dX10_mules_11 (by decide) (fun _ => ?_) (fun h9 => absurd (by decide : ((0 : Int32) = 0)) h9)
    refine ev_iconst (0) dX10_mules_25 rfl ?_
    refine ev_iconst (1) dX10_mules_26 rfl ?_
    refine ev_cV mv_X10_right 1 0 10 [ev_i 0, ev_i 1] [] dX10_mules_27 kw_1951 rfl (by decide) rfl (by decide) (by decide) (Nat.le_of_ble_eq_true rfl) (Q' := fun o z => ev_After g m_X10_mules 3 (0 - 0) 27 [some (ev_o 10 a), some (ev_i x0), some (ev_i x1)] [] z Q o) (sg_X10_right_0 a 0 1 ?_) (fun o z h => h) rfl
    refine j_pos (by rw [j_rs hS1] <;> decide : ((S1.1 a 7) = 0)) ?_
    refine j_pos (by decide : ((0 : Int32) = 0)) ?_
    intro S3 hS3
    refine ev_sub1 hQ hS3 (fun hQ => ?_)
    refine j_neg (by decide : ¬ ((1 : Int32) = 0)) ?_
    show ev_E g m_X10_mules 3 0 30 [some (ev_o 10 a), some (ev_i x0), some (ev_i x1)] [ev_i 0] S3 Q
    refine ev_if_eq 44 dX10_mules_30 (by decide) (fun _ => ?_) (fun h9 => absurd (by decide : ((0 : Int32) = 0)) h9)
    refine ev_iconst (0) dX10_mules_44 rfl ?_
    exact ev_ireturn .int dX10_mules_45 rfl rfl hQ
set_option maxHeartbeats 4000000 in
set_option maxRecDepth 100000 in
theorem sg_X10_queueLength_0 {g : ev_G} {S : ev_S} {Q : ev_O → ev_S → Prop} (a : Nat) (x0 : Int32) (x1 : Int32) (hQ : ∀ S1 : ev_S, S1 = (ev_up S a 7 0) → (
    ((t_X10_in x0 0 ((S1.1 (a + 1) 3) - 1)) = true → (
      ((t_X10_in x1 0 1) = true → (
        ev_Cv g m_X10_queued 2 0 [ev_o 10 a, ev_i x0, ev_i x1] S1 (fun o S2 => ∃ v1_ : Int32, o = .inl (some (ev_i v1_)) ∧ (
          Q (.inl (some (ev_i v1_))) S2)))) ∧
      (¬ ((t_X10_in x1 0 1) = true) → (
        ∀ S3 : ev_S, S3 = (ev_up S1 a 7 1) → (
          Q (.inl (some (ev_i 0))) S3))))) ∧
    (¬ ((t_X10_in x0 0 ((S1.1 (a + 1) 3) - 1)) = true) → (
      ∀ S4 : ev_S, S4 = (ev_up S1 a 7 1) → (
        Q (.inl (some (ev_i 0))) S4))))) : ev_Cv g m_X10_queueLength 3 0 [ev_o 10 a, ev_i x0, ev_i x1] S Q := by
  refine ev_enter (by decide) rfl rfl (Nat.le_of_ble_eq_true rfl) ?_
  show ev_E g m_X10_queueLength 3 0 0 [some (ev_o 10 a), some (ev_i x0), some (ev_i x1)] [] S Q
  refine ev_aload_n (ev_o 10 a) dX10_queueLength_0 rfl rfl ?_
  refine ev_iconst (0) dX10_queueLength_1 rfl ?_
  refine pf_10_7 dX10_queueLength_2 kw_1860 ?_
  refine ev_sub hQ (fun S1 hS1 hQ => ?_)
  refine ev_E.goal (pc' := 5) (L' := [some (ev_o 10 a), some (ev_i x0), some (ev_i x1)]) (K' := []) (S' := S1) ?_ rfl rfl rfl hS1
  refine ev_aload_n (ev_o 10 a) dX10_queueLength_5 rfl rfl ?_
  refine ev_aload_n (ev_o 10 a) dX10_queueLength_6 rfl rfl ?_
  refine ev_iload_n (x0) dX10_queueLength_7 rfl ?_
  refine ev_fV mv_X10_isPass 2 10 [ev_i x0] [ev_o 10 a] dX10_queueLength_8 kw_2036 rfl (by decide) rfl (by decide) (Nat.le_of_ble_eq_true rfl) (sp_X10_isPass a x0) ?_ rfl
  by_cases c1 : (t_X10_in x0 0 ((S1.1 (a + 1) 3) - 1)) = true
  · rw [if_pos c1]
    replace hQ := hQ.1 c1
    refine ev_if_eq 25 dX10_queueLength_11 (by decide) (fun h9 => absurd h9 (by decide : ¬ ((1 : Int32) = 0))) (fun _ => ?_)
    refine ev_iload_n (x1) dX10_queueLength_14 rfl ?_
    refine ev_fS ms_X10_isPlayer 2 [ev_i x1] [ev_o 10 a] dX10_queueLength_15 kw_2029 rfl (by decide) (Nat.le_of_ble_eq_true rfl) (sp_X10_isPlayer x1) ?_ rfl
    by_cases c2 : (t_X10_in x1 0 1) = true
    · rw [if_pos c2]
      replace hQ := hQ.1 c2
      refine ev_if_eq 25 dX10_queueLength_18 (by decide) (fun h9 => absurd h9 (by decide : ¬ ((1 : Int32) = 0))) (fun _ => ?_)
      refine ev_iconst (1) dX10_queueLength_21 rfl ?_
      refine ev_goto 26 dX10_queueLength_22 (by decide) ?_
      refine ev_iconst (1) dX10_queueLength_26 rfl ?_
      refine ev_cV mv_X10_right 1 0 10 [ev_i 1, ev_i 1] [] dX10_queueLength_27 kw_1951 rfl (by decide) rfl (by decide) (by decide) (Nat.le_of_ble_eq_true rfl) (Q' := fun o z => ev_After g m_X10_queueLength 3 (0 - 0) 27 [some (ev_o 10 a), some (ev_i x0), some (ev_i x1)] [] z Q o) (sg_X10_right_0 a 1 1 ?_) (fun o z h => h) rfl
      refine j_pos (by rw [j_rs hS1] <;> decide : ((S1.1 a 7) = 0)) ?_
      refine j_neg (by decide : ¬ ((1 : Int32) = 0)) ?_
      show ev_E g m_X10_queueLength 3 0 30 [some (ev_o 10 a), some (ev_i x0), some (ev_i x1)] [ev_i 1] S1 Q
      refine ev_if_eq 42 dX10_queueLength_30 (by decide) (fun h9 => absurd h9 (by decide : ¬ ((1 : Int32) = 0))) (fun _ => ?_)
      refine ev_aload_n (ev_o 10 a) dX10_queueLength_33 rfl rfl ?_
      refine ev_iload_n (x0) dX10_queueLength_34 rfl ?_
      refine ev_iload_n (x1) dX10_queueLength_35 rfl ?_
      refine ev_cV mv_X10_queued 2 0 10 [ev_i x0, ev_i x1] [] dX10_queueLength_36 kw_2285 rfl (by decide) rfl (by decide) (by decide) (Nat.le_of_ble_eq_true rfl) hQ ?_ rfl
      rintro o S2 ⟨v1_, rfl, hQ⟩
      show ev_E g m_X10_queueLength 3 0 39 [some (ev_o 10 a), some (ev_i x0), some (ev_i x1)] [ev_i v1_] S2 Q
      refine ev_goto 43 dX10_queueLength_39 (by decide) ?_
      exact ev_ireturn .int dX10_queueLength_43 rfl rfl hQ
    · rw [if_neg c2]
      replace hQ := hQ.2 c2
      refine ev_if_eq 25 dX10_queueLength_18 (by decide) (fun _ => ?_) (fun h9 => absurd (by decide : ((0 : Int32) = 0)) h9)
      refine ev_iconst (0) dX10_queueLength_25 rfl ?_
      refine ev_iconst (1) dX10_queueLength_26 rfl ?_
      refine ev_cV mv_X10_right 1 0 10 [ev_i 0, ev_i 1] [] dX10_queueLength_27 kw_1951 rfl (by decide) rfl (by decide) (by decide) (Nat.le_of_ble_eq_true rfl) (Q' := fun o z => ev_After g m_X10_queueLength 3 (0 - 0) 27 [some (ev_o 10 a), some (ev_i x0), some (ev_i x1)] [] z Q o) (sg_X10_right_0 a 0 1 ?_) (fun o z h => h) rfl
      refine j_pos (by rw [j_rs hS1] <;> decide : ((S1.1 a 7) = 0)) ?_
      refine j_pos (by decide : ((0 : Int32) = 0)) ?_
      intro S3 hS3
      refine ev_sub1 hQ hS3 (fun hQ => ?_)
      refine j_neg (by decide : ¬ ((1 : Int32) = 0)) ?_
      show ev_E g m_X10_queueLength 3 0 30 [some (ev_o 10 a), some (ev_i x0), some (ev_i x1)] [ev_i 0] S3 Q
      refine ev_if_eq 42 dX10_queueLength_30 (by decide) (fun _ => ?_) (fun h9 => absurd (by decide : ((0 : Int32) = 0)) h9)
      refine ev_iconst (0) dX10_queueLength_42 rfl ?_
      exact ev_ireturn .int dX10_queueLength_43 rfl rfl hQ
  · rw [if_neg c1]
    replace hQ := hQ.2 c1
    refine ev_if_eq 25 dX10_queueLength_11 (by decide) (fun _ => ?_) (fun h9 => absurd (by decide : ((0 : Int32) = 0)) h9)
    refine ev_iconst (0) dX10_queueLength_25 rfl ?_
    refine ev_iconst (1) dX10_queueLength_26 rfl ?_
    refine ev_cV mv_X10_right 1 0 10 [ev_i 0, ev_i 1] [] dX10_queueLength_27 kw_1951 rfl (by decide) rfl (by decide) (by decide) (Nat.le_of_ble_eq_true rfl) (Q' := fun o z => ev_After g m_X10_queueLength 3 (0 - 0) 27 [some (ev_o 10 a), some (ev_i x0), some (ev_i x1)] [] z Q o) (sg_X10_right_0 a 0 1 ?_) (fun o z h => h) rfl
    refine j_pos (by rw [j_rs hS1] <;> decide : ((S1.1 a 7) = 0)) ?_
    refine j_pos (by decide : ((0 : Int32) = 0)) ?_
    intro S4 hS4
    refine ev_sub1 hQ hS4 (fun hQ => ?_)
    refine j_neg (by decide : ¬ ((1 : Int32) = 0)) ?_
    show ev_E g m_X10_queueLength 3 0 30 [some (ev_o 10 a), some (ev_i x0), some (ev_i x1)] [ev_i 0] S4 Q
    refine ev_if_eq 42 dX10_queueLength_30 (by decide) (fun _ => ?_) (fun h9 => absurd (by decide : ((0 : Int32) = 0)) h9)
    refine ev_iconst (0) dX10_queueLength_42 rfl ?_
    exact ev_ireturn .int dX10_queueLength_43 rfl rfl hQ
set_option maxHeartbeats 4000000 in
set_option maxRecDepth 100000 in
theorem sg_X10_letterCount_0 {g : ev_G} {S : ev_S} {Q : ev_O → ev_S → Prop} (a : Nat) (hQ : ∀ S1 : ev_S, S1 = (ev_up S a 7 0) → (
    Q (.inl (some (ev_i (S.1 (a + 1) 4)))) S1)) : ev_Cv g m_X10_letterCount 1 0 [ev_o 10 a] S Q := by
  refine ev_enter (by decide) rfl rfl (Nat.le_of_ble_eq_true rfl) ?_
  show ev_E g m_X10_letterCount 1 0 0 [some (ev_o 10 a)] [] S Q
  refine ev_aload_n (ev_o 10 a) dX10_letterCount_0 rfl rfl ?_
  refine ev_iconst (0) dX10_letterCount_1 rfl ?_
  refine pf_10_7 dX10_letterCount_2 kw_1860 ?_
  refine ev_sub hQ (fun S1 hS1 hQ => ?_)
  refine ev_E.goal (pc' := 5) (L' := [some (ev_o 10 a)]) (K' := []) (S' := S1) ?_ rfl rfl rfl hS1
  refine ev_aload_n (ev_o 10 a) dX10_letterCount_5 rfl rfl ?_
  refine gf_10_0 dX10_letterCount_6 kw_1853 ?_
  refine ev_iconst (4) dX10_letterCount_9 rfl ?_
  refine ev_iaload dX10_letterCount_10 (j_vin (by decide)) ?_
  refine ev_ke (j_rk hS1 (Or.inl (by omega))) ?_
  exact ev_ireturn .int dX10_letterCount_11 rfl rfl hQ
set_option maxHeartbeats 4000000 in
set_option maxRecDepth 100000 in
theorem sp_X10_letterCount {g : ev_G} {S : ev_S} (a : Nat)  : ev_Fn g m_X10_letterCount 1 [ev_o 10 a] S (some (ev_i (S.1 (a + 1) 4))) (ev_up S a 7 0) := by
  intro Q hQ
  refine sg_X10_letterCount_0 a ?_
  intro S1 hS1
  subst hS1
  exact hQ
set_option maxHeartbeats 4000000 in
set_option maxRecDepth 100000 in
theorem sg_X10_writer_0 {g : ev_G} {S : ev_S} {Q : ev_O → ev_S → Prop} (a : Nat) (x0 : Int32) (hQ : ∀ S1 : ev_S, S1 = (ev_up S a 7 0) → (
    ((t_X10_in x0 0 ((S1.1 (a + 1) 4) - 1)) = true → (
      (vp_in ((1200 + (11 * x0)) + 0) 2091) ∧ (
        Q (.inl (some (ev_i (S.1 (a + 1) ((1200 + (11 * x0)) + 0).toNatClampNeg)))) S1))) ∧
    (¬ ((t_X10_in x0 0 ((S1.1 (a + 1) 4) - 1)) = true) → (
      ∀ S2 : ev_S, S2 = (ev_up S1 a 7 1) → (
        Q (.inl (some (ev_i 0))) S2))))) : ev_Cv g m_X10_writer 3 0 [ev_o 10 a, ev_i x0] S Q := by
  refine ev_enter (by decide) rfl rfl (Nat.le_of_ble_eq_true rfl) ?_
  show ev_E g m_X10_writer 3 0 0 [some (ev_o 10 a), some (ev_i x0)] [] S Q
  refine ev_aload_n (ev_o 10 a) dX10_writer_0 rfl rfl ?_
  refine ev_iconst (0) dX10_writer_1 rfl ?_
  refine pf_10_7 dX10_writer_2 kw_1860 ?_
  refine ev_sub hQ (fun S1 hS1 hQ => ?_)
  refine ev_E.goal (pc' := 5) (L' := [some (ev_o 10 a), some (ev_i x0)]) (K' := []) (S' := S1) ?_ rfl rfl rfl hS1
  refine ev_aload_n (ev_o 10 a) dX10_writer_5 rfl rfl ?_
  refine ev_aload_n (ev_o 10 a) dX10_writer_6 rfl rfl ?_
  refine ev_iload_n (x0) dX10_writer_7 rfl ?_
  refine ev_fV mv_X10_isLetter 2 10 [ev_i x0] [ev_o 10 a] dX10_writer_8 kw_2125 rfl (by decide) rfl (by decide) (Nat.le_of_ble_eq_true rfl) (sp_X10_isLetter a x0) ?_ rfl
  by_cases c1 : (t_X10_in x0 0 ((S1.1 (a + 1) 4) - 1)) = true
  · rw [if_pos c1]
    replace hQ := hQ.1 c1
    refine ev_iconst (1) dX10_writer_11 rfl ?_
    refine ev_cV mv_X10_right 1 0 10 [ev_i 1, ev_i 1] [] dX10_writer_12 kw_1951 rfl (by decide) rfl (by decide) (by decide) (Nat.le_of_ble_eq_true rfl) (Q' := fun o z => ev_After g m_X10_writer 3 (0 - 0) 12 [some (ev_o 10 a), some (ev_i x0)] [] z Q o) (sg_X10_right_0 a 1 1 ?_) (fun o z h => h) rfl
    refine j_pos (by rw [j_rs hS1] <;> decide : ((S1.1 a 7) = 0)) ?_
    refine j_neg (by decide : ¬ ((1 : Int32) = 0)) ?_
    show ev_E g m_X10_writer 3 0 15 [some (ev_o 10 a), some (ev_i x0)] [ev_i 1] S1 Q
    refine ev_if_eq 27 dX10_writer_15 (by decide) (fun h9 => absurd h9 (by decide : ¬ ((1 : Int32) = 0))) (fun _ => ?_)
    refine ev_aload_n (ev_o 10 a) dX10_writer_18 rfl rfl ?_
    refine ev_iload_n (x0) dX10_writer_19 rfl ?_
    refine ev_iconst (0) dX10_writer_20 rfl ?_
    obtain ⟨h1, hQ⟩ := hQ
    refine ev_fV mv_X10_ofL 1 10 [ev_i x0, ev_i 0] [] dX10_writer_21 kw_2129 rfl (by decide) rfl (by decide) (Nat.le_of_ble_eq_true rfl) (sp_X10_ofL a x0 0 h1) ?_ rfl
    refine ev_ke (j_rk hS1 (Or.inl (by omega))) ?_
    refine ev_goto 28 dX10_writer_24 (by decide) ?_
    exact ev_ireturn .int dX10_writer_28 rfl rfl hQ
  · rw [if_neg c1]
    replace hQ := hQ.2 c1
    refine ev_iconst (1) dX10_writer_11 rfl ?_
    refine ev_cV mv_X10_right 1 0 10 [ev_i 0, ev_i 1] [] dX10_writer_12 kw_1951 rfl (by decide) rfl (by decide) (by decide) (Nat.le_of_ble_eq_true rfl) (Q' := fun o z => ev_After g m_X10_writer 3 (0 - 0) 12 [some (ev_o 10 a), some (ev_i x0)] [] z Q o) (sg_X10_right_0 a 0 1 ?_) (fun o z h => h) rfl
    refine j_pos (by rw [j_rs hS1] <;> decide : ((S1.1 a 7) = 0)) ?_
    refine j_pos (by decide : ((0 : Int32) = 0)) ?_
    intro S2 hS2
    refine ev_sub1 hQ hS2 (fun hQ => ?_)
    refine j_neg (by decide : ¬ ((1 : Int32) = 0)) ?_
    show ev_E g m_X10_writer 3 0 15 [some (ev_o 10 a), some (ev_i x0)] [ev_i 0] S2 Q
    refine ev_if_eq 27 dX10_writer_15 (by decide) (fun _ => ?_) (fun h9 => absurd (by decide : ((0 : Int32) = 0)) h9)
    refine ev_iconst (0) dX10_writer_27 rfl ?_
    exact ev_ireturn .int dX10_writer_28 rfl rfl hQ
set_option maxHeartbeats 4000000 in
set_option maxRecDepth 100000 in
theorem sg_X10_letterNumber_0 {g : ev_G} {S : ev_S} {Q : ev_O → ev_S → Prop} (a : Nat) (x0 : Int32) (hQ : ∀ S1 : ev_S, S1 = (ev_up S a 7 0) → (
    ((t_X10_in x0 0 ((S1.1 (a + 1) 4) - 1)) = true → (
      (vp_in ((1200 + (11 * x0)) + 3) 2091) ∧ (
        Q (.inl (some (ev_i (S.1 (a + 1) ((1200 + (11 * x0)) + 3).toNatClampNeg)))) S1))) ∧
    (¬ ((t_X10_in x0 0 ((S1.1 (a + 1) 4) - 1)) = true) → (
      ∀ S2 : ev_S, S2 = (ev_up S1 a 7 1) → (
        Q (.inl (some (ev_i 0))) S2))))) : ev_Cv g m_X10_letterNumber 3 0 [ev_o 10 a, ev_i x0] S Q := by
  refine ev_enter (by decide) rfl rfl (Nat.le_of_ble_eq_true rfl) ?_
  show ev_E g m_X10_letterNumber 3 0 0 [some (ev_o 10 a), some (ev_i x0)] [] S Q
  refine ev_aload_n (ev_o 10 a) dX10_letterNumber_0 rfl rfl ?_
  refine ev_iconst (0) dX10_letterNumber_1 rfl ?_
  refine pf_10_7 dX10_letterNumber_2 kw_1860 ?_
  refine ev_sub hQ (fun S1 hS1 hQ => ?_)
  refine ev_E.goal (pc' := 5) (L' := [some (ev_o 10 a), some (ev_i x0)]) (K' := []) (S' := S1) ?_ rfl rfl rfl hS1
  refine ev_aload_n (ev_o 10 a) dX10_letterNumber_5 rfl rfl ?_
  refine ev_aload_n (ev_o 10 a) dX10_letterNumber_6 rfl rfl ?_
  refine ev_iload_n (x0) dX10_letterNumber_7 rfl ?_
  refine ev_fV mv_X10_isLetter 2 10 [ev_i x0] [ev_o 10 a] dX10_letterNumber_8 kw_2125 rfl (by decide) rfl (by decide) (Nat.le_of_ble_eq_true rfl) (sp_X10_isLetter a x0) ?_ rfl
  by_cases c1 : (t_X10_in x0 0 ((S1.1 (a + 1) 4) - 1)) = true
  · rw [if_pos c1]
    replace hQ := hQ.1 c1
    refine ev_iconst (1) dX10_letterNumber_11 rfl ?_
    refine ev_cV mv_X10_right 1 0 10 [ev_i 1, ev_i 1] [] dX10_letterNumber_12 kw_1951 rfl (by decide) rfl (by decide) (by decide) (Nat.le_of_ble_eq_true rfl) (Q' := fun o z => ev_After g m_X10_letterNumber 3 (0 - 0) 12 [some (ev_o 10 a), some (ev_i x0)] [] z Q o) (sg_X10_right_0 a 1 1 ?_) (fun o z h => h) rfl
    refine j_pos (by rw [j_rs hS1] <;> decide : ((S1.1 a 7) = 0)) ?_
    refine j_neg (by decide : ¬ ((1 : Int32) = 0)) ?_
    show ev_E g m_X10_letterNumber 3 0 15 [some (ev_o 10 a), some (ev_i x0)] [ev_i 1] S1 Q
    refine ev_if_eq 27 dX10_letterNumber_15 (by decide) (fun h9 => absurd h9 (by decide : ¬ ((1 : Int32) = 0))) (fun _ => ?_)
    refine ev_aload_n (ev_o 10 a) dX10_letterNumber_18 rfl rfl ?_
    refine ev_iload_n (x0) dX10_letterNumber_19 rfl ?_
    refine ev_iconst (3) dX10_letterNumber_20 rfl ?_
    obtain ⟨h1, hQ⟩ := hQ
    refine ev_fV mv_X10_ofL 1 10 [ev_i x0, ev_i 3] [] dX10_letterNumber_21 kw_2129 rfl (by decide) rfl (by decide) (Nat.le_of_ble_eq_true rfl) (sp_X10_ofL a x0 3 h1) ?_ rfl
    refine ev_ke (j_rk hS1 (Or.inl (by omega))) ?_
    refine ev_goto 28 dX10_letterNumber_24 (by decide) ?_
    exact ev_ireturn .int dX10_letterNumber_28 rfl rfl hQ
  · rw [if_neg c1]
    replace hQ := hQ.2 c1
    refine ev_iconst (1) dX10_letterNumber_11 rfl ?_
    refine ev_cV mv_X10_right 1 0 10 [ev_i 0, ev_i 1] [] dX10_letterNumber_12 kw_1951 rfl (by decide) rfl (by decide) (by decide) (Nat.le_of_ble_eq_true rfl) (Q' := fun o z => ev_After g m_X10_letterNumber 3 (0 - 0) 12 [some (ev_o 10 a), some (ev_i x0)] [] z Q o) (sg_X10_right_0 a 0 1 ?_) (fun o z h => h) rfl
    refine j_pos (by rw [j_rs hS1] <;> decide : ((S1.1 a 7) = 0)) ?_
    refine j_pos (by decide : ((0 : Int32) = 0)) ?_
    intro S2 hS2
    refine ev_sub1 hQ hS2 (fun hQ => ?_)
    refine j_neg (by decide : ¬ ((1 : Int32) = 0)) ?_
    show ev_E g m_X10_letterNumber 3 0 15 [some (ev_o 10 a), some (ev_i x0)] [ev_i 0] S2 Q
    refine ev_if_eq 27 dX10_letterNumber_15 (by decide) (fun _ => ?_) (fun h9 => absurd (by decide : ((0 : Int32) = 0)) h9)
    refine ev_iconst (0) dX10_letterNumber_27 rfl ?_
    exact ev_ireturn .int dX10_letterNumber_28 rfl rfl hQ
set_option maxHeartbeats 4000000 in
set_option maxRecDepth 100000 in
theorem sg_X10_isPromise_0 {g : ev_G} {S : ev_S} {Q : ev_O → ev_S → Prop} (a : Nat) (x0 : Int32) (hQ : ∀ S1 : ev_S, S1 = (ev_up S a 7 0) → (
    ((t_X10_in x0 0 ((S1.1 (a + 1) 4) - 1)) = true → (
      (vp_in ((1200 + (11 * x0)) + 2) 2091) ∧ (
        ((S.1 (a + 1) ((1200 + (11 * x0)) + 2).toNatClampNeg) = 1 → (
          Q (.inl (some (ev_i 1))) S1)) ∧
        (¬ ((S.1 (a + 1) ((1200 + (11 * x0)) + 2).toNatClampNeg) = 1) → (
          Q (.inl (some (ev_i 0))) S1))))) ∧
    (¬ ((t_X10_in x0 0 ((S1.1 (a + 1) 4) - 1)) = true) → (
      ∀ S2 : ev_S, S2 = (ev_up S1 a 7 1) → (
        Q (.inl (some (ev_i 0))) S2))))) : ev_Cv g m_X10_isPromise 3 0 [ev_o 10 a, ev_i x0] S Q := by
  refine ev_enter (by decide) rfl rfl (Nat.le_of_ble_eq_true rfl) ?_
  show ev_E g m_X10_isPromise 3 0 0 [some (ev_o 10 a), some (ev_i x0)] [] S Q
  refine ev_aload_n (ev_o 10 a) dX10_isPromise_0 rfl rfl ?_
  refine ev_iconst (0) dX10_isPromise_1 rfl ?_
  refine pf_10_7 dX10_isPromise_2 kw_1860 ?_
  refine ev_sub hQ (fun S1 hS1 hQ => ?_)
  refine ev_E.goal (pc' := 5) (L' := [some (ev_o 10 a), some (ev_i x0)]) (K' := []) (S' := S1) ?_ rfl rfl rfl hS1
  refine ev_aload_n (ev_o 10 a) dX10_isPromise_5 rfl rfl ?_
  refine ev_aload_n (ev_o 10 a) dX10_isPromise_6 rfl rfl ?_
  refine ev_iload_n (x0) dX10_isPromise_7 rfl ?_
  refine ev_fV mv_X10_isLetter 2 10 [ev_i x0] [ev_o 10 a] dX10_isPromise_8 kw_2125 rfl (by decide) rfl (by decide) (Nat.le_of_ble_eq_true rfl) (sp_X10_isLetter a x0) ?_ rfl
  by_cases c1 : (t_X10_in x0 0 ((S1.1 (a + 1) 4) - 1)) = true
  · rw [if_pos c1]
    replace hQ := hQ.1 c1
    refine ev_iconst (1) dX10_isPromise_11 rfl ?_
    refine ev_cV mv_X10_right 1 0 10 [ev_i 1, ev_i 1] [] dX10_isPromise_12 kw_1951 rfl (by decide) rfl (by decide) (by decide) (Nat.le_of_ble_eq_true rfl) (Q' := fun o z => ev_After g m_X10_isPromise 3 (0 - 0) 12 [some (ev_o 10 a), some (ev_i x0)] [] z Q o) (sg_X10_right_0 a 1 1 ?_) (fun o z h => h) rfl
    refine j_pos (by rw [j_rs hS1] <;> decide : ((S1.1 a 7) = 0)) ?_
    refine j_neg (by decide : ¬ ((1 : Int32) = 0)) ?_
    show ev_E g m_X10_isPromise 3 0 15 [some (ev_o 10 a), some (ev_i x0)] [ev_i 1] S1 Q
    refine ev_if_eq 32 dX10_isPromise_15 (by decide) (fun h9 => absurd h9 (by decide : ¬ ((1 : Int32) = 0))) (fun _ => ?_)
    refine ev_aload_n (ev_o 10 a) dX10_isPromise_18 rfl rfl ?_
    refine ev_iload_n (x0) dX10_isPromise_19 rfl ?_
    refine ev_iconst (2) dX10_isPromise_20 rfl ?_
    obtain ⟨h1, hQ⟩ := hQ
    refine ev_fV mv_X10_ofL 1 10 [ev_i x0, ev_i 2] [] dX10_isPromise_21 kw_2129 rfl (by decide) rfl (by decide) (Nat.le_of_ble_eq_true rfl) (sp_X10_ofL a x0 2 h1) ?_ rfl
    refine ev_ke (j_rk hS1 (Or.inl (by omega))) ?_
    refine ev_iconst (1) dX10_isPromise_24 rfl ?_
    refine ev_icmp_ne 32 dX10_isPromise_25 (by decide) (fun c2 => ?_) (fun c2 => ?_)
    · replace hQ := hQ.2 c2
      refine ev_iconst (0) dX10_isPromise_32 rfl ?_
      exact ev_ireturn .boolean dX10_isPromise_33 rfl rfl hQ
    · replace hQ := hQ.1 c2
      refine ev_iconst (1) dX10_isPromise_28 rfl ?_
      refine ev_goto 33 dX10_isPromise_29 (by decide) ?_
      exact ev_ireturn .boolean dX10_isPromise_33 rfl rfl hQ
  · rw [if_neg c1]
    replace hQ := hQ.2 c1
    refine ev_iconst (1) dX10_isPromise_11 rfl ?_
    refine ev_cV mv_X10_right 1 0 10 [ev_i 0, ev_i 1] [] dX10_isPromise_12 kw_1951 rfl (by decide) rfl (by decide) (by decide) (Nat.le_of_ble_eq_true rfl) (Q' := fun o z => ev_After g m_X10_isPromise 3 (0 - 0) 12 [some (ev_o 10 a), some (ev_i x0)] [] z Q o) (sg_X10_right_0 a 0 1 ?_) (fun o z h => h) rfl
    refine j_pos (by rw [j_rs hS1] <;> decide : ((S1.1 a 7) = 0)) ?_
    refine j_pos (by decide : ((0 : Int32) = 0)) ?_
    intro S2 hS2
    refine ev_sub1 hQ hS2 (fun hQ => ?_)
    refine j_neg (by decide : ¬ ((1 : Int32) = 0)) ?_
    show ev_E g m_X10_isPromise 3 0 15 [some (ev_o 10 a), some (ev_i x0)] [ev_i 0] S2 Q
    refine ev_if_eq 32 dX10_isPromise_15 (by decide) (fun _ => ?_) (fun h9 => absurd (by decide : ((0 : Int32) = 0)) h9)
    refine ev_iconst (0) dX10_isPromise_32 rfl ?_
    exact ev_ireturn .boolean dX10_isPromise_33 rfl rfl hQ
set_option maxHeartbeats 4000000 in
set_option maxRecDepth 100000 in
theorem sg_X10_letterState_0 {g : ev_G} {S : ev_S} {Q : ev_O → ev_S → Prop} (a : Nat) (x0 : Int32) (hQ : ∀ S1 : ev_S, S1 = (ev_up S a 7 0) → (
    ((t_X10_in x0 0 ((S1.1 (a + 1) 4) - 1)) = true → (
      (vp_in ((1200 + (11 * x0)) + 6) 2091) ∧ (
        Q (.inl (some (ev_i (S.1 (a + 1) ((1200 + (11 * x0)) + 6).toNatClampNeg)))) S1))) ∧
    (¬ ((t_X10_in x0 0 ((S1.1 (a + 1) 4) - 1)) = true) → (
      ∀ S2 : ev_S, S2 = (ev_up S1 a 7 1) → (
        Q (.inl (some (ev_i 0))) S2))))) : ev_Cv g m_X10_letterState 3 0 [ev_o 10 a, ev_i x0] S Q := by
  refine ev_enter (by decide) rfl rfl (Nat.le_of_ble_eq_true rfl) ?_
  show ev_E g m_X10_letterState 3 0 0 [some (ev_o 10 a), some (ev_i x0)] [] S Q
  refine ev_aload_n (ev_o 10 a) dX10_letterState_0 rfl rfl ?_
  refine ev_iconst (0) dX10_letterState_1 rfl ?_
  refine pf_10_7 dX10_letterState_2 kw_1860 ?_
  refine ev_sub hQ (fun S1 hS1 hQ => ?_)
  refine ev_E.goal (pc' := 5) (L' := [some (ev_o 10 a), some (ev_i x0)]) (K' := []) (S' := S1) ?_ rfl rfl rfl hS1
  refine ev_aload_n (ev_o 10 a) dX10_letterState_5 rfl rfl ?_
  refine ev_aload_n (ev_o 10 a) dX10_letterState_6 rfl rfl ?_
  refine ev_iload_n (x0) dX10_letterState_7 rfl ?_
  refine ev_fV mv_X10_isLetter 2 10 [ev_i x0] [ev_o 10 a] dX10_letterState_8 kw_2125 rfl (by decide) rfl (by decide) (Nat.le_of_ble_eq_true rfl) (sp_X10_isLetter a x0) ?_ rfl
  by_cases c1 : (t_X10_in x0 0 ((S1.1 (a + 1) 4) - 1)) = true
  · rw [if_pos c1]
    replace hQ := hQ.1 c1
    refine ev_iconst (1) dX10_letterState_11 rfl ?_
    refine ev_cV mv_X10_right 1 0 10 [ev_i 1, ev_i 1] [] dX10_letterState_12 kw_1951 rfl (by decide) rfl (by decide) (by decide) (Nat.le_of_ble_eq_true rfl) (Q' := fun o z => ev_After g m_X10_letterState 3 (0 - 0) 12 [some (ev_o 10 a), some (ev_i x0)] [] z Q o) (sg_X10_right_0 a 1 1 ?_) (fun o z h => h) rfl
    refine j_pos (by rw [j_rs hS1] <;> decide : ((S1.1 a 7) = 0)) ?_
    refine j_neg (by decide : ¬ ((1 : Int32) = 0)) ?_
    show ev_E g m_X10_letterState 3 0 15 [some (ev_o 10 a), some (ev_i x0)] [ev_i 1] S1 Q
    refine ev_if_eq 28 dX10_letterState_15 (by decide) (fun h9 => absurd h9 (by decide : ¬ ((1 : Int32) = 0))) (fun _ => ?_)
    refine ev_aload_n (ev_o 10 a) dX10_letterState_18 rfl rfl ?_
    refine ev_iload_n (x0) dX10_letterState_19 rfl ?_
    refine ev_bipush (6) dX10_letterState_20 (by decide) ?_
    obtain ⟨h1, hQ⟩ := hQ
    refine ev_fV mv_X10_ofL 1 10 [ev_i x0, ev_i 6] [] dX10_letterState_22 kw_2129 rfl (by decide) rfl (by decide) (Nat.le_of_ble_eq_true rfl) (sp_X10_ofL a x0 6 h1) ?_ rfl
    refine ev_ke (j_rk hS1 (Or.inl (by omega))) ?_
    refine ev_goto 29 dX10_letterState_25 (by decide) ?_
    exact ev_ireturn .int dX10_letterState_29 rfl rfl hQ
  · rw [if_neg c1]
    replace hQ := hQ.2 c1
    refine ev_iconst (1) dX10_letterState_11 rfl ?_
    refine ev_cV mv_X10_right 1 0 10 [ev_i 0, ev_i 1] [] dX10_letterState_12 kw_1951 rfl (by decide) rfl (by decide) (by decide) (Nat.le_of_ble_eq_true rfl) (Q' := fun o z => ev_After g m_X10_letterState 3 (0 - 0) 12 [some (ev_o 10 a), some (ev_i x0)] [] z Q o) (sg_X10_right_0 a 0 1 ?_) (fun o z h => h) rfl
    refine j_pos (by rw [j_rs hS1] <;> decide : ((S1.1 a 7) = 0)) ?_
    refine j_pos (by decide : ((0 : Int32) = 0)) ?_
    intro S2 hS2
    refine ev_sub1 hQ hS2 (fun hQ => ?_)
    refine j_neg (by decide : ¬ ((1 : Int32) = 0)) ?_
    show ev_E g m_X10_letterState 3 0 15 [some (ev_o 10 a), some (ev_i x0)] [ev_i 0] S2 Q
    refine ev_if_eq 28 dX10_letterState_15 (by decide) (fun _ => ?_) (fun h9 => absurd (by decide : ((0 : Int32) = 0)) h9)
    refine ev_iconst (0) dX10_letterState_28 rfl ?_
    exact ev_ireturn .int dX10_letterState_29 rfl rfl hQ
set_option maxHeartbeats 4000000 in
set_option maxRecDepth 100000 in
theorem sg_X10_awaited_0 {g : ev_G} {S : ev_S} {Q : ev_O → ev_S → Prop} (a : Nat) (x0 : Int32) (hQ : ev_E g m_X10_awaited 3 0 2 [some (ev_o 10 a), some (ev_i x0), some (ev_i 0)] [] S Q) : ev_Cv g m_X10_awaited 3 0 [ev_o 10 a, ev_i x0] S Q := by
  refine ev_enter (by decide) rfl rfl (Nat.le_of_ble_eq_true rfl) ?_
  show ev_E g m_X10_awaited 3 0 0 [some (ev_o 10 a), some (ev_i x0), none] [] S Q
  refine ev_iconst (0) dX10_awaited_0 rfl ?_
  refine ev_istore_n dX10_awaited_1 (Nat.le_of_ble_eq_true rfl) (ev_hw rfl) ?_
  show ev_E g m_X10_awaited 3 0 2 [some (ev_o 10 a), some (ev_i x0), some (ev_i 0)] [] S Q
  exact hQ
set_option maxHeartbeats 4000000 in
set_option maxRecDepth 100000 in
theorem sg_X10_awaited_2 {g : ev_G} {S : ev_S} {Q : ev_O → ev_S → Prop} (a : Nat) (u1 : Int32) (u2 : Int32) (hQ : ((S.1 (a + 1) 4) ≤ u2 → (
    Q (.inl (some (ev_i (-1)))) S)) ∧
  (¬ ((S.1 (a + 1) 4) ≤ u2) → (
    (vp_in ((1200 + (11 * u2)) + 0) 2091) ∧ (
      ((S.1 (a + 1) ((1200 + (11 * u2)) + 0).toNatClampNeg) = u1 → (
        ev_E g m_X10_awaited 3 0 2 [some (ev_o 10 a), some (ev_i u1), some (ev_i (u2 + 1))] [] S Q)) ∧
      (¬ ((S.1 (a + 1) ((1200 + (11 * u2)) + 0).toNatClampNeg) = u1) → (
        (vp_in ((1200 + (11 * u2)) + 6) 2091) ∧ (
          ((S.1 (a + 1) ((1200 + (11 * u2)) + 6).toNatClampNeg) = 2 → (
            ev_E g m_X10_awaited 3 0 2 [some (ev_o 10 a), some (ev_i u1), some (ev_i (u2 + 1))] [] S Q)) ∧
          (¬ ((S.1 (a + 1) ((1200 + (11 * u2)) + 6).toNatClampNeg) = 2) → (
            (vp_in ((1200 + (11 * u2)) + 3) 2091) ∧ (
              (vp_in ((12 + (7 * u1)) + 0) 2091) ∧ (
                ((S.1 (a + 1) ((1200 + (11 * u2)) + 3).toNatClampNeg) = ((S.1 (a + 1) ((12 + (7 * u1)) + 0).toNatClampNeg) + 1) → (
                  Q (.inl (some (ev_i u2))) S)) ∧
                (¬ ((S.1 (a + 1) ((1200 + (11 * u2)) + 3).toNatClampNeg) = ((S.1 (a + 1) ((12 + (7 * u1)) + 0).toNatClampNeg) + 1)) → (
                  ev_E g m_X10_awaited 3 0 2 [some (ev_o 10 a), some (ev_i u1), some (ev_i (u2 + 1))] [] S Q))))))))))))) : ev_E g m_X10_awaited 3 0 2 [some (ev_o 10 a), some (ev_i u1), some (ev_i u2)] [] S Q := by
  refine ev_iload_n (u2) dX10_awaited_2 rfl ?_
  refine ev_aload_n (ev_o 10 a) dX10_awaited_3 rfl rfl ?_
  refine gf_10_0 dX10_awaited_4 kw_1853 ?_
  refine ev_iconst (4) dX10_awaited_7 rfl ?_
  refine ev_iaload dX10_awaited_8 (j_vin (by decide)) ?_
  refine ev_icmp_ge 55 dX10_awaited_9 (by decide) (fun c1 => ?_) (fun c1 => ?_)
  · replace hQ := hQ.1 c1
    refine ev_iconst (-1) dX10_awaited_55 rfl ?_
    exact ev_ireturn .int dX10_awaited_56 rfl rfl hQ
  · replace hQ := hQ.2 c1
    refine ev_aload_n (ev_o 10 a) dX10_awaited_12 rfl rfl ?_
    refine ev_iload_n (u2) dX10_awaited_13 rfl ?_
    refine ev_iconst (0) dX10_awaited_14 rfl ?_
    obtain ⟨h1, hQ⟩ := hQ
    refine ev_fV mv_X10_ofL 1 10 [ev_i u2, ev_i 0] [] dX10_awaited_15 kw_2129 rfl (by decide) rfl (by decide) (Nat.le_of_ble_eq_true rfl) (sp_X10_ofL a u2 0 h1) ?_ rfl
    refine ev_iload_n (u1) dX10_awaited_18 rfl ?_
    refine ev_icmp_eq 49 dX10_awaited_19 (by decide) (fun c2 => ?_) (fun c2 => ?_)
    · replace hQ := hQ.1 c2
      refine ev_iinc u2 (1) dX10_awaited_49 rfl (by decide) (ev_hw rfl) ?_
      show ev_E g m_X10_awaited 3 0 52 [some (ev_o 10 a), some (ev_i u1), some (ev_i (u2 + 1))] [] S Q
      refine ev_goto 2 dX10_awaited_52 (by decide) ?_
      exact hQ
    · replace hQ := hQ.2 c2
      refine ev_aload_n (ev_o 10 a) dX10_awaited_22 rfl rfl ?_
      refine ev_iload_n (u2) dX10_awaited_23 rfl ?_
      refine ev_bipush (6) dX10_awaited_24 (by decide) ?_
      obtain ⟨h2, hQ⟩ := hQ
      refine ev_fV mv_X10_ofL 1 10 [ev_i u2, ev_i 6] [] dX10_awaited_26 kw_2129 rfl (by decide) rfl (by decide) (Nat.le_of_ble_eq_true rfl) (sp_X10_ofL a u2 6 h2) ?_ rfl
      refine ev_iconst (2) dX10_awaited_29 rfl ?_
      refine ev_icmp_eq 49 dX10_awaited_30 (by decide) (fun c3 => ?_) (fun c3 => ?_)
      · replace hQ := hQ.1 c3
        refine ev_iinc u2 (1) dX10_awaited_49 rfl (by decide) (ev_hw rfl) ?_
        show ev_E g m_X10_awaited 3 0 52 [some (ev_o 10 a), some (ev_i u1), some (ev_i (u2 + 1))] [] S Q
        refine ev_goto 2 dX10_awaited_52 (by decide) ?_
        exact hQ
      · replace hQ := hQ.2 c3
        refine ev_aload_n (ev_o 10 a) dX10_awaited_33 rfl rfl ?_
        refine ev_iload_n (u2) dX10_awaited_34 rfl ?_
        refine ev_iconst (3) dX10_awaited_35 rfl ?_
        obtain ⟨h3, hQ⟩ := hQ
        refine ev_fV mv_X10_ofL 1 10 [ev_i u2, ev_i 3] [] dX10_awaited_36 kw_2129 rfl (by decide) rfl (by decide) (Nat.le_of_ble_eq_true rfl) (sp_X10_ofL a u2 3 h3) ?_ rfl
        refine ev_aload_n (ev_o 10 a) dX10_awaited_39 rfl rfl ?_
        refine ev_iload_n (u1) dX10_awaited_40 rfl ?_
        obtain ⟨h4, hQ⟩ := hQ
        refine ev_fV mv_X10_nextNumber 2 10 [ev_i u1] [ev_i (S.1 (a + 1) ((1200 + (11 * u2)) + 3).toNatClampNeg)] dX10_awaited_41 kw_2052 rfl (by decide) rfl (by decide) (Nat.le_of_ble_eq_true rfl) (sp_X10_nextNumber a u1 h4) ?_ rfl
        refine ev_icmp_ne 49 dX10_awaited_44 (by decide) (fun c4 => ?_) (fun c4 => ?_)
        · replace hQ := hQ.2 c4
          refine ev_iinc u2 (1) dX10_awaited_49 rfl (by decide) (ev_hw rfl) ?_
          show ev_E g m_X10_awaited 3 0 52 [some (ev_o 10 a), some (ev_i u1), some (ev_i (u2 + 1))] [] S Q
          refine ev_goto 2 dX10_awaited_52 (by decide) ?_
          exact hQ
        · replace hQ := hQ.1 c4
          refine ev_iload_n (u2) dX10_awaited_47 rfl ?_
          exact ev_ireturn .int dX10_awaited_48 rfl rfl hQ
set_option maxHeartbeats 4000000 in
set_option maxRecDepth 100000 in
theorem sg_X10_awaitedLetter_0 {g : ev_G} {S : ev_S} {Q : ev_O → ev_S → Prop} (a : Nat) (x0 : Int32) (hQ : ∀ S1 : ev_S, S1 = (ev_up S a 7 0) → (
    ((t_X10_in x0 0 1) = true → (
      ev_Cv g m_X10_awaited 3 0 [ev_o 10 a, ev_i x0] S1 (fun o S2 => ∃ v1_ : Int32, o = .inl (some (ev_i v1_)) ∧ (
        Q (.inl (some (ev_i v1_))) S2)))) ∧
    (¬ ((t_X10_in x0 0 1) = true) → (
      ∀ S3 : ev_S, S3 = (ev_up S1 a 7 1) → (
        Q (.inl (some (ev_i 0))) S3))))) : ev_Cv g m_X10_awaitedLetter 4 0 [ev_o 10 a, ev_i x0] S Q := by
  refine ev_enter (by decide) rfl rfl (Nat.le_of_ble_eq_true rfl) ?_
  show ev_E g m_X10_awaitedLetter 4 0 0 [some (ev_o 10 a), some (ev_i x0)] [] S Q
  refine ev_aload_n (ev_o 10 a) dX10_awaitedLetter_0 rfl rfl ?_
  refine ev_iconst (0) dX10_awaitedLetter_1 rfl ?_
  refine pf_10_7 dX10_awaitedLetter_2 kw_1860 ?_
  refine ev_sub hQ (fun S1 hS1 hQ => ?_)
  refine ev_E.goal (pc' := 5) (L' := [some (ev_o 10 a), some (ev_i x0)]) (K' := []) (S' := S1) ?_ rfl rfl rfl hS1
  refine ev_aload_n (ev_o 10 a) dX10_awaitedLetter_5 rfl rfl ?_
  refine ev_iload_n (x0) dX10_awaitedLetter_6 rfl ?_
  refine ev_fS ms_X10_isPlayer 2 [ev_i x0] [ev_o 10 a] dX10_awaitedLetter_7 kw_2029 rfl (by decide) (Nat.le_of_ble_eq_true rfl) (sp_X10_isPlayer x0) ?_ rfl
  by_cases c1 : (t_X10_in x0 0 1) = true
  · rw [if_pos c1]
    replace hQ := hQ.1 c1
    refine ev_iconst (1) dX10_awaitedLetter_10 rfl ?_
    refine ev_cV mv_X10_right 1 0 10 [ev_i 1, ev_i 1] [] dX10_awaitedLetter_11 kw_1951 rfl (by decide) rfl (by decide) (by decide) (Nat.le_of_ble_eq_true rfl) (Q' := fun o z => ev_After g m_X10_awaitedLetter 4 (0 - 0) 11 [some (ev_o 10 a), some (ev_i x0)] [] z Q o) (sg_X10_right_0 a 1 1 ?_) (fun o z h => h) rfl
    refine j_pos (by rw [j_rs hS1] <;> decide : ((S1.1 a 7) = 0)) ?_
    refine j_neg (by decide : ¬ ((1 : Int32) = 0)) ?_
    show ev_E g m_X10_awaitedLetter 4 0 14 [some (ev_o 10 a), some (ev_i x0)] [ev_i 1] S1 Q
    refine ev_if_eq 25 dX10_awaitedLetter_14 (by decide) (fun h9 => absurd h9 (by decide : ¬ ((1 : Int32) = 0))) (fun _ => ?_)
    refine ev_aload_n (ev_o 10 a) dX10_awaitedLetter_17 rfl rfl ?_
    refine ev_iload_n (x0) dX10_awaitedLetter_18 rfl ?_
    refine ev_cV mv_X10_awaited 3 0 10 [ev_i x0] [] dX10_awaitedLetter_19 kw_2313 rfl (by decide) rfl (by decide) (by decide) (Nat.le_of_ble_eq_true rfl) hQ ?_ rfl
    rintro o S2 ⟨v1_, rfl, hQ⟩
    show ev_E g m_X10_awaitedLetter 4 0 22 [some (ev_o 10 a), some (ev_i x0)] [ev_i v1_] S2 Q
    refine ev_goto 26 dX10_awaitedLetter_22 (by decide) ?_
    exact ev_ireturn .int dX10_awaitedLetter_26 rfl rfl hQ
  · rw [if_neg c1]
    replace hQ := hQ.2 c1
    refine ev_iconst (1) dX10_awaitedLetter_10 rfl ?_
    refine ev_cV mv_X10_right 1 0 10 [ev_i 0, ev_i 1] [] dX10_awaitedLetter_11 kw_1951 rfl (by decide) rfl (by decide) (by decide) (Nat.le_of_ble_eq_true rfl) (Q' := fun o z => ev_After g m_X10_awaitedLetter 4 (0 - 0) 11 [some (ev_o 10 a), some (ev_i x0)] [] z Q o) (sg_X10_right_0 a 0 1 ?_) (fun o z h => h) rfl
    refine j_pos (by rw [j_rs hS1] <;> decide : ((S1.1 a 7) = 0)) ?_
    refine j_pos (by decide : ((0 : Int32) = 0)) ?_
    intro S3 hS3
    refine ev_sub1 hQ hS3 (fun hQ => ?_)
    refine j_neg (by decide : ¬ ((1 : Int32) = 0)) ?_
    show ev_E g m_X10_awaitedLetter 4 0 14 [some (ev_o 10 a), some (ev_i x0)] [ev_i 0] S3 Q
    refine ev_if_eq 25 dX10_awaitedLetter_14 (by decide) (fun _ => ?_) (fun h9 => absurd (by decide : ((0 : Int32) = 0)) h9)
    refine ev_iconst (0) dX10_awaitedLetter_25 rfl ?_
    exact ev_ireturn .int dX10_awaitedLetter_26 rfl rfl hQ
set_option maxHeartbeats 4000000 in
set_option maxRecDepth 100000 in
theorem sg_X10_reasonToWait_0 {g : ev_G} {S : ev_S} {Q : ev_O → ev_S → Prop} (a : Nat) (x0 : Int32) (hQ : ∀ S1 : ev_S, S1 = (ev_up S a 7 0) → (
    ((t_X10_in x0 0 1) = true → (
      ev_Cv g m_X10_turnOf 4 0 [ev_o 10 a, ev_i x0] S1 (fun o S2 => ∃ v1_ : Bool, o = .inl (some (ev_i (if v1_ = true then 1 else 0))) ∧ (
        (v1_ = true → (
          Q (.inl (some (ev_i 0))) S2)) ∧
        (¬ (v1_ = true) → (
          ev_Cv g m_X10_overOn 3 0 [ev_o 10 a, ev_i x0] S2 (fun o S3 => ∃ v2_ : Bool, o = .inl (some (ev_i (if v2_ = true then 1 else 0))) ∧ (
            (v2_ = true → (
              Q (.inl (some (ev_i 1))) S3)) ∧
            (¬ (v2_ = true) → (
              ev_Cv g m_X10_awaited 3 0 [ev_o 10 a, ev_i x0] S3 (fun o S4 => ∃ v3_ : Int32, o = .inl (some (ev_i v3_)) ∧ (
                (v3_ = (-1) → (
                  Q (.inl (some (ev_i 2))) S4)) ∧
                (¬ (v3_ = (-1)) → (
                  (vp_in ((1200 + (11 * v3_)) + 6) 2091) ∧ (
                    Q (.inl (some (ev_i (3 + (S4.1 (a + 1) ((1200 + (11 * v3_)) + 6).toNatClampNeg))))) S4))))))))))))))) ∧
    (¬ ((t_X10_in x0 0 1) = true) → (
      ∀ S5 : ev_S, S5 = (ev_up S1 a 7 1) → (
        Q (.inl (some (ev_i 0))) S5))))) : ev_Cv g m_X10_reasonToWait 5 0 [ev_o 10 a, ev_i x0] S Q := by
  refine ev_enter (by decide) rfl rfl (Nat.le_of_ble_eq_true rfl) ?_
  show ev_E g m_X10_reasonToWait 5 0 0 [some (ev_o 10 a), some (ev_i x0), none] [] S Q
  refine ev_aload_n (ev_o 10 a) dX10_reasonToWait_0 rfl rfl ?_
  refine ev_iconst (0) dX10_reasonToWait_1 rfl ?_
  refine pf_10_7 dX10_reasonToWait_2 kw_1860 ?_
  refine ev_sub hQ (fun S1 hS1 hQ => ?_)
  refine ev_E.goal (pc' := 5) (L' := [some (ev_o 10 a), some (ev_i x0), none]) (K' := []) (S' := S1) ?_ rfl rfl rfl hS1
  refine ev_aload_n (ev_o 10 a) dX10_reasonToWait_5 rfl rfl ?_
  refine ev_iload_n (x0) dX10_reasonToWait_6 rfl ?_
  refine ev_fS ms_X10_isPlayer 2 [ev_i x0] [ev_o 10 a] dX10_reasonToWait_7 kw_2029 rfl (by decide) (Nat.le_of_ble_eq_true rfl) (sp_X10_isPlayer x0) ?_ rfl
  by_cases c1 : (t_X10_in x0 0 1) = true
  · rw [if_pos c1]
    replace hQ := hQ.1 c1
    refine ev_iconst (1) dX10_reasonToWait_10 rfl ?_
    refine ev_cV mv_X10_right 1 0 10 [ev_i 1, ev_i 1] [] dX10_reasonToWait_11 kw_1951 rfl (by decide) rfl (by decide) (by decide) (Nat.le_of_ble_eq_true rfl) (Q' := fun o z => ev_After g m_X10_reasonToWait 5 (0 - 0) 11 [some (ev_o 10 a), some (ev_i x0), none] [] z Q o) (sg_X10_right_0 a 1 1 ?_) (fun o z h => h) rfl
    refine j_pos (by rw [j_rs hS1] <;> decide : ((S1.1 a 7) = 0)) ?_
    refine j_neg (by decide : ¬ ((1 : Int32) = 0)) ?_
    show ev_E g m_X10_reasonToWait 5 0 14 [some (ev_o 10 a), some (ev_i x0), none] [ev_i 1] S1 Q
    refine ev_if_eq 25 dX10_reasonToWait_14 (by decide) (fun h9 => absurd h9 (by decide : ¬ ((1 : Int32) = 0))) (fun _ => ?_)
    refine ev_aload_n (ev_o 10 a) dX10_reasonToWait_17 rfl rfl ?_
    refine ev_iload_n (x0) dX10_reasonToWait_18 rfl ?_
    refine ev_cV mv_X10_turnOf 4 0 10 [ev_i x0] [] dX10_reasonToWait_19 kw_2040 rfl (by decide) rfl (by decide) (by decide) (Nat.le_of_ble_eq_true rfl) hQ ?_ rfl
    rintro o S2 ⟨v1_, rfl, hQ⟩
    show ev_E g m_X10_reasonToWait 5 0 22 [some (ev_o 10 a), some (ev_i x0), none] [ev_i (if v1_ = true then 1 else 0)] S2 Q
    by_cases c2 : v1_ = true
    · rw [if_pos c2]
      replace hQ := hQ.1 c2
      refine ev_if_eq 27 dX10_reasonToWait_22 (by decide) (fun h9 => absurd h9 (by decide : ¬ ((1 : Int32) = 0))) (fun _ => ?_)
      refine ev_iconst (0) dX10_reasonToWait_25 rfl ?_
      exact ev_ireturn .int dX10_reasonToWait_26 rfl rfl hQ
    · rw [if_neg c2]
      replace hQ := hQ.2 c2
      refine ev_if_eq 27 dX10_reasonToWait_22 (by decide) (fun _ => ?_) (fun h9 => absurd (by decide : ((0 : Int32) = 0)) h9)
      refine ev_aload_n (ev_o 10 a) dX10_reasonToWait_27 rfl rfl ?_
      refine ev_iload_n (x0) dX10_reasonToWait_28 rfl ?_
      refine ev_cV mv_X10_overOn 3 0 10 [ev_i x0] [] dX10_reasonToWait_29 kw_2044 rfl (by decide) rfl (by decide) (by decide) (Nat.le_of_ble_eq_true rfl) hQ ?_ rfl
      rintro o S3 ⟨v2_, rfl, hQ⟩
      show ev_E g m_X10_reasonToWait 5 0 32 [some (ev_o 10 a), some (ev_i x0), none] [ev_i (if v2_ = true then 1 else 0)] S3 Q
      by_cases c3 : v2_ = true
      · rw [if_pos c3]
        replace hQ := hQ.1 c3
        refine ev_if_eq 37 dX10_reasonToWait_32 (by decide) (fun h9 => absurd h9 (by decide : ¬ ((1 : Int32) = 0))) (fun _ => ?_)
        refine ev_iconst (1) dX10_reasonToWait_35 rfl ?_
        exact ev_ireturn .int dX10_reasonToWait_36 rfl rfl hQ
      · rw [if_neg c3]
        replace hQ := hQ.2 c3
        refine ev_if_eq 37 dX10_reasonToWait_32 (by decide) (fun _ => ?_) (fun h9 => absurd (by decide : ((0 : Int32) = 0)) h9)
        refine ev_aload_n (ev_o 10 a) dX10_reasonToWait_37 rfl rfl ?_
        refine ev_iload_n (x0) dX10_reasonToWait_38 rfl ?_
        refine ev_cV mv_X10_awaited 3 0 10 [ev_i x0] [] dX10_reasonToWait_39 kw_2313 rfl (by decide) rfl (by decide) (by decide) (Nat.le_of_ble_eq_true rfl) hQ ?_ rfl
        rintro o S4 ⟨v3_, rfl, hQ⟩
        show ev_E g m_X10_reasonToWait 5 0 42 [some (ev_o 10 a), some (ev_i x0), none] [ev_i v3_] S4 Q
        refine ev_istore_n dX10_reasonToWait_42 (Nat.le_of_ble_eq_true rfl) (ev_hw rfl) ?_
        show ev_E g m_X10_reasonToWait 5 0 43 [some (ev_o 10 a), some (ev_i x0), some (ev_i v3_)] [] S4 Q
        refine ev_iload_n (v3_) dX10_reasonToWait_43 rfl ?_
        refine ev_iconst (-1) dX10_reasonToWait_44 rfl ?_
        refine ev_icmp_ne 52 dX10_reasonToWait_45 (by decide) (fun c4 => ?_) (fun c4 => ?_)
        · replace hQ := hQ.2 c4
          refine ev_iconst (3) dX10_reasonToWait_52 rfl ?_
          refine ev_aload_n (ev_o 10 a) dX10_reasonToWait_53 rfl rfl ?_
          refine ev_iload_n (v3_) dX10_reasonToWait_54 rfl ?_
          refine ev_bipush (6) dX10_reasonToWait_55 (by decide) ?_
          obtain ⟨h1, hQ⟩ := hQ
          refine ev_fV mv_X10_ofL 1 10 [ev_i v3_, ev_i 6] [ev_i 3] dX10_reasonToWait_57 kw_2129 rfl (by decide) rfl (by decide) (Nat.le_of_ble_eq_true rfl) (sp_X10_ofL a v3_ 6 h1) ?_ rfl
          refine ev_iadd dX10_reasonToWait_60 ?_
          exact ev_ireturn .int dX10_reasonToWait_61 rfl rfl hQ
        · replace hQ := hQ.1 c4
          refine ev_iconst (2) dX10_reasonToWait_48 rfl ?_
          refine ev_goto 61 dX10_reasonToWait_49 (by decide) ?_
          exact ev_ireturn .int dX10_reasonToWait_61 rfl rfl hQ
  · rw [if_neg c1]
    replace hQ := hQ.2 c1
    refine ev_iconst (1) dX10_reasonToWait_10 rfl ?_
    refine ev_cV mv_X10_right 1 0 10 [ev_i 0, ev_i 1] [] dX10_reasonToWait_11 kw_1951 rfl (by decide) rfl (by decide) (by decide) (Nat.le_of_ble_eq_true rfl) (Q' := fun o z => ev_After g m_X10_reasonToWait 5 (0 - 0) 11 [some (ev_o 10 a), some (ev_i x0), none] [] z Q o) (sg_X10_right_0 a 0 1 ?_) (fun o z h => h) rfl
    refine j_pos (by rw [j_rs hS1] <;> decide : ((S1.1 a 7) = 0)) ?_
    refine j_pos (by decide : ((0 : Int32) = 0)) ?_
    intro S5 hS5
    refine ev_sub1 hQ hS5 (fun hQ => ?_)
    refine j_neg (by decide : ¬ ((1 : Int32) = 0)) ?_
    show ev_E g m_X10_reasonToWait 5 0 14 [some (ev_o 10 a), some (ev_i x0), none] [ev_i 0] S5 Q
    refine ev_if_eq 25 dX10_reasonToWait_14 (by decide) (fun _ => ?_) (fun h9 => absurd (by decide : ((0 : Int32) = 0)) h9)
    refine ev_iconst (0) dX10_reasonToWait_25 rfl ?_
    exact ev_ireturn .int dX10_reasonToWait_26 rfl rfl hQ
set_option maxHeartbeats 4000000 in
set_option maxRecDepth 100000 in
theorem sg_X10_duplicateCount_0 {g : ev_G} {S : ev_S} {Q : ev_O → ev_S → Prop} (a : Nat) (hQ : ∀ S1 : ev_S, S1 = (ev_up S a 7 0) → (
    Q (.inl (some (ev_i (S.1 (a + 1) 5)))) S1)) : ev_Cv g m_X10_duplicateCount 1 0 [ev_o 10 a] S Q := by
  refine ev_enter (by decide) rfl rfl (Nat.le_of_ble_eq_true rfl) ?_
  show ev_E g m_X10_duplicateCount 1 0 0 [some (ev_o 10 a)] [] S Q
  refine ev_aload_n (ev_o 10 a) dX10_duplicateCount_0 rfl rfl ?_
  refine ev_iconst (0) dX10_duplicateCount_1 rfl ?_
  refine pf_10_7 dX10_duplicateCount_2 kw_1860 ?_
  refine ev_sub hQ (fun S1 hS1 hQ => ?_)
  refine ev_E.goal (pc' := 5) (L' := [some (ev_o 10 a)]) (K' := []) (S' := S1) ?_ rfl rfl rfl hS1
  refine ev_aload_n (ev_o 10 a) dX10_duplicateCount_5 rfl rfl ?_
  refine gf_10_0 dX10_duplicateCount_6 kw_1853 ?_
  refine ev_iconst (5) dX10_duplicateCount_9 rfl ?_
  refine ev_iaload dX10_duplicateCount_10 (j_vin (by decide)) ?_
  refine ev_ke (j_rk hS1 (Or.inl (by omega))) ?_
  exact ev_ireturn .int dX10_duplicateCount_11 rfl rfl hQ
set_option maxHeartbeats 4000000 in
set_option maxRecDepth 100000 in
theorem sp_X10_duplicateCount {g : ev_G} {S : ev_S} (a : Nat)  : ev_Fn g m_X10_duplicateCount 1 [ev_o 10 a] S (some (ev_i (S.1 (a + 1) 5))) (ev_up S a 7 0) := by
  intro Q hQ
  refine sg_X10_duplicateCount_0 a ?_
  intro S1 hS1
  subst hS1
  exact hQ
set_option maxHeartbeats 4000000 in
set_option maxRecDepth 100000 in
theorem sg_X10_keptPromises_0 {g : ev_G} {S : ev_S} {Q : ev_O → ev_S → Prop} (a : Nat) (x0 : Int32) (hQ : ∀ S1 : ev_S, S1 = (ev_up S a 7 0) → (
    ((t_X10_in x0 0 1) = true → (
      (vp_in ((12 + (7 * x0)) + 6) 2091) ∧ (
        Q (.inl (some (ev_i (S.1 (a + 1) ((12 + (7 * x0)) + 6).toNatClampNeg)))) S1))) ∧
    (¬ ((t_X10_in x0 0 1) = true) → (
      ∀ S2 : ev_S, S2 = (ev_up S1 a 7 1) → (
        Q (.inl (some (ev_i 0))) S2))))) : ev_Cv g m_X10_keptPromises 3 0 [ev_o 10 a, ev_i x0] S Q := by
  refine ev_enter (by decide) rfl rfl (Nat.le_of_ble_eq_true rfl) ?_
  show ev_E g m_X10_keptPromises 3 0 0 [some (ev_o 10 a), some (ev_i x0)] [] S Q
  refine ev_aload_n (ev_o 10 a) dX10_keptPromises_0 rfl rfl ?_
  refine ev_iconst (0) dX10_keptPromises_1 rfl ?_
  refine pf_10_7 dX10_keptPromises_2 kw_1860 ?_
  refine ev_sub hQ (fun S1 hS1 hQ => ?_)
  refine ev_E.goal (pc' := 5) (L' := [some (ev_o 10 a), some (ev_i x0)]) (K' := []) (S' := S1) ?_ rfl rfl rfl hS1
  refine ev_aload_n (ev_o 10 a) dX10_keptPromises_5 rfl rfl ?_
  refine ev_iload_n (x0) dX10_keptPromises_6 rfl ?_
  refine ev_fS ms_X10_isPlayer 2 [ev_i x0] [ev_o 10 a] dX10_keptPromises_7 kw_2029 rfl (by decide) (Nat.le_of_ble_eq_true rfl) (sp_X10_isPlayer x0) ?_ rfl
  by_cases c1 : (t_X10_in x0 0 1) = true
  · rw [if_pos c1]
    replace hQ := hQ.1 c1
    refine ev_iconst (1) dX10_keptPromises_10 rfl ?_
    refine ev_cV mv_X10_right 1 0 10 [ev_i 1, ev_i 1] [] dX10_keptPromises_11 kw_1951 rfl (by decide) rfl (by decide) (by decide) (Nat.le_of_ble_eq_true rfl) (Q' := fun o z => ev_After g m_X10_keptPromises 3 (0 - 0) 11 [some (ev_o 10 a), some (ev_i x0)] [] z Q o) (sg_X10_right_0 a 1 1 ?_) (fun o z h => h) rfl
    refine j_pos (by rw [j_rs hS1] <;> decide : ((S1.1 a 7) = 0)) ?_
    refine j_neg (by decide : ¬ ((1 : Int32) = 0)) ?_
    show ev_E g m_X10_keptPromises 3 0 14 [some (ev_o 10 a), some (ev_i x0)] [ev_i 1] S1 Q
    refine ev_if_eq 27 dX10_keptPromises_14 (by decide) (fun h9 => absurd h9 (by decide : ¬ ((1 : Int32) = 0))) (fun _ => ?_)
    refine ev_aload_n (ev_o 10 a) dX10_keptPromises_17 rfl rfl ?_
    refine ev_iload_n (x0) dX10_keptPromises_18 rfl ?_
    refine ev_bipush (6) dX10_keptPromises_19 (by decide) ?_
    obtain ⟨h1, hQ⟩ := hQ
    refine ev_fV mv_X10_ofP 1 10 [ev_i x0, ev_i 6] [] dX10_keptPromises_21 kw_2048 rfl (by decide) rfl (by decide) (Nat.le_of_ble_eq_true rfl) (sp_X10_ofP a x0 6 h1) ?_ rfl
    refine ev_ke (j_rk hS1 (Or.inl (by omega))) ?_
    refine ev_goto 28 dX10_keptPromises_24 (by decide) ?_
    exact ev_ireturn .int dX10_keptPromises_28 rfl rfl hQ
  · rw [if_neg c1]
    replace hQ := hQ.2 c1
    refine ev_iconst (1) dX10_keptPromises_10 rfl ?_
    refine ev_cV mv_X10_right 1 0 10 [ev_i 0, ev_i 1] [] dX10_keptPromises_11 kw_1951 rfl (by decide) rfl (by decide) (by decide) (Nat.le_of_ble_eq_true rfl) (Q' := fun o z => ev_After g m_X10_keptPromises 3 (0 - 0) 11 [some (ev_o 10 a), some (ev_i x0)] [] z Q o) (sg_X10_right_0 a 0 1 ?_) (fun o z h => h) rfl
    refine j_pos (by rw [j_rs hS1] <;> decide : ((S1.1 a 7) = 0)) ?_
    refine j_pos (by decide : ((0 : Int32) = 0)) ?_
    intro S2 hS2
    refine ev_sub1 hQ hS2 (fun hQ => ?_)
    refine j_neg (by decide : ¬ ((1 : Int32) = 0)) ?_
    show ev_E g m_X10_keptPromises 3 0 14 [some (ev_o 10 a), some (ev_i x0)] [ev_i 0] S2 Q
    refine ev_if_eq 27 dX10_keptPromises_14 (by decide) (fun _ => ?_) (fun h9 => absurd (by decide : ((0 : Int32) = 0)) h9)
    refine ev_iconst (0) dX10_keptPromises_27 rfl ?_
    exact ev_ireturn .int dX10_keptPromises_28 rfl rfl hQ
set_option maxHeartbeats 4000000 in
set_option maxRecDepth 100000 in
theorem sg_X10_longestWait_0 {g : ev_G} {S : ev_S} {Q : ev_O → ev_S → Prop} (a : Nat) (x0 : Int32) (hQ : ∀ S1 : ev_S, S1 = (ev_up S a 7 0) → (
    ((t_X10_in x0 0 1) = true → (
      (vp_in ((12 + (7 * x0)) + 3) 2091) ∧ (
        Q (.inl (some (ev_i (S.1 (a + 1) ((12 + (7 * x0)) + 3).toNatClampNeg)))) S1))) ∧
    (¬ ((t_X10_in x0 0 1) = true) → (
      ∀ S2 : ev_S, S2 = (ev_up S1 a 7 1) → (
        Q (.inl (some (ev_i 0))) S2))))) : ev_Cv g m_X10_longestWait 3 0 [ev_o 10 a, ev_i x0] S Q := by
  refine ev_enter (by decide) rfl rfl (Nat.le_of_ble_eq_true rfl) ?_
  show ev_E g m_X10_longestWait 3 0 0 [some (ev_o 10 a), some (ev_i x0)] [] S Q
  refine ev_aload_n (ev_o 10 a) dX10_longestWait_0 rfl rfl ?_
  refine ev_iconst (0) dX10_longestWait_1 rfl ?_
  refine pf_10_7 dX10_longestWait_2 kw_1860 ?_
  refine ev_sub hQ (fun S1 hS1 hQ => ?_)
  refine ev_E.goal (pc' := 5) (L' := [some (ev_o 10 a), some (ev_i x0)]) (K' := []) (S' := S1) ?_ rfl rfl rfl hS1
  refine ev_aload_n (ev_o 10 a) dX10_longestWait_5 rfl rfl ?_
  refine ev_iload_n (x0) dX10_longestWait_6 rfl ?_
  refine ev_fS ms_X10_isPlayer 2 [ev_i x0] [ev_o 10 a] dX10_longestWait_7 kw_2029 rfl (by decide) (Nat.le_of_ble_eq_true rfl) (sp_X10_isPlayer x0) ?_ rfl
  by_cases c1 : (t_X10_in x0 0 1) = true
  · rw [if_pos c1]
    replace hQ := hQ.1 c1
    refine ev_iconst (1) dX10_longestWait_10 rfl ?_
    refine ev_cV mv_X10_right 1 0 10 [ev_i 1, ev_i 1] [] dX10_longestWait_11 kw_1951 rfl (by decide) rfl (by decide) (by decide) (Nat.le_of_ble_eq_true rfl) (Q' := fun o z => ev_After g m_X10_longestWait 3 (0 - 0) 11 [some (ev_o 10 a), some (ev_i x0)] [] z Q o) (sg_X10_right_0 a 1 1 ?_) (fun o z h => h) rfl
    refine j_pos (by rw [j_rs hS1] <;> decide : ((S1.1 a 7) = 0)) ?_
    refine j_neg (by decide : ¬ ((1 : Int32) = 0)) ?_
    show ev_E g m_X10_longestWait 3 0 14 [some (ev_o 10 a), some (ev_i x0)] [ev_i 1] S1 Q
    refine ev_if_eq 26 dX10_longestWait_14 (by decide) (fun h9 => absurd h9 (by decide : ¬ ((1 : Int32) = 0))) (fun _ => ?_)
    refine ev_aload_n (ev_o 10 a) dX10_longestWait_17 rfl rfl ?_
    refine ev_iload_n (x0) dX10_longestWait_18 rfl ?_
    refine ev_iconst (3) dX10_longestWait_19 rfl ?_
    obtain ⟨h1, hQ⟩ := hQ
    refine ev_fV mv_X10_ofP 1 10 [ev_i x0, ev_i 3] [] dX10_longestWait_20 kw_2048 rfl (by decide) rfl (by decide) (Nat.le_of_ble_eq_true rfl) (sp_X10_ofP a x0 3 h1) ?_ rfl
    refine ev_ke (j_rk hS1 (Or.inl (by omega))) ?_
    refine ev_goto 27 dX10_longestWait_23 (by decide) ?_
    exact ev_ireturn .int dX10_longestWait_27 rfl rfl hQ
  · rw [if_neg c1]
    replace hQ := hQ.2 c1
    refine ev_iconst (1) dX10_longestWait_10 rfl ?_
    refine ev_cV mv_X10_right 1 0 10 [ev_i 0, ev_i 1] [] dX10_longestWait_11 kw_1951 rfl (by decide) rfl (by decide) (by decide) (Nat.le_of_ble_eq_true rfl) (Q' := fun o z => ev_After g m_X10_longestWait 3 (0 - 0) 11 [some (ev_o 10 a), some (ev_i x0)] [] z Q o) (sg_X10_right_0 a 0 1 ?_) (fun o z h => h) rfl
    refine j_pos (by rw [j_rs hS1] <;> decide : ((S1.1 a 7) = 0)) ?_
    refine j_pos (by decide : ((0 : Int32) = 0)) ?_
    intro S2 hS2
    refine ev_sub1 hQ hS2 (fun hQ => ?_)
    refine j_neg (by decide : ¬ ((1 : Int32) = 0)) ?_
    show ev_E g m_X10_longestWait 3 0 14 [some (ev_o 10 a), some (ev_i x0)] [ev_i 0] S2 Q
    refine ev_if_eq 26 dX10_longestWait_14 (by decide) (fun _ => ?_) (fun h9 => absurd (by decide : ((0 : Int32) = 0)) h9)
    refine ev_iconst (0) dX10_longestWait_26 rfl ?_
    exact ev_ireturn .int dX10_longestWait_27 rfl rfl hQ
set_option maxHeartbeats 4000000 in
set_option maxRecDepth 100000 in
theorem sg_X10_meanWait_0 {g : ev_G} {S : ev_S} {Q : ev_O → ev_S → Prop} (a : Nat) (x0 : Int32) (hQ : ∀ S1 : ev_S, S1 = (ev_up S a 7 0) → (
    ((t_X10_in x0 0 1) = true → (
      (vp_in ((12 + (7 * x0)) + 5) 2091) ∧ (
        ((S.1 (a + 1) ((12 + (7 * x0)) + 5).toNatClampNeg) = 0 → (
          Q (.inl (some (ev_d 0))) S1)) ∧
        (¬ ((S.1 (a + 1) ((12 + (7 * x0)) + 5).toNatClampNeg) = 0) → (
          (vp_in ((12 + (7 * x0)) + 4) 2091) ∧ (
            (vf_n64 (FP.ddiv (FP.i2d (S.1 (a + 1) ((12 + (7 * x0)) + 4).toNatClampNeg)) (FP.i2d (S.1 (a + 1) ((12 + (7 * x0)) + 5).toNatClampNeg)))) ∧ (
              Q (.inl (some (ev_d (FP.ddiv (FP.i2d (S.1 (a + 1) ((12 + (7 * x0)) + 4).toNatClampNeg)) (FP.i2d (S.1 (a + 1) ((12 + (7 * x0)) + 5).toNatClampNeg)))))) S1))))))) ∧
    (¬ ((t_X10_in x0 0 1) = true) → (
      ∀ S2 : ev_S, S2 = (ev_up S1 a 7 1) → (
        Q (.inl (some (ev_d 0))) S2))))) : ev_Cv g m_X10_meanWait 3 0 [ev_o 10 a, ev_i x0] S Q := by
  refine ev_enter (by decide) rfl rfl (Nat.le_of_ble_eq_true rfl) ?_
  show ev_E g m_X10_meanWait 3 0 0 [some (ev_o 10 a), some (ev_i x0)] [] S Q
  refine ev_aload_n (ev_o 10 a) dX10_meanWait_0 rfl rfl ?_
  refine ev_iconst (0) dX10_meanWait_1 rfl ?_
  refine pf_10_7 dX10_meanWait_2 kw_1860 ?_
  refine ev_sub hQ (fun S1 hS1 hQ => ?_)
  refine ev_E.goal (pc' := 5) (L' := [some (ev_o 10 a), some (ev_i x0)]) (K' := []) (S' := S1) ?_ rfl rfl rfl hS1
  refine ev_aload_n (ev_o 10 a) dX10_meanWait_5 rfl rfl ?_
  refine ev_iload_n (x0) dX10_meanWait_6 rfl ?_
  refine ev_fS ms_X10_isPlayer 2 [ev_i x0] [ev_o 10 a] dX10_meanWait_7 kw_2029 rfl (by decide) (Nat.le_of_ble_eq_true rfl) (sp_X10_isPlayer x0) ?_ rfl
  by_cases c1 : (t_X10_in x0 0 1) = true
  · rw [if_pos c1]
    replace hQ := hQ.1 c1
    refine ev_iconst (1) dX10_meanWait_10 rfl ?_
    refine ev_cV mv_X10_right 1 0 10 [ev_i 1, ev_i 1] [] dX10_meanWait_11 kw_1951 rfl (by decide) rfl (by decide) (by decide) (Nat.le_of_ble_eq_true rfl) (Q' := fun o z => ev_After g m_X10_meanWait 3 (0 - 0) 11 [some (ev_o 10 a), some (ev_i x0)] [] z Q o) (sg_X10_right_0 a 1 1 ?_) (fun o z h => h) rfl
    refine j_pos (by rw [j_rs hS1] <;> decide : ((S1.1 a 7) = 0)) ?_
    refine j_neg (by decide : ¬ ((1 : Int32) = 0)) ?_
    show ev_E g m_X10_meanWait 3 0 14 [some (ev_o 10 a), some (ev_i x0)] [ev_i 1] S1 Q
    refine ev_if_eq 26 dX10_meanWait_14 (by decide) (fun h9 => absurd h9 (by decide : ¬ ((1 : Int32) = 0))) (fun _ => ?_)
    refine ev_aload_n (ev_o 10 a) dX10_meanWait_17 rfl rfl ?_
    refine ev_iload_n (x0) dX10_meanWait_18 rfl ?_
    refine ev_iconst (5) dX10_meanWait_19 rfl ?_
    obtain ⟨h1, hQ⟩ := hQ
    refine ev_fV mv_X10_ofP 1 10 [ev_i x0, ev_i 5] [] dX10_meanWait_20 kw_2048 rfl (by decide) rfl (by decide) (Nat.le_of_ble_eq_true rfl) (sp_X10_ofP a x0 5 h1) ?_ rfl
    refine ev_ke (j_rk hS1 (Or.inl (by omega))) ?_
    refine ev_if_ne 28 dX10_meanWait_23 (by decide) (fun c2 => ?_) (fun c2 => ?_)
    · replace hQ := hQ.2 c2
      refine ev_aload_n (ev_o 10 a) dX10_meanWait_28 rfl rfl ?_
      refine ev_iload_n (x0) dX10_meanWait_29 rfl ?_
      refine ev_iconst (4) dX10_meanWait_30 rfl ?_
      obtain ⟨h2, hQ⟩ := hQ
      refine ev_fV mv_X10_ofP 1 10 [ev_i x0, ev_i 4] [] dX10_meanWait_31 kw_2048 rfl (by decide) rfl (by decide) (Nat.le_of_ble_eq_true rfl) (sp_X10_ofP a x0 4 h2) ?_ rfl
      refine ev_ke (j_rk hS1 (Or.inl (by omega))) ?_
      refine ev_i2d dX10_meanWait_34 ?_
      refine ev_aload_n (ev_o 10 a) dX10_meanWait_35 rfl rfl ?_
      refine ev_iload_n (x0) dX10_meanWait_36 rfl ?_
      refine ev_iconst (5) dX10_meanWait_37 rfl ?_
      refine ev_fV mv_X10_ofP 1 10 [ev_i x0, ev_i 5] [ev_d (FP.i2d (S.1 (a + 1) ((12 + (7 * x0)) + 4).toNatClampNeg))] dX10_meanWait_38 kw_2048 rfl (by decide) rfl (by decide) (Nat.le_of_ble_eq_true rfl) (sp_X10_ofP a x0 5 h1) ?_ rfl
      refine ev_ke (j_rk hS1 (Or.inl (by omega))) ?_
      refine ev_i2d dX10_meanWait_41 ?_
      obtain ⟨h3, hQ⟩ := hQ
      refine ev_ddiv dX10_meanWait_42 h3 ?_
      exact ev_dreturn dX10_meanWait_43 rfl hQ
    · replace hQ := hQ.1 c2
      refine ev_dconst0 dX10_meanWait_26 ?_
      exact ev_dreturn dX10_meanWait_27 rfl hQ
  · rw [if_neg c1]
    replace hQ := hQ.2 c1
    refine ev_iconst (1) dX10_meanWait_10 rfl ?_
    refine ev_cV mv_X10_right 1 0 10 [ev_i 0, ev_i 1] [] dX10_meanWait_11 kw_1951 rfl (by decide) rfl (by decide) (by decide) (Nat.le_of_ble_eq_true rfl) (Q' := fun o z => ev_After g m_X10_meanWait 3 (0 - 0) 11 [some (ev_o 10 a), some (ev_i x0)] [] z Q o) (sg_X10_right_0 a 0 1 ?_) (fun o z h => h) rfl
    refine j_pos (by rw [j_rs hS1] <;> decide : ((S1.1 a 7) = 0)) ?_
    refine j_pos (by decide : ((0 : Int32) = 0)) ?_
    intro S2 hS2
    refine ev_sub1 hQ hS2 (fun hQ => ?_)
    refine j_neg (by decide : ¬ ((1 : Int32) = 0)) ?_
    show ev_E g m_X10_meanWait 3 0 14 [some (ev_o 10 a), some (ev_i x0)] [ev_i 0] S2 Q
    refine ev_if_eq 26 dX10_meanWait_14 (by decide) (fun _ => ?_) (fun h9 => absurd (by decide : ((0 : Int32) = 0)) h9)
    refine ev_dconst0 dX10_meanWait_26 ?_
    exact ev_dreturn dX10_meanWait_27 rfl hQ
set_option maxHeartbeats 4000000 in
set_option maxRecDepth 100000 in
theorem sg_X10_meanTravel_0 {g : ev_G} {S : ev_S} {Q : ev_O → ev_S → Prop} (a : Nat) (hQ : ∀ S1 : ev_S, S1 = (ev_up S a 7 0) → (
    ((S.1 (a + 1) 8) = 0 → (
      Q (.inl (some (ev_f 0))) S1)) ∧
    (¬ ((S.1 (a + 1) 8) = 0) → (
      (vf_n32 (FP.fdiv (FP.i2f (S.1 (a + 1) 7)) (FP.i2f (S.1 (a + 1) 8)))) ∧ (
        Q (.inl (some (ev_f (FP.fdiv (FP.i2f (S.1 (a + 1) 7)) (FP.i2f (S.1 (a + 1) 8)))))) S1))))) : ev_Cv g m_X10_meanTravel 1 0 [ev_o 10 a] S Q := by
  refine ev_enter (by decide) rfl rfl (Nat.le_of_ble_eq_true rfl) ?_
  show ev_E g m_X10_meanTravel 1 0 0 [some (ev_o 10 a)] [] S Q
  refine ev_aload_n (ev_o 10 a) dX10_meanTravel_0 rfl rfl ?_
  refine ev_iconst (0) dX10_meanTravel_1 rfl ?_
  refine pf_10_7 dX10_meanTravel_2 kw_1860 ?_
  refine ev_sub hQ (fun S1 hS1 hQ => ?_)
  refine ev_E.goal (pc' := 5) (L' := [some (ev_o 10 a)]) (K' := []) (S' := S1) ?_ rfl rfl rfl hS1
  refine ev_aload_n (ev_o 10 a) dX10_meanTravel_5 rfl rfl ?_
  refine gf_10_0 dX10_meanTravel_6 kw_1853 ?_
  refine ev_bipush (8) dX10_meanTravel_9 (by decide) ?_
  refine ev_iaload dX10_meanTravel_11 (j_vin (by decide)) ?_
  refine ev_ke (j_rk hS1 (Or.inl (by omega))) ?_
  refine ev_if_ne 19 dX10_meanTravel_12 (by decide) (fun c1 => ?_) (fun c1 => ?_)
  · replace hQ := hQ.2 c1
    refine ev_aload_n (ev_o 10 a) dX10_meanTravel_19 rfl rfl ?_
    refine gf_10_0 dX10_meanTravel_20 kw_1853 ?_
    refine ev_bipush (7) dX10_meanTravel_23 (by decide) ?_
    refine ev_iaload dX10_meanTravel_25 (j_vin (by decide)) ?_
    refine ev_ke (j_rk hS1 (Or.inl (by omega))) ?_
    refine ev_i2f dX10_meanTravel_26 ?_
    refine ev_aload_n (ev_o 10 a) dX10_meanTravel_27 rfl rfl ?_
    refine gf_10_0 dX10_meanTravel_28 kw_1853 ?_
    refine ev_bipush (8) dX10_meanTravel_31 (by decide) ?_
    refine ev_iaload dX10_meanTravel_33 (j_vin (by decide)) ?_
    refine ev_ke (j_rk hS1 (Or.inl (by omega))) ?_
    refine ev_i2f dX10_meanTravel_34 ?_
    obtain ⟨h1, hQ⟩ := hQ
    refine ev_fdiv dX10_meanTravel_35 h1 ?_
    exact ev_freturn dX10_meanTravel_36 rfl hQ
  · replace hQ := hQ.1 c1
    refine ev_fconst0 dX10_meanTravel_15 ?_
    refine ev_goto 36 dX10_meanTravel_16 (by decide) ?_
    exact ev_freturn dX10_meanTravel_36 rfl hQ
set_option maxHeartbeats 4000000 in
set_option maxRecDepth 100000 in
theorem sg_X10_contradictions_0 {g : ev_G} {S : ev_S} {Q : ev_O → ev_S → Prop} (a : Nat) (hQ : ∀ S1 : ev_S, S1 = (ev_up S a 7 0) → (
    ev_E g m_X10_contradictions 3 0 9 [some (ev_o 10 a), some (ev_i 0), some (ev_i 1), none] [] S1 Q)) : ev_Cv g m_X10_contradictions 3 0 [ev_o 10 a] S Q := by
  refine ev_enter (by decide) rfl rfl (Nat.le_of_ble_eq_true rfl) ?_
  show ev_E g m_X10_contradictions 3 0 0 [some (ev_o 10 a), none, none, none] [] S Q
  refine ev_aload_n (ev_o 10 a) dX10_contradictions_0 rfl rfl ?_
  refine ev_iconst (0) dX10_contradictions_1 rfl ?_
  refine pf_10_7 dX10_contradictions_2 kw_1860 ?_
  refine ev_sub hQ (fun S1 hS1 hQ => ?_)
  refine ev_E.goal (pc' := 5) (L' := [some (ev_o 10 a), none, none, none]) (K' := []) (S' := S1) ?_ rfl rfl rfl hS1
  refine ev_iconst (0) dX10_contradictions_5 rfl ?_
  refine ev_istore_n dX10_contradictions_6 (Nat.le_of_ble_eq_true rfl) (ev_hw rfl) ?_
  show ev_E g m_X10_contradictions 3 0 7 [some (ev_o 10 a), some (ev_i 0), none, none] [] S1 Q
  refine ev_iconst (1) dX10_contradictions_7 rfl ?_
  refine ev_istore_n dX10_contradictions_8 (Nat.le_of_ble_eq_true rfl) (ev_hw rfl) ?_
  show ev_E g m_X10_contradictions 3 0 9 [some (ev_o 10 a), some (ev_i 0), some (ev_i 1), none] [] S1 Q
  exact hQ
set_option maxHeartbeats 4000000 in
set_option maxRecDepth 100000 in
theorem sg_X10_contradictions_9 {g : ev_G} {S : ev_S} {Q : ev_O → ev_S → Prop} (a : Nat) (u1 : Int32) (u2 : Int32) (hQ : (vp_in ((12 + (7 * 0)) + 0) 2091) ∧ (
    (vp_in ((12 + (7 * 1)) + 0) 2091) ∧ (
      ((ev_min (S.1 (a + 1) (((12 + (7 * 0)) + 0) : Int32).toNatClampNeg) (S.1 (a + 1) (((12 + (7 * 1)) + 0) : Int32).toNatClampNeg)) < u2 → (
        ev_E g m_X10_contradictions 3 0 73 [some (ev_o 10 a), some (ev_i u1), some (ev_i 0), none] [] S Q)) ∧
      (¬ ((ev_min (S.1 (a + 1) (((12 + (7 * 0)) + 0) : Int32).toNatClampNeg) (S.1 (a + 1) (((12 + (7 * 1)) + 0) : Int32).toNatClampNeg)) < u2) → (
        (vp_in (((154 + (180 * 0)) + (3 * (u2 - 1))) + 0) 2091) ∧ (
          (vp_in (((154 + (180 * 1)) + (3 * (u2 - 1))) + 0) 2091) ∧ (
            ((S.1 (a + 1) (((154 + (180 * 0)) + (3 * (u2 - 1))) + 0).toNatClampNeg) = (S.1 (a + 1) (((154 + (180 * 1)) + (3 * (u2 - 1))) + 0).toNatClampNeg) → (
              (vp_in (((154 + (180 * 0)) + (3 * (u2 - 1))) + 1) 2091) ∧ (
                (vp_in (((154 + (180 * 1)) + (3 * (u2 - 1))) + 1) 2091) ∧ (
                  ((S.1 (a + 1) (((154 + (180 * 0)) + (3 * (u2 - 1))) + 1).toNatClampNeg) = (S.1 (a + 1) (((154 + (180 * 1)) + (3 * (u2 - 1))) + 1).toNatClampNeg) → (
                    ev_E g m_X10_contradictions 3 0 9 [some (ev_o 10 a), some (ev_i u1), some (ev_i (u2 + 1)), none] [] S Q)) ∧
                  (¬ ((S.1 (a + 1) (((154 + (180 * 0)) + (3 * (u2 - 1))) + 1).toNatClampNeg) = (S.1 (a + 1) (((154 + (180 * 1)) + (3 * (u2 - 1))) + 1).toNatClampNeg)) → (
                    ev_E g m_X10_contradictions 3 0 9 [some (ev_o 10 a), some (ev_i (u1 + 1)), some (ev_i (u2 + 1)), none] [] S Q)))))) ∧
            (¬ ((S.1 (a + 1) (((154 + (180 * 0)) + (3 * (u2 - 1))) + 0).toNatClampNeg) = (S.1 (a + 1) (((154 + (180 * 1)) + (3 * (u2 - 1))) + 0).toNatClampNeg)) → (
              ev_E g m_X10_contradictions 3 0 9 [some (ev_o 10 a), some (ev_i (u1 + 1)), some (ev_i (u2 + 1)), none] [] S Q))))))))) : ev_E g m_X10_contradictions 3 0 9 [some (ev_o 10 a), some (ev_i u1), some (ev_i u2), none] [] S Q := by
  refine ev_iload_n (u2) dX10_contradictions_9 rfl ?_
  refine ev_aload_n (ev_o 10 a) dX10_contradictions_10 rfl rfl ?_
  refine ev_iconst (0) dX10_contradictions_11 rfl ?_
  refine ev_iconst (0) dX10_contradictions_12 rfl ?_
  obtain ⟨h1, hQ⟩ := hQ
  refine ev_fV mv_X10_ofP 1 10 [ev_i 0, ev_i 0] [ev_i u2] dX10_contradictions_13 kw_2048 rfl (by decide) rfl (by decide) (Nat.le_of_ble_eq_true rfl) (sp_X10_ofP a 0 0 h1) ?_ rfl
  refine ev_aload_n (ev_o 10 a) dX10_contradictions_16 rfl rfl ?_
  refine ev_iconst (1) dX10_contradictions_17 rfl ?_
  refine ev_iconst (0) dX10_contradictions_18 rfl ?_
  obtain ⟨h2, hQ⟩ := hQ
  refine ev_fV mv_X10_ofP 1 10 [ev_i 1, ev_i 0] [ev_i (S.1 (a + 1) (((12 + (7 * 0)) + 0) : Int32).toNatClampNeg), ev_i u2] dX10_contradictions_19 kw_2048 rfl (by decide) rfl (by decide) (Nat.le_of_ble_eq_true rfl) (sp_X10_ofP a 1 0 h2) ?_ rfl
  refine ev_mathMin dX10_contradictions_22 kw_1784 kw_513 kw_123 kw_514 (Nat.le_of_ble_eq_true rfl) ?_
  refine ev_icmp_gt 71 dX10_contradictions_25 (by decide) (fun c1 => ?_) (fun c1 => ?_)
  · replace hQ := hQ.1 c1
    refine ev_iconst (0) dX10_contradictions_71 rfl ?_
    refine ev_istore_n dX10_contradictions_72 (Nat.le_of_ble_eq_true rfl) (ev_hw rfl) ?_
    show ev_E g m_X10_contradictions 3 0 73 [some (ev_o 10 a), some (ev_i u1), some (ev_i 0), none] [] S Q
    exact hQ
  · replace hQ := hQ.2 c1
    refine ev_aload_n (ev_o 10 a) dX10_contradictions_28 rfl rfl ?_
    refine ev_iconst (0) dX10_contradictions_29 rfl ?_
    refine ev_iload_n (u2) dX10_contradictions_30 rfl ?_
    refine ev_iconst (0) dX10_contradictions_31 rfl ?_
    obtain ⟨h3, hQ⟩ := hQ
    refine ev_fV mv_X10_madeAt 1 10 [ev_i 0, ev_i u2, ev_i 0] [] dX10_contradictions_32 kw_2105 rfl (by decide) rfl (by decide) (Nat.le_of_ble_eq_true rfl) (sp_X10_madeAt a 0 u2 0 h3) ?_ rfl
    refine ev_aload_n (ev_o 10 a) dX10_contradictions_35 rfl rfl ?_
    refine ev_iconst (1) dX10_contradictions_36 rfl ?_
    refine ev_iload_n (u2) dX10_contradictions_37 rfl ?_
    refine ev_iconst (0) dX10_contradictions_38 rfl ?_
    obtain ⟨h4, hQ⟩ := hQ
    refine ev_fV mv_X10_madeAt 1 10 [ev_i 1, ev_i u2, ev_i 0] [ev_i (S.1 (a + 1) (((154 + (180 * 0)) + (3 * (u2 - 1))) + 0).toNatClampNeg)] dX10_contradictions_39 kw_2105 rfl (by decide) rfl (by decide) (Nat.le_of_ble_eq_true rfl) (sp_X10_madeAt a 1 u2 0 h4) ?_ rfl
    refine ev_icmp_ne 62 dX10_contradictions_42 (by decide) (fun c2 => ?_) (fun c2 => ?_)
    · replace hQ := hQ.2 c2
      refine ev_iinc u1 (1) dX10_contradictions_62 rfl (by decide) (ev_hw rfl) ?_
      show ev_E g m_X10_contradictions 3 0 65 [some (ev_o 10 a), some (ev_i (u1 + 1)), some (ev_i u2), none] [] S Q
      refine ev_iinc u2 (1) dX10_contradictions_65 rfl (by decide) (ev_hw rfl) ?_
      show ev_E g m_X10_contradictions 3 0 68 [some (ev_o 10 a), some (ev_i (u1 + 1)), some (ev_i (u2 + 1)), none] [] S Q
      refine ev_goto 9 dX10_contradictions_68 (by decide) ?_
      exact hQ
    · replace hQ := hQ.1 c2
      refine ev_aload_n (ev_o 10 a) dX10_contradictions_45 rfl rfl ?_
      refine ev_iconst (0) dX10_contradictions_46 rfl ?_
      refine ev_iload_n (u2) dX10_contradictions_47 rfl ?_
      refine ev_iconst (1) dX10_contradictions_48 rfl ?_
      obtain ⟨h5, hQ⟩ := hQ
      refine ev_fV mv_X10_madeAt 1 10 [ev_i 0, ev_i u2, ev_i 1] [] dX10_contradictions_49 kw_2105 rfl (by decide) rfl (by decide) (Nat.le_of_ble_eq_true rfl) (sp_X10_madeAt a 0 u2 1 h5) ?_ rfl
      refine ev_aload_n (ev_o 10 a) dX10_contradictions_52 rfl rfl ?_
      refine ev_iconst (1) dX10_contradictions_53 rfl ?_
      refine ev_iload_n (u2) dX10_contradictions_54 rfl ?_
      refine ev_iconst (1) dX10_contradictions_55 rfl ?_
      obtain ⟨h6, hQ⟩ := hQ
      refine ev_fV mv_X10_madeAt 1 10 [ev_i 1, ev_i u2, ev_i 1] [ev_i (S.1 (a + 1) (((154 + (180 * 0)) + (3 * (u2 - 1))) + 1).toNatClampNeg)] dX10_contradictions_56 kw_2105 rfl (by decide) rfl (by decide) (Nat.le_of_ble_eq_true rfl) (sp_X10_madeAt a 1 u2 1 h6) ?_ rfl
      refine ev_icmp_eq 65 dX10_contradictions_59 (by decide) (fun c3 => ?_) (fun c3 => ?_)
      · replace hQ := hQ.1 c3
        refine ev_iinc u2 (1) dX10_contradictions_65 rfl (by decide) (ev_hw rfl) ?_
        show ev_E g m_X10_contradictions 3 0 68 [some (ev_o 10 a), some (ev_i u1), some (ev_i (u2 + 1)), none] [] S Q
        refine ev_goto 9 dX10_contradictions_68 (by decide) ?_
        exact hQ
      · replace hQ := hQ.2 c3
        refine ev_iinc u1 (1) dX10_contradictions_62 rfl (by decide) (ev_hw rfl) ?_
        show ev_E g m_X10_contradictions 3 0 65 [some (ev_o 10 a), some (ev_i (u1 + 1)), some (ev_i u2), none] [] S Q
        refine ev_iinc u2 (1) dX10_contradictions_65 rfl (by decide) (ev_hw rfl) ?_
        show ev_E g m_X10_contradictions 3 0 68 [some (ev_o 10 a), some (ev_i (u1 + 1)), some (ev_i (u2 + 1)), none] [] S Q
        refine ev_goto 9 dX10_contradictions_68 (by decide) ?_
        exact hQ
set_option maxHeartbeats 4000000 in
set_option maxRecDepth 100000 in
theorem sg_X10_contradictions_73 {g : ev_G} {S : ev_S} {Q : ev_O → ev_S → Prop} (a : Nat) (u1 : Int32) (u2 : Int32) (hQ : (2 ≤ u2 → (
    ev_E g m_X10_contradictions 3 0 130 [some (ev_o 10 a), some (ev_i u1), some (ev_i 0), some (ev_i 0)] [] S Q)) ∧
  (¬ (2 ≤ u2) → (
    ev_Cv g m_X10_bishopsOf 2 0 [ev_o 10 a, ev_i u2, ev_i 0] S (fun o S1 => ∃ v1_ : Int32, o = .inl (some (ev_i v1_)) ∧ (
      ev_Cv g m_X10_bishopsOf 2 0 [ev_o 10 a, ev_i u2, ev_i 1] S1 (fun o S2 => ∃ v2_ : Int32, o = .inl (some (ev_i v2_)) ∧ (
        (vp_in ((12 + (7 * u2)) + 1) 2091) ∧ (
          ev_E g m_X10_contradictions 3 0 73 [some (ev_o 10 a), some (ev_i (u1 + (ev_abs (((((S.1 (a + 1) 9) + (S.1 (a + 1) 10)) - v1_) - v2_) - (S2.1 (a + 1) ((12 + (7 * u2)) + 1).toNatClampNeg))))), some (ev_i (u2 + 1)), none] [] S2 Q)))))))) : ev_E g m_X10_contradictions 3 0 73 [some (ev_o 10 a), some (ev_i u1), some (ev_i u2), none] [] S Q := by
  refine ev_iload_n (u2) dX10_contradictions_73 rfl ?_
  refine ev_iconst (2) dX10_contradictions_74 rfl ?_
  refine ev_icmp_ge 126 dX10_contradictions_75 (by decide) (fun c1 => ?_) (fun c1 => ?_)
  · replace hQ := hQ.1 c1
    refine ev_iconst (0) dX10_contradictions_126 rfl ?_
    refine ev_istore_n dX10_contradictions_127 (Nat.le_of_ble_eq_true rfl) (ev_hw rfl) ?_
    show ev_E g m_X10_contradictions 3 0 128 [some (ev_o 10 a), some (ev_i u1), some (ev_i 0), none] [] S Q
    refine ev_iconst (0) dX10_contradictions_128 rfl ?_
    refine ev_istore_n dX10_contradictions_129 (Nat.le_of_ble_eq_true rfl) (ev_hw rfl) ?_
    show ev_E g m_X10_contradictions 3 0 130 [some (ev_o 10 a), some (ev_i u1), some (ev_i 0), some (ev_i 0)] [] S Q
    exact hQ
  · replace hQ := hQ.2 c1
    refine ev_iload_n (u1) dX10_contradictions_78 rfl ?_
    refine ev_aload_n (ev_o 10 a) dX10_contradictions_79 rfl rfl ?_
    refine gf_10_0 dX10_contradictions_80 kw_1853 ?_
    refine ev_bipush (9) dX10_contradictions_83 (by decide) ?_
    refine ev_iaload dX10_contradictions_85 (j_vin (by decide)) ?_
    refine ev_aload_n (ev_o 10 a) dX10_contradictions_86 rfl rfl ?_
    refine gf_10_0 dX10_contradictions_87 kw_1853 ?_
    refine ev_bipush (10) dX10_contradictions_90 (by decide) ?_
    refine ev_iaload dX10_contradictions_92 (j_vin (by decide)) ?_
    refine ev_iadd dX10_contradictions_93 ?_
    refine ev_aload_n (ev_o 10 a) dX10_contradictions_94 rfl rfl ?_
    refine ev_iload_n (u2) dX10_contradictions_95 rfl ?_
    refine ev_iconst (0) dX10_contradictions_96 rfl ?_
    refine ev_cV mv_X10_bishopsOf 2 0 10 [ev_i u2, ev_i 0] [ev_i ((S.1 (a + 1) 9) + (S.1 (a + 1) 10)), ev_i u1] dX10_contradictions_97 kw_1823 rfl (by decide) rfl (by decide) (by decide) (Nat.le_of_ble_eq_true rfl) hQ ?_ rfl
    rintro o S1 ⟨v1_, rfl, hQ⟩
    show ev_E g m_X10_contradictions 3 0 100 [some (ev_o 10 a), some (ev_i u1), some (ev_i u2), none] [ev_i v1_, ev_i ((S.1 (a + 1) 9) + (S.1 (a + 1) 10)), ev_i u1] S1 Q
    refine ev_isub dX10_contradictions_100 ?_
    refine ev_aload_n (ev_o 10 a) dX10_contradictions_101 rfl rfl ?_
    refine ev_iload_n (u2) dX10_contradictions_102 rfl ?_
    refine ev_iconst (1) dX10_contradictions_103 rfl ?_
    refine ev_cV mv_X10_bishopsOf 2 0 10 [ev_i u2, ev_i 1] [ev_i (((S.1 (a + 1) 9) + (S.1 (a + 1) 10)) - v1_), ev_i u1] dX10_contradictions_104 kw_1823 rfl (by decide) rfl (by decide) (by decide) (Nat.le_of_ble_eq_true rfl) hQ ?_ rfl
    rintro o S2 ⟨v2_, rfl, hQ⟩
    show ev_E g m_X10_contradictions 3 0 107 [some (ev_o 10 a), some (ev_i u1), some (ev_i u2), none] [ev_i v2_, ev_i (((S.1 (a + 1) 9) + (S.1 (a + 1) 10)) - v1_), ev_i u1] S2 Q
    refine ev_isub dX10_contradictions_107 ?_
    refine ev_aload_n (ev_o 10 a) dX10_contradictions_108 rfl rfl ?_
    refine ev_iload_n (u2) dX10_contradictions_109 rfl ?_
    refine ev_iconst (1) dX10_contradictions_110 rfl ?_
    obtain ⟨h1, hQ⟩ := hQ
    refine ev_fV mv_X10_ofP 1 10 [ev_i u2, ev_i 1] [ev_i ((((S.1 (a + 1) 9) + (S.1 (a + 1) 10)) - v1_) - v2_), ev_i u1] dX10_contradictions_111 kw_2048 rfl (by decide) rfl (by decide) (Nat.le_of_ble_eq_true rfl) (sp_X10_ofP a u2 1 h1) ?_ rfl
    refine ev_isub dX10_contradictions_114 ?_
    refine ev_mathAbs dX10_contradictions_115 kw_2063 kw_895 kw_123 kw_896 (Nat.le_of_ble_eq_true rfl) ?_
    refine ev_iadd dX10_contradictions_118 ?_
    refine ev_istore_n dX10_contradictions_119 (Nat.le_of_ble_eq_true rfl) (ev_hw rfl) ?_
    show ev_E g m_X10_contradictions 3 0 120 [some (ev_o 10 a), some (ev_i (u1 + (ev_abs (((((S.1 (a + 1) 9) + (S.1 (a + 1) 10)) - v1_) - v2_) - (S2.1 (a + 1) ((12 + (7 * u2)) + 1).toNatClampNeg))))), some (ev_i u2), none] [] S2 Q
    refine ev_iinc u2 (1) dX10_contradictions_120 rfl (by decide) (ev_hw rfl) ?_
    show ev_E g m_X10_contradictions 3 0 123 [some (ev_o 10 a), some (ev_i (u1 + (ev_abs (((((S.1 (a + 1) 9) + (S.1 (a + 1) 10)) - v1_) - v2_) - (S2.1 (a + 1) ((12 + (7 * u2)) + 1).toNatClampNeg))))), some (ev_i (u2 + 1)), none] [] S2 Q
    refine ev_goto 73 dX10_contradictions_123 (by decide) ?_
    exact hQ
set_option maxHeartbeats 4000000 in
set_option maxRecDepth 100000 in
theorem sg_X10_contradictions_130 {g : ev_G} {S : ev_S} {Q : ev_O → ev_S → Prop} (a : Nat) (u1 : Int32) (u2 : Int32) (u3 : Int32) (hQ : ((S.1 (a + 1) 3) ≤ u3 → (
    ev_E g m_X10_contradictions 3 0 164 [some (ev_o 10 a), some (ev_i u1), some (ev_i u2), some (ev_i 0)] [] S Q)) ∧
  (¬ ((S.1 (a + 1) 3) ≤ u3) → (
    (vp_in ((1140 + (15 * u3)) + 1) 2091) ∧ (
      (vp_in ((1140 + (15 * u3)) + 2) 2091) ∧ (
        ev_E g m_X10_contradictions 3 0 130 [some (ev_o 10 a), some (ev_i u1), some (ev_i (u2 + ((S.1 (a + 1) ((1140 + (15 * u3)) + 1).toNatClampNeg) + (S.1 (a + 1) ((1140 + (15 * u3)) + 2).toNatClampNeg)))), some (ev_i (u3 + 1))] [] S Q))))) : ev_E g m_X10_contradictions 3 0 130 [some (ev_o 10 a), some (ev_i u1), some (ev_i u2), some (ev_i u3)] [] S Q := by
  refine ev_iload_n (u3) dX10_contradictions_130 rfl ?_
  refine ev_aload_n (ev_o 10 a) dX10_contradictions_131 rfl rfl ?_
  refine gf_10_0 dX10_contradictions_132 kw_1853 ?_
  refine ev_iconst (3) dX10_contradictions_135 rfl ?_
  refine ev_iaload dX10_contradictions_136 (j_vin (by decide)) ?_
  refine ev_icmp_ge 162 dX10_contradictions_137 (by decide) (fun c1 => ?_) (fun c1 => ?_)
  · replace hQ := hQ.1 c1
    refine ev_iconst (0) dX10_contradictions_162 rfl ?_
    refine ev_istore_n dX10_contradictions_163 (Nat.le_of_ble_eq_true rfl) (ev_hw rfl) ?_
    show ev_E g m_X10_contradictions 3 0 164 [some (ev_o 10 a), some (ev_i u1), some (ev_i u2), some (ev_i 0)] [] S Q
    exact hQ
  · replace hQ := hQ.2 c1
    refine ev_iload_n (u2) dX10_contradictions_140 rfl ?_
    refine ev_aload_n (ev_o 10 a) dX10_contradictions_141 rfl rfl ?_
    refine ev_iload_n (u3) dX10_contradictions_142 rfl ?_
    refine ev_iconst (1) dX10_contradictions_143 rfl ?_
    obtain ⟨h1, hQ⟩ := hQ
    refine ev_fV mv_X10_ofPass 1 10 [ev_i u3, ev_i 1] [ev_i u2] dX10_contradictions_144 kw_2161 rfl (by decide) rfl (by decide) (Nat.le_of_ble_eq_true rfl) (sp_X10_ofPass a u3 1 h1) ?_ rfl
    refine ev_aload_n (ev_o 10 a) dX10_contradictions_147 rfl rfl ?_
    refine ev_iload_n (u3) dX10_contradictions_148 rfl ?_
    refine ev_iconst (2) dX10_contradictions_149 rfl ?_
    obtain ⟨h2, hQ⟩ := hQ
    refine ev_fV mv_X10_ofPass 1 10 [ev_i u3, ev_i 2] [ev_i (S.1 (a + 1) ((1140 + (15 * u3)) + 1).toNatClampNeg), ev_i u2] dX10_contradictions_150 kw_2161 rfl (by decide) rfl (by decide) (Nat.le_of_ble_eq_true rfl) (sp_X10_ofPass a u3 2 h2) ?_ rfl
    refine ev_iadd dX10_contradictions_153 ?_
    refine ev_iadd dX10_contradictions_154 ?_
    refine ev_istore_n dX10_contradictions_155 (Nat.le_of_ble_eq_true rfl) (ev_hw rfl) ?_
    show ev_E g m_X10_contradictions 3 0 156 [some (ev_o 10 a), some (ev_i u1), some (ev_i (u2 + ((S.1 (a + 1) ((1140 + (15 * u3)) + 1).toNatClampNeg) + (S.1 (a + 1) ((1140 + (15 * u3)) + 2).toNatClampNeg)))), some (ev_i u3)] [] S Q
    refine ev_iinc u3 (1) dX10_contradictions_156 rfl (by decide) (ev_hw rfl) ?_
    show ev_E g m_X10_contradictions 3 0 159 [some (ev_o 10 a), some (ev_i u1), some (ev_i (u2 + ((S.1 (a + 1) ((1140 + (15 * u3)) + 1).toNatClampNeg) + (S.1 (a + 1) ((1140 + (15 * u3)) + 2).toNatClampNeg)))), some (ev_i (u3 + 1))] [] S Q
    refine ev_goto 130 dX10_contradictions_159 (by decide) ?_
    exact hQ
set_option maxHeartbeats 4000000 in
set_option maxRecDepth 100000 in
theorem sg_X10_contradictions_164 {g : ev_G} {S : ev_S} {Q : ev_O → ev_S → Prop} (a : Nat) (u1 : Int32) (u2 : Int32) (u3 : Int32) (hQ : ((S.1 (a + 1) 4) ≤ u3 → (
    Q (.inl (some (ev_i (u1 + (ev_abs ((S.1 (a + 1) 11) - u2)))))) S)) ∧
  (¬ ((S.1 (a + 1) 4) ≤ u3) → (
    (vp_in ((1200 + (11 * u3)) + 6) 2091) ∧ (
      ((S.1 (a + 1) ((1200 + (11 * u3)) + 6).toNatClampNeg) = 1 → (
        ev_E g m_X10_contradictions 3 0 164 [some (ev_o 10 a), some (ev_i u1), some (ev_i (u2 + 1)), some (ev_i (u3 + 1))] [] S Q)) ∧
      (¬ ((S.1 (a + 1) ((1200 + (11 * u3)) + 6).toNatClampNeg) = 1) → (
        ev_E g m_X10_contradictions 3 0 164 [some (ev_o 10 a), some (ev_i u1), some (ev_i u2), some (ev_i (u3 + 1))] [] S Q)))))) : ev_E g m_X10_contradictions 3 0 164 [some (ev_o 10 a), some (ev_i u1), some (ev_i u2), some (ev_i u3)] [] S Q := by
  refine ev_iload_n (u3) dX10_contradictions_164 rfl ?_
  refine ev_aload_n (ev_o 10 a) dX10_contradictions_165 rfl rfl ?_
  refine gf_10_0 dX10_contradictions_166 kw_1853 ?_
  refine ev_iconst (4) dX10_contradictions_169 rfl ?_
  refine ev_iaload dX10_contradictions_170 (j_vin (by decide)) ?_
  refine ev_icmp_ge 194 dX10_contradictions_171 (by decide) (fun c1 => ?_) (fun c1 => ?_)
  · replace hQ := hQ.1 c1
    refine ev_iload_n (u1) dX10_contradictions_194 rfl ?_
    refine ev_aload_n (ev_o 10 a) dX10_contradictions_195 rfl rfl ?_
    refine gf_10_0 dX10_contradictions_196 kw_1853 ?_
    refine ev_bipush (11) dX10_contradictions_199 (by decide) ?_
    refine ev_iaload dX10_contradictions_201 (j_vin (by decide)) ?_
    refine ev_iload_n (u2) dX10_contradictions_202 rfl ?_
    refine ev_isub dX10_contradictions_203 ?_
    refine ev_mathAbs dX10_contradictions_204 kw_2063 kw_895 kw_123 kw_896 (Nat.le_of_ble_eq_true rfl) ?_
    refine ev_iadd dX10_contradictions_207 ?_
    exact ev_ireturn .int dX10_contradictions_208 rfl rfl hQ
  · replace hQ := hQ.2 c1
    refine ev_aload_n (ev_o 10 a) dX10_contradictions_174 rfl rfl ?_
    refine ev_iload_n (u3) dX10_contradictions_175 rfl ?_
    refine ev_bipush (6) dX10_contradictions_176 (by decide) ?_
    obtain ⟨h1, hQ⟩ := hQ
    refine ev_fV mv_X10_ofL 1 10 [ev_i u3, ev_i 6] [] dX10_contradictions_178 kw_2129 rfl (by decide) rfl (by decide) (Nat.le_of_ble_eq_true rfl) (sp_X10_ofL a u3 6 h1) ?_ rfl
    refine ev_iconst (1) dX10_contradictions_181 rfl ?_
    refine ev_icmp_ne 188 dX10_contradictions_182 (by decide) (fun c2 => ?_) (fun c2 => ?_)
    · replace hQ := hQ.2 c2
      refine ev_iinc u3 (1) dX10_contradictions_188 rfl (by decide) (ev_hw rfl) ?_
      show ev_E g m_X10_contradictions 3 0 191 [some (ev_o 10 a), some (ev_i u1), some (ev_i u2), some (ev_i (u3 + 1))] [] S Q
      refine ev_goto 164 dX10_contradictions_191 (by decide) ?_
      exact hQ
    · replace hQ := hQ.1 c2
      refine ev_iinc u2 (1) dX10_contradictions_185 rfl (by decide) (ev_hw rfl) ?_
      show ev_E g m_X10_contradictions 3 0 188 [some (ev_o 10 a), some (ev_i u1), some (ev_i (u2 + 1)), some (ev_i u3)] [] S Q
      refine ev_iinc u3 (1) dX10_contradictions_188 rfl (by decide) (ev_hw rfl) ?_
      show ev_E g m_X10_contradictions 3 0 191 [some (ev_o 10 a), some (ev_i u1), some (ev_i (u2 + 1)), some (ev_i (u3 + 1))] [] S Q
      refine ev_goto 164 dX10_contradictions_191 (by decide) ?_
      exact hQ
set_option maxHeartbeats 4000000 in
set_option maxRecDepth 100000 in
theorem sg_X10_arrivalOf_0 {g : ev_G} {S : ev_S} {Q : ev_O → ev_S → Prop} (a : Nat) (x0 : Int32) (hQ : ev_E g m_X10_arrivalOf 9 0 2 [some (ev_o 10 a), some (ev_i x0), some (ev_i 0)] [] S Q) : ev_Cv g m_X10_arrivalOf 9 0 [ev_o 10 a, ev_i x0] S Q := by
  refine ev_enter (by decide) rfl rfl (Nat.le_of_ble_eq_true rfl) ?_
  show ev_E g m_X10_arrivalOf 9 0 0 [some (ev_o 10 a), some (ev_i x0), none] [] S Q
  refine ev_iconst (0) dX10_arrivalOf_0 rfl ?_
  refine ev_istore_n dX10_arrivalOf_1 (Nat.le_of_ble_eq_true rfl) (ev_hw rfl) ?_
  show ev_E g m_X10_arrivalOf 9 0 2 [some (ev_o 10 a), some (ev_i x0), some (ev_i 0)] [] S Q
  exact hQ
set_option maxHeartbeats 4000000 in
set_option maxRecDepth 100000 in
theorem sg_X10_arrivalOf_2 {g : ev_G} {S : ev_S} {Q : ev_O → ev_S → Prop} (a : Nat) (u1 : Int32) (u2 : Int32) (hQ : (400 < u2 → (
    Q (.inl (some (ev_i (-1)))) S)) ∧
  (¬ (400 < u2) → (
    (vp_in ((1200 + (11 * u1)) + 6) 2091) ∧ (
      ((S.1 (a + 1) ((1200 + (11 * u1)) + 6).toNatClampNeg) = 2 → (
        (vp_in ((1200 + (11 * u1)) + 10) 2091) ∧ (
          Q (.inl (some (ev_i (S.1 (a + 1) ((1200 + (11 * u1)) + 10).toNatClampNeg)))) S))) ∧
      (¬ ((S.1 (a + 1) ((1200 + (11 * u1)) + 6).toNatClampNeg) = 2) → (
        (400 ≤ u2 → (
          ev_E g m_X10_arrivalOf 9 0 2 [some (ev_o 10 a), some (ev_i u1), some (ev_i (u2 + 1))] [] S Q)) ∧
        (¬ (400 ≤ u2) → (
          ev_Cv g m_X10_dayPasses 8 0 [ev_o 10 a] S (fun o S1 => o = .inl none ∧ (
            ev_E g m_X10_arrivalOf 9 0 2 [some (ev_o 10 a), some (ev_i u1), some (ev_i (u2 + 1))] [] S1 Q)))))))))) : ev_E g m_X10_arrivalOf 9 0 2 [some (ev_o 10 a), some (ev_i u1), some (ev_i u2)] [] S Q := by
  refine ev_iload_n (u2) dX10_arrivalOf_2 rfl ?_
  refine ev_sipush (400) dX10_arrivalOf_3 (by decide) ?_
  refine ev_icmp_gt 45 dX10_arrivalOf_6 (by decide) (fun c1 => ?_) (fun c1 => ?_)
  · replace hQ := hQ.1 c1
    refine ev_iconst (-1) dX10_arrivalOf_45 rfl ?_
    exact ev_ireturn .int dX10_arrivalOf_46 rfl rfl hQ
  · replace hQ := hQ.2 c1
    refine ev_aload_n (ev_o 10 a) dX10_arrivalOf_9 rfl rfl ?_
    refine ev_iload_n (u1) dX10_arrivalOf_10 rfl ?_
    refine ev_bipush (6) dX10_arrivalOf_11 (by decide) ?_
    obtain ⟨h1, hQ⟩ := hQ
    refine ev_fV mv_X10_ofL 1 10 [ev_i u1, ev_i 6] [] dX10_arrivalOf_13 kw_2129 rfl (by decide) rfl (by decide) (Nat.le_of_ble_eq_true rfl) (sp_X10_ofL a u1 6 h1) ?_ rfl
    refine ev_iconst (2) dX10_arrivalOf_16 rfl ?_
    refine ev_icmp_ne 28 dX10_arrivalOf_17 (by decide) (fun c2 => ?_) (fun c2 => ?_)
    · replace hQ := hQ.2 c2
      refine ev_iload_n (u2) dX10_arrivalOf_28 rfl ?_
      refine ev_sipush (400) dX10_arrivalOf_29 (by decide) ?_
      refine ev_icmp_ge 39 dX10_arrivalOf_32 (by decide) (fun c3 => ?_) (fun c3 => ?_)
      · replace hQ := hQ.1 c3
        refine ev_iinc u2 (1) dX10_arrivalOf_39 rfl (by decide) (ev_hw rfl) ?_
        show ev_E g m_X10_arrivalOf 9 0 42 [some (ev_o 10 a), some (ev_i u1), some (ev_i (u2 + 1))] [] S Q
        refine ev_goto 2 dX10_arrivalOf_42 (by decide) ?_
        exact hQ
      · replace hQ := hQ.2 c3
        refine ev_aload_n (ev_o 10 a) dX10_arrivalOf_35 rfl rfl ?_
        refine ev_cV mv_X10_dayPasses 8 0 10 [] [] dX10_arrivalOf_36 kw_2137 rfl (by decide) rfl (by decide) (by decide) (Nat.le_of_ble_eq_true rfl) hQ ?_ rfl
        rintro o S1 ⟨rfl, hQ⟩
        show ev_E g m_X10_arrivalOf 9 0 39 [some (ev_o 10 a), some (ev_i u1), some (ev_i u2)] [] S1 Q
        refine ev_iinc u2 (1) dX10_arrivalOf_39 rfl (by decide) (ev_hw rfl) ?_
        show ev_E g m_X10_arrivalOf 9 0 42 [some (ev_o 10 a), some (ev_i u1), some (ev_i (u2 + 1))] [] S1 Q
        refine ev_goto 2 dX10_arrivalOf_42 (by decide) ?_
        exact hQ
    · replace hQ := hQ.1 c2
      refine ev_aload_n (ev_o 10 a) dX10_arrivalOf_20 rfl rfl ?_
      refine ev_iload_n (u1) dX10_arrivalOf_21 rfl ?_
      refine ev_bipush (10) dX10_arrivalOf_22 (by decide) ?_
      obtain ⟨h2, hQ⟩ := hQ
      refine ev_fV mv_X10_ofL 1 10 [ev_i u1, ev_i 10] [] dX10_arrivalOf_24 kw_2129 rfl (by decide) rfl (by decide) (Nat.le_of_ble_eq_true rfl) (sp_X10_ofL a u1 10 h2) ?_ rfl
      exact ev_ireturn .int dX10_arrivalOf_27 rfl rfl hQ
set_option maxHeartbeats 4000000 in
set_option maxRecDepth 100000 in
theorem sg_X10_arrivalDay_0 {g : ev_G} {S : ev_S} {Q : ev_O → ev_S → Prop} (a : Nat) (x0 : Int32) (hQ : ∀ S1 : ev_S, S1 = (ev_up S a 7 0) → (
    ((t_X10_in x0 0 ((S1.1 (a + 1) 4) - 1)) = true → (
      ev_Cv g m_X10_tries 1 0 [ev_o 10 a] S1 (fun o S2 => o = .inl none ∧ (
        ev_Cv g m_X10_arrivalOf 9 0 [ev_o 10 a, ev_i x0] S2 (fun o S3 => ∃ v2_ : Int32, o = .inl (some (ev_i v2_)) ∧ (
          ev_Cv g m_X10_back 1 0 [ev_o 10 a, ev_i v2_] S3 (fun o S4 => ∃ v3_ : Int32, o = .inl (some (ev_i v3_)) ∧ (
            Q (.inl (some (ev_i v3_))) S4)))))))) ∧
    (¬ ((t_X10_in x0 0 ((S1.1 (a + 1) 4) - 1)) = true) → (
      ∀ S5 : ev_S, S5 = (ev_up S1 a 7 1) → (
        Q (.inl (some (ev_i 0))) S5))))) : ev_Cv g m_X10_arrivalDay 10 0 [ev_o 10 a, ev_i x0] S Q := by
  refine ev_enter (by decide) rfl rfl (Nat.le_of_ble_eq_true rfl) ?_
  show ev_E g m_X10_arrivalDay 10 0 0 [some (ev_o 10 a), some (ev_i x0)] [] S Q
  refine ev_aload_n (ev_o 10 a) dX10_arrivalDay_0 rfl rfl ?_
  refine ev_iconst (0) dX10_arrivalDay_1 rfl ?_
  refine pf_10_7 dX10_arrivalDay_2 kw_1860 ?_
  refine ev_sub hQ (fun S1 hS1 hQ => ?_)
  refine ev_E.goal (pc' := 5) (L' := [some (ev_o 10 a), some (ev_i x0)]) (K' := []) (S' := S1) ?_ rfl rfl rfl hS1
  refine ev_aload_n (ev_o 10 a) dX10_arrivalDay_5 rfl rfl ?_
  refine ev_aload_n (ev_o 10 a) dX10_arrivalDay_6 rfl rfl ?_
  refine ev_iload_n (x0) dX10_arrivalDay_7 rfl ?_
  refine ev_fV mv_X10_isLetter 2 10 [ev_i x0] [ev_o 10 a] dX10_arrivalDay_8 kw_2125 rfl (by decide) rfl (by decide) (Nat.le_of_ble_eq_true rfl) (sp_X10_isLetter a x0) ?_ rfl
  by_cases c1 : (t_X10_in x0 0 ((S1.1 (a + 1) 4) - 1)) = true
  · rw [if_pos c1]
    replace hQ := hQ.1 c1
    refine ev_iconst (1) dX10_arrivalDay_11 rfl ?_
    refine ev_cV mv_X10_right 1 0 10 [ev_i 1, ev_i 1] [] dX10_arrivalDay_12 kw_1951 rfl (by decide) rfl (by decide) (by decide) (Nat.le_of_ble_eq_true rfl) (Q' := fun o z => ev_After g m_X10_arrivalDay 10 (0 - 0) 12 [some (ev_o 10 a), some (ev_i x0)] [] z Q o) (sg_X10_right_0 a 1 1 ?_) (fun o z h => h) rfl
    refine j_pos (by rw [j_rs hS1] <;> decide : ((S1.1 a 7) = 0)) ?_
    refine j_neg (by decide : ¬ ((1 : Int32) = 0)) ?_
    show ev_E g m_X10_arrivalDay 10 0 15 [some (ev_o 10 a), some (ev_i x0)] [ev_i 1] S1 Q
    refine ev_if_ne 20 dX10_arrivalDay_15 (by decide) (fun _ => ?_) (fun h9 => absurd h9 (by decide : ¬ ((1 : Int32) = 0)))
    refine ev_aload_n (ev_o 10 a) dX10_arrivalDay_20 rfl rfl ?_
    refine ev_cV mv_X10_tries 1 0 10 [] [] dX10_arrivalDay_21 kw_2349 rfl (by decide) rfl (by decide) (by decide) (Nat.le_of_ble_eq_true rfl) hQ ?_ rfl
    rintro o S2 ⟨rfl, hQ⟩
    show ev_E g m_X10_arrivalDay 10 0 24 [some (ev_o 10 a), some (ev_i x0)] [] S2 Q
    refine ev_aload_n (ev_o 10 a) dX10_arrivalDay_24 rfl rfl ?_
    refine ev_aload_n (ev_o 10 a) dX10_arrivalDay_25 rfl rfl ?_
    refine ev_iload_n (x0) dX10_arrivalDay_26 rfl ?_
    refine ev_cV mv_X10_arrivalOf 9 0 10 [ev_i x0] [ev_o 10 a] dX10_arrivalDay_27 kw_2353 rfl (by decide) rfl (by decide) (by decide) (Nat.le_of_ble_eq_true rfl) hQ ?_ rfl
    rintro o S3 ⟨v2_, rfl, hQ⟩
    show ev_E g m_X10_arrivalDay 10 0 30 [some (ev_o 10 a), some (ev_i x0)] [ev_i v2_, ev_o 10 a] S3 Q
    refine ev_cV mv_X10_back 1 0 10 [ev_i v2_] [] dX10_arrivalDay_30 kw_2357 rfl (by decide) rfl (by decide) (by decide) (Nat.le_of_ble_eq_true rfl) hQ ?_ rfl
    rintro o S4 ⟨v3_, rfl, hQ⟩
    show ev_E g m_X10_arrivalDay 10 0 33 [some (ev_o 10 a), some (ev_i x0)] [ev_i v3_] S4 Q
    exact ev_ireturn .int dX10_arrivalDay_33 rfl rfl hQ
  · rw [if_neg c1]
    replace hQ := hQ.2 c1
    refine ev_iconst (1) dX10_arrivalDay_11 rfl ?_
    refine ev_cV mv_X10_right 1 0 10 [ev_i 0, ev_i 1] [] dX10_arrivalDay_12 kw_1951 rfl (by decide) rfl (by decide) (by decide) (Nat.le_of_ble_eq_true rfl) (Q' := fun o z => ev_After g m_X10_arrivalDay 10 (0 - 0) 12 [some (ev_o 10 a), some (ev_i x0)] [] z Q o) (sg_X10_right_0 a 0 1 ?_) (fun o z h => h) rfl
    refine j_pos (by rw [j_rs hS1] <;> decide : ((S1.1 a 7) = 0)) ?_
    refine j_pos (by decide : ((0 : Int32) = 0)) ?_
    intro S5 hS5
    refine ev_sub1 hQ hS5 (fun hQ => ?_)
    refine j_neg (by decide : ¬ ((1 : Int32) = 0)) ?_
    show ev_E g m_X10_arrivalDay 10 0 15 [some (ev_o 10 a), some (ev_i x0)] [ev_i 0] S5 Q
    refine ev_if_ne 20 dX10_arrivalDay_15 (by decide) (fun h9 => absurd (by decide : ((0 : Int32) = 0)) h9) (fun _ => ?_)
    refine ev_iconst (0) dX10_arrivalDay_18 rfl ?_
    exact ev_ireturn .int dX10_arrivalDay_19 rfl rfl hQ
set_option maxHeartbeats 4000000 in
set_option maxRecDepth 100000 in
theorem sg_X10_daysUntilTurn_0 {g : ev_G} {S : ev_S} {Q : ev_O → ev_S → Prop} (a : Nat) (x0 : Int32) (hQ : ∀ S1 : ev_S, S1 = (ev_up S a 7 0) → (
    ((t_X10_in x0 0 1) = true → (
      ev_Cv g m_X10_tries 1 0 [ev_o 10 a] S1 (fun o S2 => o = .inl none ∧ (
        ev_E g m_X10_daysUntilTurn 9 0 25 [some (ev_o 10 a), some (ev_i x0), some (ev_i 0)] [] S2 Q)))) ∧
    (¬ ((t_X10_in x0 0 1) = true) → (
      ∀ S3 : ev_S, S3 = (ev_up S1 a 7 1) → (
        Q (.inl (some (ev_i 0))) S3))))) : ev_Cv g m_X10_daysUntilTurn 9 0 [ev_o 10 a, ev_i x0] S Q := by
  refine ev_enter (by decide) rfl rfl (Nat.le_of_ble_eq_true rfl) ?_
  show ev_E g m_X10_daysUntilTurn 9 0 0 [some (ev_o 10 a), some (ev_i x0), none] [] S Q
  refine ev_aload_n (ev_o 10 a) dX10_daysUntilTurn_0 rfl rfl ?_
  refine ev_iconst (0) dX10_daysUntilTurn_1 rfl ?_
  refine pf_10_7 dX10_daysUntilTurn_2 kw_1860 ?_
  refine ev_sub hQ (fun S1 hS1 hQ => ?_)
  refine ev_E.goal (pc' := 5) (L' := [some (ev_o 10 a), some (ev_i x0), none]) (K' := []) (S' := S1) ?_ rfl rfl rfl hS1
  refine ev_aload_n (ev_o 10 a) dX10_daysUntilTurn_5 rfl rfl ?_
  refine ev_iload_n (x0) dX10_daysUntilTurn_6 rfl ?_
  refine ev_fS ms_X10_isPlayer 2 [ev_i x0] [ev_o 10 a] dX10_daysUntilTurn_7 kw_2029 rfl (by decide) (Nat.le_of_ble_eq_true rfl) (sp_X10_isPlayer x0) ?_ rfl
  by_cases c1 : (t_X10_in x0 0 1) = true
  · rw [if_pos c1]
    replace hQ := hQ.1 c1
    refine ev_iconst (1) dX10_daysUntilTurn_10 rfl ?_
    refine ev_cV mv_X10_right 1 0 10 [ev_i 1, ev_i 1] [] dX10_daysUntilTurn_11 kw_1951 rfl (by decide) rfl (by decide) (by decide) (Nat.le_of_ble_eq_true rfl) (Q' := fun o z => ev_After g m_X10_daysUntilTurn 9 (0 - 0) 11 [some (ev_o 10 a), some (ev_i x0), none] [] z Q o) (sg_X10_right_0 a 1 1 ?_) (fun o z h => h) rfl
    refine j_pos (by rw [j_rs hS1] <;> decide : ((S1.1 a 7) = 0)) ?_
    refine j_neg (by decide : ¬ ((1 : Int32) = 0)) ?_
    show ev_E g m_X10_daysUntilTurn 9 0 14 [some (ev_o 10 a), some (ev_i x0), none] [ev_i 1] S1 Q
    refine ev_if_ne 19 dX10_daysUntilTurn_14 (by decide) (fun _ => ?_) (fun h9 => absurd h9 (by decide : ¬ ((1 : Int32) = 0)))
    refine ev_aload_n (ev_o 10 a) dX10_daysUntilTurn_19 rfl rfl ?_
    refine ev_cV mv_X10_tries 1 0 10 [] [] dX10_daysUntilTurn_20 kw_2349 rfl (by decide) rfl (by decide) (by decide) (Nat.le_of_ble_eq_true rfl) hQ ?_ rfl
    rintro o S2 ⟨rfl, hQ⟩
    show ev_E g m_X10_daysUntilTurn 9 0 23 [some (ev_o 10 a), some (ev_i x0), none] [] S2 Q
    refine ev_iconst (0) dX10_daysUntilTurn_23 rfl ?_
    refine ev_istore_n dX10_daysUntilTurn_24 (Nat.le_of_ble_eq_true rfl) (ev_hw rfl) ?_
    show ev_E g m_X10_daysUntilTurn 9 0 25 [some (ev_o 10 a), some (ev_i x0), some (ev_i 0)] [] S2 Q
    exact hQ
  · rw [if_neg c1]
    replace hQ := hQ.2 c1
    refine ev_iconst (1) dX10_daysUntilTurn_10 rfl ?_
    refine ev_cV mv_X10_right 1 0 10 [ev_i 0, ev_i 1] [] dX10_daysUntilTurn_11 kw_1951 rfl (by decide) rfl (by decide) (by decide) (Nat.le_of_ble_eq_true rfl) (Q' := fun o z => ev_After g m_X10_daysUntilTurn 9 (0 - 0) 11 [some (ev_o 10 a), some (ev_i x0), none] [] z Q o) (sg_X10_right_0 a 0 1 ?_) (fun o z h => h) rfl
    refine j_pos (by rw [j_rs hS1] <;> decide : ((S1.1 a 7) = 0)) ?_
    refine j_pos (by decide : ((0 : Int32) = 0)) ?_
    intro S3 hS3
    refine ev_sub1 hQ hS3 (fun hQ => ?_)
    refine j_neg (by decide : ¬ ((1 : Int32) = 0)) ?_
    show ev_E g m_X10_daysUntilTurn 9 0 14 [some (ev_o 10 a), some (ev_i x0), none] [ev_i 0] S3 Q
    refine ev_if_ne 19 dX10_daysUntilTurn_14 (by decide) (fun h9 => absurd (by decide : ((0 : Int32) = 0)) h9) (fun _ => ?_)
    refine ev_iconst (0) dX10_daysUntilTurn_17 rfl ?_
    exact ev_ireturn .int dX10_daysUntilTurn_18 rfl rfl hQ
set_option maxHeartbeats 4000000 in
set_option maxRecDepth 100000 in
theorem sg_X10_daysUntilTurn_25 {g : ev_G} {S : ev_S} {Q : ev_O → ev_S → Prop} (a : Nat) (u1 : Int32) (u2 : Int32) (hQ : (400 < u2 → (
    ev_Cv g m_X10_back 1 0 [ev_o 10 a, ev_i (-1)] S (fun o S1 => ∃ v1_ : Int32, o = .inl (some (ev_i v1_)) ∧ (
      Q (.inl (some (ev_i v1_))) S1)))) ∧
  (¬ (400 < u2) → (
    ev_Cv g m_X10_turnOf 4 0 [ev_o 10 a, ev_i u1] S (fun o S2 => ∃ v2_ : Bool, o = .inl (some (ev_i (if v2_ = true then 1 else 0))) ∧ (
      (v2_ = true → (
        ev_Cv g m_X10_back 1 0 [ev_o 10 a, ev_i u2] S2 (fun o S3 => ∃ v3_ : Int32, o = .inl (some (ev_i v3_)) ∧ (
          Q (.inl (some (ev_i v3_))) S3)))) ∧
      (¬ (v2_ = true) → (
        ev_Cv g m_X10_dayPasses 8 0 [ev_o 10 a] S2 (fun o S4 => o = .inl none ∧ (
          ev_E g m_X10_daysUntilTurn 9 0 25 [some (ev_o 10 a), some (ev_i u1), some (ev_i (u2 + 1))] [] S4 Q))))))))) : ev_E g m_X10_daysUntilTurn 9 0 25 [some (ev_o 10 a), some (ev_i u1), some (ev_i u2)] [] S Q := by
  refine ev_iload_n (u2) dX10_daysUntilTurn_25 rfl ?_
  refine ev_sipush (400) dX10_daysUntilTurn_26 (by decide) ?_
  refine ev_icmp_gt 56 dX10_daysUntilTurn_29 (by decide) (fun c1 => ?_) (fun c1 => ?_)
  · replace hQ := hQ.1 c1
    refine ev_aload_n (ev_o 10 a) dX10_daysUntilTurn_56 rfl rfl ?_
    refine ev_iconst (-1) dX10_daysUntilTurn_57 rfl ?_
    refine ev_cV mv_X10_back 1 0 10 [ev_i (-1)] [] dX10_daysUntilTurn_58 kw_2357 rfl (by decide) rfl (by decide) (by decide) (Nat.le_of_ble_eq_true rfl) hQ ?_ rfl
    rintro o S1 ⟨v1_, rfl, hQ⟩
    show ev_E g m_X10_daysUntilTurn 9 0 61 [some (ev_o 10 a), some (ev_i u1), some (ev_i u2)] [ev_i v1_] S1 Q
    exact ev_ireturn .int dX10_daysUntilTurn_61 rfl rfl hQ
  · replace hQ := hQ.2 c1
    refine ev_aload_n (ev_o 10 a) dX10_daysUntilTurn_32 rfl rfl ?_
    refine ev_iload_n (u1) dX10_daysUntilTurn_33 rfl ?_
    refine ev_cV mv_X10_turnOf 4 0 10 [ev_i u1] [] dX10_daysUntilTurn_34 kw_2040 rfl (by decide) rfl (by decide) (by decide) (Nat.le_of_ble_eq_true rfl) hQ ?_ rfl
    rintro o S2 ⟨v2_, rfl, hQ⟩
    show ev_E g m_X10_daysUntilTurn 9 0 37 [some (ev_o 10 a), some (ev_i u1), some (ev_i u2)] [ev_i (if v2_ = true then 1 else 0)] S2 Q
    by_cases c2 : v2_ = true
    · rw [if_pos c2]
      replace hQ := hQ.1 c2
      refine ev_if_eq 46 dX10_daysUntilTurn_37 (by decide) (fun h9 => absurd h9 (by decide : ¬ ((1 : Int32) = 0))) (fun _ => ?_)
      refine ev_aload_n (ev_o 10 a) dX10_daysUntilTurn_40 rfl rfl ?_
      refine ev_iload_n (u2) dX10_daysUntilTurn_41 rfl ?_
      refine ev_cV mv_X10_back 1 0 10 [ev_i u2] [] dX10_daysUntilTurn_42 kw_2357 rfl (by decide) rfl (by decide) (by decide) (Nat.le_of_ble_eq_true rfl) hQ ?_ rfl
      rintro o S3 ⟨v3_, rfl, hQ⟩
      show ev_E g m_X10_daysUntilTurn 9 0 45 [some (ev_o 10 a), some (ev_i u1), some (ev_i u2)] [ev_i v3_] S3 Q
      exact ev_ireturn .int dX10_daysUntilTurn_45 rfl rfl hQ
    · rw [if_neg c2]
      replace hQ := hQ.2 c2
      refine ev_if_eq 46 dX10_daysUntilTurn_37 (by decide) (fun _ => ?_) (fun h9 => absurd (by decide : ((0 : Int32) = 0)) h9)
      refine ev_aload_n (ev_o 10 a) dX10_daysUntilTurn_46 rfl rfl ?_
      refine ev_cV mv_X10_dayPasses 8 0 10 [] [] dX10_daysUntilTurn_47 kw_2137 rfl (by decide) rfl (by decide) (by decide) (Nat.le_of_ble_eq_true rfl) hQ ?_ rfl
      rintro o S4 ⟨rfl, hQ⟩
      show ev_E g m_X10_daysUntilTurn 9 0 50 [some (ev_o 10 a), some (ev_i u1), some (ev_i u2)] [] S4 Q
      refine ev_iinc u2 (1) dX10_daysUntilTurn_50 rfl (by decide) (ev_hw rfl) ?_
      show ev_E g m_X10_daysUntilTurn 9 0 53 [some (ev_o 10 a), some (ev_i u1), some (ev_i (u2 + 1))] [] S4 Q
      refine ev_goto 25 dX10_daysUntilTurn_53 (by decide) ?_
      exact hQ
