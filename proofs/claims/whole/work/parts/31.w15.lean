set_option maxHeartbeats 4000000 in
set_option maxRecDepth 100000 in
theorem sg_L_travelDays_0 {g : ev_G} {S : ev_S} {Q : ev_O → ev_S → Prop} (b0 : Nat) (x1 : Int32) (b2 : Nat) (hQ : ev_Cv g m_X9_travelDays 4 1 [ev_o 9 b0, ev_i x1] S (fun o S1 => (∃ v1_ : Int32, o = .inl (some (ev_i v1_)) ∧ (
    ∀ S2 : ev_S, S2 = (S1.1, (v1_.toInt64, S1.2.2)) → (
      Q (.inl (some (ev_i 0))) S2))) ∨ (o = .inr 0 ∧ (
    Q (.inl (some (ev_i 1))) S1)))) : ev_Cv g m_L_travelDays 5 1 [ev_o 9 b0, ev_i x1, ev_o 21 b2] S Q := by
  refine ev_enter (by decide) rfl rfl (Nat.le_of_ble_eq_true rfl) ?_
  show ev_E g m_L_travelDays 5 1 0 [some (ev_o 9 b0), some (ev_i x1), some (ev_o 21 b2), none] [] S Q
  refine ev_aload_n (ev_o 21 b2) dL_travelDays_0 rfl rfl ?_
  refine ev_iconst (0) dL_travelDays_1 rfl ?_
  refine ev_aload_n (ev_o 9 b0) dL_travelDays_2 rfl rfl ?_
  refine ev_iload_n (x1) dL_travelDays_3 rfl ?_
  refine ev_cV mv_X9_travelDays 4 1 9 [ev_i x1] [ev_i 0, ev_o 21 b2] dL_travelDays_4 kw_1483 rfl (by decide) rfl (by decide) (by decide) (Nat.le_of_ble_eq_true rfl) hQ ?_ rfl
  rintro o S1 (⟨v1_, rfl, hQ⟩ | ⟨rfl, hQ⟩)
  · show ev_E g m_L_travelDays 5 0 7 [some (ev_o 9 b0), some (ev_i x1), some (ev_o 21 b2), none] [ev_i v1_, ev_i 0, ev_o 21 b2] S1 Q
    refine ev_i2l dL_travelDays_7 ?_
    refine ev_lastore dL_travelDays_8 ?_
    refine ev_sub hQ (fun S2 hS2 hQ => ?_)
    refine ev_E.goal (pc' := 9) (L' := [some (ev_o 9 b0), some (ev_i x1), some (ev_o 21 b2), none]) (K' := []) (S' := S2) ?_ rfl rfl rfl hS2
    refine ev_goto 15 dL_travelDays_9 (by decide) ?_
    refine ev_iconst (0) dL_travelDays_15 rfl ?_
    exact ev_ireturn .int dL_travelDays_16 rfl rfl hQ
  · show ev_T g m_L_travelDays 5 0 4 [some (ev_o 9 b0), some (ev_i x1), some (ev_o 21 b2), none] S1 0 Q
    refine ev_T_catch [] (⟨0, 9, 12, 25⟩) [] "" rfl (by intro z hz; cases hz) rfl (by decide) kw_1336 jc_0 (fun q => ?_)
    show ev_E g m_L_travelDays 5 0 12 [some (ev_o 9 b0), some (ev_i x1), some (ev_o 21 b2), none] [ev_x 4 q] S1 Q
    refine ev_astore_n dL_travelDays_12 rfl (Nat.le_of_ble_eq_true rfl) (ev_hw rfl) ?_
    show ev_E g m_L_travelDays 5 0 13 [some (ev_o 9 b0), some (ev_i x1), some (ev_o 21 b2), some (ev_x 4 q)] [] S1 Q
    refine ev_iconst (1) dL_travelDays_13 rfl ?_
    exact ev_ireturn .int dL_travelDays_14 rfl rfl hQ
set_option maxHeartbeats 4000000 in
set_option maxRecDepth 100000 in
theorem sg_L_mules_0 {g : ev_G} {S : ev_S} {Q : ev_O → ev_S → Prop} (b0 : Nat) (x1 : Int32) (x2 : Int32) (b3 : Nat) (hQ : ev_Cv g m_X9_mules 3 1 [ev_o 9 b0, ev_i x1, ev_i x2] S (fun o S1 => (∃ v1_ : Int32, o = .inl (some (ev_i v1_)) ∧ (
    ∀ S2 : ev_S, S2 = (S1.1, (v1_.toInt64, S1.2.2)) → (
      Q (.inl (some (ev_i 0))) S2))) ∨ (o = .inr 0 ∧ (
    Q (.inl (some (ev_i 1))) S1)))) : ev_Cv g m_L_mules 4 1 [ev_o 9 b0, ev_i x1, ev_i x2, ev_o 21 b3] S Q := by
  refine ev_enter (by decide) rfl rfl (Nat.le_of_ble_eq_true rfl) ?_
  show ev_E g m_L_mules 4 1 0 [some (ev_o 9 b0), some (ev_i x1), some (ev_i x2), some (ev_o 21 b3), none] [] S Q
  refine ev_aload_n (ev_o 21 b3) dL_mules_0 rfl rfl ?_
  refine ev_iconst (0) dL_mules_1 rfl ?_
  refine ev_aload_n (ev_o 9 b0) dL_mules_2 rfl rfl ?_
  refine ev_iload_n (x1) dL_mules_3 rfl ?_
  refine ev_iload_n (x2) dL_mules_4 rfl ?_
  refine ev_cV mv_X9_mules 3 1 9 [ev_i x1, ev_i x2] [ev_i 0, ev_o 21 b3] dL_mules_5 kw_1491 rfl (by decide) rfl (by decide) (by decide) (Nat.le_of_ble_eq_true rfl) hQ ?_ rfl
  rintro o S1 (⟨v1_, rfl, hQ⟩ | ⟨rfl, hQ⟩)
  · show ev_E g m_L_mules 4 0 8 [some (ev_o 9 b0), some (ev_i x1), some (ev_i x2), some (ev_o 21 b3), none] [ev_i v1_, ev_i 0, ev_o 21 b3] S1 Q
    refine ev_i2l dL_mules_8 ?_
    refine ev_lastore dL_mules_9 ?_
    refine ev_sub hQ (fun S2 hS2 hQ => ?_)
    refine ev_E.goal (pc' := 10) (L' := [some (ev_o 9 b0), some (ev_i x1), some (ev_i x2), some (ev_o 21 b3), none]) (K' := []) (S' := S2) ?_ rfl rfl rfl hS2
    refine ev_goto 17 dL_mules_10 (by decide) ?_
    refine ev_iconst (0) dL_mules_17 rfl ?_
    exact ev_ireturn .int dL_mules_18 rfl rfl hQ
  · show ev_T g m_L_mules 4 0 5 [some (ev_o 9 b0), some (ev_i x1), some (ev_i x2), some (ev_o 21 b3), none] S1 0 Q
    refine ev_T_catch [] (⟨0, 10, 13, 25⟩) [] "" rfl (by intro z hz; cases hz) rfl (by decide) kw_1336 jc_0 (fun q => ?_)
    show ev_E g m_L_mules 4 0 13 [some (ev_o 9 b0), some (ev_i x1), some (ev_i x2), some (ev_o 21 b3), none] [ev_x 4 q] S1 Q
    refine ev_astore dL_mules_13 rfl (Nat.le_of_ble_eq_true rfl) (ev_hw rfl) ?_
    show ev_E g m_L_mules 4 0 15 [some (ev_o 9 b0), some (ev_i x1), some (ev_i x2), some (ev_o 21 b3), some (ev_x 4 q)] [] S1 Q
    refine ev_iconst (1) dL_mules_15 rfl ?_
    exact ev_ireturn .int dL_mules_16 rfl rfl hQ
set_option maxHeartbeats 4000000 in
set_option maxRecDepth 100000 in
theorem sg_L_queueLength_0 {g : ev_G} {S : ev_S} {Q : ev_O → ev_S → Prop} (b0 : Nat) (x1 : Int32) (x2 : Int32) (b3 : Nat) (hQ : ev_Cv g m_X9_queueLength 3 1 [ev_o 9 b0, ev_i x1, ev_i x2] S (fun o S1 => (∃ v1_ : Int32, o = .inl (some (ev_i v1_)) ∧ (
    ∀ S2 : ev_S, S2 = (S1.1, (v1_.toInt64, S1.2.2)) → (
      Q (.inl (some (ev_i 0))) S2))) ∨ (o = .inr 0 ∧ (
    Q (.inl (some (ev_i 1))) S1)))) : ev_Cv g m_L_queueLength 4 1 [ev_o 9 b0, ev_i x1, ev_i x2, ev_o 21 b3] S Q := by
  refine ev_enter (by decide) rfl rfl (Nat.le_of_ble_eq_true rfl) ?_
  show ev_E g m_L_queueLength 4 1 0 [some (ev_o 9 b0), some (ev_i x1), some (ev_i x2), some (ev_o 21 b3), none] [] S Q
  refine ev_aload_n (ev_o 21 b3) dL_queueLength_0 rfl rfl ?_
  refine ev_iconst (0) dL_queueLength_1 rfl ?_
  refine ev_aload_n (ev_o 9 b0) dL_queueLength_2 rfl rfl ?_
  refine ev_iload_n (x1) dL_queueLength_3 rfl ?_
  refine ev_iload_n (x2) dL_queueLength_4 rfl ?_
  refine ev_cV mv_X9_queueLength 3 1 9 [ev_i x1, ev_i x2] [ev_i 0, ev_o 21 b3] dL_queueLength_5 kw_1499 rfl (by decide) rfl (by decide) (by decide) (Nat.le_of_ble_eq_true rfl) hQ ?_ rfl
  rintro o S1 (⟨v1_, rfl, hQ⟩ | ⟨rfl, hQ⟩)
  · show ev_E g m_L_queueLength 4 0 8 [some (ev_o 9 b0), some (ev_i x1), some (ev_i x2), some (ev_o 21 b3), none] [ev_i v1_, ev_i 0, ev_o 21 b3] S1 Q
    refine ev_i2l dL_queueLength_8 ?_
    refine ev_lastore dL_queueLength_9 ?_
    refine ev_sub hQ (fun S2 hS2 hQ => ?_)
    refine ev_E.goal (pc' := 10) (L' := [some (ev_o 9 b0), some (ev_i x1), some (ev_i x2), some (ev_o 21 b3), none]) (K' := []) (S' := S2) ?_ rfl rfl rfl hS2
    refine ev_goto 17 dL_queueLength_10 (by decide) ?_
    refine ev_iconst (0) dL_queueLength_17 rfl ?_
    exact ev_ireturn .int dL_queueLength_18 rfl rfl hQ
  · show ev_T g m_L_queueLength 4 0 5 [some (ev_o 9 b0), some (ev_i x1), some (ev_i x2), some (ev_o 21 b3), none] S1 0 Q
    refine ev_T_catch [] (⟨0, 10, 13, 25⟩) [] "" rfl (by intro z hz; cases hz) rfl (by decide) kw_1336 jc_0 (fun q => ?_)
    show ev_E g m_L_queueLength 4 0 13 [some (ev_o 9 b0), some (ev_i x1), some (ev_i x2), some (ev_o 21 b3), none] [ev_x 4 q] S1 Q
    refine ev_astore dL_queueLength_13 rfl (Nat.le_of_ble_eq_true rfl) (ev_hw rfl) ?_
    show ev_E g m_L_queueLength 4 0 15 [some (ev_o 9 b0), some (ev_i x1), some (ev_i x2), some (ev_o 21 b3), some (ev_x 4 q)] [] S1 Q
    refine ev_iconst (1) dL_queueLength_15 rfl ?_
    exact ev_ireturn .int dL_queueLength_16 rfl rfl hQ
set_option maxHeartbeats 4000000 in
set_option maxRecDepth 100000 in
theorem sg_L_writer_0 {g : ev_G} {S : ev_S} {Q : ev_O → ev_S → Prop} (b0 : Nat) (x1 : Int32) (b2 : Nat) (hQ : ev_Cv g m_X9_writer 3 1 [ev_o 9 b0, ev_i x1] S (fun o S1 => (∃ v1_ : Int32, o = .inl (some (ev_i v1_)) ∧ (
    ∀ S2 : ev_S, S2 = (S1.1, (v1_.toInt64, S1.2.2)) → (
      Q (.inl (some (ev_i 0))) S2))) ∨ (o = .inr 0 ∧ (
    Q (.inl (some (ev_i 1))) S1)))) : ev_Cv g m_L_writer 4 1 [ev_o 9 b0, ev_i x1, ev_o 21 b2] S Q := by
  refine ev_enter (by decide) rfl rfl (Nat.le_of_ble_eq_true rfl) ?_
  show ev_E g m_L_writer 4 1 0 [some (ev_o 9 b0), some (ev_i x1), some (ev_o 21 b2), none] [] S Q
  refine ev_aload_n (ev_o 21 b2) dL_writer_0 rfl rfl ?_
  refine ev_iconst (0) dL_writer_1 rfl ?_
  refine ev_aload_n (ev_o 9 b0) dL_writer_2 rfl rfl ?_
  refine ev_iload_n (x1) dL_writer_3 rfl ?_
  refine ev_cV mv_X9_writer 3 1 9 [ev_i x1] [ev_i 0, ev_o 21 b2] dL_writer_4 kw_1507 rfl (by decide) rfl (by decide) (by decide) (Nat.le_of_ble_eq_true rfl) hQ ?_ rfl
  rintro o S1 (⟨v1_, rfl, hQ⟩ | ⟨rfl, hQ⟩)
  · show ev_E g m_L_writer 4 0 7 [some (ev_o 9 b0), some (ev_i x1), some (ev_o 21 b2), none] [ev_i v1_, ev_i 0, ev_o 21 b2] S1 Q
    refine ev_i2l dL_writer_7 ?_
    refine ev_lastore dL_writer_8 ?_
    refine ev_sub hQ (fun S2 hS2 hQ => ?_)
    refine ev_E.goal (pc' := 9) (L' := [some (ev_o 9 b0), some (ev_i x1), some (ev_o 21 b2), none]) (K' := []) (S' := S2) ?_ rfl rfl rfl hS2
    refine ev_goto 15 dL_writer_9 (by decide) ?_
    refine ev_iconst (0) dL_writer_15 rfl ?_
    exact ev_ireturn .int dL_writer_16 rfl rfl hQ
  · show ev_T g m_L_writer 4 0 4 [some (ev_o 9 b0), some (ev_i x1), some (ev_o 21 b2), none] S1 0 Q
    refine ev_T_catch [] (⟨0, 9, 12, 25⟩) [] "" rfl (by intro z hz; cases hz) rfl (by decide) kw_1336 jc_0 (fun q => ?_)
    show ev_E g m_L_writer 4 0 12 [some (ev_o 9 b0), some (ev_i x1), some (ev_o 21 b2), none] [ev_x 4 q] S1 Q
    refine ev_astore_n dL_writer_12 rfl (Nat.le_of_ble_eq_true rfl) (ev_hw rfl) ?_
    show ev_E g m_L_writer 4 0 13 [some (ev_o 9 b0), some (ev_i x1), some (ev_o 21 b2), some (ev_x 4 q)] [] S1 Q
    refine ev_iconst (1) dL_writer_13 rfl ?_
    exact ev_ireturn .int dL_writer_14 rfl rfl hQ
set_option maxHeartbeats 4000000 in
set_option maxRecDepth 100000 in
theorem sg_L_letterNumber_0 {g : ev_G} {S : ev_S} {Q : ev_O → ev_S → Prop} (b0 : Nat) (x1 : Int32) (b2 : Nat) (hQ : ev_Cv g m_X9_letterNumber 3 1 [ev_o 9 b0, ev_i x1] S (fun o S1 => (∃ v1_ : Int32, o = .inl (some (ev_i v1_)) ∧ (
    ∀ S2 : ev_S, S2 = (S1.1, (v1_.toInt64, S1.2.2)) → (
      Q (.inl (some (ev_i 0))) S2))) ∨ (o = .inr 0 ∧ (
    Q (.inl (some (ev_i 1))) S1)))) : ev_Cv g m_L_letterNumber 4 1 [ev_o 9 b0, ev_i x1, ev_o 21 b2] S Q := by
  refine ev_enter (by decide) rfl rfl (Nat.le_of_ble_eq_true rfl) ?_
  show ev_E g m_L_letterNumber 4 1 0 [some (ev_o 9 b0), some (ev_i x1), some (ev_o 21 b2), none] [] S Q
  refine ev_aload_n (ev_o 21 b2) dL_letterNumber_0 rfl rfl ?_
  refine ev_iconst (0) dL_letterNumber_1 rfl ?_
  refine ev_aload_n (ev_o 9 b0) dL_letterNumber_2 rfl rfl ?_
  refine ev_iload_n (x1) dL_letterNumber_3 rfl ?_
  refine ev_cV mv_X9_letterNumber 3 1 9 [ev_i x1] [ev_i 0, ev_o 21 b2] dL_letterNumber_4 kw_1516 rfl (by decide) rfl (by decide) (by decide) (Nat.le_of_ble_eq_true rfl) hQ ?_ rfl
  rintro o S1 (⟨v1_, rfl, hQ⟩ | ⟨rfl, hQ⟩)
  · show ev_E g m_L_letterNumber 4 0 7 [some (ev_o 9 b0), some (ev_i x1), some (ev_o 21 b2), none] [ev_i v1_, ev_i 0, ev_o 21 b2] S1 Q
    refine ev_i2l dL_letterNumber_7 ?_
    refine ev_lastore dL_letterNumber_8 ?_
    refine ev_sub hQ (fun S2 hS2 hQ => ?_)
    refine ev_E.goal (pc' := 9) (L' := [some (ev_o 9 b0), some (ev_i x1), some (ev_o 21 b2), none]) (K' := []) (S' := S2) ?_ rfl rfl rfl hS2
    refine ev_goto 15 dL_letterNumber_9 (by decide) ?_
    refine ev_iconst (0) dL_letterNumber_15 rfl ?_
    exact ev_ireturn .int dL_letterNumber_16 rfl rfl hQ
  · show ev_T g m_L_letterNumber 4 0 4 [some (ev_o 9 b0), some (ev_i x1), some (ev_o 21 b2), none] S1 0 Q
    refine ev_T_catch [] (⟨0, 9, 12, 25⟩) [] "" rfl (by intro z hz; cases hz) rfl (by decide) kw_1336 jc_0 (fun q => ?_)
    show ev_E g m_L_letterNumber 4 0 12 [some (ev_o 9 b0), some (ev_i x1), some (ev_o 21 b2), none] [ev_x 4 q] S1 Q
    refine ev_astore_n dL_letterNumber_12 rfl (Nat.le_of_ble_eq_true rfl) (ev_hw rfl) ?_
    show ev_E g m_L_letterNumber 4 0 13 [some (ev_o 9 b0), some (ev_i x1), some (ev_o 21 b2), some (ev_x 4 q)] [] S1 Q
    refine ev_iconst (1) dL_letterNumber_13 rfl ?_
    exact ev_ireturn .int dL_letterNumber_14 rfl rfl hQ
set_option maxHeartbeats 4000000 in
set_option maxRecDepth 100000 in
theorem sg_L_isPromise_0 {g : ev_G} {S : ev_S} {Q : ev_O → ev_S → Prop} (b0 : Nat) (x1 : Int32) (b2 : Nat) (hQ : ev_Cv g m_X9_isPromise 3 1 [ev_o 9 b0, ev_i x1] S (fun o S1 => (∃ v1_ : Bool, o = .inl (some (ev_i (if v1_ = true then 1 else 0))) ∧ (
    (v1_ = true → (
      ∀ S2 : ev_S, S2 = (S1.1, (1, S1.2.2)) → (
        Q (.inl (some (ev_i 0))) S2))) ∧
    (¬ (v1_ = true) → (
      ∀ S3 : ev_S, S3 = (S1.1, (0, S1.2.2)) → (
        Q (.inl (some (ev_i 0))) S3))))) ∨ (o = .inr 0 ∧ (
    Q (.inl (some (ev_i 1))) S1)))) : ev_Cv g m_L_isPromise 4 1 [ev_o 9 b0, ev_i x1, ev_o 21 b2] S Q := by
  refine ev_enter (by decide) rfl rfl (Nat.le_of_ble_eq_true rfl) ?_
  show ev_E g m_L_isPromise 4 1 0 [some (ev_o 9 b0), some (ev_i x1), some (ev_o 21 b2), none] [] S Q
  refine ev_aload_n (ev_o 21 b2) dL_isPromise_0 rfl rfl ?_
  refine ev_iconst (0) dL_isPromise_1 rfl ?_
  refine ev_aload_n (ev_o 9 b0) dL_isPromise_2 rfl rfl ?_
  refine ev_iload_n (x1) dL_isPromise_3 rfl ?_
  refine ev_cV mv_X9_isPromise 3 1 9 [ev_i x1] [ev_i 0, ev_o 21 b2] dL_isPromise_4 kw_1524 rfl (by decide) rfl (by decide) (by decide) (Nat.le_of_ble_eq_true rfl) hQ ?_ rfl
  rintro o S1 (⟨v1_, rfl, hQ⟩ | ⟨rfl, hQ⟩)
  · show ev_E g m_L_isPromise 4 0 7 [some (ev_o 9 b0), some (ev_i x1), some (ev_o 21 b2), none] [ev_i (if v1_ = true then 1 else 0), ev_i 0, ev_o 21 b2] S1 Q
    by_cases c1 : v1_ = true
    · rw [if_pos c1]
      replace hQ := hQ.1 c1
      refine ev_if_eq 14 dL_isPromise_7 (by decide) (fun h9 => absurd h9 (by decide : ¬ ((1 : Int32) = 0))) (fun _ => ?_)
      refine ev_lconst (1) dL_isPromise_10 rfl ?_
      refine ev_goto 15 dL_isPromise_11 (by decide) ?_
      refine ev_lastore dL_isPromise_15 ?_
      refine ev_sub hQ (fun S2 hS2 hQ => ?_)
      refine ev_E.goal (pc' := 16) (L' := [some (ev_o 9 b0), some (ev_i x1), some (ev_o 21 b2), none]) (K' := []) (S' := S2) ?_ rfl rfl rfl hS2
      refine ev_goto 22 dL_isPromise_16 (by decide) ?_
      refine ev_iconst (0) dL_isPromise_22 rfl ?_
      exact ev_ireturn .int dL_isPromise_23 rfl rfl hQ
    · rw [if_neg c1]
      replace hQ := hQ.2 c1
      refine ev_if_eq 14 dL_isPromise_7 (by decide) (fun _ => ?_) (fun h9 => absurd (by decide : ((0 : Int32) = 0)) h9)
      refine ev_lconst (0) dL_isPromise_14 rfl ?_
      refine ev_lastore dL_isPromise_15 ?_
      refine ev_sub hQ (fun S3 hS3 hQ => ?_)
      refine ev_E.goal (pc' := 16) (L' := [some (ev_o 9 b0), some (ev_i x1), some (ev_o 21 b2), none]) (K' := []) (S' := S3) ?_ rfl rfl rfl hS3
      refine ev_goto 22 dL_isPromise_16 (by decide) ?_
      refine ev_iconst (0) dL_isPromise_22 rfl ?_
      exact ev_ireturn .int dL_isPromise_23 rfl rfl hQ
  · show ev_T g m_L_isPromise 4 0 4 [some (ev_o 9 b0), some (ev_i x1), some (ev_o 21 b2), none] S1 0 Q
    refine ev_T_catch [] (⟨0, 16, 19, 25⟩) [] "" rfl (by intro z hz; cases hz) rfl (by decide) kw_1336 jc_0 (fun q => ?_)
    show ev_E g m_L_isPromise 4 0 19 [some (ev_o 9 b0), some (ev_i x1), some (ev_o 21 b2), none] [ev_x 4 q] S1 Q
    refine ev_astore_n dL_isPromise_19 rfl (Nat.le_of_ble_eq_true rfl) (ev_hw rfl) ?_
    show ev_E g m_L_isPromise 4 0 20 [some (ev_o 9 b0), some (ev_i x1), some (ev_o 21 b2), some (ev_x 4 q)] [] S1 Q
    refine ev_iconst (1) dL_isPromise_20 rfl ?_
    exact ev_ireturn .int dL_isPromise_21 rfl rfl hQ
set_option maxHeartbeats 4000000 in
set_option maxRecDepth 100000 in
theorem sg_L_letterState_0 {g : ev_G} {S : ev_S} {Q : ev_O → ev_S → Prop} (b0 : Nat) (x1 : Int32) (b2 : Nat) (hQ : ev_Cv g m_X9_letterState 3 1 [ev_o 9 b0, ev_i x1] S (fun o S1 => (∃ v1_ : Int32, o = .inl (some (ev_i v1_)) ∧ (
    ∀ S2 : ev_S, S2 = (S1.1, (v1_.toInt64, S1.2.2)) → (
      Q (.inl (some (ev_i 0))) S2))) ∨ (o = .inr 0 ∧ (
    Q (.inl (some (ev_i 1))) S1)))) : ev_Cv g m_L_letterState 4 1 [ev_o 9 b0, ev_i x1, ev_o 21 b2] S Q := by
  refine ev_enter (by decide) rfl rfl (Nat.le_of_ble_eq_true rfl) ?_
  show ev_E g m_L_letterState 4 1 0 [some (ev_o 9 b0), some (ev_i x1), some (ev_o 21 b2), none] [] S Q
  refine ev_aload_n (ev_o 21 b2) dL_letterState_0 rfl rfl ?_
  refine ev_iconst (0) dL_letterState_1 rfl ?_
  refine ev_aload_n (ev_o 9 b0) dL_letterState_2 rfl rfl ?_
  refine ev_iload_n (x1) dL_letterState_3 rfl ?_
  refine ev_cV mv_X9_letterState 3 1 9 [ev_i x1] [ev_i 0, ev_o 21 b2] dL_letterState_4 kw_1532 rfl (by decide) rfl (by decide) (by decide) (Nat.le_of_ble_eq_true rfl) hQ ?_ rfl
  rintro o S1 (⟨v1_, rfl, hQ⟩ | ⟨rfl, hQ⟩)
  · show ev_E g m_L_letterState 4 0 7 [some (ev_o 9 b0), some (ev_i x1), some (ev_o 21 b2), none] [ev_i v1_, ev_i 0, ev_o 21 b2] S1 Q
    refine ev_i2l dL_letterState_7 ?_
    refine ev_lastore dL_letterState_8 ?_
    refine ev_sub hQ (fun S2 hS2 hQ => ?_)
    refine ev_E.goal (pc' := 9) (L' := [some (ev_o 9 b0), some (ev_i x1), some (ev_o 21 b2), none]) (K' := []) (S' := S2) ?_ rfl rfl rfl hS2
    refine ev_goto 15 dL_letterState_9 (by decide) ?_
    refine ev_iconst (0) dL_letterState_15 rfl ?_
    exact ev_ireturn .int dL_letterState_16 rfl rfl hQ
  · show ev_T g m_L_letterState 4 0 4 [some (ev_o 9 b0), some (ev_i x1), some (ev_o 21 b2), none] S1 0 Q
    refine ev_T_catch [] (⟨0, 9, 12, 25⟩) [] "" rfl (by intro z hz; cases hz) rfl (by decide) kw_1336 jc_0 (fun q => ?_)
    show ev_E g m_L_letterState 4 0 12 [some (ev_o 9 b0), some (ev_i x1), some (ev_o 21 b2), none] [ev_x 4 q] S1 Q
    refine ev_astore_n dL_letterState_12 rfl (Nat.le_of_ble_eq_true rfl) (ev_hw rfl) ?_
    show ev_E g m_L_letterState 4 0 13 [some (ev_o 9 b0), some (ev_i x1), some (ev_o 21 b2), some (ev_x 4 q)] [] S1 Q
    refine ev_iconst (1) dL_letterState_13 rfl ?_
    exact ev_ireturn .int dL_letterState_14 rfl rfl hQ
set_option maxHeartbeats 4000000 in
set_option maxRecDepth 100000 in
theorem sg_L_awaitedLetter_0 {g : ev_G} {S : ev_S} {Q : ev_O → ev_S → Prop} (b0 : Nat) (x1 : Int32) (b2 : Nat) (hQ : ev_Cv g m_X9_awaitedLetter 4 1 [ev_o 9 b0, ev_i x1] S (fun o S1 => (∃ v1_ : Int32, o = .inl (some (ev_i v1_)) ∧ (
    ∀ S2 : ev_S, S2 = (S1.1, (v1_.toInt64, S1.2.2)) → (
      Q (.inl (some (ev_i 0))) S2))) ∨ (o = .inr 0 ∧ (
    Q (.inl (some (ev_i 1))) S1)))) : ev_Cv g m_L_awaitedLetter 5 1 [ev_o 9 b0, ev_i x1, ev_o 21 b2] S Q := by
  refine ev_enter (by decide) rfl rfl (Nat.le_of_ble_eq_true rfl) ?_
  show ev_E g m_L_awaitedLetter 5 1 0 [some (ev_o 9 b0), some (ev_i x1), some (ev_o 21 b2), none] [] S Q
  refine ev_aload_n (ev_o 21 b2) dL_awaitedLetter_0 rfl rfl ?_
  refine ev_iconst (0) dL_awaitedLetter_1 rfl ?_
  refine ev_aload_n (ev_o 9 b0) dL_awaitedLetter_2 rfl rfl ?_
  refine ev_iload_n (x1) dL_awaitedLetter_3 rfl ?_
  refine ev_cV mv_X9_awaitedLetter 4 1 9 [ev_i x1] [ev_i 0, ev_o 21 b2] dL_awaitedLetter_4 kw_1540 rfl (by decide) rfl (by decide) (by decide) (Nat.le_of_ble_eq_true rfl) hQ ?_ rfl
  rintro o S1 (⟨v1_, rfl, hQ⟩ | ⟨rfl, hQ⟩)
  · show ev_E g m_L_awaitedLetter 5 0 7 [some (ev_o 9 b0), some (ev_i x1), some (ev_o 21 b2), none] [ev_i v1_, ev_i 0, ev_o 21 b2] S1 Q
    refine ev_i2l dL_awaitedLetter_7 ?_
    refine ev_lastore dL_awaitedLetter_8 ?_
    refine ev_sub hQ (fun S2 hS2 hQ => ?_)
    refine ev_E.goal (pc' := 9) (L' := [some (ev_o 9 b0), some (ev_i x1), some (ev_o 21 b2), none]) (K' := []) (S' := S2) ?_ rfl rfl rfl hS2
    refine ev_goto 15 dL_awaitedLetter_9 (by decide) ?_
    refine ev_iconst (0) dL_awaitedLetter_15 rfl ?_
    exact ev_ireturn .int dL_awaitedLetter_16 rfl rfl hQ
  · show ev_T g m_L_awaitedLetter 5 0 4 [some (ev_o 9 b0), some (ev_i x1), some (ev_o 21 b2), none] S1 0 Q
    refine ev_T_catch [] (⟨0, 9, 12, 25⟩) [] "" rfl (by intro z hz; cases hz) rfl (by decide) kw_1336 jc_0 (fun q => ?_)
    show ev_E g m_L_awaitedLetter 5 0 12 [some (ev_o 9 b0), some (ev_i x1), some (ev_o 21 b2), none] [ev_x 4 q] S1 Q
    refine ev_astore_n dL_awaitedLetter_12 rfl (Nat.le_of_ble_eq_true rfl) (ev_hw rfl) ?_
    show ev_E g m_L_awaitedLetter 5 0 13 [some (ev_o 9 b0), some (ev_i x1), some (ev_o 21 b2), some (ev_x 4 q)] [] S1 Q
    refine ev_iconst (1) dL_awaitedLetter_13 rfl ?_
    exact ev_ireturn .int dL_awaitedLetter_14 rfl rfl hQ
set_option maxHeartbeats 4000000 in
set_option maxRecDepth 100000 in
theorem sg_L_reasonToWait_0 {g : ev_G} {S : ev_S} {Q : ev_O → ev_S → Prop} (b0 : Nat) (x1 : Int32) (b2 : Nat) (hQ : ev_Cv g m_X9_reasonToWait 5 1 [ev_o 9 b0, ev_i x1] S (fun o S1 => (∃ v1_ : Int32, o = .inl (some (ev_i v1_)) ∧ (
    ∀ S2 : ev_S, S2 = (S1.1, (v1_.toInt64, S1.2.2)) → (
      Q (.inl (some (ev_i 0))) S2))) ∨ (o = .inr 0 ∧ (
    Q (.inl (some (ev_i 1))) S1)))) : ev_Cv g m_L_reasonToWait 6 1 [ev_o 9 b0, ev_i x1, ev_o 21 b2] S Q := by
  refine ev_enter (by decide) rfl rfl (Nat.le_of_ble_eq_true rfl) ?_
  show ev_E g m_L_reasonToWait 6 1 0 [some (ev_o 9 b0), some (ev_i x1), some (ev_o 21 b2), none] [] S Q
  refine ev_aload_n (ev_o 21 b2) dL_reasonToWait_0 rfl rfl ?_
  refine ev_iconst (0) dL_reasonToWait_1 rfl ?_
  refine ev_aload_n (ev_o 9 b0) dL_reasonToWait_2 rfl rfl ?_
  refine ev_iload_n (x1) dL_reasonToWait_3 rfl ?_
  refine ev_cV mv_X9_reasonToWait 5 1 9 [ev_i x1] [ev_i 0, ev_o 21 b2] dL_reasonToWait_4 kw_1553 rfl (by decide) rfl (by decide) (by decide) (Nat.le_of_ble_eq_true rfl) hQ ?_ rfl
  rintro o S1 (⟨v1_, rfl, hQ⟩ | ⟨rfl, hQ⟩)
  · show ev_E g m_L_reasonToWait 6 0 7 [some (ev_o 9 b0), some (ev_i x1), some (ev_o 21 b2), none] [ev_i v1_, ev_i 0, ev_o 21 b2] S1 Q
    refine ev_i2l dL_reasonToWait_7 ?_
    refine ev_lastore dL_reasonToWait_8 ?_
    refine ev_sub hQ (fun S2 hS2 hQ => ?_)
    refine ev_E.goal (pc' := 9) (L' := [some (ev_o 9 b0), some (ev_i x1), some (ev_o 21 b2), none]) (K' := []) (S' := S2) ?_ rfl rfl rfl hS2
    refine ev_goto 15 dL_reasonToWait_9 (by decide) ?_
    refine ev_iconst (0) dL_reasonToWait_15 rfl ?_
    exact ev_ireturn .int dL_reasonToWait_16 rfl rfl hQ
  · show ev_T g m_L_reasonToWait 6 0 4 [some (ev_o 9 b0), some (ev_i x1), some (ev_o 21 b2), none] S1 0 Q
    refine ev_T_catch [] (⟨0, 9, 12, 25⟩) [] "" rfl (by intro z hz; cases hz) rfl (by decide) kw_1336 jc_0 (fun q => ?_)
    show ev_E g m_L_reasonToWait 6 0 12 [some (ev_o 9 b0), some (ev_i x1), some (ev_o 21 b2), none] [ev_x 4 q] S1 Q
    refine ev_astore_n dL_reasonToWait_12 rfl (Nat.le_of_ble_eq_true rfl) (ev_hw rfl) ?_
    show ev_E g m_L_reasonToWait 6 0 13 [some (ev_o 9 b0), some (ev_i x1), some (ev_o 21 b2), some (ev_x 4 q)] [] S1 Q
    refine ev_iconst (1) dL_reasonToWait_13 rfl ?_
    exact ev_ireturn .int dL_reasonToWait_14 rfl rfl hQ
set_option maxHeartbeats 4000000 in
set_option maxRecDepth 100000 in
theorem sg_L_keptPromises_0 {g : ev_G} {S : ev_S} {Q : ev_O → ev_S → Prop} (b0 : Nat) (x1 : Int32) (b2 : Nat) (hQ : ev_Cv g m_X9_keptPromises 2 1 [ev_o 9 b0, ev_i x1] S (fun o S1 => (∃ v1_ : Int32, o = .inl (some (ev_i v1_)) ∧ (
    ∀ S2 : ev_S, S2 = (S1.1, (v1_.toInt64, S1.2.2)) → (
      Q (.inl (some (ev_i 0))) S2))) ∨ (o = .inr 0 ∧ (
    Q (.inl (some (ev_i 1))) S1)))) : ev_Cv g m_L_keptPromises 3 1 [ev_o 9 b0, ev_i x1, ev_o 21 b2] S Q := by
  refine ev_enter (by decide) rfl rfl (Nat.le_of_ble_eq_true rfl) ?_
  show ev_E g m_L_keptPromises 3 1 0 [some (ev_o 9 b0), some (ev_i x1), some (ev_o 21 b2), none] [] S Q
  refine ev_aload_n (ev_o 21 b2) dL_keptPromises_0 rfl rfl ?_
  refine ev_iconst (0) dL_keptPromises_1 rfl ?_
  refine ev_aload_n (ev_o 9 b0) dL_keptPromises_2 rfl rfl ?_
  refine ev_iload_n (x1) dL_keptPromises_3 rfl ?_
  refine ev_cV mv_X9_keptPromises 2 1 9 [ev_i x1] [ev_i 0, ev_o 21 b2] dL_keptPromises_4 kw_1560 rfl (by decide) rfl (by decide) (by decide) (Nat.le_of_ble_eq_true rfl) hQ ?_ rfl
  rintro o S1 (⟨v1_, rfl, hQ⟩ | ⟨rfl, hQ⟩)
  · show ev_E g m_L_keptPromises 3 0 7 [some (ev_o 9 b0), some (ev_i x1), some (ev_o 21 b2), none] [ev_i v1_, ev_i 0, ev_o 21 b2] S1 Q
    refine ev_i2l dL_keptPromises_7 ?_
    refine ev_lastore dL_keptPromises_8 ?_
    refine ev_sub hQ (fun S2 hS2 hQ => ?_)
    refine ev_E.goal (pc' := 9) (L' := [some (ev_o 9 b0), some (ev_i x1), some (ev_o 21 b2), none]) (K' := []) (S' := S2) ?_ rfl rfl rfl hS2
    refine ev_goto 15 dL_keptPromises_9 (by decide) ?_
    refine ev_iconst (0) dL_keptPromises_15 rfl ?_
    exact ev_ireturn .int dL_keptPromises_16 rfl rfl hQ
  · show ev_T g m_L_keptPromises 3 0 4 [some (ev_o 9 b0), some (ev_i x1), some (ev_o 21 b2), none] S1 0 Q
    refine ev_T_catch [] (⟨0, 9, 12, 25⟩) [] "" rfl (by intro z hz; cases hz) rfl (by decide) kw_1336 jc_0 (fun q => ?_)
    show ev_E g m_L_keptPromises 3 0 12 [some (ev_o 9 b0), some (ev_i x1), some (ev_o 21 b2), none] [ev_x 4 q] S1 Q
    refine ev_astore_n dL_keptPromises_12 rfl (Nat.le_of_ble_eq_true rfl) (ev_hw rfl) ?_
    show ev_E g m_L_keptPromises 3 0 13 [some (ev_o 9 b0), some (ev_i x1), some (ev_o 21 b2), some (ev_x 4 q)] [] S1 Q
    refine ev_iconst (1) dL_keptPromises_13 rfl ?_
    exact ev_ireturn .int dL_keptPromises_14 rfl rfl hQ
set_option maxHeartbeats 4000000 in
set_option maxRecDepth 100000 in
theorem sg_L_longestWait_0 {g : ev_G} {S : ev_S} {Q : ev_O → ev_S → Prop} (b0 : Nat) (x1 : Int32) (b2 : Nat) (hQ : ev_Cv g m_X9_longestWait 2 1 [ev_o 9 b0, ev_i x1] S (fun o S1 => (∃ v1_ : Int32, o = .inl (some (ev_i v1_)) ∧ (
    ∀ S2 : ev_S, S2 = (S1.1, (v1_.toInt64, S1.2.2)) → (
      Q (.inl (some (ev_i 0))) S2))) ∨ (o = .inr 0 ∧ (
    Q (.inl (some (ev_i 1))) S1)))) : ev_Cv g m_L_longestWait 3 1 [ev_o 9 b0, ev_i x1, ev_o 21 b2] S Q := by
  refine ev_enter (by decide) rfl rfl (Nat.le_of_ble_eq_true rfl) ?_
  show ev_E g m_L_longestWait 3 1 0 [some (ev_o 9 b0), some (ev_i x1), some (ev_o 21 b2), none] [] S Q
  refine ev_aload_n (ev_o 21 b2) dL_longestWait_0 rfl rfl ?_
  refine ev_iconst (0) dL_longestWait_1 rfl ?_
  refine ev_aload_n (ev_o 9 b0) dL_longestWait_2 rfl rfl ?_
  refine ev_iload_n (x1) dL_longestWait_3 rfl ?_
  refine ev_cV mv_X9_longestWait 2 1 9 [ev_i x1] [ev_i 0, ev_o 21 b2] dL_longestWait_4 kw_1571 rfl (by decide) rfl (by decide) (by decide) (Nat.le_of_ble_eq_true rfl) hQ ?_ rfl
  rintro o S1 (⟨v1_, rfl, hQ⟩ | ⟨rfl, hQ⟩)
  · show ev_E g m_L_longestWait 3 0 7 [some (ev_o 9 b0), some (ev_i x1), some (ev_o 21 b2), none] [ev_i v1_, ev_i 0, ev_o 21 b2] S1 Q
    refine ev_i2l dL_longestWait_7 ?_
    refine ev_lastore dL_longestWait_8 ?_
    refine ev_sub hQ (fun S2 hS2 hQ => ?_)
    refine ev_E.goal (pc' := 9) (L' := [some (ev_o 9 b0), some (ev_i x1), some (ev_o 21 b2), none]) (K' := []) (S' := S2) ?_ rfl rfl rfl hS2
    refine ev_goto 15 dL_longestWait_9 (by decide) ?_
    refine ev_iconst (0) dL_longestWait_15 rfl ?_
    exact ev_ireturn .int dL_longestWait_16 rfl rfl hQ
  · show ev_T g m_L_longestWait 3 0 4 [some (ev_o 9 b0), some (ev_i x1), some (ev_o 21 b2), none] S1 0 Q
    refine ev_T_catch [] (⟨0, 9, 12, 25⟩) [] "" rfl (by intro z hz; cases hz) rfl (by decide) kw_1336 jc_0 (fun q => ?_)
    show ev_E g m_L_longestWait 3 0 12 [some (ev_o 9 b0), some (ev_i x1), some (ev_o 21 b2), none] [ev_x 4 q] S1 Q
    refine ev_astore_n dL_longestWait_12 rfl (Nat.le_of_ble_eq_true rfl) (ev_hw rfl) ?_
    show ev_E g m_L_longestWait 3 0 13 [some (ev_o 9 b0), some (ev_i x1), some (ev_o 21 b2), some (ev_x 4 q)] [] S1 Q
    refine ev_iconst (1) dL_longestWait_13 rfl ?_
    exact ev_ireturn .int dL_longestWait_14 rfl rfl hQ
set_option maxHeartbeats 4000000 in
set_option maxRecDepth 100000 in
theorem sg_L_meanWait_0 {g : ev_G} {S : ev_S} {Q : ev_O → ev_S → Prop} (b0 : Nat) (x1 : Int32) (b2 : Nat) (hQ : ev_Cv g m_X9_meanWait 2 1 [ev_o 9 b0, ev_i x1] S (fun o S1 => (∃ v1_ : UInt64, o = .inl (some (ev_d v1_)) ∧ (
    ∀ S2 : ev_S, S2 = (S1.1, (S1.2.1, v1_)) → (
      Q (.inl (some (ev_i 0))) S2))) ∨ (o = .inr 0 ∧ (
    Q (.inl (some (ev_i 1))) S1)))) : ev_Cv g m_L_meanWait 3 1 [ev_o 9 b0, ev_i x1, ev_o 22 b2] S Q := by
  refine ev_enter (by decide) rfl rfl (Nat.le_of_ble_eq_true rfl) ?_
  show ev_E g m_L_meanWait 3 1 0 [some (ev_o 9 b0), some (ev_i x1), some (ev_o 22 b2), none] [] S Q
  refine ev_aload_n (ev_o 22 b2) dL_meanWait_0 rfl rfl ?_
  refine ev_iconst (0) dL_meanWait_1 rfl ?_
  refine ev_aload_n (ev_o 9 b0) dL_meanWait_2 rfl rfl ?_
  refine ev_iload_n (x1) dL_meanWait_3 rfl ?_
  refine ev_cV mv_X9_meanWait 2 1 9 [ev_i x1] [ev_i 0, ev_o 22 b2] dL_meanWait_4 kw_1582 rfl (by decide) rfl (by decide) (by decide) (Nat.le_of_ble_eq_true rfl) hQ ?_ rfl
  rintro o S1 (⟨v1_, rfl, hQ⟩ | ⟨rfl, hQ⟩)
  · show ev_E g m_L_meanWait 3 0 7 [some (ev_o 9 b0), some (ev_i x1), some (ev_o 22 b2), none] [ev_d v1_, ev_i 0, ev_o 22 b2] S1 Q
    refine ev_dastore dL_meanWait_7 ?_
    refine ev_sub hQ (fun S2 hS2 hQ => ?_)
    refine ev_E.goal (pc' := 8) (L' := [some (ev_o 9 b0), some (ev_i x1), some (ev_o 22 b2), none]) (K' := []) (S' := S2) ?_ rfl rfl rfl hS2
    refine ev_goto 14 dL_meanWait_8 (by decide) ?_
    refine ev_iconst (0) dL_meanWait_14 rfl ?_
    exact ev_ireturn .int dL_meanWait_15 rfl rfl hQ
  · show ev_T g m_L_meanWait 3 0 4 [some (ev_o 9 b0), some (ev_i x1), some (ev_o 22 b2), none] S1 0 Q
    refine ev_T_catch [] (⟨0, 8, 11, 25⟩) [] "" rfl (by intro z hz; cases hz) rfl (by decide) kw_1336 jc_0 (fun q => ?_)
    show ev_E g m_L_meanWait 3 0 11 [some (ev_o 9 b0), some (ev_i x1), some (ev_o 22 b2), none] [ev_x 4 q] S1 Q
    refine ev_astore_n dL_meanWait_11 rfl (Nat.le_of_ble_eq_true rfl) (ev_hw rfl) ?_
    show ev_E g m_L_meanWait 3 0 12 [some (ev_o 9 b0), some (ev_i x1), some (ev_o 22 b2), some (ev_x 4 q)] [] S1 Q
    refine ev_iconst (1) dL_meanWait_12 rfl ?_
    exact ev_ireturn .int dL_meanWait_13 rfl rfl hQ
set_option maxHeartbeats 4000000 in
set_option maxRecDepth 100000 in
theorem sg_L_arrivalDay_0 {g : ev_G} {S : ev_S} {Q : ev_O → ev_S → Prop} (b0 : Nat) (x1 : Int32) (b2 : Nat) (hQ : ev_Cv g m_X9_arrivalDay 5 1 [ev_o 9 b0, ev_i x1] S (fun o S1 => (∃ v1_ : Int32, o = .inl (some (ev_i v1_)) ∧ (
    ∀ S2 : ev_S, S2 = (S1.1, (v1_.toInt64, S1.2.2)) → (
      Q (.inl (some (ev_i 0))) S2))) ∨ (o = .inr 0 ∧ (
    Q (.inl (some (ev_i 1))) S1)))) : ev_Cv g m_L_arrivalDay 6 1 [ev_o 9 b0, ev_i x1, ev_o 21 b2] S Q := by
  refine ev_enter (by decide) rfl rfl (Nat.le_of_ble_eq_true rfl) ?_
  show ev_E g m_L_arrivalDay 6 1 0 [some (ev_o 9 b0), some (ev_i x1), some (ev_o 21 b2), none] [] S Q
  refine ev_aload_n (ev_o 21 b2) dL_arrivalDay_0 rfl rfl ?_
  refine ev_iconst (0) dL_arrivalDay_1 rfl ?_
  refine ev_aload_n (ev_o 9 b0) dL_arrivalDay_2 rfl rfl ?_
  refine ev_iload_n (x1) dL_arrivalDay_3 rfl ?_
  refine ev_cV mv_X9_arrivalDay 5 1 9 [ev_i x1] [ev_i 0, ev_o 21 b2] dL_arrivalDay_4 kw_1597 rfl (by decide) rfl (by decide) (by decide) (Nat.le_of_ble_eq_true rfl) hQ ?_ rfl
  rintro o S1 (⟨v1_, rfl, hQ⟩ | ⟨rfl, hQ⟩)
  · show ev_E g m_L_arrivalDay 6 0 7 [some (ev_o 9 b0), some (ev_i x1), some (ev_o 21 b2), none] [ev_i v1_, ev_i 0, ev_o 21 b2] S1 Q
    refine ev_i2l dL_arrivalDay_7 ?_
    refine ev_lastore dL_arrivalDay_8 ?_
    refine ev_sub hQ (fun S2 hS2 hQ => ?_)
    refine ev_E.goal (pc' := 9) (L' := [some (ev_o 9 b0), some (ev_i x1), some (ev_o 21 b2), none]) (K' := []) (S' := S2) ?_ rfl rfl rfl hS2
    refine ev_goto 15 dL_arrivalDay_9 (by decide) ?_
    refine ev_iconst (0) dL_arrivalDay_15 rfl ?_
    exact ev_ireturn .int dL_arrivalDay_16 rfl rfl hQ
  · show ev_T g m_L_arrivalDay 6 0 4 [some (ev_o 9 b0), some (ev_i x1), some (ev_o 21 b2), none] S1 0 Q
    refine ev_T_catch [] (⟨0, 9, 12, 25⟩) [] "" rfl (by intro z hz; cases hz) rfl (by decide) kw_1336 jc_0 (fun q => ?_)
    show ev_E g m_L_arrivalDay 6 0 12 [some (ev_o 9 b0), some (ev_i x1), some (ev_o 21 b2), none] [ev_x 4 q] S1 Q
    refine ev_astore_n dL_arrivalDay_12 rfl (Nat.le_of_ble_eq_true rfl) (ev_hw rfl) ?_
    show ev_E g m_L_arrivalDay 6 0 13 [some (ev_o 9 b0), some (ev_i x1), some (ev_o 21 b2), some (ev_x 4 q)] [] S1 Q
    refine ev_iconst (1) dL_arrivalDay_13 rfl ?_
    exact ev_ireturn .int dL_arrivalDay_14 rfl rfl hQ
set_option maxHeartbeats 4000000 in
set_option maxRecDepth 100000 in
theorem sg_L_daysUntilTurn_0 {g : ev_G} {S : ev_S} {Q : ev_O → ev_S → Prop} (b0 : Nat) (x1 : Int32) (b2 : Nat) (hQ : ev_Cv g m_X9_daysUntilTurn 6 1 [ev_o 9 b0, ev_i x1] S (fun o S1 => (∃ v1_ : Int32, o = .inl (some (ev_i v1_)) ∧ (
    ∀ S2 : ev_S, S2 = (S1.1, (v1_.toInt64, S1.2.2)) → (
      Q (.inl (some (ev_i 0))) S2))) ∨ (o = .inr 0 ∧ (
    Q (.inl (some (ev_i 1))) S1)))) : ev_Cv g m_L_daysUntilTurn 7 1 [ev_o 9 b0, ev_i x1, ev_o 21 b2] S Q := by
  refine ev_enter (by decide) rfl rfl (Nat.le_of_ble_eq_true rfl) ?_
  show ev_E g m_L_daysUntilTurn 7 1 0 [some (ev_o 9 b0), some (ev_i x1), some (ev_o 21 b2), none] [] S Q
  refine ev_aload_n (ev_o 21 b2) dL_daysUntilTurn_0 rfl rfl ?_
  refine ev_iconst (0) dL_daysUntilTurn_1 rfl ?_
  refine ev_aload_n (ev_o 9 b0) dL_daysUntilTurn_2 rfl rfl ?_
  refine ev_iload_n (x1) dL_daysUntilTurn_3 rfl ?_
  refine ev_cV mv_X9_daysUntilTurn 6 1 9 [ev_i x1] [ev_i 0, ev_o 21 b2] dL_daysUntilTurn_4 kw_1610 rfl (by decide) rfl (by decide) (by decide) (Nat.le_of_ble_eq_true rfl) hQ ?_ rfl
  rintro o S1 (⟨v1_, rfl, hQ⟩ | ⟨rfl, hQ⟩)
  · show ev_E g m_L_daysUntilTurn 7 0 7 [some (ev_o 9 b0), some (ev_i x1), some (ev_o 21 b2), none] [ev_i v1_, ev_i 0, ev_o 21 b2] S1 Q
    refine ev_i2l dL_daysUntilTurn_7 ?_
    refine ev_lastore dL_daysUntilTurn_8 ?_
    refine ev_sub hQ (fun S2 hS2 hQ => ?_)
    refine ev_E.goal (pc' := 9) (L' := [some (ev_o 9 b0), some (ev_i x1), some (ev_o 21 b2), none]) (K' := []) (S' := S2) ?_ rfl rfl rfl hS2
    refine ev_goto 15 dL_daysUntilTurn_9 (by decide) ?_
    refine ev_iconst (0) dL_daysUntilTurn_15 rfl ?_
    exact ev_ireturn .int dL_daysUntilTurn_16 rfl rfl hQ
  · show ev_T g m_L_daysUntilTurn 7 0 4 [some (ev_o 9 b0), some (ev_i x1), some (ev_o 21 b2), none] S1 0 Q
    refine ev_T_catch [] (⟨0, 9, 12, 25⟩) [] "" rfl (by intro z hz; cases hz) rfl (by decide) kw_1336 jc_0 (fun q => ?_)
    show ev_E g m_L_daysUntilTurn 7 0 12 [some (ev_o 9 b0), some (ev_i x1), some (ev_o 21 b2), none] [ev_x 4 q] S1 Q
    refine ev_astore_n dL_daysUntilTurn_12 rfl (Nat.le_of_ble_eq_true rfl) (ev_hw rfl) ?_
    show ev_E g m_L_daysUntilTurn 7 0 13 [some (ev_o 9 b0), some (ev_i x1), some (ev_o 21 b2), some (ev_x 4 q)] [] S1 Q
    refine ev_iconst (1) dL_daysUntilTurn_13 rfl ?_
    exact ev_ireturn .int dL_daysUntilTurn_14 rfl rfl hQ
set_option maxHeartbeats 4000000 in
set_option maxRecDepth 100000 in
theorem sg_L_fastestPass_0 {g : ev_G} {S : ev_S} {Q : ev_O → ev_S → Prop} (b0 : Nat) (x1 : Int32) (b2 : Nat) (hQ : ev_Cv g m_X9_fastestPass 5 1 [ev_o 9 b0, ev_i x1] S (fun o S1 => (∃ v1_ : Int32, o = .inl (some (ev_i v1_)) ∧ (
    ∀ S2 : ev_S, S2 = (S1.1, (v1_.toInt64, S1.2.2)) → (
      Q (.inl (some (ev_i 0))) S2))) ∨ (o = .inr 0 ∧ (
    Q (.inl (some (ev_i 1))) S1)))) : ev_Cv g m_L_fastestPass 6 1 [ev_o 9 b0, ev_i x1, ev_o 21 b2] S Q := by
  refine ev_enter (by decide) rfl rfl (Nat.le_of_ble_eq_true rfl) ?_
  show ev_E g m_L_fastestPass 6 1 0 [some (ev_o 9 b0), some (ev_i x1), some (ev_o 21 b2), none] [] S Q
  refine ev_aload_n (ev_o 21 b2) dL_fastestPass_0 rfl rfl ?_
  refine ev_iconst (0) dL_fastestPass_1 rfl ?_
  refine ev_aload_n (ev_o 9 b0) dL_fastestPass_2 rfl rfl ?_
  refine ev_iload_n (x1) dL_fastestPass_3 rfl ?_
  refine ev_cV mv_X9_fastestPass 5 1 9 [ev_i x1] [ev_i 0, ev_o 21 b2] dL_fastestPass_4 kw_1617 rfl (by decide) rfl (by decide) (by decide) (Nat.le_of_ble_eq_true rfl) hQ ?_ rfl
  rintro o S1 (⟨v1_, rfl, hQ⟩ | ⟨rfl, hQ⟩)
  · show ev_E g m_L_fastestPass 6 0 7 [some (ev_o 9 b0), some (ev_i x1), some (ev_o 21 b2), none] [ev_i v1_, ev_i 0, ev_o 21 b2] S1 Q
    refine ev_i2l dL_fastestPass_7 ?_
    refine ev_lastore dL_fastestPass_8 ?_
    refine ev_sub hQ (fun S2 hS2 hQ => ?_)
    refine ev_E.goal (pc' := 9) (L' := [some (ev_o 9 b0), some (ev_i x1), some (ev_o 21 b2), none]) (K' := []) (S' := S2) ?_ rfl rfl rfl hS2
    refine ev_goto 15 dL_fastestPass_9 (by decide) ?_
    refine ev_iconst (0) dL_fastestPass_15 rfl ?_
    exact ev_ireturn .int dL_fastestPass_16 rfl rfl hQ
  · show ev_T g m_L_fastestPass 6 0 4 [some (ev_o 9 b0), some (ev_i x1), some (ev_o 21 b2), none] S1 0 Q
    refine ev_T_catch [] (⟨0, 9, 12, 25⟩) [] "" rfl (by intro z hz; cases hz) rfl (by decide) kw_1336 jc_0 (fun q => ?_)
    show ev_E g m_L_fastestPass 6 0 12 [some (ev_o 9 b0), some (ev_i x1), some (ev_o 21 b2), none] [ev_x 4 q] S1 Q
    refine ev_astore_n dL_fastestPass_12 rfl (Nat.le_of_ble_eq_true rfl) (ev_hw rfl) ?_
    show ev_E g m_L_fastestPass 6 0 13 [some (ev_o 9 b0), some (ev_i x1), some (ev_o 21 b2), some (ev_x 4 q)] [] S1 Q
    refine ev_iconst (1) dL_fastestPass_13 rfl ?_
    exact ev_ireturn .int dL_fastestPass_14 rfl rfl hQ
set_option maxHeartbeats 4000000 in
set_option maxRecDepth 100000 in
theorem sg_L_move_0 {g : ev_G} {S : ev_S} {Q : ev_O → ev_S → Prop} (b0 : Nat) (x1 : Int32) (x2 : Int32) (x3 : Int32) (x4 : Int32) (b5 : Nat) (hQ : ev_Cv g m_X9_move 6 1 [ev_o 9 b0, ev_i x1, ev_i x2, ev_i x3, ev_i x4] S (fun o S1 => (∃ v1_ : Int32, o = .inl (some (ev_i v1_)) ∧ (
    ∀ S2 : ev_S, S2 = (S1.1, (v1_.toInt64, S1.2.2)) → (
      Q (.inl (some (ev_i 0))) S2))) ∨ (o = .inr 0 ∧ (
    Q (.inl (some (ev_i 1))) S1)) ∨ (o = .inr 1 ∧ (
    Q (.inl (some (ev_i 2))) S1)) ∨ (o = .inr 2 ∧ (
    Q (.inl (some (ev_i 3))) S1)))) : ev_Cv g m_L_move 7 1 [ev_o 9 b0, ev_i x1, ev_i x2, ev_i x3, ev_i x4, ev_o 21 b5] S Q := by
  refine ev_enter (by decide) rfl rfl (Nat.le_of_ble_eq_true rfl) ?_
  show ev_E g m_L_move 7 1 0 [some (ev_o 9 b0), some (ev_i x1), some (ev_i x2), some (ev_i x3), some (ev_i x4), some (ev_o 21 b5), none] [] S Q
  refine ev_aload (ev_o 21 b5) dL_move_0 rfl rfl ?_
  refine ev_iconst (0) dL_move_2 rfl ?_
  refine ev_aload_n (ev_o 9 b0) dL_move_3 rfl rfl ?_
  refine ev_iload_n (x1) dL_move_4 rfl ?_
  refine ev_iload_n (x2) dL_move_5 rfl ?_
  refine ev_iload_n (x3) dL_move_6 rfl ?_
  refine ev_iload (x4) dL_move_7 rfl ?_
  refine ev_cV mv_X9_move 6 1 9 [ev_i x1, ev_i x2, ev_i x3, ev_i x4] [ev_i 0, ev_o 21 b5] dL_move_9 kw_1625 rfl (by decide) rfl (by decide) (by decide) (Nat.le_of_ble_eq_true rfl) hQ ?_ rfl
  rintro o S1 (⟨v1_, rfl, hQ⟩ | ⟨rfl, hQ⟩ | ⟨rfl, hQ⟩ | ⟨rfl, hQ⟩)
  · show ev_E g m_L_move 7 0 12 [some (ev_o 9 b0), some (ev_i x1), some (ev_i x2), some (ev_i x3), some (ev_i x4), some (ev_o 21 b5), none] [ev_i v1_, ev_i 0, ev_o 21 b5] S1 Q
    refine ev_i2l dL_move_12 ?_
    refine ev_lastore dL_move_13 ?_
    refine ev_sub hQ (fun S2 hS2 hQ => ?_)
    refine ev_E.goal (pc' := 14) (L' := [some (ev_o 9 b0), some (ev_i x1), some (ev_i x2), some (ev_i x3), some (ev_i x4), some (ev_o 21 b5), none]) (K' := []) (S' := S2) ?_ rfl rfl rfl hS2
    refine ev_goto 29 dL_move_14 (by decide) ?_
    refine ev_iconst (0) dL_move_29 rfl ?_
    exact ev_ireturn .int dL_move_30 rfl rfl hQ
  · show ev_T g m_L_move 7 0 9 [some (ev_o 9 b0), some (ev_i x1), some (ev_i x2), some (ev_i x3), some (ev_i x4), some (ev_o 21 b5), none] S1 0 Q
    refine ev_T_catch [] (⟨0, 14, 17, 25⟩) [⟨0, 14, 21, 13⟩, ⟨0, 14, 25, 19⟩] "" rfl (by intro z hz; cases hz) rfl (by decide) kw_1336 jc_0 (fun q => ?_)
    show ev_E g m_L_move 7 0 17 [some (ev_o 9 b0), some (ev_i x1), some (ev_i x2), some (ev_i x3), some (ev_i x4), some (ev_o 21 b5), none] [ev_x 4 q] S1 Q
    refine ev_astore dL_move_17 rfl (Nat.le_of_ble_eq_true rfl) (ev_hw rfl) ?_
    show ev_E g m_L_move 7 0 19 [some (ev_o 9 b0), some (ev_i x1), some (ev_i x2), some (ev_i x3), some (ev_i x4), some (ev_o 21 b5), some (ev_x 4 q)] [] S1 Q
    refine ev_iconst (1) dL_move_19 rfl ?_
    exact ev_ireturn .int dL_move_20 rfl rfl hQ
  · show ev_T g m_L_move 7 0 9 [some (ev_o 9 b0), some (ev_i x1), some (ev_i x2), some (ev_i x3), some (ev_i x4), some (ev_o 21 b5), none] S1 1 Q
    refine ev_T_catch [⟨0, 14, 17, 25⟩] (⟨0, 14, 21, 13⟩) [⟨0, 14, 25, 19⟩] "" rfl (by intro z hz; simp only [List.mem_cons, List.not_mem_nil, or_false] at hz; rcases hz with rfl; exact ⟨(1, 0), (by decide), rfl, (by decide), kw_1336⟩) rfl (by decide) kw_1221 jc_1 (fun q => ?_)
    show ev_E g m_L_move 7 0 21 [some (ev_o 9 b0), some (ev_i x1), some (ev_i x2), some (ev_i x3), some (ev_i x4), some (ev_o 21 b5), none] [ev_x 4 q] S1 Q
    refine ev_astore dL_move_21 rfl (Nat.le_of_ble_eq_true rfl) (ev_hw rfl) ?_
    show ev_E g m_L_move 7 0 23 [some (ev_o 9 b0), some (ev_i x1), some (ev_i x2), some (ev_i x3), some (ev_i x4), some (ev_o 21 b5), some (ev_x 4 q)] [] S1 Q
    refine ev_iconst (2) dL_move_23 rfl ?_
    exact ev_ireturn .int dL_move_24 rfl rfl hQ
  · show ev_T g m_L_move 7 0 9 [some (ev_o 9 b0), some (ev_i x1), some (ev_i x2), some (ev_i x3), some (ev_i x4), some (ev_o 21 b5), none] S1 2 Q
    refine ev_T_catch [⟨0, 14, 17, 25⟩, ⟨0, 14, 21, 13⟩] (⟨0, 14, 25, 19⟩) [] "" rfl (by intro z hz; simp only [List.mem_cons, List.not_mem_nil, or_false] at hz; rcases hz with rfl | rfl; exact ⟨(2, 0), (by decide), rfl, (by decide), kw_1336⟩; exact ⟨(2, 1), (by decide), rfl, (by decide), kw_1221⟩) rfl (by decide) kw_1308 jc_2 (fun q => ?_)
    show ev_E g m_L_move 7 0 25 [some (ev_o 9 b0), some (ev_i x1), some (ev_i x2), some (ev_i x3), some (ev_i x4), some (ev_o 21 b5), none] [ev_x 4 q] S1 Q
    refine ev_astore dL_move_25 rfl (Nat.le_of_ble_eq_true rfl) (ev_hw rfl) ?_
    show ev_E g m_L_move 7 0 27 [some (ev_o 9 b0), some (ev_i x1), some (ev_i x2), some (ev_i x3), some (ev_i x4), some (ev_o 21 b5), some (ev_x 4 q)] [] S1 Q
    refine ev_iconst (3) dL_move_27 rfl ?_
    exact ev_ireturn .int dL_move_28 rfl rfl hQ
set_option maxHeartbeats 4000000 in
set_option maxRecDepth 100000 in
theorem sg_L_promise_0 {g : ev_G} {S : ev_S} {Q : ev_O → ev_S → Prop} (b0 : Nat) (x1 : Int32) (x2 : Int32) (x3 : Int32) (x4 : Int32) (x5 : Int32) (x6 : Int32) (b7 : Nat) (hQ : ev_Cv g m_X9_promise 6 1 [ev_o 9 b0, ev_i x1, ev_i x2, ev_i x3, ev_i x4, ev_i x5, ev_i x6] S (fun o S1 => (∃ v1_ : Int32, o = .inl (some (ev_i v1_)) ∧ (
    ∀ S2 : ev_S, S2 = (S1.1, (v1_.toInt64, S1.2.2)) → (
      Q (.inl (some (ev_i 0))) S2))) ∨ (o = .inr 0 ∧ (
    Q (.inl (some (ev_i 1))) S1)) ∨ (o = .inr 1 ∧ (
    Q (.inl (some (ev_i 2))) S1)) ∨ (o = .inr 2 ∧ (
    Q (.inl (some (ev_i 3))) S1)))) : ev_Cv g m_L_promise 7 1 [ev_o 9 b0, ev_i x1, ev_i x2, ev_i x3, ev_i x4, ev_i x5, ev_i x6, ev_o 21 b7] S Q := by
  refine ev_enter (by decide) rfl rfl (Nat.le_of_ble_eq_true rfl) ?_
  show ev_E g m_L_promise 7 1 0 [some (ev_o 9 b0), some (ev_i x1), some (ev_i x2), some (ev_i x3), some (ev_i x4), some (ev_i x5), some (ev_i x6), some (ev_o 21 b7), none] [] S Q
  refine ev_aload (ev_o 21 b7) dL_promise_0 rfl rfl ?_
  refine ev_iconst (0) dL_promise_2 rfl ?_
  refine ev_aload_n (ev_o 9 b0) dL_promise_3 rfl rfl ?_
  refine ev_iload_n (x1) dL_promise_4 rfl ?_
  refine ev_iload_n (x2) dL_promise_5 rfl ?_
  refine ev_iload_n (x3) dL_promise_6 rfl ?_
  refine ev_iload (x4) dL_promise_7 rfl ?_
  refine ev_iload (x5) dL_promise_9 rfl ?_
  refine ev_iload (x6) dL_promise_11 rfl ?_
  refine ev_cV mv_X9_promise 6 1 9 [ev_i x1, ev_i x2, ev_i x3, ev_i x4, ev_i x5, ev_i x6] [ev_i 0, ev_o 21 b7] dL_promise_13 kw_1637 rfl (by decide) rfl (by decide) (by decide) (Nat.le_of_ble_eq_true rfl) hQ ?_ rfl
  rintro o S1 (⟨v1_, rfl, hQ⟩ | ⟨rfl, hQ⟩ | ⟨rfl, hQ⟩ | ⟨rfl, hQ⟩)
  · show ev_E g m_L_promise 7 0 16 [some (ev_o 9 b0), some (ev_i x1), some (ev_i x2), some (ev_i x3), some (ev_i x4), some (ev_i x5), some (ev_i x6), some (ev_o 21 b7), none] [ev_i v1_, ev_i 0, ev_o 21 b7] S1 Q
    refine ev_i2l dL_promise_16 ?_
    refine ev_lastore dL_promise_17 ?_
    refine ev_sub hQ (fun S2 hS2 hQ => ?_)
    refine ev_E.goal (pc' := 18) (L' := [some (ev_o 9 b0), some (ev_i x1), some (ev_i x2), some (ev_i x3), some (ev_i x4), some (ev_i x5), some (ev_i x6), some (ev_o 21 b7), none]) (K' := []) (S' := S2) ?_ rfl rfl rfl hS2
    refine ev_goto 33 dL_promise_18 (by decide) ?_
    refine ev_iconst (0) dL_promise_33 rfl ?_
    exact ev_ireturn .int dL_promise_34 rfl rfl hQ
  · show ev_T g m_L_promise 7 0 13 [some (ev_o 9 b0), some (ev_i x1), some (ev_i x2), some (ev_i x3), some (ev_i x4), some (ev_i x5), some (ev_i x6), some (ev_o 21 b7), none] S1 0 Q
    refine ev_T_catch [] (⟨0, 18, 21, 25⟩) [⟨0, 18, 25, 13⟩, ⟨0, 18, 29, 19⟩] "" rfl (by intro z hz; cases hz) rfl (by decide) kw_1336 jc_0 (fun q => ?_)
    show ev_E g m_L_promise 7 0 21 [some (ev_o 9 b0), some (ev_i x1), some (ev_i x2), some (ev_i x3), some (ev_i x4), some (ev_i x5), some (ev_i x6), some (ev_o 21 b7), none] [ev_x 4 q] S1 Q
    refine ev_astore dL_promise_21 rfl (Nat.le_of_ble_eq_true rfl) (ev_hw rfl) ?_
    show ev_E g m_L_promise 7 0 23 [some (ev_o 9 b0), some (ev_i x1), some (ev_i x2), some (ev_i x3), some (ev_i x4), some (ev_i x5), some (ev_i x6), some (ev_o 21 b7), some (ev_x 4 q)] [] S1 Q
    refine ev_iconst (1) dL_promise_23 rfl ?_
    exact ev_ireturn .int dL_promise_24 rfl rfl hQ
  · show ev_T g m_L_promise 7 0 13 [some (ev_o 9 b0), some (ev_i x1), some (ev_i x2), some (ev_i x3), some (ev_i x4), some (ev_i x5), some (ev_i x6), some (ev_o 21 b7), none] S1 1 Q
    refine ev_T_catch [⟨0, 18, 21, 25⟩] (⟨0, 18, 25, 13⟩) [⟨0, 18, 29, 19⟩] "" rfl (by intro z hz; simp only [List.mem_cons, List.not_mem_nil, or_false] at hz; rcases hz with rfl; exact ⟨(1, 0), (by decide), rfl, (by decide), kw_1336⟩) rfl (by decide) kw_1221 jc_1 (fun q => ?_)
    show ev_E g m_L_promise 7 0 25 [some (ev_o 9 b0), some (ev_i x1), some (ev_i x2), some (ev_i x3), some (ev_i x4), some (ev_i x5), some (ev_i x6), some (ev_o 21 b7), none] [ev_x 4 q] S1 Q
    refine ev_astore dL_promise_25 rfl (Nat.le_of_ble_eq_true rfl) (ev_hw rfl) ?_
    show ev_E g m_L_promise 7 0 27 [some (ev_o 9 b0), some (ev_i x1), some (ev_i x2), some (ev_i x3), some (ev_i x4), some (ev_i x5), some (ev_i x6), some (ev_o 21 b7), some (ev_x 4 q)] [] S1 Q
    refine ev_iconst (2) dL_promise_27 rfl ?_
    exact ev_ireturn .int dL_promise_28 rfl rfl hQ
  · show ev_T g m_L_promise 7 0 13 [some (ev_o 9 b0), some (ev_i x1), some (ev_i x2), some (ev_i x3), some (ev_i x4), some (ev_i x5), some (ev_i x6), some (ev_o 21 b7), none] S1 2 Q
    refine ev_T_catch [⟨0, 18, 21, 25⟩, ⟨0, 18, 25, 13⟩] (⟨0, 18, 29, 19⟩) [] "" rfl (by intro z hz; simp only [List.mem_cons, List.not_mem_nil, or_false] at hz; rcases hz with rfl | rfl; exact ⟨(2, 0), (by decide), rfl, (by decide), kw_1336⟩; exact ⟨(2, 1), (by decide), rfl, (by decide), kw_1221⟩) rfl (by decide) kw_1308 jc_2 (fun q => ?_)
    show ev_E g m_L_promise 7 0 29 [some (ev_o 9 b0), some (ev_i x1), some (ev_i x2), some (ev_i x3), some (ev_i x4), some (ev_i x5), some (ev_i x6), some (ev_o 21 b7), none] [ev_x 4 q] S1 Q
    refine ev_astore dL_promise_29 rfl (Nat.le_of_ble_eq_true rfl) (ev_hw rfl) ?_
    show ev_E g m_L_promise 7 0 31 [some (ev_o 9 b0), some (ev_i x1), some (ev_i x2), some (ev_i x3), some (ev_i x4), some (ev_i x5), some (ev_i x6), some (ev_o 21 b7), some (ev_x 4 q)] [] S1 Q
    refine ev_iconst (3) dL_promise_31 rfl ?_
    exact ev_ireturn .int dL_promise_32 rfl rfl hQ
set_option maxHeartbeats 4000000 in
set_option maxRecDepth 100000 in
theorem sg_L_resend_0 {g : ev_G} {S : ev_S} {Q : ev_O → ev_S → Prop} (b0 : Nat) (x1 : Int32) (x2 : Int32) (b3 : Nat) (hQ : ev_Cv g m_X9_resend 6 1 [ev_o 9 b0, ev_i x1, ev_i x2] S (fun o S1 => (∃ v1_ : Int32, o = .inl (some (ev_i v1_)) ∧ (
    ∀ S2 : ev_S, S2 = (S1.1, (v1_.toInt64, S1.2.2)) → (
      Q (.inl (some (ev_i 0))) S2))) ∨ (o = .inr 0 ∧ (
    Q (.inl (some (ev_i 1))) S1)) ∨ (o = .inr 1 ∧ (
    Q (.inl (some (ev_i 2))) S1)))) : ev_Cv g m_L_resend 7 1 [ev_o 9 b0, ev_i x1, ev_i x2, ev_o 21 b3] S Q := by
  refine ev_enter (by decide) rfl rfl (Nat.le_of_ble_eq_true rfl) ?_
  show ev_E g m_L_resend 7 1 0 [some (ev_o 9 b0), some (ev_i x1), some (ev_i x2), some (ev_o 21 b3), none] [] S Q
  refine ev_aload_n (ev_o 21 b3) dL_resend_0 rfl rfl ?_
  refine ev_iconst (0) dL_resend_1 rfl ?_
  refine ev_aload_n (ev_o 9 b0) dL_resend_2 rfl rfl ?_
  refine ev_iload_n (x1) dL_resend_3 rfl ?_
  refine ev_iload_n (x2) dL_resend_4 rfl ?_
  refine ev_cV mv_X9_resend 6 1 9 [ev_i x1, ev_i x2] [ev_i 0, ev_o 21 b3] dL_resend_5 kw_1644 rfl (by decide) rfl (by decide) (by decide) (Nat.le_of_ble_eq_true rfl) hQ ?_ rfl
  rintro o S1 (⟨v1_, rfl, hQ⟩ | ⟨rfl, hQ⟩ | ⟨rfl, hQ⟩)
  · show ev_E g m_L_resend 7 0 8 [some (ev_o 9 b0), some (ev_i x1), some (ev_i x2), some (ev_o 21 b3), none] [ev_i v1_, ev_i 0, ev_o 21 b3] S1 Q
    refine ev_i2l dL_resend_8 ?_
    refine ev_lastore dL_resend_9 ?_
    refine ev_sub hQ (fun S2 hS2 hQ => ?_)
    refine ev_E.goal (pc' := 10) (L' := [some (ev_o 9 b0), some (ev_i x1), some (ev_i x2), some (ev_o 21 b3), none]) (K' := []) (S' := S2) ?_ rfl rfl rfl hS2
    refine ev_goto 21 dL_resend_10 (by decide) ?_
    refine ev_iconst (0) dL_resend_21 rfl ?_
    exact ev_ireturn .int dL_resend_22 rfl rfl hQ
  · show ev_T g m_L_resend 7 0 5 [some (ev_o 9 b0), some (ev_i x1), some (ev_i x2), some (ev_o 21 b3), none] S1 0 Q
    refine ev_T_catch [] (⟨0, 10, 13, 25⟩) [⟨0, 10, 17, 13⟩] "" rfl (by intro z hz; cases hz) rfl (by decide) kw_1336 jc_0 (fun q => ?_)
    show ev_E g m_L_resend 7 0 13 [some (ev_o 9 b0), some (ev_i x1), some (ev_i x2), some (ev_o 21 b3), none] [ev_x 4 q] S1 Q
    refine ev_astore dL_resend_13 rfl (Nat.le_of_ble_eq_true rfl) (ev_hw rfl) ?_
    show ev_E g m_L_resend 7 0 15 [some (ev_o 9 b0), some (ev_i x1), some (ev_i x2), some (ev_o 21 b3), some (ev_x 4 q)] [] S1 Q
    refine ev_iconst (1) dL_resend_15 rfl ?_
    exact ev_ireturn .int dL_resend_16 rfl rfl hQ
  · show ev_T g m_L_resend 7 0 5 [some (ev_o 9 b0), some (ev_i x1), some (ev_i x2), some (ev_o 21 b3), none] S1 1 Q
    refine ev_T_catch [⟨0, 10, 13, 25⟩] (⟨0, 10, 17, 13⟩) [] "" rfl (by intro z hz; simp only [List.mem_cons, List.not_mem_nil, or_false] at hz; rcases hz with rfl; exact ⟨(1, 0), (by decide), rfl, (by decide), kw_1336⟩) rfl (by decide) kw_1221 jc_1 (fun q => ?_)
    show ev_E g m_L_resend 7 0 17 [some (ev_o 9 b0), some (ev_i x1), some (ev_i x2), some (ev_o 21 b3), none] [ev_x 4 q] S1 Q
    refine ev_astore dL_resend_17 rfl (Nat.le_of_ble_eq_true rfl) (ev_hw rfl) ?_
    show ev_E g m_L_resend 7 0 19 [some (ev_o 9 b0), some (ev_i x1), some (ev_i x2), some (ev_o 21 b3), some (ev_x 4 q)] [] S1 Q
    refine ev_iconst (2) dL_resend_19 rfl ?_
    exact ev_ireturn .int dL_resend_20 rfl rfl hQ
set_option maxHeartbeats 4000000 in
set_option maxRecDepth 100000 in
theorem sg_L_advance_0 {g : ev_G} {S : ev_S} {Q : ev_O → ev_S → Prop} (b0 : Nat) (x1 : Int32) (b2 : Nat) (hQ : ev_Cv g m_X9_advance 7 1 [ev_o 9 b0, ev_i x1] S (fun o S1 => (∃ v1_ : Int32, o = .inl (some (ev_i v1_)) ∧ (
    ∀ S2 : ev_S, S2 = (S1.1, (v1_.toInt64, S1.2.2)) → (
      Q (.inl (some (ev_i 0))) S2))) ∨ (o = .inr 2 ∧ (
    Q (.inl (some (ev_i 1))) S1)) ∨ (o = .inr 1 ∧ (
    Q (.inl (some (ev_i 2))) S1)))) : ev_Cv g m_L_advance 8 1 [ev_o 9 b0, ev_i x1, ev_o 21 b2] S Q := by
  refine ev_enter (by decide) rfl rfl (Nat.le_of_ble_eq_true rfl) ?_
  show ev_E g m_L_advance 8 1 0 [some (ev_o 9 b0), some (ev_i x1), some (ev_o 21 b2), none] [] S Q
  refine ev_aload_n (ev_o 21 b2) dL_advance_0 rfl rfl ?_
  refine ev_iconst (0) dL_advance_1 rfl ?_
  refine ev_aload_n (ev_o 9 b0) dL_advance_2 rfl rfl ?_
  refine ev_iload_n (x1) dL_advance_3 rfl ?_
  refine ev_cV mv_X9_advance 7 1 9 [ev_i x1] [ev_i 0, ev_o 21 b2] dL_advance_4 kw_1651 rfl (by decide) rfl (by decide) (by decide) (Nat.le_of_ble_eq_true rfl) hQ ?_ rfl
  rintro o S1 (⟨v1_, rfl, hQ⟩ | ⟨rfl, hQ⟩ | ⟨rfl, hQ⟩)
  · show ev_E g m_L_advance 8 0 7 [some (ev_o 9 b0), some (ev_i x1), some (ev_o 21 b2), none] [ev_i v1_, ev_i 0, ev_o 21 b2] S1 Q
    refine ev_i2l dL_advance_7 ?_
    refine ev_lastore dL_advance_8 ?_
    refine ev_sub hQ (fun S2 hS2 hQ => ?_)
    refine ev_E.goal (pc' := 9) (L' := [some (ev_o 9 b0), some (ev_i x1), some (ev_o 21 b2), none]) (K' := []) (S' := S2) ?_ rfl rfl rfl hS2
    refine ev_goto 18 dL_advance_9 (by decide) ?_
    refine ev_iconst (0) dL_advance_18 rfl ?_
    exact ev_ireturn .int dL_advance_19 rfl rfl hQ
  · show ev_T g m_L_advance 8 0 4 [some (ev_o 9 b0), some (ev_i x1), some (ev_o 21 b2), none] S1 2 Q
    refine ev_T_catch [] (⟨0, 9, 12, 19⟩) [⟨0, 9, 15, 13⟩] "" rfl (by intro z hz; cases hz) rfl (by decide) kw_1308 jc_2 (fun q => ?_)
    show ev_E g m_L_advance 8 0 12 [some (ev_o 9 b0), some (ev_i x1), some (ev_o 21 b2), none] [ev_x 4 q] S1 Q
    refine ev_astore_n dL_advance_12 rfl (Nat.le_of_ble_eq_true rfl) (ev_hw rfl) ?_
    show ev_E g m_L_advance 8 0 13 [some (ev_o 9 b0), some (ev_i x1), some (ev_o 21 b2), some (ev_x 4 q)] [] S1 Q
    refine ev_iconst (1) dL_advance_13 rfl ?_
    exact ev_ireturn .int dL_advance_14 rfl rfl hQ
  · show ev_T g m_L_advance 8 0 4 [some (ev_o 9 b0), some (ev_i x1), some (ev_o 21 b2), none] S1 1 Q
    refine ev_T_catch [⟨0, 9, 12, 19⟩] (⟨0, 9, 15, 13⟩) [] "" rfl (by intro z hz; simp only [List.mem_cons, List.not_mem_nil, or_false] at hz; rcases hz with rfl; exact ⟨(1, 2), (by decide), rfl, (by decide), kw_1308⟩) rfl (by decide) kw_1221 jc_1 (fun q => ?_)
    show ev_E g m_L_advance 8 0 15 [some (ev_o 9 b0), some (ev_i x1), some (ev_o 21 b2), none] [ev_x 4 q] S1 Q
    refine ev_astore_n dL_advance_15 rfl (Nat.le_of_ble_eq_true rfl) (ev_hw rfl) ?_
    show ev_E g m_L_advance 8 0 16 [some (ev_o 9 b0), some (ev_i x1), some (ev_o 21 b2), some (ev_x 4 q)] [] S1 Q
    refine ev_iconst (2) dL_advance_16 rfl ?_
    exact ev_ireturn .int dL_advance_17 rfl rfl hQ
set_option maxHeartbeats 4000000 in
set_option maxRecDepth 100000 in
theorem sg_L_addMule_0 {g : ev_G} {S : ev_S} {Q : ev_O → ev_S → Prop} (b0 : Nat) (x1 : Int32) (x2 : Int32) (b3 : Nat) (hQ : ev_Cv g m_X9_addMule 6 1 [ev_o 9 b0, ev_i x1, ev_i x2] S (fun o S1 => (∃ v1_ : Int32, o = .inl (some (ev_i v1_)) ∧ (
    ∀ S2 : ev_S, S2 = (S1.1, (v1_.toInt64, S1.2.2)) → (
      Q (.inl (some (ev_i 0))) S2))) ∨ (o = .inr 0 ∧ (
    Q (.inl (some (ev_i 1))) S1)) ∨ (o = .inr 1 ∧ (
    Q (.inl (some (ev_i 2))) S1)))) : ev_Cv g m_L_addMule 7 1 [ev_o 9 b0, ev_i x1, ev_i x2, ev_o 21 b3] S Q := by
  refine ev_enter (by decide) rfl rfl (Nat.le_of_ble_eq_true rfl) ?_
  show ev_E g m_L_addMule 7 1 0 [some (ev_o 9 b0), some (ev_i x1), some (ev_i x2), some (ev_o 21 b3), none] [] S Q
  refine ev_aload_n (ev_o 21 b3) dL_addMule_0 rfl rfl ?_
  refine ev_iconst (0) dL_addMule_1 rfl ?_
  refine ev_aload_n (ev_o 9 b0) dL_addMule_2 rfl rfl ?_
  refine ev_iload_n (x1) dL_addMule_3 rfl ?_
  refine ev_iload_n (x2) dL_addMule_4 rfl ?_
  refine ev_cV mv_X9_addMule 6 1 9 [ev_i x1, ev_i x2] [ev_i 0, ev_o 21 b3] dL_addMule_5 kw_1658 rfl (by decide) rfl (by decide) (by decide) (Nat.le_of_ble_eq_true rfl) hQ ?_ rfl
  rintro o S1 (⟨v1_, rfl, hQ⟩ | ⟨rfl, hQ⟩ | ⟨rfl, hQ⟩)
  · show ev_E g m_L_addMule 7 0 8 [some (ev_o 9 b0), some (ev_i x1), some (ev_i x2), some (ev_o 21 b3), none] [ev_i v1_, ev_i 0, ev_o 21 b3] S1 Q
    refine ev_i2l dL_addMule_8 ?_
    refine ev_lastore dL_addMule_9 ?_
    refine ev_sub hQ (fun S2 hS2 hQ => ?_)
    refine ev_E.goal (pc' := 10) (L' := [some (ev_o 9 b0), some (ev_i x1), some (ev_i x2), some (ev_o 21 b3), none]) (K' := []) (S' := S2) ?_ rfl rfl rfl hS2
    refine ev_goto 21 dL_addMule_10 (by decide) ?_
    refine ev_iconst (0) dL_addMule_21 rfl ?_
    exact ev_ireturn .int dL_addMule_22 rfl rfl hQ
  · show ev_T g m_L_addMule 7 0 5 [some (ev_o 9 b0), some (ev_i x1), some (ev_i x2), some (ev_o 21 b3), none] S1 0 Q
    refine ev_T_catch [] (⟨0, 10, 13, 25⟩) [⟨0, 10, 17, 13⟩] "" rfl (by intro z hz; cases hz) rfl (by decide) kw_1336 jc_0 (fun q => ?_)
    show ev_E g m_L_addMule 7 0 13 [some (ev_o 9 b0), some (ev_i x1), some (ev_i x2), some (ev_o 21 b3), none] [ev_x 4 q] S1 Q
    refine ev_astore dL_addMule_13 rfl (Nat.le_of_ble_eq_true rfl) (ev_hw rfl) ?_
    show ev_E g m_L_addMule 7 0 15 [some (ev_o 9 b0), some (ev_i x1), some (ev_i x2), some (ev_o 21 b3), some (ev_x 4 q)] [] S1 Q
    refine ev_iconst (1) dL_addMule_15 rfl ?_
    exact ev_ireturn .int dL_addMule_16 rfl rfl hQ
  · show ev_T g m_L_addMule 7 0 5 [some (ev_o 9 b0), some (ev_i x1), some (ev_i x2), some (ev_o 21 b3), none] S1 1 Q
    refine ev_T_catch [⟨0, 10, 13, 25⟩] (⟨0, 10, 17, 13⟩) [] "" rfl (by intro z hz; simp only [List.mem_cons, List.not_mem_nil, or_false] at hz; rcases hz with rfl; exact ⟨(1, 0), (by decide), rfl, (by decide), kw_1336⟩) rfl (by decide) kw_1221 jc_1 (fun q => ?_)
    show ev_E g m_L_addMule 7 0 17 [some (ev_o 9 b0), some (ev_i x1), some (ev_i x2), some (ev_o 21 b3), none] [ev_x 4 q] S1 Q
    refine ev_astore dL_addMule_17 rfl (Nat.le_of_ble_eq_true rfl) (ev_hw rfl) ?_
    show ev_E g m_L_addMule 7 0 19 [some (ev_o 9 b0), some (ev_i x1), some (ev_i x2), some (ev_o 21 b3), some (ev_x 4 q)] [] S1 Q
    refine ev_iconst (2) dL_addMule_19 rfl ?_
    exact ev_ireturn .int dL_addMule_20 rfl rfl hQ
set_option maxHeartbeats 4000000 in
set_option maxRecDepth 100000 in
theorem sg_L_setSnow_0 {g : ev_G} {S : ev_S} {Q : ev_O → ev_S → Prop} (b0 : Nat) (x1 : Int32) (x2 : Int32) (x3 : Int32) (b4 : Nat) (hQ : ev_Cv g m_X9_setSnow 6 1 [ev_o 9 b0, ev_i x1, ev_i x2, ev_i x3] S (fun o S1 => (∃ v1_ : Int32, o = .inl (some (ev_i v1_)) ∧ (
    ∀ S2 : ev_S, S2 = (S1.1, (v1_.toInt64, S1.2.2)) → (
      Q (.inl (some (ev_i 0))) S2))) ∨ (o = .inr 0 ∧ (
    Q (.inl (some (ev_i 1))) S1)) ∨ (o = .inr 2 ∧ (
    Q (.inl (some (ev_i 2))) S1)))) : ev_Cv g m_L_setSnow 7 1 [ev_o 9 b0, ev_i x1, ev_i x2, ev_i x3, ev_o 21 b4] S Q := by
  refine ev_enter (by decide) rfl rfl (Nat.le_of_ble_eq_true rfl) ?_
  show ev_E g m_L_setSnow 7 1 0 [some (ev_o 9 b0), some (ev_i x1), some (ev_i x2), some (ev_i x3), some (ev_o 21 b4), none] [] S Q
  refine ev_aload (ev_o 21 b4) dL_setSnow_0 rfl rfl ?_
  refine ev_iconst (0) dL_setSnow_2 rfl ?_
  refine ev_aload_n (ev_o 9 b0) dL_setSnow_3 rfl rfl ?_
  refine ev_iload_n (x1) dL_setSnow_4 rfl ?_
  refine ev_iload_n (x2) dL_setSnow_5 rfl ?_
  refine ev_iload_n (x3) dL_setSnow_6 rfl ?_
  refine ev_cV mv_X9_setSnow 6 1 9 [ev_i x1, ev_i x2, ev_i x3] [ev_i 0, ev_o 21 b4] dL_setSnow_7 kw_1665 rfl (by decide) rfl (by decide) (by decide) (Nat.le_of_ble_eq_true rfl) hQ ?_ rfl
  rintro o S1 (⟨v1_, rfl, hQ⟩ | ⟨rfl, hQ⟩ | ⟨rfl, hQ⟩)
  · show ev_E g m_L_setSnow 7 0 10 [some (ev_o 9 b0), some (ev_i x1), some (ev_i x2), some (ev_i x3), some (ev_o 21 b4), none] [ev_i v1_, ev_i 0, ev_o 21 b4] S1 Q
    refine ev_i2l dL_setSnow_10 ?_
    refine ev_lastore dL_setSnow_11 ?_
    refine ev_sub hQ (fun S2 hS2 hQ => ?_)
    refine ev_E.goal (pc' := 12) (L' := [some (ev_o 9 b0), some (ev_i x1), some (ev_i x2), some (ev_i x3), some (ev_o 21 b4), none]) (K' := []) (S' := S2) ?_ rfl rfl rfl hS2
    refine ev_goto 23 dL_setSnow_12 (by decide) ?_
    refine ev_iconst (0) dL_setSnow_23 rfl ?_
    exact ev_ireturn .int dL_setSnow_24 rfl rfl hQ
  · show ev_T g m_L_setSnow 7 0 7 [some (ev_o 9 b0), some (ev_i x1), some (ev_i x2), some (ev_i x3), some (ev_o 21 b4), none] S1 0 Q
    refine ev_T_catch [] (⟨0, 12, 15, 25⟩) [⟨0, 12, 19, 19⟩] "" rfl (by intro z hz; cases hz) rfl (by decide) kw_1336 jc_0 (fun q => ?_)
    show ev_E g m_L_setSnow 7 0 15 [some (ev_o 9 b0), some (ev_i x1), some (ev_i x2), some (ev_i x3), some (ev_o 21 b4), none] [ev_x 4 q] S1 Q
    refine ev_astore dL_setSnow_15 rfl (Nat.le_of_ble_eq_true rfl) (ev_hw rfl) ?_
    show ev_E g m_L_setSnow 7 0 17 [some (ev_o 9 b0), some (ev_i x1), some (ev_i x2), some (ev_i x3), some (ev_o 21 b4), some (ev_x 4 q)] [] S1 Q
    refine ev_iconst (1) dL_setSnow_17 rfl ?_
    exact ev_ireturn .int dL_setSnow_18 rfl rfl hQ
  · show ev_T g m_L_setSnow 7 0 7 [some (ev_o 9 b0), some (ev_i x1), some (ev_i x2), some (ev_i x3), some (ev_o 21 b4), none] S1 2 Q
    refine ev_T_catch [⟨0, 12, 15, 25⟩] (⟨0, 12, 19, 19⟩) [] "" rfl (by intro z hz; simp only [List.mem_cons, List.not_mem_nil, or_false] at hz; rcases hz with rfl; exact ⟨(2, 0), (by decide), rfl, (by decide), kw_1336⟩) rfl (by decide) kw_1308 jc_2 (fun q => ?_)
    show ev_E g m_L_setSnow 7 0 19 [some (ev_o 9 b0), some (ev_i x1), some (ev_i x2), some (ev_i x3), some (ev_o 21 b4), none] [ev_x 4 q] S1 Q
    refine ev_astore dL_setSnow_19 rfl (Nat.le_of_ble_eq_true rfl) (ev_hw rfl) ?_
    show ev_E g m_L_setSnow 7 0 21 [some (ev_o 9 b0), some (ev_i x1), some (ev_i x2), some (ev_i x3), some (ev_o 21 b4), some (ev_x 4 q)] [] S1 Q
    refine ev_iconst (2) dL_setSnow_21 rfl ?_
    exact ev_ireturn .int dL_setSnow_22 rfl rfl hQ
set_option maxHeartbeats 4000000 in
set_option maxRecDepth 100000 in
theorem sg_L_writeBoard_0 {g : ev_G} {S : ev_S} {Q : ev_O → ev_S → Prop} (b0 : Nat) (x1 : Int32) (b2 : Nat) (hQ : ev_Cv g m_X9_writeBoard 4 1 [ev_o 9 b0, ev_i x1] S (fun o S1 => (∃ v1_ : Int32, o = .inl (some (ev_i v1_)) ∧ (
    ∀ S2 : ev_S, S2 = (S1.1, (v1_.toInt64, S1.2.2)) → (
      Q (.inl (some (ev_i 0))) S2))) ∨ (o = .inr 0 ∧ (
    Q (.inl (some (ev_i 1))) S1)))) : ev_Cv g m_L_writeBoard 5 1 [ev_o 9 b0, ev_i x1, ev_o 21 b2] S Q := by
  refine ev_enter (by decide) rfl rfl (Nat.le_of_ble_eq_true rfl) ?_
  show ev_E g m_L_writeBoard 5 1 0 [some (ev_o 9 b0), some (ev_i x1), some (ev_o 21 b2), none] [] S Q
  refine ev_aload_n (ev_o 21 b2) dL_writeBoard_0 rfl rfl ?_
  refine ev_iconst (0) dL_writeBoard_1 rfl ?_
  refine ev_aload_n (ev_o 9 b0) dL_writeBoard_2 rfl rfl ?_
  refine ev_iload_n (x1) dL_writeBoard_3 rfl ?_
  refine ev_cV mv_X9_writeBoard 4 1 9 [ev_i x1] [ev_i 0, ev_o 21 b2] dL_writeBoard_4 kw_1672 rfl (by decide) rfl (by decide) (by decide) (Nat.le_of_ble_eq_true rfl) hQ ?_ rfl
  rintro o S1 (⟨v1_, rfl, hQ⟩ | ⟨rfl, hQ⟩)
  · show ev_E g m_L_writeBoard 5 0 7 [some (ev_o 9 b0), some (ev_i x1), some (ev_o 21 b2), none] [ev_i v1_, ev_i 0, ev_o 21 b2] S1 Q
    refine ev_i2l dL_writeBoard_7 ?_
    refine ev_lastore dL_writeBoard_8 ?_
    refine ev_sub hQ (fun S2 hS2 hQ => ?_)
    refine ev_E.goal (pc' := 9) (L' := [some (ev_o 9 b0), some (ev_i x1), some (ev_o 21 b2), none]) (K' := []) (S' := S2) ?_ rfl rfl rfl hS2
    refine ev_goto 15 dL_writeBoard_9 (by decide) ?_
    refine ev_iconst (0) dL_writeBoard_15 rfl ?_
    exact ev_ireturn .int dL_writeBoard_16 rfl rfl hQ
  · show ev_T g m_L_writeBoard 5 0 4 [some (ev_o 9 b0), some (ev_i x1), some (ev_o 21 b2), none] S1 0 Q
    refine ev_T_catch [] (⟨0, 9, 12, 25⟩) [] "" rfl (by intro z hz; cases hz) rfl (by decide) kw_1336 jc_0 (fun q => ?_)
    show ev_E g m_L_writeBoard 5 0 12 [some (ev_o 9 b0), some (ev_i x1), some (ev_o 21 b2), none] [ev_x 4 q] S1 Q
    refine ev_astore_n dL_writeBoard_12 rfl (Nat.le_of_ble_eq_true rfl) (ev_hw rfl) ?_
    show ev_E g m_L_writeBoard 5 0 13 [some (ev_o 9 b0), some (ev_i x1), some (ev_o 21 b2), some (ev_x 4 q)] [] S1 Q
    refine ev_iconst (1) dL_writeBoard_13 rfl ?_
    exact ev_ireturn .int dL_writeBoard_14 rfl rfl hQ
set_option maxHeartbeats 4000000 in
set_option maxRecDepth 100000 in
theorem sg_L_writeMoves_0 {g : ev_G} {S : ev_S} {Q : ev_O → ev_S → Prop} (b0 : Nat) (x1 : Int32) (b2 : Nat) (hQ : ev_Cv g m_X9_writeMoves 5 1 [ev_o 9 b0, ev_i x1] S (fun o S1 => (∃ v1_ : Int32, o = .inl (some (ev_i v1_)) ∧ (
    ∀ S2 : ev_S, S2 = (S1.1, (v1_.toInt64, S1.2.2)) → (
      Q (.inl (some (ev_i 0))) S2))) ∨ (o = .inr 0 ∧ (
    Q (.inl (some (ev_i 1))) S1)))) : ev_Cv g m_L_writeMoves 6 1 [ev_o 9 b0, ev_i x1, ev_o 21 b2] S Q := by
  refine ev_enter (by decide) rfl rfl (Nat.le_of_ble_eq_true rfl) ?_
  show ev_E g m_L_writeMoves 6 1 0 [some (ev_o 9 b0), some (ev_i x1), some (ev_o 21 b2), none] [] S Q
  refine ev_aload_n (ev_o 21 b2) dL_writeMoves_0 rfl rfl ?_
  refine ev_iconst (0) dL_writeMoves_1 rfl ?_
  refine ev_aload_n (ev_o 9 b0) dL_writeMoves_2 rfl rfl ?_
  refine ev_iload_n (x1) dL_writeMoves_3 rfl ?_
  refine ev_cV mv_X9_writeMoves 5 1 9 [ev_i x1] [ev_i 0, ev_o 21 b2] dL_writeMoves_4 kw_1694 rfl (by decide) rfl (by decide) (by decide) (Nat.le_of_ble_eq_true rfl) hQ ?_ rfl
  rintro o S1 (⟨v1_, rfl, hQ⟩ | ⟨rfl, hQ⟩)
  · show ev_E g m_L_writeMoves 6 0 7 [some (ev_o 9 b0), some (ev_i x1), some (ev_o 21 b2), none] [ev_i v1_, ev_i 0, ev_o 21 b2] S1 Q
    refine ev_i2l dL_writeMoves_7 ?_
    refine ev_lastore dL_writeMoves_8 ?_
    refine ev_sub hQ (fun S2 hS2 hQ => ?_)
    refine ev_E.goal (pc' := 9) (L' := [some (ev_o 9 b0), some (ev_i x1), some (ev_o 21 b2), none]) (K' := []) (S' := S2) ?_ rfl rfl rfl hS2
    refine ev_goto 15 dL_writeMoves_9 (by decide) ?_
    refine ev_iconst (0) dL_writeMoves_15 rfl ?_
    exact ev_ireturn .int dL_writeMoves_16 rfl rfl hQ
  · show ev_T g m_L_writeMoves 6 0 4 [some (ev_o 9 b0), some (ev_i x1), some (ev_o 21 b2), none] S1 0 Q
    refine ev_T_catch [] (⟨0, 9, 12, 25⟩) [] "" rfl (by intro z hz; cases hz) rfl (by decide) kw_1336 jc_0 (fun q => ?_)
    show ev_E g m_L_writeMoves 6 0 12 [some (ev_o 9 b0), some (ev_i x1), some (ev_o 21 b2), none] [ev_x 4 q] S1 Q
    refine ev_astore_n dL_writeMoves_12 rfl (Nat.le_of_ble_eq_true rfl) (ev_hw rfl) ?_
    show ev_E g m_L_writeMoves 6 0 13 [some (ev_o 9 b0), some (ev_i x1), some (ev_o 21 b2), some (ev_x 4 q)] [] S1 Q
    refine ev_iconst (1) dL_writeMoves_13 rfl ?_
    exact ev_ireturn .int dL_writeMoves_14 rfl rfl hQ
set_option maxHeartbeats 4000000 in
set_option maxRecDepth 100000 in
theorem sg_L_undo_0 {g : ev_G} {S : ev_S} {Q : ev_O → ev_S → Prop} (b0 : Nat) (b1 : Nat) (hQ : ev_Cv g m_X9_undo 6 1 [ev_o 9 b0] S (fun o S1 => (∃ v1_ : Int32, o = .inl (some (ev_i v1_)) ∧ (
    ∀ S2 : ev_S, S2 = (S1.1, (v1_.toInt64, S1.2.2)) → (
      Q (.inl (some (ev_i 0))) S2))) ∨ (o = .inr 1 ∧ (
    Q (.inl (some (ev_i 1))) S1)))) : ev_Cv g m_L_undo 7 1 [ev_o 9 b0, ev_o 21 b1] S Q := by
  refine ev_enter (by decide) rfl rfl (Nat.le_of_ble_eq_true rfl) ?_
  show ev_E g m_L_undo 7 1 0 [some (ev_o 9 b0), some (ev_o 21 b1), none] [] S Q
  refine ev_aload_n (ev_o 21 b1) dL_undo_0 rfl rfl ?_
  refine ev_iconst (0) dL_undo_1 rfl ?_
  refine ev_aload_n (ev_o 9 b0) dL_undo_2 rfl rfl ?_
  refine ev_cV mv_X9_undo 6 1 9 [] [ev_i 0, ev_o 21 b1] dL_undo_3 kw_1717 rfl (by decide) rfl (by decide) (by decide) (Nat.le_of_ble_eq_true rfl) hQ ?_ rfl
  rintro o S1 (⟨v1_, rfl, hQ⟩ | ⟨rfl, hQ⟩)
  · show ev_E g m_L_undo 7 0 6 [some (ev_o 9 b0), some (ev_o 21 b1), none] [ev_i v1_, ev_i 0, ev_o 21 b1] S1 Q
    refine ev_i2l dL_undo_6 ?_
    refine ev_lastore dL_undo_7 ?_
    refine ev_sub hQ (fun S2 hS2 hQ => ?_)
    refine ev_E.goal (pc' := 8) (L' := [some (ev_o 9 b0), some (ev_o 21 b1), none]) (K' := []) (S' := S2) ?_ rfl rfl rfl hS2
    refine ev_goto 14 dL_undo_8 (by decide) ?_
    refine ev_iconst (0) dL_undo_14 rfl ?_
    exact ev_ireturn .int dL_undo_15 rfl rfl hQ
  · show ev_T g m_L_undo 7 0 3 [some (ev_o 9 b0), some (ev_o 21 b1), none] S1 1 Q
    refine ev_T_catch [] (⟨0, 8, 11, 13⟩) [] "" rfl (by intro z hz; cases hz) rfl (by decide) kw_1221 jc_1 (fun q => ?_)
    show ev_E g m_L_undo 7 0 11 [some (ev_o 9 b0), some (ev_o 21 b1), none] [ev_x 4 q] S1 Q
    refine ev_astore_n dL_undo_11 rfl (Nat.le_of_ble_eq_true rfl) (ev_hw rfl) ?_
    show ev_E g m_L_undo 7 0 12 [some (ev_o 9 b0), some (ev_o 21 b1), some (ev_x 4 q)] [] S1 Q
    refine ev_iconst (1) dL_undo_12 rfl ?_
    exact ev_ireturn .int dL_undo_13 rfl rfl hQ
set_option maxHeartbeats 4000000 in
set_option maxRecDepth 100000 in
theorem sg_L_save_0 {g : ev_G} {S : ev_S} {Q : ev_O → ev_S → Prop} (b0 : Nat) (x1 : Int32) (b2 : Nat) (hQ : ev_Cv g m_X9_save 5 1 [ev_o 9 b0, ev_i x1] S (fun o S1 => (∃ v1_ : Int32, o = .inl (some (ev_i v1_)) ∧ (
    ∀ S2 : ev_S, S2 = (S1.1, (v1_.toInt64, S1.2.2)) → (
      Q (.inl (some (ev_i 0))) S2))) ∨ (o = .inr 0 ∧ (
    Q (.inl (some (ev_i 1))) S1)))) : ev_Cv g m_L_save 6 1 [ev_o 9 b0, ev_i x1, ev_o 21 b2] S Q := by
  refine ev_enter (by decide) rfl rfl (Nat.le_of_ble_eq_true rfl) ?_
  show ev_E g m_L_save 6 1 0 [some (ev_o 9 b0), some (ev_i x1), some (ev_o 21 b2), none] [] S Q
  refine ev_aload_n (ev_o 21 b2) dL_save_0 rfl rfl ?_
  refine ev_iconst (0) dL_save_1 rfl ?_
  refine ev_aload_n (ev_o 9 b0) dL_save_2 rfl rfl ?_
  refine ev_iload_n (x1) dL_save_3 rfl ?_
  refine ev_cV mv_X9_save 5 1 9 [ev_i x1] [ev_i 0, ev_o 21 b2] dL_save_4 kw_1729 rfl (by decide) rfl (by decide) (by decide) (Nat.le_of_ble_eq_true rfl) hQ ?_ rfl
  rintro o S1 (⟨v1_, rfl, hQ⟩ | ⟨rfl, hQ⟩)
  · show ev_E g m_L_save 6 0 7 [some (ev_o 9 b0), some (ev_i x1), some (ev_o 21 b2), none] [ev_i v1_, ev_i 0, ev_o 21 b2] S1 Q
    refine ev_i2l dL_save_7 ?_
    refine ev_lastore dL_save_8 ?_
    refine ev_sub hQ (fun S2 hS2 hQ => ?_)
    refine ev_E.goal (pc' := 9) (L' := [some (ev_o 9 b0), some (ev_i x1), some (ev_o 21 b2), none]) (K' := []) (S' := S2) ?_ rfl rfl rfl hS2
    refine ev_goto 15 dL_save_9 (by decide) ?_
    refine ev_iconst (0) dL_save_15 rfl ?_
    exact ev_ireturn .int dL_save_16 rfl rfl hQ
  · show ev_T g m_L_save 6 0 4 [some (ev_o 9 b0), some (ev_i x1), some (ev_o 21 b2), none] S1 0 Q
    refine ev_T_catch [] (⟨0, 9, 12, 25⟩) [] "" rfl (by intro z hz; cases hz) rfl (by decide) kw_1336 jc_0 (fun q => ?_)
    show ev_E g m_L_save 6 0 12 [some (ev_o 9 b0), some (ev_i x1), some (ev_o 21 b2), none] [ev_x 4 q] S1 Q
    refine ev_astore_n dL_save_12 rfl (Nat.le_of_ble_eq_true rfl) (ev_hw rfl) ?_
    show ev_E g m_L_save 6 0 13 [some (ev_o 9 b0), some (ev_i x1), some (ev_o 21 b2), some (ev_x 4 q)] [] S1 Q
    refine ev_iconst (1) dL_save_13 rfl ?_
    exact ev_ireturn .int dL_save_14 rfl rfl hQ
set_option maxHeartbeats 4000000 in
set_option maxRecDepth 100000 in
theorem sg_L_restore_0 {g : ev_G} {S : ev_S} {Q : ev_O → ev_S → Prop} (b0 : Nat) (x1 : Int32) (b2 : Nat) (hQ : ev_Cv g m_X9_restore 5 2 [ev_o 9 b0, ev_i x1] S (fun o S1 => (∃ v1_ : Int32, o = .inl (some (ev_i v1_)) ∧ (
    ∀ S2 : ev_S, S2 = (S1.1, (v1_.toInt64, S1.2.2)) → (
      Q (.inl (some (ev_i 0))) S2))) ∨ (o = .inr 0 ∧ (
    Q (.inl (some (ev_i 1))) S1)) ∨ (o = .inr 3 ∧ (
    Q (.inl (some (ev_i 2))) S1)))) : ev_Cv g m_L_restore 6 2 [ev_o 9 b0, ev_i x1, ev_o 21 b2] S Q := by
  refine ev_enter (by decide) rfl rfl (Nat.le_of_ble_eq_true rfl) ?_
  show ev_E g m_L_restore 6 2 0 [some (ev_o 9 b0), some (ev_i x1), some (ev_o 21 b2), none] [] S Q
  refine ev_aload_n (ev_o 21 b2) dL_restore_0 rfl rfl ?_
  refine ev_iconst (0) dL_restore_1 rfl ?_
  refine ev_aload_n (ev_o 9 b0) dL_restore_2 rfl rfl ?_
  refine ev_iload_n (x1) dL_restore_3 rfl ?_
  refine ev_cV mv_X9_restore 5 2 9 [ev_i x1] [ev_i 0, ev_o 21 b2] dL_restore_4 kw_1743 rfl (by decide) rfl (by decide) (by decide) (Nat.le_of_ble_eq_true rfl) hQ ?_ rfl
  rintro o S1 (⟨v1_, rfl, hQ⟩ | ⟨rfl, hQ⟩ | ⟨rfl, hQ⟩)
  · show ev_E g m_L_restore 6 0 7 [some (ev_o 9 b0), some (ev_i x1), some (ev_o 21 b2), none] [ev_i v1_, ev_i 0, ev_o 21 b2] S1 Q
    refine ev_i2l dL_restore_7 ?_
    refine ev_lastore dL_restore_8 ?_
    refine ev_sub hQ (fun S2 hS2 hQ => ?_)
    refine ev_E.goal (pc' := 9) (L' := [some (ev_o 9 b0), some (ev_i x1), some (ev_o 21 b2), none]) (K' := []) (S' := S2) ?_ rfl rfl rfl hS2
    refine ev_goto 18 dL_restore_9 (by decide) ?_
    refine ev_iconst (0) dL_restore_18 rfl ?_
    exact ev_ireturn .int dL_restore_19 rfl rfl hQ
  · show ev_T g m_L_restore 6 0 4 [some (ev_o 9 b0), some (ev_i x1), some (ev_o 21 b2), none] S1 0 Q
    refine ev_T_catch [] (⟨0, 9, 12, 25⟩) [⟨0, 9, 15, 53⟩] "" rfl (by intro z hz; cases hz) rfl (by decide) kw_1336 jc_0 (fun q => ?_)
    show ev_E g m_L_restore 6 0 12 [some (ev_o 9 b0), some (ev_i x1), some (ev_o 21 b2), none] [ev_x 4 q] S1 Q
    refine ev_astore_n dL_restore_12 rfl (Nat.le_of_ble_eq_true rfl) (ev_hw rfl) ?_
    show ev_E g m_L_restore 6 0 13 [some (ev_o 9 b0), some (ev_i x1), some (ev_o 21 b2), some (ev_x 4 q)] [] S1 Q
    refine ev_iconst (1) dL_restore_13 rfl ?_
    exact ev_ireturn .int dL_restore_14 rfl rfl hQ
  · show ev_T g m_L_restore 6 0 4 [some (ev_o 9 b0), some (ev_i x1), some (ev_o 21 b2), none] S1 3 Q
    refine ev_T_catch [⟨0, 9, 12, 25⟩] (⟨0, 9, 15, 53⟩) [] "" rfl (by intro z hz; simp only [List.mem_cons, List.not_mem_nil, or_false] at hz; rcases hz with rfl; exact ⟨(3, 0), (by decide), rfl, (by decide), kw_1336⟩) rfl (by decide) kw_1424 jc_3 (fun q => ?_)
    show ev_E g m_L_restore 6 0 15 [some (ev_o 9 b0), some (ev_i x1), some (ev_o 21 b2), none] [ev_x 4 q] S1 Q
    refine ev_astore_n dL_restore_15 rfl (Nat.le_of_ble_eq_true rfl) (ev_hw rfl) ?_
    show ev_E g m_L_restore 6 0 16 [some (ev_o 9 b0), some (ev_i x1), some (ev_o 21 b2), some (ev_x 4 q)] [] S1 Q
    refine ev_iconst (2) dL_restore_16 rfl ?_
    exact ev_ireturn .int dL_restore_17 rfl rfl hQ
