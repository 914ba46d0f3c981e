set_option maxHeartbeats 4000000 in
set_option maxRecDepth 100000 in
theorem sg_X10_daysUntilEqual_0 {g : ev_G} {S : ev_S} {Q : ev_O → ev_S → Prop} (a : Nat) (hQ : ∀ S1 : ev_S, S1 = (ev_up S a 7 0) → (
    ev_Cv g m_X10_tries 1 0 [ev_o 10 a] S1 (fun o S2 => o = .inl none ∧ (
      ev_E g m_X10_daysUntilEqual 9 0 11 [some (ev_o 10 a), some (ev_i 0)] [] S2 Q)))) : ev_Cv g m_X10_daysUntilEqual 9 0 [ev_o 10 a] S Q := by
  refine ev_enter (by decide) rfl rfl (Nat.le_of_ble_eq_true rfl) ?_
  show ev_E g m_X10_daysUntilEqual 9 0 0 [some (ev_o 10 a), none] [] S Q
  refine ev_aload_n (ev_o 10 a) dX10_daysUntilEqual_0 rfl rfl ?_
  refine ev_iconst (0) dX10_daysUntilEqual_1 rfl ?_
  refine pf_10_7 dX10_daysUntilEqual_2 kw_1860 ?_
  refine ev_sub hQ (fun S1 hS1 hQ => ?_)
  refine ev_E.goal (pc' := 5) (L' := [some (ev_o 10 a), none]) (K' := []) (S' := S1) ?_ rfl rfl rfl hS1
  refine ev_aload_n (ev_o 10 a) dX10_daysUntilEqual_5 rfl rfl ?_
  refine ev_cV mv_X10_tries 1 0 10 [] [] dX10_daysUntilEqual_6 kw_2349 rfl (by decide) rfl (by decide) (by decide) (Nat.le_of_ble_eq_true rfl) hQ ?_ rfl
  rintro o S2 ⟨rfl, hQ⟩
  show ev_E g m_X10_daysUntilEqual 9 0 9 [some (ev_o 10 a), none] [] S2 Q
  refine ev_iconst (0) dX10_daysUntilEqual_9 rfl ?_
  refine ev_istore_n dX10_daysUntilEqual_10 (Nat.le_of_ble_eq_true rfl) (ev_hw rfl) ?_
  show ev_E g m_X10_daysUntilEqual 9 0 11 [some (ev_o 10 a), some (ev_i 0)] [] S2 Q
  exact hQ
set_option maxHeartbeats 4000000 in
set_option maxRecDepth 100000 in
theorem sg_X10_daysUntilEqual_11 {g : ev_G} {S : ev_S} {Q : ev_O → ev_S → Prop} (a : Nat) (u1 : Int32) (hQ : (400 < u1 → (
    ev_Cv g m_X10_back 1 0 [ev_o 10 a, ev_i (-1)] S (fun o S1 => ∃ v1_ : Int32, o = .inl (some (ev_i v1_)) ∧ (
      Q (.inl (some (ev_i v1_))) S1)))) ∧
  (¬ (400 < u1) → (
    ev_Cv g m_X10_areEqual 2 0 [ev_o 10 a] S (fun o S2 => ∃ v2_ : Bool, o = .inl (some (ev_i (if v2_ = true then 1 else 0))) ∧ (
      (v2_ = true → (
        ev_Cv g m_X10_back 1 0 [ev_o 10 a, ev_i u1] S2 (fun o S3 => ∃ v3_ : Int32, o = .inl (some (ev_i v3_)) ∧ (
          Q (.inl (some (ev_i v3_))) S3)))) ∧
      (¬ (v2_ = true) → (
        ev_Cv g m_X10_dayPasses 8 0 [ev_o 10 a] S2 (fun o S4 => o = .inl none ∧ (
          ev_E g m_X10_daysUntilEqual 9 0 11 [some (ev_o 10 a), some (ev_i (u1 + 1))] [] S4 Q))))))))) : ev_E g m_X10_daysUntilEqual 9 0 11 [some (ev_o 10 a), some (ev_i u1)] [] S Q := by
  refine ev_iload_n (u1) dX10_daysUntilEqual_11 rfl ?_
  refine ev_sipush (400) dX10_daysUntilEqual_12 (by decide) ?_
  refine ev_icmp_gt 41 dX10_daysUntilEqual_15 (by decide) (fun c1 => ?_) (fun c1 => ?_)
  · replace hQ := hQ.1 c1
    refine ev_aload_n (ev_o 10 a) dX10_daysUntilEqual_41 rfl rfl ?_
    refine ev_iconst (-1) dX10_daysUntilEqual_42 rfl ?_
    refine ev_cV mv_X10_back 1 0 10 [ev_i (-1)] [] dX10_daysUntilEqual_43 kw_2357 rfl (by decide) rfl (by decide) (by decide) (Nat.le_of_ble_eq_true rfl) hQ ?_ rfl
    rintro o S1 ⟨v1_, rfl, hQ⟩
    show ev_E g m_X10_daysUntilEqual 9 0 46 [some (ev_o 10 a), some (ev_i u1)] [ev_i v1_] S1 Q
    exact ev_ireturn .int dX10_daysUntilEqual_46 rfl rfl hQ
  · replace hQ := hQ.2 c1
    refine ev_aload_n (ev_o 10 a) dX10_daysUntilEqual_18 rfl rfl ?_
    refine ev_cV mv_X10_areEqual 2 0 10 [] [] dX10_daysUntilEqual_19 kw_2261 rfl (by decide) rfl (by decide) (by decide) (Nat.le_of_ble_eq_true rfl) hQ ?_ rfl
    rintro o S2 ⟨v2_, rfl, hQ⟩
    show ev_E g m_X10_daysUntilEqual 9 0 22 [some (ev_o 10 a), some (ev_i u1)] [ev_i (if v2_ = true then 1 else 0)] S2 Q
    by_cases c2 : v2_ = true
    · rw [if_pos c2]
      replace hQ := hQ.1 c2
      refine ev_if_eq 31 dX10_daysUntilEqual_22 (by decide) (fun h9 => absurd h9 (by decide : ¬ ((1 : Int32) = 0))) (fun _ => ?_)
      refine ev_aload_n (ev_o 10 a) dX10_daysUntilEqual_25 rfl rfl ?_
      refine ev_iload_n (u1) dX10_daysUntilEqual_26 rfl ?_
      refine ev_cV mv_X10_back 1 0 10 [ev_i u1] [] dX10_daysUntilEqual_27 kw_2357 rfl (by decide) rfl (by decide) (by decide) (Nat.le_of_ble_eq_true rfl) hQ ?_ rfl
      rintro o S3 ⟨v3_, rfl, hQ⟩
      show ev_E g m_X10_daysUntilEqual 9 0 30 [some (ev_o 10 a), some (ev_i u1)] [ev_i v3_] S3 Q
      exact ev_ireturn .int dX10_daysUntilEqual_30 rfl rfl hQ
    · rw [if_neg c2]
      replace hQ := hQ.2 c2
      refine ev_if_eq 31 dX10_daysUntilEqual_22 (by decide) (fun _ => ?_) (fun h9 => absurd (by decide : ((0 : Int32) = 0)) h9)
      refine ev_aload_n (ev_o 10 a) dX10_daysUntilEqual_31 rfl rfl ?_
      refine ev_cV mv_X10_dayPasses 8 0 10 [] [] dX10_daysUntilEqual_32 kw_2137 rfl (by decide) rfl (by decide) (by decide) (Nat.le_of_ble_eq_true rfl) hQ ?_ rfl
      rintro o S4 ⟨rfl, hQ⟩
      show ev_E g m_X10_daysUntilEqual 9 0 35 [some (ev_o 10 a), some (ev_i u1)] [] S4 Q
      refine ev_iinc u1 (1) dX10_daysUntilEqual_35 rfl (by decide) (ev_hw rfl) ?_
      show ev_E g m_X10_daysUntilEqual 9 0 38 [some (ev_o 10 a), some (ev_i (u1 + 1))] [] S4 Q
      refine ev_goto 11 dX10_daysUntilEqual_38 (by decide) ?_
      exact hQ
set_option maxHeartbeats 4000000 in
set_option maxRecDepth 100000 in
theorem sg_X10_arrivalOver_0 {g : ev_G} {S : ev_S} {Q : ev_O → ev_S → Prop} (a : Nat) (x0 : Int32) (x1 : Int32) (hQ : ev_Cv g m_X10_tries 1 0 [ev_o 10 a] S (fun o S1 => o = .inl none ∧ (
    ev_Cv g m_X10_posts 2 0 [ev_o 10 a, ev_i x0, ev_i x1, ev_i 0, ev_i 1, ev_i 0, ev_i 0] S1 (fun o S2 => ∃ v2_ : Int32, o = .inl (some (ev_i v2_)) ∧ (
      ∀ S3 : ev_S, S3 = (ev_up S2 a 8 v2_) → (
        ev_Cv g m_X10_arrivalOf 9 0 [ev_o 10 a, ev_i v2_] S3 (fun o S4 => ∃ v3_ : Int32, o = .inl (some (ev_i v3_)) ∧ (
          ev_Cv g m_X10_back 1 0 [ev_o 10 a, ev_i v3_] S4 (fun o S5 => ∃ v4_ : Int32, o = .inl (some (ev_i v4_)) ∧ (
            Q (.inl (some (ev_i v4_))) S5)))))))))) : ev_Cv g m_X10_arrivalOver 10 0 [ev_o 10 a, ev_i x0, ev_i x1] S Q := by
  refine ev_enter (by decide) rfl rfl (Nat.le_of_ble_eq_true rfl) ?_
  show ev_E g m_X10_arrivalOver 10 0 0 [some (ev_o 10 a), some (ev_i x0), some (ev_i x1)] [] S Q
  refine ev_aload_n (ev_o 10 a) dX10_arrivalOver_0 rfl rfl ?_
  refine ev_cV mv_X10_tries 1 0 10 [] [] dX10_arrivalOver_1 kw_2349 rfl (by decide) rfl (by decide) (by decide) (Nat.le_of_ble_eq_true rfl) hQ ?_ rfl
  rintro o S1 ⟨rfl, hQ⟩
  show ev_E g m_X10_arrivalOver 10 0 4 [some (ev_o 10 a), some (ev_i x0), some (ev_i x1)] [] S1 Q
  refine ev_aload_n (ev_o 10 a) dX10_arrivalOver_4 rfl rfl ?_
  refine ev_aload_n (ev_o 10 a) dX10_arrivalOver_5 rfl rfl ?_
  refine ev_iload_n (x0) dX10_arrivalOver_6 rfl ?_
  refine ev_iload_n (x1) dX10_arrivalOver_7 rfl ?_
  refine ev_iconst (0) dX10_arrivalOver_8 rfl ?_
  refine ev_iconst (1) dX10_arrivalOver_9 rfl ?_
  refine ev_iconst (0) dX10_arrivalOver_10 rfl ?_
  refine ev_iconst (0) dX10_arrivalOver_11 rfl ?_
  refine ev_cV mv_X10_posts 2 0 10 [ev_i x0, ev_i x1, ev_i 0, ev_i 1, ev_i 0, ev_i 0] [ev_o 10 a] dX10_arrivalOver_12 kw_2081 rfl (by decide) rfl (by decide) (by decide) (Nat.le_of_ble_eq_true rfl) hQ ?_ rfl
  rintro o S2 ⟨v2_, rfl, hQ⟩
  show ev_E g m_X10_arrivalOver 10 0 15 [some (ev_o 10 a), some (ev_i x0), some (ev_i x1)] [ev_i v2_, ev_o 10 a] S2 Q
  refine pf_10_8 dX10_arrivalOver_15 kw_1861 ?_
  refine ev_sub hQ (fun S3 hS3 hQ => ?_)
  refine ev_E.goal (pc' := 18) (L' := [some (ev_o 10 a), some (ev_i x0), some (ev_i x1)]) (K' := []) (S' := S3) ?_ rfl rfl rfl hS3
  refine ev_aload_n (ev_o 10 a) dX10_arrivalOver_18 rfl rfl ?_
  refine ev_aload_n (ev_o 10 a) dX10_arrivalOver_19 rfl rfl ?_
  refine ev_aload_n (ev_o 10 a) dX10_arrivalOver_20 rfl rfl ?_
  refine gf_10_8 dX10_arrivalOver_21 kw_1861 ?_
  refine ev_ke (j_rs hS3) ?_
  refine ev_cV mv_X10_arrivalOf 9 0 10 [ev_i v2_] [ev_o 10 a] dX10_arrivalOver_24 kw_2353 rfl (by decide) rfl (by decide) (by decide) (Nat.le_of_ble_eq_true rfl) hQ ?_ rfl
  rintro o S4 ⟨v3_, rfl, hQ⟩
  show ev_E g m_X10_arrivalOver 10 0 27 [some (ev_o 10 a), some (ev_i x0), some (ev_i x1)] [ev_i v3_, ev_o 10 a] S4 Q
  refine ev_cV mv_X10_back 1 0 10 [ev_i v3_] [] dX10_arrivalOver_27 kw_2357 rfl (by decide) rfl (by decide) (by decide) (Nat.le_of_ble_eq_true rfl) hQ ?_ rfl
  rintro o S5 ⟨v4_, rfl, hQ⟩
  show ev_E g m_X10_arrivalOver 10 0 30 [some (ev_o 10 a), some (ev_i x0), some (ev_i x1)] [ev_i v4_] S5 Q
  exact ev_ireturn .int dX10_arrivalOver_30 rfl rfl hQ
set_option maxHeartbeats 4000000 in
set_option maxRecDepth 100000 in
theorem sg_X10_fastestPass_0 {g : ev_G} {S : ev_S} {Q : ev_O → ev_S → Prop} (a : Nat) (x0 : Int32) (hQ : ∀ S1 : ev_S, S1 = (ev_up S a 7 0) → (
    ((t_X10_in x0 0 1) = true → (
      ev_E g m_X10_fastestPass 11 0 26 [some (ev_o 10 a), some (ev_i x0), some (ev_i (-1)), some (ev_i 0), some (ev_i 0), none] [] S1 Q)) ∧
    (¬ ((t_X10_in x0 0 1) = true) → (
      ∀ S2 : ev_S, S2 = (ev_up S1 a 7 1) → (
        Q (.inl (some (ev_i 0))) S2))))) : ev_Cv g m_X10_fastestPass 11 0 [ev_o 10 a, ev_i x0] S Q := by
  refine ev_enter (by decide) rfl rfl (Nat.le_of_ble_eq_true rfl) ?_
  show ev_E g m_X10_fastestPass 11 0 0 [some (ev_o 10 a), some (ev_i x0), none, none, none, none] [] S Q
  refine ev_aload_n (ev_o 10 a) dX10_fastestPass_0 rfl rfl ?_
  refine ev_iconst (0) dX10_fastestPass_1 rfl ?_
  refine pf_10_7 dX10_fastestPass_2 kw_1860 ?_
  refine ev_sub hQ (fun S1 hS1 hQ => ?_)
  refine ev_E.goal (pc' := 5) (L' := [some (ev_o 10 a), some (ev_i x0), none, none, none, none]) (K' := []) (S' := S1) ?_ rfl rfl rfl hS1
  refine ev_aload_n (ev_o 10 a) dX10_fastestPass_5 rfl rfl ?_
  refine ev_iload_n (x0) dX10_fastestPass_6 rfl ?_
  refine ev_fS ms_X10_isPlayer 2 [ev_i x0] [ev_o 10 a] dX10_fastestPass_7 kw_2029 rfl (by decide) (Nat.le_of_ble_eq_true rfl) (sp_X10_isPlayer x0) ?_ rfl
  by_cases c1 : (t_X10_in x0 0 1) = true
  · rw [if_pos c1]
    replace hQ := hQ.1 c1
    refine ev_iconst (1) dX10_fastestPass_10 rfl ?_
    refine ev_cV mv_X10_right 1 0 10 [ev_i 1, ev_i 1] [] dX10_fastestPass_11 kw_1951 rfl (by decide) rfl (by decide) (by decide) (Nat.le_of_ble_eq_true rfl) (Q' := fun o z => ev_After g m_X10_fastestPass 11 (0 - 0) 11 [some (ev_o 10 a), some (ev_i x0), none, none, none, none] [] z Q o) (sg_X10_right_0 a 1 1 ?_) (fun o z h => h) rfl
    refine j_pos (by rw [j_rs hS1] <;> decide : ((S1.1 a 7) = 0)) ?_
    refine j_neg (by decide : ¬ ((1 : Int32) = 0)) ?_
    show ev_E g m_X10_fastestPass 11 0 14 [some (ev_o 10 a), some (ev_i x0), none, none, none, none] [ev_i 1] S1 Q
    refine ev_if_ne 19 dX10_fastestPass_14 (by decide) (fun _ => ?_) (fun h9 => absurd h9 (by decide : ¬ ((1 : Int32) = 0)))
    refine ev_iconst (-1) dX10_fastestPass_19 rfl ?_
    refine ev_istore_n dX10_fastestPass_20 (Nat.le_of_ble_eq_true rfl) (ev_hw rfl) ?_
    show ev_E g m_X10_fastestPass 11 0 21 [some (ev_o 10 a), some (ev_i x0), some (ev_i (-1)), none, none, none] [] S1 Q
    refine ev_iconst (0) dX10_fastestPass_21 rfl ?_
    refine ev_istore_n dX10_fastestPass_22 (Nat.le_of_ble_eq_true rfl) (ev_hw rfl) ?_
    show ev_E g m_X10_fastestPass 11 0 23 [some (ev_o 10 a), some (ev_i x0), some (ev_i (-1)), some (ev_i 0), none, none] [] S1 Q
    refine ev_iconst (0) dX10_fastestPass_23 rfl ?_
    refine ev_istore dX10_fastestPass_24 (Nat.le_of_ble_eq_true rfl) (ev_hw rfl) ?_
    show ev_E g m_X10_fastestPass 11 0 26 [some (ev_o 10 a), some (ev_i x0), some (ev_i (-1)), some (ev_i 0), some (ev_i 0), none] [] S1 Q
    exact hQ
  · rw [if_neg c1]
    replace hQ := hQ.2 c1
    refine ev_iconst (1) dX10_fastestPass_10 rfl ?_
    refine ev_cV mv_X10_right 1 0 10 [ev_i 0, ev_i 1] [] dX10_fastestPass_11 kw_1951 rfl (by decide) rfl (by decide) (by decide) (Nat.le_of_ble_eq_true rfl) (Q' := fun o z => ev_After g m_X10_fastestPass 11 (0 - 0) 11 [some (ev_o 10 a), some (ev_i x0), none, none, none, none] [] z Q o) (sg_X10_right_0 a 0 1 ?_) (fun o z h => h) rfl
    refine j_pos (by rw [j_rs hS1] <;> decide : ((S1.1 a 7) = 0)) ?_
    refine j_pos (by decide : ((0 : Int32) = 0)) ?_
    intro S2 hS2
    refine ev_sub1 hQ hS2 (fun hQ => ?_)
    refine j_neg (by decide : ¬ ((1 : Int32) = 0)) ?_
    show ev_E g m_X10_fastestPass 11 0 14 [some (ev_o 10 a), some (ev_i x0), none, none, none, none] [ev_i 0] S2 Q
    refine ev_if_ne 19 dX10_fastestPass_14 (by decide) (fun h9 => absurd (by decide : ((0 : Int32) = 0)) h9) (fun _ => ?_)
    refine ev_iconst (0) dX10_fastestPass_17 rfl ?_
    exact ev_ireturn .int dX10_fastestPass_18 rfl rfl hQ
set_option maxHeartbeats 4000000 in
set_option maxRecDepth 100000 in
theorem sg_X10_fastestPass_26 {g : ev_G} {S : ev_S} {Q : ev_O → ev_S → Prop} (a : Nat) (u1 : Int32) (u2 : Int32) (u3 : Int32) (u4 : Int32) (hQ : ((S.1 (a + 1) 3) ≤ u4 → (
    Q (.inl (some (ev_i u2))) S)) ∧
  (¬ ((S.1 (a + 1) 3) ≤ u4) → (
    ev_Cv g m_X10_arrivalOver 10 0 [ev_o 10 a, ev_i u1, ev_i u4] S (fun o S1 => ∃ v1_ : Int32, o = .inl (some (ev_i v1_)) ∧ (
      (v1_ = (-1) → (
        ev_E g m_X10_fastestPass 11 0 26 [some (ev_o 10 a), some (ev_i u1), some (ev_i u2), some (ev_i u3), some (ev_i (u4 + 1)), none] [] S1 Q)) ∧
      (¬ (v1_ = (-1)) → (
        (u2 = (-1) → (
          ev_E g m_X10_fastestPass 11 0 26 [some (ev_o 10 a), some (ev_i u1), some (ev_i u4), some (ev_i v1_), some (ev_i (u4 + 1)), none] [] S1 Q)) ∧
        (¬ (u2 = (-1)) → (
          (v1_ < u3 → (
            ev_E g m_X10_fastestPass 11 0 26 [some (ev_o 10 a), some (ev_i u1), some (ev_i u4), some (ev_i v1_), some (ev_i (u4 + 1)), none] [] S1 Q)) ∧
          (¬ (v1_ < u3) → (
            ev_E g m_X10_fastestPass 11 0 26 [some (ev_o 10 a), some (ev_i u1), some (ev_i u2), some (ev_i u3), some (ev_i (u4 + 1)), none] [] S1 Q))))))))))) : ev_E g m_X10_fastestPass 11 0 26 [some (ev_o 10 a), some (ev_i u1), some (ev_i u2), some (ev_i u3), some (ev_i u4), none] [] S Q := by
  refine ev_iload (u4) dX10_fastestPass_26 rfl ?_
  refine ev_aload_n (ev_o 10 a) dX10_fastestPass_28 rfl rfl ?_
  refine gf_10_0 dX10_fastestPass_29 kw_1853 ?_
  refine ev_iconst (3) dX10_fastestPass_32 rfl ?_
  refine ev_iaload dX10_fastestPass_33 (j_vin (by decide)) ?_
  refine ev_icmp_ge 78 dX10_fastestPass_34 (by decide) (fun c1 => ?_) (fun c1 => ?_)
  · replace hQ := hQ.1 c1
    refine ev_iload_n (u2) dX10_fastestPass_78 rfl ?_
    exact ev_ireturn .int dX10_fastestPass_79 rfl rfl hQ
  · replace hQ := hQ.2 c1
    refine ev_aload_n (ev_o 10 a) dX10_fastestPass_37 rfl rfl ?_
    refine ev_iload_n (u1) dX10_fastestPass_38 rfl ?_
    refine ev_iload (u4) dX10_fastestPass_39 rfl ?_
    refine ev_cV mv_X10_arrivalOver 10 0 10 [ev_i u1, ev_i u4] [] dX10_fastestPass_41 kw_2373 rfl (by decide) rfl (by decide) (by decide) (Nat.le_of_ble_eq_true rfl) hQ ?_ rfl
    rintro o S1 ⟨v1_, rfl, hQ⟩
    show ev_E g m_X10_fastestPass 11 0 44 [some (ev_o 10 a), some (ev_i u1), some (ev_i u2), some (ev_i u3), some (ev_i u4), none] [ev_i v1_] S1 Q
    refine ev_istore dX10_fastestPass_44 (Nat.le_of_ble_eq_true rfl) (ev_hw rfl) ?_
    show ev_E g m_X10_fastestPass 11 0 46 [some (ev_o 10 a), some (ev_i u1), some (ev_i u2), some (ev_i u3), some (ev_i u4), some (ev_i v1_)] [] S1 Q
    refine ev_iload (v1_) dX10_fastestPass_46 rfl ?_
    refine ev_iconst (-1) dX10_fastestPass_48 rfl ?_
    refine ev_icmp_eq 72 dX10_fastestPass_49 (by decide) (fun c2 => ?_) (fun c2 => ?_)
    · replace hQ := hQ.1 c2
      refine ev_iinc u4 (1) dX10_fastestPass_72 rfl (by decide) (ev_hw rfl) ?_
      show ev_E g m_X10_fastestPass 11 0 75 [some (ev_o 10 a), some (ev_i u1), some (ev_i u2), some (ev_i u3), some (ev_i (u4 + 1)), some (ev_i v1_)] [] S1 Q
      refine ev_goto 26 dX10_fastestPass_75 (by decide) ?_
      refine ev_fgm [true, true, true, true, true, false] ?_
      exact hQ
    · replace hQ := hQ.2 c2
      refine ev_iload_n (u2) dX10_fastestPass_52 rfl ?_
      refine ev_iconst (-1) dX10_fastestPass_53 rfl ?_
      refine ev_icmp_eq 66 dX10_fastestPass_54 (by decide) (fun c3 => ?_) (fun c3 => ?_)
      · replace hQ := hQ.1 c3
        refine ev_iload (u4) dX10_fastestPass_66 rfl ?_
        refine ev_istore_n dX10_fastestPass_68 (Nat.le_of_ble_eq_true rfl) (ev_hw rfl) ?_
        show ev_E g m_X10_fastestPass 11 0 69 [some (ev_o 10 a), some (ev_i u1), some (ev_i u4), some (ev_i u3), some (ev_i u4), some (ev_i v1_)] [] S1 Q
        refine ev_iload (v1_) dX10_fastestPass_69 rfl ?_
        refine ev_istore_n dX10_fastestPass_71 (Nat.le_of_ble_eq_true rfl) (ev_hw rfl) ?_
        show ev_E g m_X10_fastestPass 11 0 72 [some (ev_o 10 a), some (ev_i u1), some (ev_i u4), some (ev_i v1_), some (ev_i u4), some (ev_i v1_)] [] S1 Q
        refine ev_iinc u4 (1) dX10_fastestPass_72 rfl (by decide) (ev_hw rfl) ?_
        show ev_E g m_X10_fastestPass 11 0 75 [some (ev_o 10 a), some (ev_i u1), some (ev_i u4), some (ev_i v1_), some (ev_i (u4 + 1)), some (ev_i v1_)] [] S1 Q
        refine ev_goto 26 dX10_fastestPass_75 (by decide) ?_
        refine ev_fgm [true, true, true, true, true, false] ?_
        exact hQ
      · replace hQ := hQ.2 c3
        refine ev_iload (v1_) dX10_fastestPass_57 rfl ?_
        refine ev_iload_n (u3) dX10_fastestPass_59 rfl ?_
        refine ev_icmp_lt 66 dX10_fastestPass_60 (by decide) (fun c4 => ?_) (fun c4 => ?_)
        · replace hQ := hQ.1 c4
          refine ev_iload (u4) dX10_fastestPass_66 rfl ?_
          refine ev_istore_n dX10_fastestPass_68 (Nat.le_of_ble_eq_true rfl) (ev_hw rfl) ?_
          show ev_E g m_X10_fastestPass 11 0 69 [some (ev_o 10 a), some (ev_i u1), some (ev_i u4), some (ev_i u3), some (ev_i u4), some (ev_i v1_)] [] S1 Q
          refine ev_iload (v1_) dX10_fastestPass_69 rfl ?_
          refine ev_istore_n dX10_fastestPass_71 (Nat.le_of_ble_eq_true rfl) (ev_hw rfl) ?_
          show ev_E g m_X10_fastestPass 11 0 72 [some (ev_o 10 a), some (ev_i u1), some (ev_i u4), some (ev_i v1_), some (ev_i u4), some (ev_i v1_)] [] S1 Q
          refine ev_iinc u4 (1) dX10_fastestPass_72 rfl (by decide) (ev_hw rfl) ?_
          show ev_E g m_X10_fastestPass 11 0 75 [some (ev_o 10 a), some (ev_i u1), some (ev_i u4), some (ev_i v1_), some (ev_i (u4 + 1)), some (ev_i v1_)] [] S1 Q
          refine ev_goto 26 dX10_fastestPass_75 (by decide) ?_
          refine ev_fgm [true, true, true, true, true, false] ?_
          exact hQ
        · replace hQ := hQ.2 c4
          refine ev_goto 72 dX10_fastestPass_63 (by decide) ?_
          refine ev_iinc u4 (1) dX10_fastestPass_72 rfl (by decide) (ev_hw rfl) ?_
          show ev_E g m_X10_fastestPass 11 0 75 [some (ev_o 10 a), some (ev_i u1), some (ev_i u2), some (ev_i u3), some (ev_i (u4 + 1)), some (ev_i v1_)] [] S1 Q
          refine ev_goto 26 dX10_fastestPass_75 (by decide) ?_
          refine ev_fgm [true, true, true, true, true, false] ?_
          exact hQ
set_option maxHeartbeats 4000000 in
set_option maxRecDepth 100000 in
theorem sg_X10_move_0 {g : ev_G} {S : ev_S} {Q : ev_O → ev_S → Prop} (a : Nat) (x0 : Int32) (x1 : Int32) (x2 : Int32) (x3 : Int32) (hQ : ∀ S1 : ev_S, S1 = (ev_up S a 7 0) → (
    ev_Cv g m_X10_moving 5 0 [ev_o 10 a, ev_i x0, ev_i x1, ev_i x2, ev_i x3] S1 (fun o S2 => ∃ v1_ : Int32, o = .inl (some (ev_i v1_)) ∧ (
      Q (.inl (some (ev_i v1_))) S2)))) : ev_Cv g m_X10_move 6 0 [ev_o 10 a, ev_i x0, ev_i x1, ev_i x2, ev_i x3] S Q := by
  refine ev_enter (by decide) rfl rfl (Nat.le_of_ble_eq_true rfl) ?_
  show ev_E g m_X10_move 6 0 0 [some (ev_o 10 a), some (ev_i x0), some (ev_i x1), some (ev_i x2), some (ev_i x3)] [] S Q
  refine ev_aload_n (ev_o 10 a) dX10_move_0 rfl rfl ?_
  refine ev_iconst (0) dX10_move_1 rfl ?_
  refine pf_10_7 dX10_move_2 kw_1860 ?_
  refine ev_sub hQ (fun S1 hS1 hQ => ?_)
  refine ev_E.goal (pc' := 5) (L' := [some (ev_o 10 a), some (ev_i x0), some (ev_i x1), some (ev_i x2), some (ev_i x3)]) (K' := []) (S' := S1) ?_ rfl rfl rfl hS1
  refine ev_aload_n (ev_o 10 a) dX10_move_5 rfl rfl ?_
  refine ev_iload_n (x0) dX10_move_6 rfl ?_
  refine ev_iload_n (x1) dX10_move_7 rfl ?_
  refine ev_iload_n (x2) dX10_move_8 rfl ?_
  refine ev_iload (x3) dX10_move_9 rfl ?_
  refine ev_cV mv_X10_moving 5 0 10 [ev_i x0, ev_i x1, ev_i x2, ev_i x3] [] dX10_move_11 kw_2025 rfl (by decide) rfl (by decide) (by decide) (Nat.le_of_ble_eq_true rfl) hQ ?_ rfl
  rintro o S2 ⟨v1_, rfl, hQ⟩
  show ev_E g m_X10_move 6 0 14 [some (ev_o 10 a), some (ev_i x0), some (ev_i x1), some (ev_i x2), some (ev_i x3)] [ev_i v1_] S2 Q
  exact ev_ireturn .int dX10_move_14 rfl rfl hQ
set_option maxHeartbeats 4000000 in
set_option maxRecDepth 100000 in
theorem sg_X10_promise_0 {g : ev_G} {S : ev_S} {Q : ev_O → ev_S → Prop} (a : Nat) (x0 : Int32) (x1 : Int32) (x2 : Int32) (x3 : Int32) (x4 : Int32) (x5 : Int32) (hQ : ∀ S1 : ev_S, S1 = (ev_up S a 7 0) → (
    ev_Cv g m_X10_promising 5 0 [ev_o 10 a, ev_i x0, ev_i x1, ev_i x2, ev_i x3, ev_i x4, ev_i x5] S1 (fun o S2 => ∃ v1_ : Int32, o = .inl (some (ev_i v1_)) ∧ (
      Q (.inl (some (ev_i v1_))) S2)))) : ev_Cv g m_X10_promise 6 0 [ev_o 10 a, ev_i x0, ev_i x1, ev_i x2, ev_i x3, ev_i x4, ev_i x5] S Q := by
  refine ev_enter (by decide) rfl rfl (Nat.le_of_ble_eq_true rfl) ?_
  show ev_E g m_X10_promise 6 0 0 [some (ev_o 10 a), some (ev_i x0), some (ev_i x1), some (ev_i x2), some (ev_i x3), some (ev_i x4), some (ev_i x5)] [] S Q
  refine ev_aload_n (ev_o 10 a) dX10_promise_0 rfl rfl ?_
  refine ev_iconst (0) dX10_promise_1 rfl ?_
  refine pf_10_7 dX10_promise_2 kw_1860 ?_
  refine ev_sub hQ (fun S1 hS1 hQ => ?_)
  refine ev_E.goal (pc' := 5) (L' := [some (ev_o 10 a), some (ev_i x0), some (ev_i x1), some (ev_i x2), some (ev_i x3), some (ev_i x4), some (ev_i x5)]) (K' := []) (S' := S1) ?_ rfl rfl rfl hS1
  refine ev_aload_n (ev_o 10 a) dX10_promise_5 rfl rfl ?_
  refine ev_iload_n (x0) dX10_promise_6 rfl ?_
  refine ev_iload_n (x1) dX10_promise_7 rfl ?_
  refine ev_iload_n (x2) dX10_promise_8 rfl ?_
  refine ev_iload (x3) dX10_promise_9 rfl ?_
  refine ev_iload (x4) dX10_promise_11 rfl ?_
  refine ev_iload (x5) dX10_promise_13 rfl ?_
  refine ev_cV mv_X10_promising 5 0 10 [ev_i x0, ev_i x1, ev_i x2, ev_i x3, ev_i x4, ev_i x5] [] dX10_promise_15 kw_2113 rfl (by decide) rfl (by decide) (by decide) (Nat.le_of_ble_eq_true rfl) hQ ?_ rfl
  rintro o S2 ⟨v1_, rfl, hQ⟩
  show ev_E g m_X10_promise 6 0 18 [some (ev_o 10 a), some (ev_i x0), some (ev_i x1), some (ev_i x2), some (ev_i x3), some (ev_i x4), some (ev_i x5)] [ev_i v1_] S2 Q
  exact ev_ireturn .int dX10_promise_18 rfl rfl hQ
set_option maxHeartbeats 4000000 in
set_option maxRecDepth 100000 in
theorem sg_X10_resend_0 {g : ev_G} {S : ev_S} {Q : ev_O → ev_S → Prop} (a : Nat) (x0 : Int32) (x1 : Int32) (hQ : ∀ S1 : ev_S, S1 = (ev_up S a 7 0) → (
    ev_Cv g m_X10_resending 3 0 [ev_o 10 a, ev_i x0, ev_i x1] S1 (fun o S2 => ∃ v1_ : Int32, o = .inl (some (ev_i v1_)) ∧ (
      Q (.inl (some (ev_i v1_))) S2)))) : ev_Cv g m_X10_resend 4 0 [ev_o 10 a, ev_i x0, ev_i x1] S Q := by
  refine ev_enter (by decide) rfl rfl (Nat.le_of_ble_eq_true rfl) ?_
  show ev_E g m_X10_resend 4 0 0 [some (ev_o 10 a), some (ev_i x0), some (ev_i x1)] [] S Q
  refine ev_aload_n (ev_o 10 a) dX10_resend_0 rfl rfl ?_
  refine ev_iconst (0) dX10_resend_1 rfl ?_
  refine pf_10_7 dX10_resend_2 kw_1860 ?_
  refine ev_sub hQ (fun S1 hS1 hQ => ?_)
  refine ev_E.goal (pc' := 5) (L' := [some (ev_o 10 a), some (ev_i x0), some (ev_i x1)]) (K' := []) (S' := S1) ?_ rfl rfl rfl hS1
  refine ev_aload_n (ev_o 10 a) dX10_resend_5 rfl rfl ?_
  refine ev_iload_n (x0) dX10_resend_6 rfl ?_
  refine ev_iload_n (x1) dX10_resend_7 rfl ?_
  refine ev_cV mv_X10_resending 3 0 10 [ev_i x0, ev_i x1] [] dX10_resend_8 kw_2121 rfl (by decide) rfl (by decide) (by decide) (Nat.le_of_ble_eq_true rfl) hQ ?_ rfl
  rintro o S2 ⟨v1_, rfl, hQ⟩
  show ev_E g m_X10_resend 4 0 11 [some (ev_o 10 a), some (ev_i x0), some (ev_i x1)] [ev_i v1_] S2 Q
  exact ev_ireturn .int dX10_resend_11 rfl rfl hQ
set_option maxHeartbeats 4000000 in
set_option maxRecDepth 100000 in
theorem sg_X10_advance_0 {g : ev_G} {S : ev_S} {Q : ev_O → ev_S → Prop} (a : Nat) (x0 : Int32) (hQ : ∀ S1 : ev_S, S1 = (ev_up S a 7 0) → (
    ev_Cv g m_X10_advancing 9 0 [ev_o 10 a, ev_i x0] S1 (fun o S2 => ∃ v1_ : Int32, o = .inl (some (ev_i v1_)) ∧ (
      Q (.inl (some (ev_i v1_))) S2)))) : ev_Cv g m_X10_advance 10 0 [ev_o 10 a, ev_i x0] S Q := by
  refine ev_enter (by decide) rfl rfl (Nat.le_of_ble_eq_true rfl) ?_
  show ev_E g m_X10_advance 10 0 0 [some (ev_o 10 a), some (ev_i x0)] [] S Q
  refine ev_aload_n (ev_o 10 a) dX10_advance_0 rfl rfl ?_
  refine ev_iconst (0) dX10_advance_1 rfl ?_
  refine pf_10_7 dX10_advance_2 kw_1860 ?_
  refine ev_sub hQ (fun S1 hS1 hQ => ?_)
  refine ev_E.goal (pc' := 5) (L' := [some (ev_o 10 a), some (ev_i x0)]) (K' := []) (S' := S1) ?_ rfl rfl rfl hS1
  refine ev_aload_n (ev_o 10 a) dX10_advance_5 rfl rfl ?_
  refine ev_iload_n (x0) dX10_advance_6 rfl ?_
  refine ev_cV mv_X10_advancing 9 0 10 [ev_i x0] [] dX10_advance_7 kw_2133 rfl (by decide) rfl (by decide) (by decide) (Nat.le_of_ble_eq_true rfl) hQ ?_ rfl
  rintro o S2 ⟨v1_, rfl, hQ⟩
  show ev_E g m_X10_advance 10 0 10 [some (ev_o 10 a), some (ev_i x0)] [ev_i v1_] S2 Q
  exact ev_ireturn .int dX10_advance_10 rfl rfl hQ
set_option maxHeartbeats 4000000 in
set_option maxRecDepth 100000 in
theorem sg_X10_addMule_0 {g : ev_G} {S : ev_S} {Q : ev_O → ev_S → Prop} (a : Nat) (x0 : Int32) (x1 : Int32) (hQ : ∀ S1 : ev_S, S1 = (ev_up S a 7 0) → (
    ev_Cv g m_X10_muling 3 0 [ev_o 10 a, ev_i x0, ev_i x1] S1 (fun o S2 => ∃ v1_ : Int32, o = .inl (some (ev_i v1_)) ∧ (
      Q (.inl (some (ev_i v1_))) S2)))) : ev_Cv g m_X10_addMule 4 0 [ev_o 10 a, ev_i x0, ev_i x1] S Q := by
  refine ev_enter (by decide) rfl rfl (Nat.le_of_ble_eq_true rfl) ?_
  show ev_E g m_X10_addMule 4 0 0 [some (ev_o 10 a), some (ev_i x0), some (ev_i x1)] [] S Q
  refine ev_aload_n (ev_o 10 a) dX10_addMule_0 rfl rfl ?_
  refine ev_iconst (0) dX10_addMule_1 rfl ?_
  refine pf_10_7 dX10_addMule_2 kw_1860 ?_
  refine ev_sub hQ (fun S1 hS1 hQ => ?_)
  refine ev_E.goal (pc' := 5) (L' := [some (ev_o 10 a), some (ev_i x0), some (ev_i x1)]) (K' := []) (S' := S1) ?_ rfl rfl rfl hS1
  refine ev_aload_n (ev_o 10 a) dX10_addMule_5 rfl rfl ?_
  refine ev_iload_n (x0) dX10_addMule_6 rfl ?_
  refine ev_iload_n (x1) dX10_addMule_7 rfl ?_
  refine ev_cV mv_X10_muling 3 0 10 [ev_i x0, ev_i x1] [] dX10_addMule_8 kw_2181 rfl (by decide) rfl (by decide) (by decide) (Nat.le_of_ble_eq_true rfl) hQ ?_ rfl
  rintro o S2 ⟨v1_, rfl, hQ⟩
  show ev_E g m_X10_addMule 4 0 11 [some (ev_o 10 a), some (ev_i x0), some (ev_i x1)] [ev_i v1_] S2 Q
  exact ev_ireturn .int dX10_addMule_11 rfl rfl hQ
set_option maxHeartbeats 4000000 in
set_option maxRecDepth 100000 in
theorem sg_X10_setSnow_0 {g : ev_G} {S : ev_S} {Q : ev_O → ev_S → Prop} (a : Nat) (x0 : Int32) (x1 : Int32) (x2 : Int32) (hQ : ∀ S1 : ev_S, S1 = (ev_up S a 7 0) → (
    ev_Cv g m_X10_snowing 3 0 [ev_o 10 a, ev_i x0, ev_i x1, ev_i x2] S1 (fun o S2 => ∃ v1_ : Int32, o = .inl (some (ev_i v1_)) ∧ (
      Q (.inl (some (ev_i v1_))) S2)))) : ev_Cv g m_X10_setSnow 4 0 [ev_o 10 a, ev_i x0, ev_i x1, ev_i x2] S Q := by
  refine ev_enter (by decide) rfl rfl (Nat.le_of_ble_eq_true rfl) ?_
  show ev_E g m_X10_setSnow 4 0 0 [some (ev_o 10 a), some (ev_i x0), some (ev_i x1), some (ev_i x2)] [] S Q
  refine ev_aload_n (ev_o 10 a) dX10_setSnow_0 rfl rfl ?_
  refine ev_iconst (0) dX10_setSnow_1 rfl ?_
  refine pf_10_7 dX10_setSnow_2 kw_1860 ?_
  refine ev_sub hQ (fun S1 hS1 hQ => ?_)
  refine ev_E.goal (pc' := 5) (L' := [some (ev_o 10 a), some (ev_i x0), some (ev_i x1), some (ev_i x2)]) (K' := []) (S' := S1) ?_ rfl rfl rfl hS1
  refine ev_aload_n (ev_o 10 a) dX10_setSnow_5 rfl rfl ?_
  refine ev_iload_n (x0) dX10_setSnow_6 rfl ?_
  refine ev_iload_n (x1) dX10_setSnow_7 rfl ?_
  refine ev_iload_n (x2) dX10_setSnow_8 rfl ?_
  refine ev_cV mv_X10_snowing 3 0 10 [ev_i x0, ev_i x1, ev_i x2] [] dX10_setSnow_9 kw_2185 rfl (by decide) rfl (by decide) (by decide) (Nat.le_of_ble_eq_true rfl) hQ ?_ rfl
  rintro o S2 ⟨v1_, rfl, hQ⟩
  show ev_E g m_X10_setSnow 4 0 12 [some (ev_o 10 a), some (ev_i x0), some (ev_i x1), some (ev_i x2)] [ev_i v1_] S2 Q
  exact ev_ireturn .int dX10_setSnow_12 rfl rfl hQ
set_option maxHeartbeats 4000000 in
set_option maxRecDepth 100000 in
theorem sg_X10_writes_0 {g : ev_G} {S : ev_S} {Q : ev_O → ev_S → Prop} (a : Nat) (x0 : Int32) (hQ : (vp_in (S.1 a 27) 500) ∧ (
    ∀ S1 : ev_S, S1 = (ev_up S (a + 10) (S.1 a 27).toNatClampNeg x0) → (
      ∀ S2 : ev_S, S2 = (ev_up S1 a 27 ((S.1 a 27) + 1)) → (
        Q (.inl none) S2)))) : ev_Cv g m_X10_writes 1 0 [ev_o 10 a, ev_i x0] S Q := by
  refine ev_enter (by decide) rfl rfl (Nat.le_of_ble_eq_true rfl) ?_
  show ev_E g m_X10_writes 1 0 0 [some (ev_o 10 a), some (ev_i x0)] [] S Q
  refine ev_aload_n (ev_o 10 a) dX10_writes_0 rfl rfl ?_
  refine gf_10_26 dX10_writes_1 kw_1879 ?_
  refine ev_aload_n (ev_o 10 a) dX10_writes_4 rfl rfl ?_
  refine gf_10_27 dX10_writes_5 kw_1880 ?_
  refine ev_iload_n (x0) dX10_writes_8 rfl ?_
  obtain ⟨h1, hQ⟩ := hQ
  refine ev_iastore dX10_writes_9 h1 ?_
  refine ev_sub hQ (fun S1 hS1 hQ => ?_)
  refine ev_E.goal (pc' := 10) (L' := [some (ev_o 10 a), some (ev_i x0)]) (K' := []) (S' := S1) ?_ rfl rfl rfl hS1
  refine ev_aload_n (ev_o 10 a) dX10_writes_10 rfl rfl ?_
  refine ev_dup dX10_writes_11 rfl ?_
  refine gf_10_27 dX10_writes_12 kw_1880 ?_
  refine ev_ke (j_rk hS1 (Or.inl (by omega))) ?_
  refine ev_iconst (1) dX10_writes_15 rfl ?_
  refine ev_iadd dX10_writes_16 ?_
  refine pf_10_27 dX10_writes_17 kw_1880 ?_
  refine ev_sub hQ (fun S2 hS2 hQ => ?_)
  refine ev_E.goal (pc' := 20) (L' := [some (ev_o 10 a), some (ev_i x0)]) (K' := []) (S' := S2) ?_ rfl rfl rfl hS2
  exact ev_return dX10_writes_20 rfl hQ
set_option maxHeartbeats 4000000 in
set_option maxRecDepth 100000 in
theorem sp_X10_writes {g : ev_G} {S : ev_S} (a : Nat) (x0 : Int32) (q0 : vp_in (S.1 a 27) 500) : ev_Fn g m_X10_writes 1 [ev_o 10 a, ev_i x0] S none (ev_up (ev_up S (a + 10) (S.1 a 27).toNatClampNeg x0) a 27 ((S.1 a 27) + 1)) := by
  intro Q hQ
  refine sg_X10_writes_0 a x0 ?_
  refine ⟨(q0), ?_⟩
  intro S1 hS1
  intro S2 hS2
  subst hS2
  subst hS1
  exact hQ
set_option maxHeartbeats 4000000 in
set_option maxRecDepth 100000 in
theorem sg_X10_writesNumber_0 {g : ev_G} {S : ev_S} {Q : ev_O → ev_S → Prop} (a : Nat) (x0 : Int32) (hQ : (x0 ≤ 9 → (
    (vp_in (S.1 a 27) 500) ∧ (
      ∀ S1 : ev_S, S1 = (ev_up (ev_up S (a + 10) (S.1 a 27).toNatClampNeg (48 + (ev_rem x0 10))) a 27 ((S.1 a 27) + 1)) → (
        Q (.inl none) S1)))) ∧
  (¬ (x0 ≤ 9) → (
    (vp_in (S.1 a 27) 500) ∧ (
      ∀ S2 : ev_S, S2 = (ev_up (ev_up S (a + 10) (S.1 a 27).toNatClampNeg (48 + (x0 / 10))) a 27 ((S.1 a 27) + 1)) → (
        (vp_in (S2.1 a 27) 500) ∧ (
          ∀ S3 : ev_S, S3 = (ev_up (ev_up S2 (a + 10) (S2.1 a 27).toNatClampNeg (48 + (ev_rem x0 10))) a 27 ((S2.1 a 27) + 1)) → (
            Q (.inl none) S3))))))) : ev_Cv g m_X10_writesNumber 2 0 [ev_o 10 a, ev_i x0] S Q := by
  refine ev_enter (by decide) rfl rfl (Nat.le_of_ble_eq_true rfl) ?_
  show ev_E g m_X10_writesNumber 2 0 0 [some (ev_o 10 a), some (ev_i x0)] [] S Q
  refine ev_iload_n (x0) dX10_writesNumber_0 rfl ?_
  refine ev_bipush (9) dX10_writesNumber_1 (by decide) ?_
  refine ev_icmp_le 17 dX10_writesNumber_3 (by decide) (fun c1 => ?_) (fun c1 => ?_)
  · replace hQ := hQ.1 c1
    refine ev_aload_n (ev_o 10 a) dX10_writesNumber_17 rfl rfl ?_
    refine ev_bipush (48) dX10_writesNumber_18 (by decide) ?_
    refine ev_iload_n (x0) dX10_writesNumber_20 rfl ?_
    refine ev_bipush (10) dX10_writesNumber_21 (by decide) ?_
    refine ev_irem dX10_writesNumber_23 (by decide) ?_
    refine ev_iadd dX10_writesNumber_24 ?_
    obtain ⟨h1, hQ⟩ := hQ
    refine ev_fVn mv_X10_writes 1 10 [ev_i (48 + (ev_rem x0 10))] [] dX10_writesNumber_25 kw_2405 rfl (by decide) rfl (by decide) (Nat.le_of_ble_eq_true rfl) (sp_X10_writes a (48 + (ev_rem x0 10)) h1) ?_ rfl
    refine ev_sub hQ (fun S1 hS1 hQ => ?_)
    refine ev_E.goal (pc' := 28) (L' := [some (ev_o 10 a), some (ev_i x0)]) (K' := []) (S' := S1) ?_ rfl rfl rfl hS1
    exact ev_return dX10_writesNumber_28 rfl hQ
  · replace hQ := hQ.2 c1
    refine ev_aload_n (ev_o 10 a) dX10_writesNumber_6 rfl rfl ?_
    refine ev_bipush (48) dX10_writesNumber_7 (by decide) ?_
    refine ev_iload_n (x0) dX10_writesNumber_9 rfl ?_
    refine ev_bipush (10) dX10_writesNumber_10 (by decide) ?_
    refine ev_idiv dX10_writesNumber_12 (by decide) ?_
    refine ev_iadd dX10_writesNumber_13 ?_
    obtain ⟨h2, hQ⟩ := hQ
    refine ev_fVn mv_X10_writes 1 10 [ev_i (48 + (x0 / 10))] [] dX10_writesNumber_14 kw_2405 rfl (by decide) rfl (by decide) (Nat.le_of_ble_eq_true rfl) (sp_X10_writes a (48 + (x0 / 10)) h2) ?_ rfl
    refine ev_sub hQ (fun S2 hS2 hQ => ?_)
    refine ev_E.goal (pc' := 17) (L' := [some (ev_o 10 a), some (ev_i x0)]) (K' := []) (S' := S2) ?_ rfl rfl rfl hS2
    refine ev_aload_n (ev_o 10 a) dX10_writesNumber_17 rfl rfl ?_
    refine ev_bipush (48) dX10_writesNumber_18 (by decide) ?_
    refine ev_iload_n (x0) dX10_writesNumber_20 rfl ?_
    refine ev_bipush (10) dX10_writesNumber_21 (by decide) ?_
    refine ev_irem dX10_writesNumber_23 (by decide) ?_
    refine ev_iadd dX10_writesNumber_24 ?_
    obtain ⟨h3, hQ⟩ := hQ
    refine ev_fVn mv_X10_writes 1 10 [ev_i (48 + (ev_rem x0 10))] [] dX10_writesNumber_25 kw_2405 rfl (by decide) rfl (by decide) (Nat.le_of_ble_eq_true rfl) (sp_X10_writes a (48 + (ev_rem x0 10)) h3) ?_ rfl
    refine ev_sub hQ (fun S3 hS3 hQ => ?_)
    refine ev_E.goal (pc' := 28) (L' := [some (ev_o 10 a), some (ev_i x0)]) (K' := []) (S' := S3) ?_ rfl rfl rfl hS3
    exact ev_return dX10_writesNumber_28 rfl hQ
set_option maxHeartbeats 4000000 in
set_option maxRecDepth 100000 in
theorem sg_X10_writeBoard_0 {g : ev_G} {S : ev_S} {Q : ev_O → ev_S → Prop} (a : Nat) (x0 : Int32) (hQ : ∀ S1 : ev_S, S1 = (ev_up S a 7 0) → (
    ((t_X10_in x0 0 1) = true → (
      ∀ S2 : ev_S, S2 = (ev_up S1 a 27 0) → (
        ev_E g m_X10_writeBoard 3 0 33 [some (ev_o 10 a), some (ev_i x0), some (ev_i ((S.1 (a + 1) 0) - 1)), none, none] [] S2 Q))) ∧
    (¬ ((t_X10_in x0 0 1) = true) → (
      ∀ S3 : ev_S, S3 = (ev_up S1 a 7 1) → (
        Q (.inl (some (ev_i 0))) S3))))) : ev_Cv g m_X10_writeBoard 3 0 [ev_o 10 a, ev_i x0] S Q := by
  refine ev_enter (by decide) rfl rfl (Nat.le_of_ble_eq_true rfl) ?_
  show ev_E g m_X10_writeBoard 3 0 0 [some (ev_o 10 a), some (ev_i x0), none, none, none] [] S Q
  refine ev_aload_n (ev_o 10 a) dX10_writeBoard_0 rfl rfl ?_
  refine ev_iconst (0) dX10_writeBoard_1 rfl ?_
  refine pf_10_7 dX10_writeBoard_2 kw_1860 ?_
  refine ev_sub hQ (fun S1 hS1 hQ => ?_)
  refine ev_E.goal (pc' := 5) (L' := [some (ev_o 10 a), some (ev_i x0), none, none, none]) (K' := []) (S' := S1) ?_ rfl rfl rfl hS1
  refine ev_aload_n (ev_o 10 a) dX10_writeBoard_5 rfl rfl ?_
  refine ev_iload_n (x0) dX10_writeBoard_6 rfl ?_
  refine ev_fS ms_X10_isPlayer 2 [ev_i x0] [ev_o 10 a] dX10_writeBoard_7 kw_2029 rfl (by decide) (Nat.le_of_ble_eq_true rfl) (sp_X10_isPlayer x0) ?_ rfl
  by_cases c1 : (t_X10_in x0 0 1) = true
  · rw [if_pos c1]
    replace hQ := hQ.1 c1
    refine ev_iconst (1) dX10_writeBoard_10 rfl ?_
    refine ev_cV mv_X10_right 1 0 10 [ev_i 1, ev_i 1] [] dX10_writeBoard_11 kw_1951 rfl (by decide) rfl (by decide) (by decide) (Nat.le_of_ble_eq_true rfl) (Q' := fun o z => ev_After g m_X10_writeBoard 3 (0 - 0) 11 [some (ev_o 10 a), some (ev_i x0), none, none, none] [] z Q o) (sg_X10_right_0 a 1 1 ?_) (fun o z h => h) rfl
    refine j_pos (by rw [j_rs hS1] <;> decide : ((S1.1 a 7) = 0)) ?_
    refine j_neg (by decide : ¬ ((1 : Int32) = 0)) ?_
    show ev_E g m_X10_writeBoard 3 0 14 [some (ev_o 10 a), some (ev_i x0), none, none, none] [ev_i 1] S1 Q
    refine ev_if_ne 19 dX10_writeBoard_14 (by decide) (fun _ => ?_) (fun h9 => absurd h9 (by decide : ¬ ((1 : Int32) = 0)))
    refine ev_aload_n (ev_o 10 a) dX10_writeBoard_19 rfl rfl ?_
    refine ev_iconst (0) dX10_writeBoard_20 rfl ?_
    refine pf_10_27 dX10_writeBoard_21 kw_1880 ?_
    refine ev_sub hQ (fun S2 hS2 hQ => ?_)
    refine ev_E.goal (pc' := 24) (L' := [some (ev_o 10 a), some (ev_i x0), none, none, none]) (K' := []) (S' := S2) ?_ rfl rfl rfl hS2
    refine ev_aload_n (ev_o 10 a) dX10_writeBoard_24 rfl rfl ?_
    refine gf_10_0 dX10_writeBoard_25 kw_1853 ?_
    refine ev_iconst (0) dX10_writeBoard_28 rfl ?_
    refine ev_iaload dX10_writeBoard_29 (j_vin (by decide)) ?_
    refine ev_ke ((j_rk hS2 (Or.inl (by omega))).trans (j_rk hS1 (Or.inl (by omega)))) ?_
    refine ev_iconst (1) dX10_writeBoard_30 rfl ?_
    refine ev_isub dX10_writeBoard_31 ?_
    refine ev_istore_n dX10_writeBoard_32 (Nat.le_of_ble_eq_true rfl) (ev_hw rfl) ?_
    show ev_E g m_X10_writeBoard 3 0 33 [some (ev_o 10 a), some (ev_i x0), some (ev_i ((S.1 (a + 1) 0) - 1)), none, none] [] S2 Q
    exact hQ
  · rw [if_neg c1]
    replace hQ := hQ.2 c1
    refine ev_iconst (1) dX10_writeBoard_10 rfl ?_
    refine ev_cV mv_X10_right 1 0 10 [ev_i 0, ev_i 1] [] dX10_writeBoard_11 kw_1951 rfl (by decide) rfl (by decide) (by decide) (Nat.le_of_ble_eq_true rfl) (Q' := fun o z => ev_After g m_X10_writeBoard 3 (0 - 0) 11 [some (ev_o 10 a), some (ev_i x0), none, none, none] [] z Q o) (sg_X10_right_0 a 0 1 ?_) (fun o z h => h) rfl
    refine j_pos (by rw [j_rs hS1] <;> decide : ((S1.1 a 7) = 0)) ?_
    refine j_pos (by decide : ((0 : Int32) = 0)) ?_
    intro S3 hS3
    refine ev_sub1 hQ hS3 (fun hQ => ?_)
    refine j_neg (by decide : ¬ ((1 : Int32) = 0)) ?_
    show ev_E g m_X10_writeBoard 3 0 14 [some (ev_o 10 a), some (ev_i x0), none, none, none] [ev_i 0] S3 Q
    refine ev_if_ne 19 dX10_writeBoard_14 (by decide) (fun h9 => absurd (by decide : ((0 : Int32) = 0)) h9) (fun _ => ?_)
    refine ev_iconst (0) dX10_writeBoard_17 rfl ?_
    exact ev_ireturn .int dX10_writeBoard_18 rfl rfl hQ
set_option maxHeartbeats 4000000 in
set_option maxRecDepth 100000 in
theorem sg_X10_writeBoard_33 {g : ev_G} {S : ev_S} {Q : ev_O → ev_S → Prop} (a : Nat) (u1 : Int32) (u2 : Int32) (hQ : (u2 < 0 → (
    Q (.inl (some (ev_i (S.1 a 27)))) S)) ∧
  (¬ (u2 < 0) → (
    ev_E g m_X10_writeBoard 3 0 39 [some (ev_o 10 a), some (ev_i u1), some (ev_i u2), some (ev_i 0), none] [] S Q))) : ev_E g m_X10_writeBoard 3 0 33 [some (ev_o 10 a), some (ev_i u1), some (ev_i u2), none, none] [] S Q := by
  refine ev_iload_n (u2) dX10_writeBoard_33 rfl ?_
  refine ev_if_lt 115 dX10_writeBoard_34 (by decide) (fun c1 => ?_) (fun c1 => ?_)
  · replace hQ := hQ.1 c1
    refine ev_aload_n (ev_o 10 a) dX10_writeBoard_115 rfl rfl ?_
    refine gf_10_27 dX10_writeBoard_116 kw_1880 ?_
    exact ev_ireturn .int dX10_writeBoard_119 rfl rfl hQ
  · replace hQ := hQ.2 c1
    refine ev_iconst (0) dX10_writeBoard_37 rfl ?_
    refine ev_istore_n dX10_writeBoard_38 (Nat.le_of_ble_eq_true rfl) (ev_hw rfl) ?_
    show ev_E g m_X10_writeBoard 3 0 39 [some (ev_o 10 a), some (ev_i u1), some (ev_i u2), some (ev_i 0), none] [] S Q
    exact hQ
set_option maxHeartbeats 4000000 in
set_option maxRecDepth 100000 in
theorem sg_X10_writeBoard_39 {g : ev_G} {S : ev_S} {Q : ev_O → ev_S → Prop} (a : Nat) (u1 : Int32) (u2 : Int32) (u3 : Int32) (hQ : ((S.1 (a + 1) 0) ≤ u3 → (
    (u2 ≤ 0 → (
      ev_E g m_X10_writeBoard 3 0 33 [some (ev_o 10 a), some (ev_i u1), some (ev_i (u2 + (-1))), none, none] [] S Q)) ∧
    (¬ (u2 ≤ 0) → (
      (vp_in (S.1 a 27) 500) ∧ (
        ∀ S1 : ev_S, S1 = (ev_up (ev_up S (a + 10) (S.1 a 27).toNatClampNeg 47) a 27 ((S.1 a 27) + 1)) → (
          ev_E g m_X10_writeBoard 3 0 33 [some (ev_o 10 a), some (ev_i u1), some (ev_i (u2 + (-1))), none, none] [] S1 Q)))))) ∧
  (¬ ((S.1 (a + 1) 0) ≤ u3) → (
    (vp_in ((26 + (64 * u1)) + (((S.1 (a + 1) 0) * u2) + u3)) 2091) ∧ (
      ((S.1 (a + 1) ((26 + (64 * u1)) + (((S.1 (a + 1) 0) * u2) + u3)).toNatClampNeg) = (-1) → (
        (vp_in (S.1 a 27) 500) ∧ (
          ∀ S4 : ev_S, S4 = (ev_up (ev_up S (a + 10) (S.1 a 27).toNatClampNeg 46) a 27 ((S.1 a 27) + 1)) → (
            ev_E g m_X10_writeBoard 3 0 39 [some (ev_o 10 a), some (ev_i u1), some (ev_i u2), some (ev_i (u3 + 1)), none] [] S4 Q)))) ∧
      (¬ ((S.1 (a + 1) ((26 + (64 * u1)) + (((S.1 (a + 1) 0) * u2) + u3)).toNatClampNeg) = (-1)) → (
        ((S.1 (a + 1) ((26 + (64 * u1)) + (((S.1 (a + 1) 0) * u2) + u3)).toNatClampNeg) = 0 → (
          (vp_in (S.1 a 27) 500) ∧ (
            ∀ S3 : ev_S, S3 = (ev_up (ev_up S (a + 10) (S.1 a 27).toNatClampNeg 119) a 27 ((S.1 a 27) + 1)) → (
              ev_E g m_X10_writeBoard 3 0 39 [some (ev_o 10 a), some (ev_i u1), some (ev_i u2), some (ev_i (u3 + 1)), none] [] S3 Q)))) ∧
        (¬ ((S.1 (a + 1) ((26 + (64 * u1)) + (((S.1 (a + 1) 0) * u2) + u3)).toNatClampNeg) = 0) → (
          (vp_in (S.1 a 27) 500) ∧ (
            ∀ S2 : ev_S, S2 = (ev_up (ev_up S (a + 10) (S.1 a 27).toNatClampNeg 98) a 27 ((S.1 a 27) + 1)) → (
              ev_E g m_X10_writeBoard 3 0 39 [some (ev_o 10 a), some (ev_i u1), some (ev_i u2), some (ev_i (u3 + 1)), none] [] S2 Q)))))))))) : ev_E g m_X10_writeBoard 3 0 39 [some (ev_o 10 a), some (ev_i u1), some (ev_i u2), some (ev_i u3), none] [] S Q := by
  refine ev_iload_n (u3) dX10_writeBoard_39 rfl ?_
  refine ev_aload_n (ev_o 10 a) dX10_writeBoard_40 rfl rfl ?_
  refine gf_10_0 dX10_writeBoard_41 kw_1853 ?_
  refine ev_iconst (0) dX10_writeBoard_44 rfl ?_
  refine ev_iaload dX10_writeBoard_45 (j_vin (by decide)) ?_
  refine ev_icmp_ge 99 dX10_writeBoard_46 (by decide) (fun c1 => ?_) (fun c1 => ?_)
  · replace hQ := hQ.1 c1
    refine ev_iload_n (u2) dX10_writeBoard_99 rfl ?_
    refine ev_if_le 109 dX10_writeBoard_100 (by decide) (fun c2 => ?_) (fun c2 => ?_)
    · replace hQ := hQ.1 c2
      refine ev_iinc u2 (-1) dX10_writeBoard_109 rfl (by decide) (ev_hw rfl) ?_
      show ev_E g m_X10_writeBoard 3 0 112 [some (ev_o 10 a), some (ev_i u1), some (ev_i (u2 + (-1))), some (ev_i u3), none] [] S Q
      refine ev_goto 33 dX10_writeBoard_112 (by decide) ?_
      refine ev_fgm [true, true, true, false, false] ?_
      exact hQ
    · replace hQ := hQ.2 c2
      refine ev_aload_n (ev_o 10 a) dX10_writeBoard_103 rfl rfl ?_
      refine ev_bipush (47) dX10_writeBoard_104 (by decide) ?_
      obtain ⟨h1, hQ⟩ := hQ
      refine ev_fVn mv_X10_writes 1 10 [ev_i 47] [] dX10_writeBoard_106 kw_2405 rfl (by decide) rfl (by decide) (Nat.le_of_ble_eq_true rfl) (sp_X10_writes a 47 h1) ?_ rfl
      refine ev_sub hQ (fun S1 hS1 hQ => ?_)
      refine ev_E.goal (pc' := 109) (L' := [some (ev_o 10 a), some (ev_i u1), some (ev_i u2), some (ev_i u3), none]) (K' := []) (S' := S1) ?_ rfl rfl rfl hS1
      refine ev_iinc u2 (-1) dX10_writeBoard_109 rfl (by decide) (ev_hw rfl) ?_
      show ev_E g m_X10_writeBoard 3 0 112 [some (ev_o 10 a), some (ev_i u1), some (ev_i (u2 + (-1))), some (ev_i u3), none] [] S1 Q
      refine ev_goto 33 dX10_writeBoard_112 (by decide) ?_
      refine ev_fgm [true, true, true, false, false] ?_
      exact hQ
  · replace hQ := hQ.2 c1
    refine ev_aload_n (ev_o 10 a) dX10_writeBoard_49 rfl rfl ?_
    refine ev_iload_n (u1) dX10_writeBoard_50 rfl ?_
    refine ev_aload_n (ev_o 10 a) dX10_writeBoard_51 rfl rfl ?_
    refine gf_10_0 dX10_writeBoard_52 kw_1853 ?_
    refine ev_iconst (0) dX10_writeBoard_55 rfl ?_
    refine ev_iaload dX10_writeBoard_56 (j_vin (by decide)) ?_
    refine ev_iload_n (u2) dX10_writeBoard_57 rfl ?_
    refine ev_imul dX10_writeBoard_58 ?_
    refine ev_iload_n (u3) dX10_writeBoard_59 rfl ?_
    refine ev_iadd dX10_writeBoard_60 ?_
    obtain ⟨h2, hQ⟩ := hQ
    refine ev_fV mv_X10_owner 1 10 [ev_i u1, ev_i (((S.1 (a + 1) 0) * u2) + u3)] [] dX10_writeBoard_61 kw_1831 rfl (by decide) rfl (by decide) (Nat.le_of_ble_eq_true rfl) (sp_X10_owner a u1 (((S.1 (a + 1) 0) * u2) + u3) h2) ?_ rfl
    refine ev_istore dX10_writeBoard_64 (Nat.le_of_ble_eq_true rfl) (ev_hw rfl) ?_
    show ev_E g m_X10_writeBoard 3 0 66 [some (ev_o 10 a), some (ev_i u1), some (ev_i u2), some (ev_i u3), some (ev_i (S.1 (a + 1) ((26 + (64 * u1)) + (((S.1 (a + 1) 0) * u2) + u3)).toNatClampNeg))] [] S Q
    refine ev_aload_n (ev_o 10 a) dX10_writeBoard_66 rfl rfl ?_
    refine ev_iload ((S.1 (a + 1) ((26 + (64 * u1)) + (((S.1 (a + 1) 0) * u2) + u3)).toNatClampNeg)) dX10_writeBoard_67 rfl ?_
    refine ev_iconst (-1) dX10_writeBoard_69 rfl ?_
    refine ev_icmp_ne 78 dX10_writeBoard_70 (by decide) (fun c3 => ?_) (fun c3 => ?_)
    · replace hQ := hQ.2 c3
      refine ev_iload ((S.1 (a + 1) ((26 + (64 * u1)) + (((S.1 (a + 1) 0) * u2) + u3)).toNatClampNeg)) dX10_writeBoard_78 rfl ?_
      refine ev_if_ne 88 dX10_writeBoard_80 (by decide) (fun c4 => ?_) (fun c4 => ?_)
      · replace hQ := hQ.2 c4
        refine ev_bipush (98) dX10_writeBoard_88 (by decide) ?_
        obtain ⟨h3, hQ⟩ := hQ
        refine ev_fVn mv_X10_writes 1 10 [ev_i 98] [] dX10_writeBoard_90 kw_2405 rfl (by decide) rfl (by decide) (Nat.le_of_ble_eq_true rfl) (sp_X10_writes a 98 h3) ?_ rfl
        refine ev_sub hQ (fun S2 hS2 hQ => ?_)
        refine ev_E.goal (pc' := 93) (L' := [some (ev_o 10 a), some (ev_i u1), some (ev_i u2), some (ev_i u3), some (ev_i (S.1 (a + 1) ((26 + (64 * u1)) + (((S.1 (a + 1) 0) * u2) + u3)).toNatClampNeg))]) (K' := []) (S' := S2) ?_ rfl rfl rfl hS2
        refine ev_iinc u3 (1) dX10_writeBoard_93 rfl (by decide) (ev_hw rfl) ?_
        show ev_E g m_X10_writeBoard 3 0 96 [some (ev_o 10 a), some (ev_i u1), some (ev_i u2), some (ev_i (u3 + 1)), some (ev_i (S.1 (a + 1) ((26 + (64 * u1)) + (((S.1 (a + 1) 0) * u2) + u3)).toNatClampNeg))] [] S2 Q
        refine ev_goto 39 dX10_writeBoard_96 (by decide) ?_
        refine ev_fgm [true, true, true, true, false] ?_
        exact hQ
      · replace hQ := hQ.1 c4
        refine ev_bipush (119) dX10_writeBoard_83 (by decide) ?_
        refine ev_goto 90 dX10_writeBoard_85 (by decide) ?_
        obtain ⟨h4, hQ⟩ := hQ
        refine ev_fVn mv_X10_writes 1 10 [ev_i 119] [] dX10_writeBoard_90 kw_2405 rfl (by decide) rfl (by decide) (Nat.le_of_ble_eq_true rfl) (sp_X10_writes a 119 h4) ?_ rfl
        refine ev_sub hQ (fun S3 hS3 hQ => ?_)
        refine ev_E.goal (pc' := 93) (L' := [some (ev_o 10 a), some (ev_i u1), some (ev_i u2), some (ev_i u3), some (ev_i (S.1 (a + 1) ((26 + (64 * u1)) + (((S.1 (a + 1) 0) * u2) + u3)).toNatClampNeg))]) (K' := []) (S' := S3) ?_ rfl rfl rfl hS3
        refine ev_iinc u3 (1) dX10_writeBoard_93 rfl (by decide) (ev_hw rfl) ?_
        show ev_E g m_X10_writeBoard 3 0 96 [some (ev_o 10 a), some (ev_i u1), some (ev_i u2), some (ev_i (u3 + 1)), some (ev_i (S.1 (a + 1) ((26 + (64 * u1)) + (((S.1 (a + 1) 0) * u2) + u3)).toNatClampNeg))] [] S3 Q
        refine ev_goto 39 dX10_writeBoard_96 (by decide) ?_
        refine ev_fgm [true, true, true, true, false] ?_
        exact hQ
    · replace hQ := hQ.1 c3
      refine ev_bipush (46) dX10_writeBoard_73 (by decide) ?_
      refine ev_goto 90 dX10_writeBoard_75 (by decide) ?_
      obtain ⟨h5, hQ⟩ := hQ
      refine ev_fVn mv_X10_writes 1 10 [ev_i 46] [] dX10_writeBoard_90 kw_2405 rfl (by decide) rfl (by decide) (Nat.le_of_ble_eq_true rfl) (sp_X10_writes a 46 h5) ?_ rfl
      refine ev_sub hQ (fun S4 hS4 hQ => ?_)
      refine ev_E.goal (pc' := 93) (L' := [some (ev_o 10 a), some (ev_i u1), some (ev_i u2), some (ev_i u3), some (ev_i (S.1 (a + 1) ((26 + (64 * u1)) + (((S.1 (a + 1) 0) * u2) + u3)).toNatClampNeg))]) (K' := []) (S' := S4) ?_ rfl rfl rfl hS4
      refine ev_iinc u3 (1) dX10_writeBoard_93 rfl (by decide) (ev_hw rfl) ?_
      show ev_E g m_X10_writeBoard 3 0 96 [some (ev_o 10 a), some (ev_i u1), some (ev_i u2), some (ev_i (u3 + 1)), some (ev_i (S.1 (a + 1) ((26 + (64 * u1)) + (((S.1 (a + 1) 0) * u2) + u3)).toNatClampNeg))] [] S4 Q
      refine ev_goto 39 dX10_writeBoard_96 (by decide) ?_
      refine ev_fgm [true, true, true, true, false] ?_
      exact hQ
set_option maxHeartbeats 4000000 in
set_option maxRecDepth 100000 in
theorem sg_X10_writeMoves_0 {g : ev_G} {S : ev_S} {Q : ev_O → ev_S → Prop} (a : Nat) (x0 : Int32) (hQ : ∀ S1 : ev_S, S1 = (ev_up S a 7 0) → (
    ((t_X10_in x0 0 1) = true → (
      ∀ S2 : ev_S, S2 = (ev_up S1 a 27 0) → (
        ev_E g m_X10_writeMoves 3 0 26 [some (ev_o 10 a), some (ev_i x0), some (ev_i 1)] [] S2 Q))) ∧
    (¬ ((t_X10_in x0 0 1) = true) → (
      ∀ S3 : ev_S, S3 = (ev_up S1 a 7 1) → (
        Q (.inl (some (ev_i 0))) S3))))) : ev_Cv g m_X10_writeMoves 3 0 [ev_o 10 a, ev_i x0] S Q := by
  refine ev_enter (by decide) rfl rfl (Nat.le_of_ble_eq_true rfl) ?_
  show ev_E g m_X10_writeMoves 3 0 0 [some (ev_o 10 a), some (ev_i x0), none] [] S Q
  refine ev_aload_n (ev_o 10 a) dX10_writeMoves_0 rfl rfl ?_
  refine ev_iconst (0) dX10_writeMoves_1 rfl ?_
  refine pf_10_7 dX10_writeMoves_2 kw_1860 ?_
  refine ev_sub hQ (fun S1 hS1 hQ => ?_)
  refine ev_E.goal (pc' := 5) (L' := [some (ev_o 10 a), some (ev_i x0), none]) (K' := []) (S' := S1) ?_ rfl rfl rfl hS1
  refine ev_aload_n (ev_o 10 a) dX10_writeMoves_5 rfl rfl ?_
  refine ev_iload_n (x0) dX10_writeMoves_6 rfl ?_
  refine ev_fS ms_X10_isPlayer 2 [ev_i x0] [ev_o 10 a] dX10_writeMoves_7 kw_2029 rfl (by decide) (Nat.le_of_ble_eq_true rfl) (sp_X10_isPlayer x0) ?_ rfl
  by_cases c1 : (t_X10_in x0 0 1) = true
  · rw [if_pos c1]
    replace hQ := hQ.1 c1
    refine ev_iconst (1) dX10_writeMoves_10 rfl ?_
    refine ev_cV mv_X10_right 1 0 10 [ev_i 1, ev_i 1] [] dX10_writeMoves_11 kw_1951 rfl (by decide) rfl (by decide) (by decide) (Nat.le_of_ble_eq_true rfl) (Q' := fun o z => ev_After g m_X10_writeMoves 3 (0 - 0) 11 [some (ev_o 10 a), some (ev_i x0), none] [] z Q o) (sg_X10_right_0 a 1 1 ?_) (fun o z h => h) rfl
    refine j_pos (by rw [j_rs hS1] <;> decide : ((S1.1 a 7) = 0)) ?_
    refine j_neg (by decide : ¬ ((1 : Int32) = 0)) ?_
    show ev_E g m_X10_writeMoves 3 0 14 [some (ev_o 10 a), some (ev_i x0), none] [ev_i 1] S1 Q
    refine ev_if_ne 19 dX10_writeMoves_14 (by decide) (fun _ => ?_) (fun h9 => absurd h9 (by decide : ¬ ((1 : Int32) = 0)))
    refine ev_aload_n (ev_o 10 a) dX10_writeMoves_19 rfl rfl ?_
    refine ev_iconst (0) dX10_writeMoves_20 rfl ?_
    refine pf_10_27 dX10_writeMoves_21 kw_1880 ?_
    refine ev_sub hQ (fun S2 hS2 hQ => ?_)
    refine ev_E.goal (pc' := 24) (L' := [some (ev_o 10 a), some (ev_i x0), none]) (K' := []) (S' := S2) ?_ rfl rfl rfl hS2
    refine ev_iconst (1) dX10_writeMoves_24 rfl ?_
    refine ev_istore_n dX10_writeMoves_25 (Nat.le_of_ble_eq_true rfl) (ev_hw rfl) ?_
    show ev_E g m_X10_writeMoves 3 0 26 [some (ev_o 10 a), some (ev_i x0), some (ev_i 1)] [] S2 Q
    exact hQ
  · rw [if_neg c1]
    replace hQ := hQ.2 c1
    refine ev_iconst (1) dX10_writeMoves_10 rfl ?_
    refine ev_cV mv_X10_right 1 0 10 [ev_i 0, ev_i 1] [] dX10_writeMoves_11 kw_1951 rfl (by decide) rfl (by decide) (by decide) (Nat.le_of_ble_eq_true rfl) (Q' := fun o z => ev_After g m_X10_writeMoves 3 (0 - 0) 11 [some (ev_o 10 a), some (ev_i x0), none] [] z Q o) (sg_X10_right_0 a 0 1 ?_) (fun o z h => h) rfl
    refine j_pos (by rw [j_rs hS1] <;> decide : ((S1.1 a 7) = 0)) ?_
    refine j_pos (by decide : ((0 : Int32) = 0)) ?_
    intro S3 hS3
    refine ev_sub1 hQ hS3 (fun hQ => ?_)
    refine j_neg (by decide : ¬ ((1 : Int32) = 0)) ?_
    show ev_E g m_X10_writeMoves 3 0 14 [some (ev_o 10 a), some (ev_i x0), none] [ev_i 0] S3 Q
    refine ev_if_ne 19 dX10_writeMoves_14 (by decide) (fun h9 => absurd (by decide : ((0 : Int32) = 0)) h9) (fun _ => ?_)
    refine ev_iconst (0) dX10_writeMoves_17 rfl ?_
    exact ev_ireturn .int dX10_writeMoves_18 rfl rfl hQ
set_option maxHeartbeats 4000000 in
set_option maxRecDepth 100000 in
theorem sg_X10_writeMoves_26 {g : ev_G} {S : ev_S} {Q : ev_O → ev_S → Prop} (a : Nat) (u1 : Int32) (u2 : Int32) (hQ : (vp_in ((12 + (7 * u1)) + 0) 2091) ∧ (
    ((S.1 (a + 1) ((12 + (7 * u1)) + 0).toNatClampNeg) < u2 → (
      Q (.inl (some (ev_i (S.1 a 27)))) S)) ∧
    (¬ ((S.1 (a + 1) ((12 + (7 * u1)) + 0).toNatClampNeg) < u2) → (
      (u2 ≤ 1 → (
        (vp_in (((154 + (180 * u1)) + (3 * (u2 - 1))) + 0) 2091) ∧ (
          ev_Cv g m_X10_writesNumber 2 0 [ev_o 10 a, ev_i (S.1 (a + 1) (((154 + (180 * u1)) + (3 * (u2 - 1))) + 0).toNatClampNeg)] S (fun o S1 => o = .inl none ∧ (
            (vp_in (((154 + (180 * u1)) + (3 * (u2 - 1))) + 2) 2091) ∧ (
              ((S1.1 (a + 1) (((154 + (180 * u1)) + (3 * (u2 - 1))) + 2).toNatClampNeg) = 1 → (
                (vp_in (S1.1 a 27) 500) ∧ (
                  ∀ S4 : ev_S, S4 = (ev_up (ev_up S1 (a + 10) (S1.1 a 27).toNatClampNeg 120) a 27 ((S1.1 a 27) + 1)) → (
                    (vp_in (((154 + (180 * u1)) + (3 * (u2 - 1))) + 1) 2091) ∧ (
                      ev_Cv g m_X10_writesNumber 2 0 [ev_o 10 a, ev_i ((ev_up S1 (a + 10) (S1.1 a 27).toNatClampNeg 120).1 (a + 1) (((154 + (180 * u1)) + (3 * (u2 - 1))) + 1).toNatClampNeg)] S4 (fun o S5 => o = .inl none ∧ (
                        ev_E g m_X10_writeMoves 3 0 26 [some (ev_o 10 a), some (ev_i u1), some (ev_i (u2 + 1))] [] S5 Q))))))) ∧
              (¬ ((S1.1 (a + 1) (((154 + (180 * u1)) + (3 * (u2 - 1))) + 2).toNatClampNeg) = 1) → (
                (vp_in (S1.1 a 27) 500) ∧ (
                  ∀ S2 : ev_S, S2 = (ev_up (ev_up S1 (a + 10) (S1.1 a 27).toNatClampNeg 45) a 27 ((S1.1 a 27) + 1)) → (
                    (vp_in (((154 + (180 * u1)) + (3 * (u2 - 1))) + 1) 2091) ∧ (
                      ev_Cv g m_X10_writesNumber 2 0 [ev_o 10 a, ev_i ((ev_up S1 (a + 10) (S1.1 a 27).toNatClampNeg 45).1 (a + 1) (((154 + (180 * u1)) + (3 * (u2 - 1))) + 1).toNatClampNeg)] S2 (fun o S3 => o = .inl none ∧ (
                        ev_E g m_X10_writeMoves 3 0 26 [some (ev_o 10 a), some (ev_i u1), some (ev_i (u2 + 1))] [] S3 Q))))))))))))) ∧
      (¬ (u2 ≤ 1) → (
        (vp_in (S.1 a 27) 500) ∧ (
          ∀ S6 : ev_S, S6 = (ev_up (ev_up S (a + 10) (S.1 a 27).toNatClampNeg 32) a 27 ((S.1 a 27) + 1)) → (
            (vp_in (((154 + (180 * u1)) + (3 * (u2 - 1))) + 0) 2091) ∧ (
              ev_Cv g m_X10_writesNumber 2 0 [ev_o 10 a, ev_i ((ev_up S (a + 10) (S.1 a 27).toNatClampNeg 32).1 (a + 1) (((154 + (180 * u1)) + (3 * (u2 - 1))) + 0).toNatClampNeg)] S6 (fun o S7 => o = .inl none ∧ (
                (vp_in (((154 + (180 * u1)) + (3 * (u2 - 1))) + 2) 2091) ∧ (
                  ((S7.1 (a + 1) (((154 + (180 * u1)) + (3 * (u2 - 1))) + 2).toNatClampNeg) = 1 → (
                    (vp_in (S7.1 a 27) 500) ∧ (
                      ∀ S10 : ev_S, S10 = (ev_up (ev_up S7 (a + 10) (S7.1 a 27).toNatClampNeg 120) a 27 ((S7.1 a 27) + 1)) → (
                        (vp_in (((154 + (180 * u1)) + (3 * (u2 - 1))) + 1) 2091) ∧ (
                          ev_Cv g m_X10_writesNumber 2 0 [ev_o 10 a, ev_i ((ev_up S7 (a + 10) (S7.1 a 27).toNatClampNeg 120).1 (a + 1) (((154 + (180 * u1)) + (3 * (u2 - 1))) + 1).toNatClampNeg)] S10 (fun o S11 => o = .inl none ∧ (
                            ev_E g m_X10_writeMoves 3 0 26 [some (ev_o 10 a), some (ev_i u1), some (ev_i (u2 + 1))] [] S11 Q))))))) ∧
                  (¬ ((S7.1 (a + 1) (((154 + (180 * u1)) + (3 * (u2 - 1))) + 2).toNatClampNeg) = 1) → (
                    (vp_in (S7.1 a 27) 500) ∧ (
                      ∀ S8 : ev_S, S8 = (ev_up (ev_up S7 (a + 10) (S7.1 a 27).toNatClampNeg 45) a 27 ((S7.1 a 27) + 1)) → (
                        (vp_in (((154 + (180 * u1)) + (3 * (u2 - 1))) + 1) 2091) ∧ (
                          ev_Cv g m_X10_writesNumber 2 0 [ev_o 10 a, ev_i ((ev_up S7 (a + 10) (S7.1 a 27).toNatClampNeg 45).1 (a + 1) (((154 + (180 * u1)) + (3 * (u2 - 1))) + 1).toNatClampNeg)] S8 (fun o S9 => o = .inl none ∧ (
                            ev_E g m_X10_writeMoves 3 0 26 [some (ev_o 10 a), some (ev_i u1), some (ev_i (u2 + 1))] [] S9 Q))))))))))))))))))) : ev_E g m_X10_writeMoves 3 0 26 [some (ev_o 10 a), some (ev_i u1), some (ev_i u2)] [] S Q := by
  refine ev_iload_n (u2) dX10_writeMoves_26 rfl ?_
  refine ev_aload_n (ev_o 10 a) dX10_writeMoves_27 rfl rfl ?_
  refine ev_iload_n (u1) dX10_writeMoves_28 rfl ?_
  refine ev_iconst (0) dX10_writeMoves_29 rfl ?_
  obtain ⟨h1, hQ⟩ := hQ
  refine ev_fV mv_X10_ofP 1 10 [ev_i u1, ev_i 0] [ev_i u2] dX10_writeMoves_30 kw_2048 rfl (by decide) rfl (by decide) (Nat.le_of_ble_eq_true rfl) (sp_X10_ofP a u1 0 h1) ?_ rfl
  refine ev_icmp_gt 97 dX10_writeMoves_33 (by decide) (fun c1 => ?_) (fun c1 => ?_)
  · replace hQ := hQ.1 c1
    refine ev_aload_n (ev_o 10 a) dX10_writeMoves_97 rfl rfl ?_
    refine gf_10_27 dX10_writeMoves_98 kw_1880 ?_
    exact ev_ireturn .int dX10_writeMoves_101 rfl rfl hQ
  · replace hQ := hQ.2 c1
    refine ev_iload_n (u2) dX10_writeMoves_36 rfl ?_
    refine ev_iconst (1) dX10_writeMoves_37 rfl ?_
    refine ev_icmp_le 47 dX10_writeMoves_38 (by decide) (fun c2 => ?_) (fun c2 => ?_)
    · replace hQ := hQ.1 c2
      refine ev_aload_n (ev_o 10 a) dX10_writeMoves_47 rfl rfl ?_
      refine ev_aload_n (ev_o 10 a) dX10_writeMoves_48 rfl rfl ?_
      refine ev_iload_n (u1) dX10_writeMoves_49 rfl ?_
      refine ev_iload_n (u2) dX10_writeMoves_50 rfl ?_
      refine ev_iconst (0) dX10_writeMoves_51 rfl ?_
      obtain ⟨h2, hQ⟩ := hQ
      refine ev_fV mv_X10_madeAt 1 10 [ev_i u1, ev_i u2, ev_i 0] [ev_o 10 a] dX10_writeMoves_52 kw_2105 rfl (by decide) rfl (by decide) (Nat.le_of_ble_eq_true rfl) (sp_X10_madeAt a u1 u2 0 h2) ?_ rfl
      refine ev_cV mv_X10_writesNumber 2 0 10 [ev_i (S.1 (a + 1) (((154 + (180 * u1)) + (3 * (u2 - 1))) + 0).toNatClampNeg)] [] dX10_writeMoves_55 kw_2413 rfl (by decide) rfl (by decide) (by decide) (Nat.le_of_ble_eq_true rfl) hQ ?_ rfl
      rintro o S1 ⟨rfl, hQ⟩
      show ev_E g m_X10_writeMoves 3 0 58 [some (ev_o 10 a), some (ev_i u1), some (ev_i u2)] [] S1 Q
      refine ev_aload_n (ev_o 10 a) dX10_writeMoves_58 rfl rfl ?_
      refine ev_aload_n (ev_o 10 a) dX10_writeMoves_59 rfl rfl ?_
      refine ev_iload_n (u1) dX10_writeMoves_60 rfl ?_
      refine ev_iload_n (u2) dX10_writeMoves_61 rfl ?_
      refine ev_iconst (2) dX10_writeMoves_62 rfl ?_
      obtain ⟨h3, hQ⟩ := hQ
      refine ev_fV mv_X10_madeAt 1 10 [ev_i u1, ev_i u2, ev_i 2] [ev_o 10 a] dX10_writeMoves_63 kw_2105 rfl (by decide) rfl (by decide) (Nat.le_of_ble_eq_true rfl) (sp_X10_madeAt a u1 u2 2 h3) ?_ rfl
      refine ev_iconst (1) dX10_writeMoves_66 rfl ?_
      refine ev_icmp_ne 75 dX10_writeMoves_67 (by decide) (fun c3 => ?_) (fun c3 => ?_)
      · replace hQ := hQ.2 c3
        refine ev_bipush (45) dX10_writeMoves_75 (by decide) ?_
        obtain ⟨h4, hQ⟩ := hQ
        refine ev_fVn mv_X10_writes 1 10 [ev_i 45] [] dX10_writeMoves_77 kw_2405 rfl (by decide) rfl (by decide) (Nat.le_of_ble_eq_true rfl) (sp_X10_writes a 45 h4) ?_ rfl
        refine ev_sub hQ (fun S2 hS2 hQ => ?_)
        refine ev_E.goal (pc' := 80) (L' := [some (ev_o 10 a), some (ev_i u1), some (ev_i u2)]) (K' := []) (S' := S2) ?_ rfl rfl rfl hS2
        refine ev_aload_n (ev_o 10 a) dX10_writeMoves_80 rfl rfl ?_
        refine ev_aload_n (ev_o 10 a) dX10_writeMoves_81 rfl rfl ?_
        refine ev_iload_n (u1) dX10_writeMoves_82 rfl ?_
        refine ev_iload_n (u2) dX10_writeMoves_83 rfl ?_
        refine ev_iconst (1) dX10_writeMoves_84 rfl ?_
        obtain ⟨h5, hQ⟩ := hQ
        refine ev_fV mv_X10_madeAt 1 10 [ev_i u1, ev_i u2, ev_i 1] [ev_o 10 a] dX10_writeMoves_85 kw_2105 rfl (by decide) rfl (by decide) (Nat.le_of_ble_eq_true rfl) (sp_X10_madeAt a u1 u2 1 h5) ?_ rfl
        refine ev_ke (j_rk hS2 (Or.inl (by omega))) ?_
        refine ev_cV mv_X10_writesNumber 2 0 10 [ev_i ((ev_up S1 (a + 10) (S1.1 a 27).toNatClampNeg 45).1 (a + 1) (((154 + (180 * u1)) + (3 * (u2 - 1))) + 1).toNatClampNeg)] [] dX10_writeMoves_88 kw_2413 rfl (by decide) rfl (by decide) (by decide) (Nat.le_of_ble_eq_true rfl) hQ ?_ rfl
        rintro o S3 ⟨rfl, hQ⟩
        show ev_E g m_X10_writeMoves 3 0 91 [some (ev_o 10 a), some (ev_i u1), some (ev_i u2)] [] S3 Q
        refine ev_iinc u2 (1) dX10_writeMoves_91 rfl (by decide) (ev_hw rfl) ?_
        show ev_E g m_X10_writeMoves 3 0 94 [some (ev_o 10 a), some (ev_i u1), some (ev_i (u2 + 1))] [] S3 Q
        refine ev_goto 26 dX10_writeMoves_94 (by decide) ?_
        exact hQ
      · replace hQ := hQ.1 c3
        refine ev_bipush (120) dX10_writeMoves_70 (by decide) ?_
        refine ev_goto 77 dX10_writeMoves_72 (by decide) ?_
        obtain ⟨h6, hQ⟩ := hQ
        refine ev_fVn mv_X10_writes 1 10 [ev_i 120] [] dX10_writeMoves_77 kw_2405 rfl (by decide) rfl (by decide) (Nat.le_of_ble_eq_true rfl) (sp_X10_writes a 120 h6) ?_ rfl
        refine ev_sub hQ (fun S4 hS4 hQ => ?_)
        refine ev_E.goal (pc' := 80) (L' := [some (ev_o 10 a), some (ev_i u1), some (ev_i u2)]) (K' := []) (S' := S4) ?_ rfl rfl rfl hS4
        refine ev_aload_n (ev_o 10 a) dX10_writeMoves_80 rfl rfl ?_
        refine ev_aload_n (ev_o 10 a) dX10_writeMoves_81 rfl rfl ?_
        refine ev_iload_n (u1) dX10_writeMoves_82 rfl ?_
        refine ev_iload_n (u2) dX10_writeMoves_83 rfl ?_
        refine ev_iconst (1) dX10_writeMoves_84 rfl ?_
        obtain ⟨h7, hQ⟩ := hQ
        refine ev_fV mv_X10_madeAt 1 10 [ev_i u1, ev_i u2, ev_i 1] [ev_o 10 a] dX10_writeMoves_85 kw_2105 rfl (by decide) rfl (by decide) (Nat.le_of_ble_eq_true rfl) (sp_X10_madeAt a u1 u2 1 h7) ?_ rfl
        refine ev_ke (j_rk hS4 (Or.inl (by omega))) ?_
        refine ev_cV mv_X10_writesNumber 2 0 10 [ev_i ((ev_up S1 (a + 10) (S1.1 a 27).toNatClampNeg 120).1 (a + 1) (((154 + (180 * u1)) + (3 * (u2 - 1))) + 1).toNatClampNeg)] [] dX10_writeMoves_88 kw_2413 rfl (by decide) rfl (by decide) (by decide) (Nat.le_of_ble_eq_true rfl) hQ ?_ rfl
        rintro o S5 ⟨rfl, hQ⟩
        show ev_E g m_X10_writeMoves 3 0 91 [some (ev_o 10 a), some (ev_i u1), some (ev_i u2)] [] S5 Q
        refine ev_iinc u2 (1) dX10_writeMoves_91 rfl (by decide) (ev_hw rfl) ?_
        show ev_E g m_X10_writeMoves 3 0 94 [some (ev_o 10 a), some (ev_i u1), some (ev_i (u2 + 1))] [] S5 Q
        refine ev_goto 26 dX10_writeMoves_94 (by decide) ?_
        exact hQ
    · replace hQ := hQ.2 c2
      refine ev_aload_n (ev_o 10 a) dX10_writeMoves_41 rfl rfl ?_
      refine ev_bipush (32) dX10_writeMoves_42 (by decide) ?_
      obtain ⟨h8, hQ⟩ := hQ
      refine ev_fVn mv_X10_writes 1 10 [ev_i 32] [] dX10_writeMoves_44 kw_2405 rfl (by decide) rfl (by decide) (Nat.le_of_ble_eq_true rfl) (sp_X10_writes a 32 h8) ?_ rfl
      refine ev_sub hQ (fun S6 hS6 hQ => ?_)
      refine ev_E.goal (pc' := 47) (L' := [some (ev_o 10 a), some (ev_i u1), some (ev_i u2)]) (K' := []) (S' := S6) ?_ rfl rfl rfl hS6
      refine ev_aload_n (ev_o 10 a) dX10_writeMoves_47 rfl rfl ?_
      refine ev_aload_n (ev_o 10 a) dX10_writeMoves_48 rfl rfl ?_
      refine ev_iload_n (u1) dX10_writeMoves_49 rfl ?_
      refine ev_iload_n (u2) dX10_writeMoves_50 rfl ?_
      refine ev_iconst (0) dX10_writeMoves_51 rfl ?_
      obtain ⟨h9, hQ⟩ := hQ
      refine ev_fV mv_X10_madeAt 1 10 [ev_i u1, ev_i u2, ev_i 0] [ev_o 10 a] dX10_writeMoves_52 kw_2105 rfl (by decide) rfl (by decide) (Nat.le_of_ble_eq_true rfl) (sp_X10_madeAt a u1 u2 0 h9) ?_ rfl
      refine ev_ke (j_rk hS6 (Or.inl (by omega))) ?_
      refine ev_cV mv_X10_writesNumber 2 0 10 [ev_i ((ev_up S (a + 10) (S.1 a 27).toNatClampNeg 32).1 (a + 1) (((154 + (180 * u1)) + (3 * (u2 - 1))) + 0).toNatClampNeg)] [] dX10_writeMoves_55 kw_2413 rfl (by decide) rfl (by decide) (by decide) (Nat.le_of_ble_eq_true rfl) hQ ?_ rfl
      rintro o S7 ⟨rfl, hQ⟩
      show ev_E g m_X10_writeMoves 3 0 58 [some (ev_o 10 a), some (ev_i u1), some (ev_i u2)] [] S7 Q
      refine ev_aload_n (ev_o 10 a) dX10_writeMoves_58 rfl rfl ?_
      refine ev_aload_n (ev_o 10 a) dX10_writeMoves_59 rfl rfl ?_
      refine ev_iload_n (u1) dX10_writeMoves_60 rfl ?_
      refine ev_iload_n (u2) dX10_writeMoves_61 rfl ?_
      refine ev_iconst (2) dX10_writeMoves_62 rfl ?_
      obtain ⟨h10, hQ⟩ := hQ
      refine ev_fV mv_X10_madeAt 1 10 [ev_i u1, ev_i u2, ev_i 2] [ev_o 10 a] dX10_writeMoves_63 kw_2105 rfl (by decide) rfl (by decide) (Nat.le_of_ble_eq_true rfl) (sp_X10_madeAt a u1 u2 2 h10) ?_ rfl
      refine ev_iconst (1) dX10_writeMoves_66 rfl ?_
      refine ev_icmp_ne 75 dX10_writeMoves_67 (by decide) (fun c4 => ?_) (fun c4 => ?_)
      · replace hQ := hQ.2 c4
        refine ev_bipush (45) dX10_writeMoves_75 (by decide) ?_
        obtain ⟨h11, hQ⟩ := hQ
        refine ev_fVn mv_X10_writes 1 10 [ev_i 45] [] dX10_writeMoves_77 kw_2405 rfl (by decide) rfl (by decide) (Nat.le_of_ble_eq_true rfl) (sp_X10_writes a 45 h11) ?_ rfl
        refine ev_sub hQ (fun S8 hS8 hQ => ?_)
        refine ev_E.goal (pc' := 80) (L' := [some (ev_o 10 a), some (ev_i u1), some (ev_i u2)]) (K' := []) (S' := S8) ?_ rfl rfl rfl hS8
        refine ev_aload_n (ev_o 10 a) dX10_writeMoves_80 rfl rfl ?_
        refine ev_aload_n (ev_o 10 a) dX10_writeMoves_81 rfl rfl ?_
        refine ev_iload_n (u1) dX10_writeMoves_82 rfl ?_
        refine ev_iload_n (u2) dX10_writeMoves_83 rfl ?_
        refine ev_iconst (1) dX10_writeMoves_84 rfl ?_
        obtain ⟨h12, hQ⟩ := hQ
        refine ev_fV mv_X10_madeAt 1 10 [ev_i u1, ev_i u2, ev_i 1] [ev_o 10 a] dX10_writeMoves_85 kw_2105 rfl (by decide) rfl (by decide) (Nat.le_of_ble_eq_true rfl) (sp_X10_madeAt a u1 u2 1 h12) ?_ rfl
        refine ev_ke (j_rk hS8 (Or.inl (by omega))) ?_
        refine ev_cV mv_X10_writesNumber 2 0 10 [ev_i ((ev_up S7 (a + 10) (S7.1 a 27).toNatClampNeg 45).1 (a + 1) (((154 + (180 * u1)) + (3 * (u2 - 1))) + 1).toNatClampNeg)] [] dX10_writeMoves_88 kw_2413 rfl (by decide) rfl (by decide) (by decide) (Nat.le_of_ble_eq_true rfl) hQ ?_ rfl
        rintro o S9 ⟨rfl, hQ⟩
        show ev_E g m_X10_writeMoves 3 0 91 [some (ev_o 10 a), some (ev_i u1), some (ev_i u2)] [] S9 Q
        refine ev_iinc u2 (1) dX10_writeMoves_91 rfl (by decide) (ev_hw rfl) ?_
        show ev_E g m_X10_writeMoves 3 0 94 [some (ev_o 10 a), some (ev_i u1), some (ev_i (u2 + 1))] [] S9 Q
        refine ev_goto 26 dX10_writeMoves_94 (by decide) ?_
        exact hQ
      · replace hQ := hQ.1 c4
        refine ev_bipush (120) dX10_writeMoves_70 (by decide) ?_
        refine ev_goto 77 dX10_writeMoves_72 (by decide) ?_
        obtain ⟨h13, hQ⟩ := hQ
        refine ev_fVn mv_X10_writes 1 10 [ev_i 120] [] dX10_writeMoves_77 kw_2405 rfl (by decide) rfl (by decide) (Nat.le_of_ble_eq_true rfl) (sp_X10_writes a 120 h13) ?_ rfl
        refine ev_sub hQ (fun S10 hS10 hQ => ?_)
        refine ev_E.goal (pc' := 80) (L' := [some (ev_o 10 a), some (ev_i u1), some (ev_i u2)]) (K' := []) (S' := S10) ?_ rfl rfl rfl hS10
        refine ev_aload_n (ev_o 10 a) dX10_writeMoves_80 rfl rfl ?_
        refine ev_aload_n (ev_o 10 a) dX10_writeMoves_81 rfl rfl ?_
        refine ev_iload_n (u1) dX10_writeMoves_82 rfl ?_
        refine ev_iload_n (u2) dX10_writeMoves_83 rfl ?_
        refine ev_iconst (1) dX10_writeMoves_84 rfl ?_
        obtain ⟨h14, hQ⟩ := hQ
        refine ev_fV mv_X10_madeAt 1 10 [ev_i u1, ev_i u2, ev_i 1] [ev_o 10 a] dX10_writeMoves_85 kw_2105 rfl (by decide) rfl (by decide) (Nat.le_of_ble_eq_true rfl) (sp_X10_madeAt a u1 u2 1 h14) ?_ rfl
        refine ev_ke (j_rk hS10 (Or.inl (by omega))) ?_
        refine ev_cV mv_X10_writesNumber 2 0 10 [ev_i ((ev_up S7 (a + 10) (S7.1 a 27).toNatClampNeg 120).1 (a + 1) (((154 + (180 * u1)) + (3 * (u2 - 1))) + 1).toNatClampNeg)] [] dX10_writeMoves_88 kw_2413 rfl (by decide) rfl (by decide) (by decide) (Nat.le_of_ble_eq_true rfl) hQ ?_ rfl
        rintro o S11 ⟨rfl, hQ⟩
        show ev_E g m_X10_writeMoves 3 0 91 [some (ev_o 10 a), some (ev_i u1), some (ev_i u2)] [] S11 Q
        refine ev_iinc u2 (1) dX10_writeMoves_91 rfl (by decide) (ev_hw rfl) ?_
        show ev_E g m_X10_writeMoves 3 0 94 [some (ev_o 10 a), some (ev_i u1), some (ev_i (u2 + 1))] [] S11 Q
        refine ev_goto 26 dX10_writeMoves_94 (by decide) ?_
        exact hQ
set_option maxHeartbeats 4000000 in
set_option maxRecDepth 100000 in
theorem sg_X10_outputByte_0 {g : ev_G} {S : ev_S} {Q : ev_O → ev_S → Prop} (a : Nat) (x0 : Int32) (hQ : ∀ S1 : ev_S, S1 = (ev_up S a 7 0) → (
    ((t_X10_in x0 0 ((S.1 a 27) - 1)) = true → (
      (vp_in x0 500) ∧ (
        Q (.inl (some (ev_i (S.1 (a + 10) x0.toNatClampNeg)))) S1))) ∧
    (¬ ((t_X10_in x0 0 ((S.1 a 27) - 1)) = true) → (
      Q (.inl (some (ev_i (-1)))) S1)))) : ev_Cv g m_X10_outputByte 2 0 [ev_o 10 a, ev_i x0] S Q := by
  refine ev_enter (by decide) rfl rfl (Nat.le_of_ble_eq_true rfl) ?_
  show ev_E g m_X10_outputByte 2 0 0 [some (ev_o 10 a), some (ev_i x0)] [] S Q
  refine ev_aload_n (ev_o 10 a) dX10_outputByte_0 rfl rfl ?_
  refine ev_iconst (0) dX10_outputByte_1 rfl ?_
  refine pf_10_7 dX10_outputByte_2 kw_1860 ?_
  refine ev_sub hQ (fun S1 hS1 hQ => ?_)
  refine ev_E.goal (pc' := 5) (L' := [some (ev_o 10 a), some (ev_i x0)]) (K' := []) (S' := S1) ?_ rfl rfl rfl hS1
  refine ev_iload_n (x0) dX10_outputByte_5 rfl ?_
  refine ev_iconst (0) dX10_outputByte_6 rfl ?_
  refine ev_aload_n (ev_o 10 a) dX10_outputByte_7 rfl rfl ?_
  refine gf_10_27 dX10_outputByte_8 kw_1880 ?_
  refine ev_ke (j_rk hS1 (Or.inr (by decide))) ?_
  refine ev_iconst (1) dX10_outputByte_11 rfl ?_
  refine ev_isub dX10_outputByte_12 ?_
  refine ev_fS ms_X10_in 1 [ev_i x0, ev_i 0, ev_i ((S.1 a 27) - 1)] [] dX10_outputByte_13 kw_1781 rfl (by decide) (Nat.le_of_ble_eq_true rfl) (sp_X10_in x0 0 ((S.1 a 27) - 1)) ?_ rfl
  by_cases c1 : (t_X10_in x0 0 ((S.1 a 27) - 1)) = true
  · rw [if_pos c1]
    replace hQ := hQ.1 c1
    refine ev_if_eq 28 dX10_outputByte_16 (by decide) (fun h9 => absurd h9 (by decide : ¬ ((1 : Int32) = 0))) (fun _ => ?_)
    refine ev_aload_n (ev_o 10 a) dX10_outputByte_19 rfl rfl ?_
    refine gf_10_26 dX10_outputByte_20 kw_1879 ?_
    refine ev_iload_n (x0) dX10_outputByte_23 rfl ?_
    obtain ⟨h1, hQ⟩ := hQ
    refine ev_iaload dX10_outputByte_24 h1 ?_
    refine ev_ke (j_rk hS1 (Or.inl (by omega))) ?_
    refine ev_goto 29 dX10_outputByte_25 (by decide) ?_
    exact ev_ireturn .int dX10_outputByte_29 rfl rfl hQ
  · rw [if_neg c1]
    replace hQ := hQ.2 c1
    refine ev_if_eq 28 dX10_outputByte_16 (by decide) (fun _ => ?_) (fun h9 => absurd (by decide : ((0 : Int32) = 0)) h9)
    refine ev_iconst (-1) dX10_outputByte_28 rfl ?_
    exact ev_ireturn .int dX10_outputByte_29 rfl rfl hQ
set_option maxHeartbeats 4000000 in
set_option maxRecDepth 100000 in
theorem sg_X10_undoCount_0 {g : ev_G} {S : ev_S} {Q : ev_O → ev_S → Prop} (a : Nat) (hQ : ∀ S1 : ev_S, S1 = (ev_up S a 7 0) → (
    Q (.inl (some (ev_i (S.1 a 6)))) S1)) : ev_Cv g m_X10_undoCount 1 0 [ev_o 10 a] S Q := by
  refine ev_enter (by decide) rfl rfl (Nat.le_of_ble_eq_true rfl) ?_
  show ev_E g m_X10_undoCount 1 0 0 [some (ev_o 10 a)] [] S Q
  refine ev_aload_n (ev_o 10 a) dX10_undoCount_0 rfl rfl ?_
  refine ev_iconst (0) dX10_undoCount_1 rfl ?_
  refine pf_10_7 dX10_undoCount_2 kw_1860 ?_
  refine ev_sub hQ (fun S1 hS1 hQ => ?_)
  refine ev_E.goal (pc' := 5) (L' := [some (ev_o 10 a)]) (K' := []) (S' := S1) ?_ rfl rfl rfl hS1
  refine ev_aload_n (ev_o 10 a) dX10_undoCount_5 rfl rfl ?_
  refine gf_10_6 dX10_undoCount_6 kw_1859 ?_
  refine ev_ke (j_rk hS1 (Or.inr (by decide))) ?_
  exact ev_ireturn .int dX10_undoCount_9 rfl rfl hQ
set_option maxHeartbeats 4000000 in
set_option maxRecDepth 100000 in
theorem sp_X10_undoCount {g : ev_G} {S : ev_S} (a : Nat)  : ev_Fn g m_X10_undoCount 1 [ev_o 10 a] S (some (ev_i (S.1 a 6))) (ev_up S a 7 0) := by
  intro Q hQ
  refine sg_X10_undoCount_0 a ?_
  intro S1 hS1
  subst hS1
  exact hQ
set_option maxHeartbeats 4000000 in
set_option maxRecDepth 100000 in
theorem sg_X10_undo_0 {g : ev_G} {S : ev_S} {Q : ev_O → ev_S → Prop} (a : Nat) (hQ : ∀ S1 : ev_S, S1 = (ev_up S a 7 0) → (
    ((S.1 a 6) ≤ 0 → (
      ∀ S2 : ev_S, S2 = (ev_up S1 a 7 1) → (
        Q (.inl (some (ev_i 0))) S2))) ∧
    (¬ ((S.1 a 6) ≤ 0) → (
      ∀ S3 : ev_S, S3 = (ev_up S1 a 6 ((S.1 a 6) - 1)) → (
        ev_E g m_X10_undo 2 0 39 [some (ev_o 10 a), some (ev_i 0)] [] S3 Q))))) : ev_Cv g m_X10_undo 2 0 [ev_o 10 a] S Q := by
  refine ev_enter (by decide) rfl rfl (Nat.le_of_ble_eq_true rfl) ?_
  show ev_E g m_X10_undo 2 0 0 [some (ev_o 10 a), none] [] S Q
  refine ev_aload_n (ev_o 10 a) dX10_undo_0 rfl rfl ?_
  refine ev_iconst (0) dX10_undo_1 rfl ?_
  refine pf_10_7 dX10_undo_2 kw_1860 ?_
  refine ev_sub hQ (fun S1 hS1 hQ => ?_)
  refine ev_E.goal (pc' := 5) (L' := [some (ev_o 10 a), none]) (K' := []) (S' := S1) ?_ rfl rfl rfl hS1
  refine ev_aload_n (ev_o 10 a) dX10_undo_5 rfl rfl ?_
  refine ev_aload_n (ev_o 10 a) dX10_undo_6 rfl rfl ?_
  refine gf_10_6 dX10_undo_7 kw_1859 ?_
  refine ev_ke (j_rk hS1 (Or.inr (by decide))) ?_
  refine ev_if_le 17 dX10_undo_10 (by decide) (fun c1 => ?_) (fun c1 => ?_)
  · replace hQ := hQ.1 c1
    refine ev_iconst (0) dX10_undo_17 rfl ?_
    refine ev_iconst (1) dX10_undo_18 rfl ?_
    refine ev_cV mv_X10_right 1 0 10 [ev_i 0, ev_i 1] [] dX10_undo_19 kw_1951 rfl (by decide) rfl (by decide) (by decide) (Nat.le_of_ble_eq_true rfl) (Q' := fun o z => ev_After g m_X10_undo 2 (0 - 0) 19 [some (ev_o 10 a), none] [] z Q o) (sg_X10_right_0 a 0 1 ?_) (fun o z h => h) rfl
    refine j_pos (by rw [j_rs hS1] <;> decide : ((S1.1 a 7) = 0)) ?_
    refine j_pos (by decide : ((0 : Int32) = 0)) ?_
    intro S2 hS2
    refine ev_sub1 hQ hS2 (fun hQ => ?_)
    refine j_neg (by decide : ¬ ((1 : Int32) = 0)) ?_
    show ev_E g m_X10_undo 2 0 22 [some (ev_o 10 a), none] [ev_i 0] S2 Q
    refine ev_if_ne 27 dX10_undo_22 (by decide) (fun h9 => absurd (by decide : ((0 : Int32) = 0)) h9) (fun _ => ?_)
    refine ev_iconst (0) dX10_undo_25 rfl ?_
    exact ev_ireturn .int dX10_undo_26 rfl rfl hQ
  · replace hQ := hQ.2 c1
    refine ev_iconst (1) dX10_undo_13 rfl ?_
    refine ev_goto 18 dX10_undo_14 (by decide) ?_
    refine ev_iconst (1) dX10_undo_18 rfl ?_
    refine ev_cV mv_X10_right 1 0 10 [ev_i 1, ev_i 1] [] dX10_undo_19 kw_1951 rfl (by decide) rfl (by decide) (by decide) (Nat.le_of_ble_eq_true rfl) (Q' := fun o z => ev_After g m_X10_undo 2 (0 - 0) 19 [some (ev_o 10 a), none] [] z Q o) (sg_X10_right_0 a 1 1 ?_) (fun o z h => h) rfl
    refine j_pos (by rw [j_rs hS1] <;> decide : ((S1.1 a 7) = 0)) ?_
    refine j_neg (by decide : ¬ ((1 : Int32) = 0)) ?_
    show ev_E g m_X10_undo 2 0 22 [some (ev_o 10 a), none] [ev_i 1] S1 Q
    refine ev_if_ne 27 dX10_undo_22 (by decide) (fun _ => ?_) (fun h9 => absurd h9 (by decide : ¬ ((1 : Int32) = 0)))
    refine ev_aload_n (ev_o 10 a) dX10_undo_27 rfl rfl ?_
    refine ev_dup dX10_undo_28 rfl ?_
    refine gf_10_6 dX10_undo_29 kw_1859 ?_
    refine ev_ke (j_rk hS1 (Or.inr (by decide))) ?_
    refine ev_iconst (1) dX10_undo_32 rfl ?_
    refine ev_isub dX10_undo_33 ?_
    refine pf_10_6 dX10_undo_34 kw_1859 ?_
    refine ev_sub hQ (fun S3 hS3 hQ => ?_)
    refine ev_E.goal (pc' := 37) (L' := [some (ev_o 10 a), none]) (K' := []) (S' := S3) ?_ rfl rfl rfl hS3
    refine ev_iconst (0) dX10_undo_37 rfl ?_
    refine ev_istore_n dX10_undo_38 (Nat.le_of_ble_eq_true rfl) (ev_hw rfl) ?_
    show ev_E g m_X10_undo 2 0 39 [some (ev_o 10 a), some (ev_i 0)] [] S3 Q
    exact hQ
set_option maxHeartbeats 4000000 in
set_option maxRecDepth 100000 in
theorem sg_X10_undo_39 {g : ev_G} {S : ev_S} {Q : ev_O → ev_S → Prop} (a : Nat) (u1 : Int32) (hQ : (2091 ≤ u1 → (
    Q (.inl (some (ev_i (S.1 a 6)))) S)) ∧
  (¬ (2091 ≤ u1) → (
    (vp_in ((2091 * (S.1 a 6)) + u1) 16728) ∧ (
      (vp_in u1 2091) ∧ (
        ∀ S1 : ev_S, S1 = (ev_up S (a + 1) u1.toNatClampNeg (S.1 (a + 4) ((2091 * (S.1 a 6)) + u1).toNatClampNeg)) → (
          ev_E g m_X10_undo 2 0 39 [some (ev_o 10 a), some (ev_i (u1 + 1))] [] S1 Q)))))) : ev_E g m_X10_undo 2 0 39 [some (ev_o 10 a), some (ev_i u1)] [] S Q := by
  refine ev_iload_n (u1) dX10_undo_39 rfl ?_
  refine ev_sipush (2091) dX10_undo_40 (by decide) ?_
  refine ev_icmp_ge 73 dX10_undo_43 (by decide) (fun c1 => ?_) (fun c1 => ?_)
  · replace hQ := hQ.1 c1
    refine ev_aload_n (ev_o 10 a) dX10_undo_73 rfl rfl ?_
    refine gf_10_6 dX10_undo_74 kw_1859 ?_
    exact ev_ireturn .int dX10_undo_77 rfl rfl hQ
  · replace hQ := hQ.2 c1
    refine ev_aload_n (ev_o 10 a) dX10_undo_46 rfl rfl ?_
    refine gf_10_0 dX10_undo_47 kw_1853 ?_
    refine ev_iload_n (u1) dX10_undo_50 rfl ?_
    refine ev_aload_n (ev_o 10 a) dX10_undo_51 rfl rfl ?_
    refine gf_10_3 dX10_undo_52 kw_1856 ?_
    refine ev_sipush (2091) dX10_undo_55 (by decide) ?_
    refine ev_aload_n (ev_o 10 a) dX10_undo_58 rfl rfl ?_
    refine gf_10_6 dX10_undo_59 kw_1859 ?_
    refine ev_imul dX10_undo_62 ?_
    refine ev_iload_n (u1) dX10_undo_63 rfl ?_
    refine ev_iadd dX10_undo_64 ?_
    obtain ⟨h1, hQ⟩ := hQ
    refine ev_iaload dX10_undo_65 h1 ?_
    obtain ⟨h2, hQ⟩ := hQ
    refine ev_iastore dX10_undo_66 h2 ?_
    refine ev_sub hQ (fun S1 hS1 hQ => ?_)
    refine ev_E.goal (pc' := 67) (L' := [some (ev_o 10 a), some (ev_i u1)]) (K' := []) (S' := S1) ?_ rfl rfl rfl hS1
    refine ev_iinc u1 (1) dX10_undo_67 rfl (by decide) (ev_hw rfl) ?_
    show ev_E g m_X10_undo 2 0 70 [some (ev_o 10 a), some (ev_i (u1 + 1))] [] S1 Q
    refine ev_goto 39 dX10_undo_70 (by decide) ?_
    exact hQ
set_option maxHeartbeats 4000000 in
set_option maxRecDepth 100000 in
theorem sg_X10_save_0 {g : ev_G} {S : ev_S} {Q : ev_O → ev_S → Prop} (a : Nat) (x0 : Int32) (hQ : ∀ S1 : ev_S, S1 = (ev_up S a 7 0) → (
    ((t_X10_in x0 0 1) = true → (
      ev_E g m_X10_save 2 0 23 [some (ev_o 10 a), some (ev_i x0), some (ev_i 0)] [] S1 Q)) ∧
    (¬ ((t_X10_in x0 0 1) = true) → (
      ∀ S2 : ev_S, S2 = (ev_up S1 a 7 1) → (
        Q (.inl (some (ev_i 0))) S2))))) : ev_Cv g m_X10_save 2 0 [ev_o 10 a, ev_i x0] S Q := by
  refine ev_enter (by decide) rfl rfl (Nat.le_of_ble_eq_true rfl) ?_
  show ev_E g m_X10_save 2 0 0 [some (ev_o 10 a), some (ev_i x0), none] [] S Q
  refine ev_aload_n (ev_o 10 a) dX10_save_0 rfl rfl ?_
  refine ev_iconst (0) dX10_save_1 rfl ?_
  refine pf_10_7 dX10_save_2 kw_1860 ?_
  refine ev_sub hQ (fun S1 hS1 hQ => ?_)
  refine ev_E.goal (pc' := 5) (L' := [some (ev_o 10 a), some (ev_i x0), none]) (K' := []) (S' := S1) ?_ rfl rfl rfl hS1
  refine ev_aload_n (ev_o 10 a) dX10_save_5 rfl rfl ?_
  refine ev_iload_n (x0) dX10_save_6 rfl ?_
  refine ev_iconst (0) dX10_save_7 rfl ?_
  refine ev_iconst (1) dX10_save_8 rfl ?_
  refine ev_fS ms_X10_in 1 [ev_i x0, ev_i 0, ev_i 1] [ev_o 10 a] dX10_save_9 kw_1781 rfl (by decide) (Nat.le_of_ble_eq_true rfl) (sp_X10_in x0 0 1) ?_ rfl
  by_cases c1 : (t_X10_in x0 0 1) = true
  · rw [if_pos c1]
    replace hQ := hQ.1 c1
    refine ev_iconst (1) dX10_save_12 rfl ?_
    refine ev_cV mv_X10_right 1 0 10 [ev_i 1, ev_i 1] [] dX10_save_13 kw_1951 rfl (by decide) rfl (by decide) (by decide) (Nat.le_of_ble_eq_true rfl) (Q' := fun o z => ev_After g m_X10_save 2 (0 - 0) 13 [some (ev_o 10 a), some (ev_i x0), none] [] z Q o) (sg_X10_right_0 a 1 1 ?_) (fun o z h => h) rfl
    refine j_pos (by rw [j_rs hS1] <;> decide : ((S1.1 a 7) = 0)) ?_
    refine j_neg (by decide : ¬ ((1 : Int32) = 0)) ?_
    show ev_E g m_X10_save 2 0 16 [some (ev_o 10 a), some (ev_i x0), none] [ev_i 1] S1 Q
    refine ev_if_ne 21 dX10_save_16 (by decide) (fun _ => ?_) (fun h9 => absurd h9 (by decide : ¬ ((1 : Int32) = 0)))
    refine ev_iconst (0) dX10_save_21 rfl ?_
    refine ev_istore_n dX10_save_22 (Nat.le_of_ble_eq_true rfl) (ev_hw rfl) ?_
    show ev_E g m_X10_save 2 0 23 [some (ev_o 10 a), some (ev_i x0), some (ev_i 0)] [] S1 Q
    exact hQ
  · rw [if_neg c1]
    replace hQ := hQ.2 c1
    refine ev_iconst (1) dX10_save_12 rfl ?_
    refine ev_cV mv_X10_right 1 0 10 [ev_i 0, ev_i 1] [] dX10_save_13 kw_1951 rfl (by decide) rfl (by decide) (by decide) (Nat.le_of_ble_eq_true rfl) (Q' := fun o z => ev_After g m_X10_save 2 (0 - 0) 13 [some (ev_o 10 a), some (ev_i x0), none] [] z Q o) (sg_X10_right_0 a 0 1 ?_) (fun o z h => h) rfl
    refine j_pos (by rw [j_rs hS1] <;> decide : ((S1.1 a 7) = 0)) ?_
    refine j_pos (by decide : ((0 : Int32) = 0)) ?_
    intro S2 hS2
    refine ev_sub1 hQ hS2 (fun hQ => ?_)
    refine j_neg (by decide : ¬ ((1 : Int32) = 0)) ?_
    show ev_E g m_X10_save 2 0 16 [some (ev_o 10 a), some (ev_i x0), none] [ev_i 0] S2 Q
    refine ev_if_ne 21 dX10_save_16 (by decide) (fun h9 => absurd (by decide : ((0 : Int32) = 0)) h9) (fun _ => ?_)
    refine ev_iconst (0) dX10_save_19 rfl ?_
    exact ev_ireturn .int dX10_save_20 rfl rfl hQ
set_option maxHeartbeats 4000000 in
set_option maxRecDepth 100000 in
theorem sg_X10_save_23 {g : ev_G} {S : ev_S} {Q : ev_O → ev_S → Prop} (a : Nat) (u1 : Int32) (u2 : Int32) (hQ : (2091 ≤ u2 → (
    (vp_in u1 2) ∧ (
      ∀ S1 : ev_S, S1 = (ev_up S (a + 6) u1.toNatClampNeg 1) → (
        Q (.inl (some (ev_i (S.1 (a + 1) 2)))) S1)))) ∧
  (¬ (2091 ≤ u2) → (
    (vp_in u2 2091) ∧ (
      (vp_in ((2091 * u1) + u2) 4182) ∧ (
        ∀ S2 : ev_S, S2 = (ev_up S (a + 5) ((2091 * u1) + u2).toNatClampNeg (S.1 (a + 1) u2.toNatClampNeg)) → (
          ev_E g m_X10_save 2 0 23 [some (ev_o 10 a), some (ev_i u1), some (ev_i (u2 + 1))] [] S2 Q)))))) : ev_E g m_X10_save 2 0 23 [some (ev_o 10 a), some (ev_i u1), some (ev_i u2)] [] S Q := by
  refine ev_iload_n (u2) dX10_save_23 rfl ?_
  refine ev_sipush (2091) dX10_save_24 (by decide) ?_
  refine ev_icmp_ge 54 dX10_save_27 (by decide) (fun c1 => ?_) (fun c1 => ?_)
  · replace hQ := hQ.1 c1
    refine ev_aload_n (ev_o 10 a) dX10_save_54 rfl rfl ?_
    refine gf_10_5 dX10_save_55 kw_1858 ?_
    refine ev_iload_n (u1) dX10_save_58 rfl ?_
    refine ev_iconst (1) dX10_save_59 rfl ?_
    obtain ⟨h1, hQ⟩ := hQ
    refine ev_bastore dX10_save_60 h1 rfl ?_
    refine ev_sub hQ (fun S1 hS1 hQ => ?_)
    refine ev_E.goal (pc' := 61) (L' := [some (ev_o 10 a), some (ev_i u1), some (ev_i u2)]) (K' := []) (S' := S1) ?_ rfl rfl rfl hS1
    refine ev_aload_n (ev_o 10 a) dX10_save_61 rfl rfl ?_
    refine gf_10_0 dX10_save_62 kw_1853 ?_
    refine ev_iconst (2) dX10_save_65 rfl ?_
    refine ev_iaload dX10_save_66 (j_vin (by decide)) ?_
    refine ev_ke (j_rk hS1 (Or.inl (by omega))) ?_
    exact ev_ireturn .int dX10_save_67 rfl rfl hQ
  · replace hQ := hQ.2 c1
    refine ev_aload_n (ev_o 10 a) dX10_save_30 rfl rfl ?_
    refine gf_10_4 dX10_save_31 kw_1857 ?_
    refine ev_sipush (2091) dX10_save_34 (by decide) ?_
    refine ev_iload_n (u1) dX10_save_37 rfl ?_
    refine ev_imul dX10_save_38 ?_
    refine ev_iload_n (u2) dX10_save_39 rfl ?_
    refine ev_iadd dX10_save_40 ?_
    refine ev_aload_n (ev_o 10 a) dX10_save_41 rfl rfl ?_
    refine gf_10_0 dX10_save_42 kw_1853 ?_
    refine ev_iload_n (u2) dX10_save_45 rfl ?_
    obtain ⟨h2, hQ⟩ := hQ
    refine ev_iaload dX10_save_46 h2 ?_
    obtain ⟨h3, hQ⟩ := hQ
    refine ev_iastore dX10_save_47 h3 ?_
    refine ev_sub hQ (fun S2 hS2 hQ => ?_)
    refine ev_E.goal (pc' := 48) (L' := [some (ev_o 10 a), some (ev_i u1), some (ev_i u2)]) (K' := []) (S' := S2) ?_ rfl rfl rfl hS2
    refine ev_iinc u2 (1) dX10_save_48 rfl (by decide) (ev_hw rfl) ?_
    show ev_E g m_X10_save 2 0 51 [some (ev_o 10 a), some (ev_i u1), some (ev_i (u2 + 1))] [] S2 Q
    refine ev_goto 23 dX10_save_51 (by decide) ?_
    exact hQ
set_option maxHeartbeats 4000000 in
set_option maxRecDepth 100000 in
theorem sg_X10_restore_0 {g : ev_G} {S : ev_S} {Q : ev_O → ev_S → Prop} (a : Nat) (x0 : Int32) (hQ : ∀ S1 : ev_S, S1 = (ev_up S a 7 0) → (
    ((t_X10_in x0 0 1) = true → (
      (vp_in x0 2) ∧ (
        ((S.1 (a + 6) x0.toNatClampNeg) = 0 → (
          ∀ S2 : ev_S, S2 = (ev_up S1 a 7 2) → (
            Q (.inl (some (ev_i 0))) S2))) ∧
        (¬ ((S.1 (a + 6) x0.toNatClampNeg) = 0) → (
          ev_E g m_X10_restore 2 0 37 [some (ev_o 10 a), some (ev_i x0), some (ev_i 0)] [] S1 Q))))) ∧
    (¬ ((t_X10_in x0 0 1) = true) → (
      ∀ S3 : ev_S, S3 = (ev_up S1 a 7 1) → (
        Q (.inl (some (ev_i 0))) S3))))) : ev_Cv g m_X10_restore 2 0 [ev_o 10 a, ev_i x0] S Q := by
  refine ev_enter (by decide) rfl rfl (Nat.le_of_ble_eq_true rfl) ?_
  show ev_E g m_X10_restore 2 0 0 [some (ev_o 10 a), some (ev_i x0), none] [] S Q
  refine ev_aload_n (ev_o 10 a) dX10_restore_0 rfl rfl ?_
  refine ev_iconst (0) dX10_restore_1 rfl ?_
  refine pf_10_7 dX10_restore_2 kw_1860 ?_
  refine ev_sub hQ (fun S1 hS1 hQ => ?_)
  refine ev_E.goal (pc' := 5) (L' := [some (ev_o 10 a), some (ev_i x0), none]) (K' := []) (S' := S1) ?_ rfl rfl rfl hS1
  refine ev_aload_n (ev_o 10 a) dX10_restore_5 rfl rfl ?_
  refine ev_iload_n (x0) dX10_restore_6 rfl ?_
  refine ev_iconst (0) dX10_restore_7 rfl ?_
  refine ev_iconst (1) dX10_restore_8 rfl ?_
  refine ev_fS ms_X10_in 1 [ev_i x0, ev_i 0, ev_i 1] [ev_o 10 a] dX10_restore_9 kw_1781 rfl (by decide) (Nat.le_of_ble_eq_true rfl) (sp_X10_in x0 0 1) ?_ rfl
  by_cases c1 : (t_X10_in x0 0 1) = true
  · rw [if_pos c1]
    replace hQ := hQ.1 c1
    refine ev_iconst (1) dX10_restore_12 rfl ?_
    refine ev_cV mv_X10_right 1 0 10 [ev_i 1, ev_i 1] [] dX10_restore_13 kw_1951 rfl (by decide) rfl (by decide) (by decide) (Nat.le_of_ble_eq_true rfl) (Q' := fun o z => ev_After g m_X10_restore 2 (0 - 0) 13 [some (ev_o 10 a), some (ev_i x0), none] [] z Q o) (sg_X10_right_0 a 1 1 ?_) (fun o z h => h) rfl
    refine j_pos (by rw [j_rs hS1] <;> decide : ((S1.1 a 7) = 0)) ?_
    refine j_neg (by decide : ¬ ((1 : Int32) = 0)) ?_
    show ev_E g m_X10_restore 2 0 16 [some (ev_o 10 a), some (ev_i x0), none] [ev_i 1] S1 Q
    refine ev_if_eq 33 dX10_restore_16 (by decide) (fun h9 => absurd h9 (by decide : ¬ ((1 : Int32) = 0))) (fun _ => ?_)
    refine ev_aload_n (ev_o 10 a) dX10_restore_19 rfl rfl ?_
    refine ev_aload_n (ev_o 10 a) dX10_restore_20 rfl rfl ?_
    refine gf_10_5 dX10_restore_21 kw_1858 ?_
    refine ev_iload_n (x0) dX10_restore_24 rfl ?_
    obtain ⟨h1, hQ⟩ := hQ
    refine ev_baload dX10_restore_25 h1 ?_
    refine ev_ke (j_rk hS1 (Or.inl (by omega))) ?_
    refine ev_iconst (2) dX10_restore_26 rfl ?_
    refine ev_cV mv_X10_right 1 0 10 [ev_i (S.1 (a + 6) x0.toNatClampNeg), ev_i 2] [] dX10_restore_27 kw_1951 rfl (by decide) rfl (by decide) (by decide) (Nat.le_of_ble_eq_true rfl) (Q' := fun o z => ev_After g m_X10_restore 2 (0 - 0) 27 [some (ev_o 10 a), some (ev_i x0), none] [] z Q o) (sg_X10_right_0 a (S.1 (a + 6) x0.toNatClampNeg) 2 ?_) (fun o z h => h) rfl
    refine j_pos (by rw [j_rs hS1] <;> decide : ((S1.1 a 7) = 0)) ?_
    refine ⟨fun c2 => ?_, fun c2 => ?_⟩
    · replace hQ := hQ.1 c2
      intro S2 hS2
      refine ev_sub1 hQ hS2 (fun hQ => ?_)
      refine j_neg (by decide : ¬ ((2 : Int32) = 0)) ?_
      show ev_E g m_X10_restore 2 0 30 [some (ev_o 10 a), some (ev_i x0), none] [ev_i 0] S2 Q
      refine ev_if_ne 35 dX10_restore_30 (by decide) (fun h9 => absurd (by decide : ((0 : Int32) = 0)) h9) (fun _ => ?_)
      refine ev_iconst (0) dX10_restore_33 rfl ?_
      exact ev_ireturn .int dX10_restore_34 rfl rfl hQ
    · replace hQ := hQ.2 c2
      show ev_E g m_X10_restore 2 0 30 [some (ev_o 10 a), some (ev_i x0), none] [ev_i 1] S1 Q
      refine ev_if_ne 35 dX10_restore_30 (by decide) (fun _ => ?_) (fun h9 => absurd h9 (by decide : ¬ ((1 : Int32) = 0)))
      refine ev_iconst (0) dX10_restore_35 rfl ?_
      refine ev_istore_n dX10_restore_36 (Nat.le_of_ble_eq_true rfl) (ev_hw rfl) ?_
      show ev_E g m_X10_restore 2 0 37 [some (ev_o 10 a), some (ev_i x0), some (ev_i 0)] [] S1 Q
      exact hQ
  · rw [if_neg c1]
    replace hQ := hQ.2 c1
    refine ev_iconst (1) dX10_restore_12 rfl ?_
    refine ev_cV mv_X10_right 1 0 10 [ev_i 0, ev_i 1] [] dX10_restore_13 kw_1951 rfl (by decide) rfl (by decide) (by decide) (Nat.le_of_ble_eq_true rfl) (Q' := fun o z => ev_After g m_X10_restore 2 (0 - 0) 13 [some (ev_o 10 a), some (ev_i x0), none] [] z Q o) (sg_X10_right_0 a 0 1 ?_) (fun o z h => h) rfl
    refine j_pos (by rw [j_rs hS1] <;> decide : ((S1.1 a 7) = 0)) ?_
    refine j_pos (by decide : ((0 : Int32) = 0)) ?_
    intro S3 hS3
    refine ev_sub1 hQ hS3 (fun hQ => ?_)
    refine j_neg (by decide : ¬ ((1 : Int32) = 0)) ?_
    show ev_E g m_X10_restore 2 0 16 [some (ev_o 10 a), some (ev_i x0), none] [ev_i 0] S3 Q
    refine ev_if_eq 33 dX10_restore_16 (by decide) (fun _ => ?_) (fun h9 => absurd (by decide : ((0 : Int32) = 0)) h9)
    refine ev_iconst (0) dX10_restore_33 rfl ?_
    exact ev_ireturn .int dX10_restore_34 rfl rfl hQ
set_option maxHeartbeats 4000000 in
set_option maxRecDepth 100000 in
theorem sg_X10_restore_37 {g : ev_G} {S : ev_S} {Q : ev_O → ev_S → Prop} (a : Nat) (u1 : Int32) (u2 : Int32) (hQ : (2091 ≤ u2 → (
    ∀ S1 : ev_S, S1 = (ev_up S a 6 0) → (
      Q (.inl (some (ev_i (S.1 (a + 1) 2)))) S1))) ∧
  (¬ (2091 ≤ u2) → (
    (vp_in ((2091 * u1) + u2) 4182) ∧ (
      (vp_in u2 2091) ∧ (
        ∀ S2 : ev_S, S2 = (ev_up S (a + 1) u2.toNatClampNeg (S.1 (a + 5) ((2091 * u1) + u2).toNatClampNeg)) → (
          ev_E g m_X10_restore 2 0 37 [some (ev_o 10 a), some (ev_i u1), some (ev_i (u2 + 1))] [] S2 Q)))))) : ev_E g m_X10_restore 2 0 37 [some (ev_o 10 a), some (ev_i u1), some (ev_i u2)] [] S Q := by
  refine ev_iload_n (u2) dX10_restore_37 rfl ?_
  refine ev_sipush (2091) dX10_restore_38 (by decide) ?_
  refine ev_icmp_ge 68 dX10_restore_41 (by decide) (fun c1 => ?_) (fun c1 => ?_)
  · replace hQ := hQ.1 c1
    refine ev_aload_n (ev_o 10 a) dX10_restore_68 rfl rfl ?_
    refine ev_iconst (0) dX10_restore_69 rfl ?_
    refine pf_10_6 dX10_restore_70 kw_1859 ?_
    refine ev_sub hQ (fun S1 hS1 hQ => ?_)
    refine ev_E.goal (pc' := 73) (L' := [some (ev_o 10 a), some (ev_i u1), some (ev_i u2)]) (K' := []) (S' := S1) ?_ rfl rfl rfl hS1
    refine ev_aload_n (ev_o 10 a) dX10_restore_73 rfl rfl ?_
    refine gf_10_0 dX10_restore_74 kw_1853 ?_
    refine ev_iconst (2) dX10_restore_77 rfl ?_
    refine ev_iaload dX10_restore_78 (j_vin (by decide)) ?_
    refine ev_ke (j_rk hS1 (Or.inl (by omega))) ?_
    exact ev_ireturn .int dX10_restore_79 rfl rfl hQ
  · replace hQ := hQ.2 c1
    refine ev_aload_n (ev_o 10 a) dX10_restore_44 rfl rfl ?_
    refine gf_10_0 dX10_restore_45 kw_1853 ?_
    refine ev_iload_n (u2) dX10_restore_48 rfl ?_
    refine ev_aload_n (ev_o 10 a) dX10_restore_49 rfl rfl ?_
    refine gf_10_4 dX10_restore_50 kw_1857 ?_
    refine ev_sipush (2091) dX10_restore_53 (by decide) ?_
    refine ev_iload_n (u1) dX10_restore_56 rfl ?_
    refine ev_imul dX10_restore_57 ?_
    refine ev_iload_n (u2) dX10_restore_58 rfl ?_
    refine ev_iadd dX10_restore_59 ?_
    obtain ⟨h1, hQ⟩ := hQ
    refine ev_iaload dX10_restore_60 h1 ?_
    obtain ⟨h2, hQ⟩ := hQ
    refine ev_iastore dX10_restore_61 h2 ?_
    refine ev_sub hQ (fun S2 hS2 hQ => ?_)
    refine ev_E.goal (pc' := 62) (L' := [some (ev_o 10 a), some (ev_i u1), some (ev_i u2)]) (K' := []) (S' := S2) ?_ rfl rfl rfl hS2
    refine ev_iinc u2 (1) dX10_restore_62 rfl (by decide) (ev_hw rfl) ?_
    show ev_E g m_X10_restore 2 0 65 [some (ev_o 10 a), some (ev_i u1), some (ev_i (u2 + 1))] [] S2 Q
    refine ev_goto 37 dX10_restore_65 (by decide) ?_
    exact hQ
set_option maxHeartbeats 4000000 in
set_option maxRecDepth 100000 in
theorem sg_L_append_0 {g : ev_G} {S : ev_S} {Q : ev_O → ev_S → Prop} (b0 : Nat) (x1 : Int32) (x2 : Int32) (x3 : Int32) (x4 : Int32) (x5 : Int32) (b6 : Nat) (hQ : ev_Cv g m_X9_append 4 1 [ev_o 9 b0, ev_i x1, ev_i x2, ev_i x3, ev_i x4, ev_i x5] S (fun o S1 => (∃ v1_ : Int32, o = .inl (some (ev_i v1_)) ∧ (
    ∀ S2 : ev_S, S2 = (S1.1, (v1_.toInt64, S1.2.2)) → (
      Q (.inl (some (ev_i 0))) S2))) ∨ (o = .inr 1 ∧ (
    Q (.inl (some (ev_i 1))) S1)))) : ev_Cv g m_L_append 5 1 [ev_o 9 b0, ev_i x1, ev_i x2, ev_i x3, ev_i x4, ev_i x5, ev_o 21 b6] S Q := by
  refine ev_enter (by decide) rfl rfl (Nat.le_of_ble_eq_true rfl) ?_
  show ev_E g m_L_append 5 1 0 [some (ev_o 9 b0), some (ev_i x1), some (ev_i x2), some (ev_i x3), some (ev_i x4), some (ev_i x5), some (ev_o 21 b6), none] [] S Q
  refine ev_aload (ev_o 21 b6) dL_append_0 rfl rfl ?_
  refine ev_iconst (0) dL_append_2 rfl ?_
  refine ev_aload_n (ev_o 9 b0) dL_append_3 rfl rfl ?_
  refine ev_iload_n (x1) dL_append_4 rfl ?_
  refine ev_iload_n (x2) dL_append_5 rfl ?_
  refine ev_iload_n (x3) dL_append_6 rfl ?_
  refine ev_iload (x4) dL_append_7 rfl ?_
  refine ev_iload (x5) dL_append_9 rfl ?_
  refine ev_cV mv_X9_append 4 1 9 [ev_i x1, ev_i x2, ev_i x3, ev_i x4, ev_i x5] [ev_i 0, ev_o 21 b6] dL_append_11 kw_1222 rfl (by decide) rfl (by decide) (by decide) (Nat.le_of_ble_eq_true rfl) hQ ?_ rfl
  rintro o S1 (⟨v1_, rfl, hQ⟩ | ⟨rfl, hQ⟩)
  · show ev_E g m_L_append 5 0 14 [some (ev_o 9 b0), some (ev_i x1), some (ev_i x2), some (ev_i x3), some (ev_i x4), some (ev_i x5), some (ev_o 21 b6), none] [ev_i v1_, ev_i 0, ev_o 21 b6] S1 Q
    refine ev_i2l dL_append_14 ?_
    refine ev_lastore dL_append_15 ?_
    refine ev_sub hQ (fun S2 hS2 hQ => ?_)
    refine ev_E.goal (pc' := 16) (L' := [some (ev_o 9 b0), some (ev_i x1), some (ev_i x2), some (ev_i x3), some (ev_i x4), some (ev_i x5), some (ev_o 21 b6), none]) (K' := []) (S' := S2) ?_ rfl rfl rfl hS2
    refine ev_goto 23 dL_append_16 (by decide) ?_
    refine ev_iconst (0) dL_append_23 rfl ?_
    exact ev_ireturn .int dL_append_24 rfl rfl hQ
  · show ev_T g m_L_append 5 0 11 [some (ev_o 9 b0), some (ev_i x1), some (ev_i x2), some (ev_i x3), some (ev_i x4), some (ev_i x5), some (ev_o 21 b6), none] S1 1 Q
    refine ev_T_catch [] (⟨0, 16, 19, 13⟩) [] "" rfl (by intro z hz; cases hz) rfl (by decide) kw_1221 jc_1 (fun q => ?_)
    show ev_E g m_L_append 5 0 19 [some (ev_o 9 b0), some (ev_i x1), some (ev_i x2), some (ev_i x3), some (ev_i x4), some (ev_i x5), some (ev_o 21 b6), none] [ev_x 4 q] S1 Q
    refine ev_astore dL_append_19 rfl (Nat.le_of_ble_eq_true rfl) (ev_hw rfl) ?_
    show ev_E g m_L_append 5 0 21 [some (ev_o 9 b0), some (ev_i x1), some (ev_i x2), some (ev_i x3), some (ev_i x4), some (ev_i x5), some (ev_o 21 b6), some (ev_x 4 q)] [] S1 Q
    refine ev_iconst (1) dL_append_21 rfl ?_
    exact ev_ireturn .int dL_append_22 rfl rfl hQ
set_option maxHeartbeats 4000000 in
set_option maxRecDepth 100000 in
theorem sg_L_truncate_0 {g : ev_G} {S : ev_S} {Q : ev_O → ev_S → Prop} (b0 : Nat) (x1 : Int32) (b2 : Nat) (hQ : ev_Cv g m_X9_truncate 2 1 [ev_o 9 b0, ev_i x1] S (fun o S1 => (∃ v1_ : Int32, o = .inl (some (ev_i v1_)) ∧ (
    ∀ S2 : ev_S, S2 = (S1.1, (v1_.toInt64, S1.2.2)) → (
      Q (.inl (some (ev_i 0))) S2))) ∨ (o = .inr 2 ∧ (
    Q (.inl (some (ev_i 1))) S1)))) : ev_Cv g m_L_truncate 3 1 [ev_o 9 b0, ev_i x1, ev_o 21 b2] S Q := by
  refine ev_enter (by decide) rfl rfl (Nat.le_of_ble_eq_true rfl) ?_
  show ev_E g m_L_truncate 3 1 0 [some (ev_o 9 b0), some (ev_i x1), some (ev_o 21 b2), none] [] S Q
  refine ev_aload_n (ev_o 21 b2) dL_truncate_0 rfl rfl ?_
  refine ev_iconst (0) dL_truncate_1 rfl ?_
  refine ev_aload_n (ev_o 9 b0) dL_truncate_2 rfl rfl ?_
  refine ev_iload_n (x1) dL_truncate_3 rfl ?_
  refine ev_cV mv_X9_truncate 2 1 9 [ev_i x1] [ev_i 0, ev_o 21 b2] dL_truncate_4 kw_1309 rfl (by decide) rfl (by decide) (by decide) (Nat.le_of_ble_eq_true rfl) hQ ?_ rfl
  rintro o S1 (⟨v1_, rfl, hQ⟩ | ⟨rfl, hQ⟩)
  · show ev_E g m_L_truncate 3 0 7 [some (ev_o 9 b0), some (ev_i x1), some (ev_o 21 b2), none] [ev_i v1_, ev_i 0, ev_o 21 b2] S1 Q
    refine ev_i2l dL_truncate_7 ?_
    refine ev_lastore dL_truncate_8 ?_
    refine ev_sub hQ (fun S2 hS2 hQ => ?_)
    refine ev_E.goal (pc' := 9) (L' := [some (ev_o 9 b0), some (ev_i x1), some (ev_o 21 b2), none]) (K' := []) (S' := S2) ?_ rfl rfl rfl hS2
    refine ev_goto 15 dL_truncate_9 (by decide) ?_
    refine ev_iconst (0) dL_truncate_15 rfl ?_
    exact ev_ireturn .int dL_truncate_16 rfl rfl hQ
  · show ev_T g m_L_truncate 3 0 4 [some (ev_o 9 b0), some (ev_i x1), some (ev_o 21 b2), none] S1 2 Q
    refine ev_T_catch [] (⟨0, 9, 12, 19⟩) [] "" rfl (by intro z hz; cases hz) rfl (by decide) kw_1308 jc_2 (fun q => ?_)
    show ev_E g m_L_truncate 3 0 12 [some (ev_o 9 b0), some (ev_i x1), some (ev_o 21 b2), none] [ev_x 4 q] S1 Q
    refine ev_astore_n dL_truncate_12 rfl (Nat.le_of_ble_eq_true rfl) (ev_hw rfl) ?_
    show ev_E g m_L_truncate 3 0 13 [some (ev_o 9 b0), some (ev_i x1), some (ev_o 21 b2), some (ev_x 4 q)] [] S1 Q
    refine ev_iconst (1) dL_truncate_13 rfl ?_
    exact ev_ireturn .int dL_truncate_14 rfl rfl hQ
set_option maxHeartbeats 4000000 in
set_option maxRecDepth 100000 in
theorem sg_L_bishopOwner_0 {g : ev_G} {S : ev_S} {Q : ev_O → ev_S → Prop} (b0 : Nat) (x1 : Int32) (x2 : Int32) (b3 : Nat) (hQ : ev_Cv g m_X9_bishopOwner 4 1 [ev_o 9 b0, ev_i x1, ev_i x2] S (fun o S1 => (∃ v1_ : Int32, o = .inl (some (ev_i v1_)) ∧ (
    ∀ S2 : ev_S, S2 = (S1.1, (v1_.toInt64, S1.2.2)) → (
      Q (.inl (some (ev_i 0))) S2))) ∨ (o = .inr 0 ∧ (
    Q (.inl (some (ev_i 1))) S1)))) : ev_Cv g m_L_bishopOwner 5 1 [ev_o 9 b0, ev_i x1, ev_i x2, ev_o 21 b3] S Q := by
  refine ev_enter (by decide) rfl rfl (Nat.le_of_ble_eq_true rfl) ?_
  show ev_E g m_L_bishopOwner 5 1 0 [some (ev_o 9 b0), some (ev_i x1), some (ev_i x2), some (ev_o 21 b3), none] [] S Q
  refine ev_aload_n (ev_o 21 b3) dL_bishopOwner_0 rfl rfl ?_
  refine ev_iconst (0) dL_bishopOwner_1 rfl ?_
  refine ev_aload_n (ev_o 9 b0) dL_bishopOwner_2 rfl rfl ?_
  refine ev_iload_n (x1) dL_bishopOwner_3 rfl ?_
  refine ev_iload_n (x2) dL_bishopOwner_4 rfl ?_
  refine ev_cV mv_X9_bishopOwner 4 1 9 [ev_i x1, ev_i x2] [ev_i 0, ev_o 21 b3] dL_bishopOwner_5 kw_1337 rfl (by decide) rfl (by decide) (by decide) (Nat.le_of_ble_eq_true rfl) hQ ?_ rfl
  rintro o S1 (⟨v1_, rfl, hQ⟩ | ⟨rfl, hQ⟩)
  · show ev_E g m_L_bishopOwner 5 0 8 [some (ev_o 9 b0), some (ev_i x1), some (ev_i x2), some (ev_o 21 b3), none] [ev_i v1_, ev_i 0, ev_o 21 b3] S1 Q
    refine ev_i2l dL_bishopOwner_8 ?_
    refine ev_lastore dL_bishopOwner_9 ?_
    refine ev_sub hQ (fun S2 hS2 hQ => ?_)
    refine ev_E.goal (pc' := 10) (L' := [some (ev_o 9 b0), some (ev_i x1), some (ev_i x2), some (ev_o 21 b3), none]) (K' := []) (S' := S2) ?_ rfl rfl rfl hS2
    refine ev_goto 17 dL_bishopOwner_10 (by decide) ?_
    refine ev_iconst (0) dL_bishopOwner_17 rfl ?_
    exact ev_ireturn .int dL_bishopOwner_18 rfl rfl hQ
  · show ev_T g m_L_bishopOwner 5 0 5 [some (ev_o 9 b0), some (ev_i x1), some (ev_i x2), some (ev_o 21 b3), none] S1 0 Q
    refine ev_T_catch [] (⟨0, 10, 13, 25⟩) [] "" rfl (by intro z hz; cases hz) rfl (by decide) kw_1336 jc_0 (fun q => ?_)
    show ev_E g m_L_bishopOwner 5 0 13 [some (ev_o 9 b0), some (ev_i x1), some (ev_i x2), some (ev_o 21 b3), none] [ev_x 4 q] S1 Q
    refine ev_astore dL_bishopOwner_13 rfl (Nat.le_of_ble_eq_true rfl) (ev_hw rfl) ?_
    show ev_E g m_L_bishopOwner 5 0 15 [some (ev_o 9 b0), some (ev_i x1), some (ev_i x2), some (ev_o 21 b3), some (ev_x 4 q)] [] S1 Q
    refine ev_iconst (1) dL_bishopOwner_15 rfl ?_
    exact ev_ireturn .int dL_bishopOwner_16 rfl rfl hQ
set_option maxHeartbeats 4000000 in
set_option maxRecDepth 100000 in
theorem sg_L_bishopCount_0 {g : ev_G} {S : ev_S} {Q : ev_O → ev_S → Prop} (b0 : Nat) (x1 : Int32) (x2 : Int32) (b3 : Nat) (hQ : ev_Cv g m_X9_bishopCount 3 1 [ev_o 9 b0, ev_i x1, ev_i x2] S (fun o S1 => (∃ v1_ : Int32, o = .inl (some (ev_i v1_)) ∧ (
    ∀ S2 : ev_S, S2 = (S1.1, (v1_.toInt64, S1.2.2)) → (
      Q (.inl (some (ev_i 0))) S2))) ∨ (o = .inr 0 ∧ (
    Q (.inl (some (ev_i 1))) S1)))) : ev_Cv g m_L_bishopCount 4 1 [ev_o 9 b0, ev_i x1, ev_i x2, ev_o 21 b3] S Q := by
  refine ev_enter (by decide) rfl rfl (Nat.le_of_ble_eq_true rfl) ?_
  show ev_E g m_L_bishopCount 4 1 0 [some (ev_o 9 b0), some (ev_i x1), some (ev_i x2), some (ev_o 21 b3), none] [] S Q
  refine ev_aload_n (ev_o 21 b3) dL_bishopCount_0 rfl rfl ?_
  refine ev_iconst (0) dL_bishopCount_1 rfl ?_
  refine ev_aload_n (ev_o 9 b0) dL_bishopCount_2 rfl rfl ?_
  refine ev_iload_n (x1) dL_bishopCount_3 rfl ?_
  refine ev_iload_n (x2) dL_bishopCount_4 rfl ?_
  refine ev_cV mv_X9_bishopCount 3 1 9 [ev_i x1, ev_i x2] [ev_i 0, ev_o 21 b3] dL_bishopCount_5 kw_1365 rfl (by decide) rfl (by decide) (by decide) (Nat.le_of_ble_eq_true rfl) hQ ?_ rfl
  rintro o S1 (⟨v1_, rfl, hQ⟩ | ⟨rfl, hQ⟩)
  · show ev_E g m_L_bishopCount 4 0 8 [some (ev_o 9 b0), some (ev_i x1), some (ev_i x2), some (ev_o 21 b3), none] [ev_i v1_, ev_i 0, ev_o 21 b3] S1 Q
    refine ev_i2l dL_bishopCount_8 ?_
    refine ev_lastore dL_bishopCount_9 ?_
    refine ev_sub hQ (fun S2 hS2 hQ => ?_)
    refine ev_E.goal (pc' := 10) (L' := [some (ev_o 9 b0), some (ev_i x1), some (ev_i x2), some (ev_o 21 b3), none]) (K' := []) (S' := S2) ?_ rfl rfl rfl hS2
    refine ev_goto 17 dL_bishopCount_10 (by decide) ?_
    refine ev_iconst (0) dL_bishopCount_17 rfl ?_
    exact ev_ireturn .int dL_bishopCount_18 rfl rfl hQ
  · show ev_T g m_L_bishopCount 4 0 5 [some (ev_o 9 b0), some (ev_i x1), some (ev_i x2), some (ev_o 21 b3), none] S1 0 Q
    refine ev_T_catch [] (⟨0, 10, 13, 25⟩) [] "" rfl (by intro z hz; cases hz) rfl (by decide) kw_1336 jc_0 (fun q => ?_)
    show ev_E g m_L_bishopCount 4 0 13 [some (ev_o 9 b0), some (ev_i x1), some (ev_i x2), some (ev_o 21 b3), none] [ev_x 4 q] S1 Q
    refine ev_astore dL_bishopCount_13 rfl (Nat.le_of_ble_eq_true rfl) (ev_hw rfl) ?_
    show ev_E g m_L_bishopCount 4 0 15 [some (ev_o 9 b0), some (ev_i x1), some (ev_i x2), some (ev_o 21 b3), some (ev_x 4 q)] [] S1 Q
    refine ev_iconst (1) dL_bishopCount_15 rfl ?_
    exact ev_ireturn .int dL_bishopCount_16 rfl rfl hQ
set_option maxHeartbeats 4000000 in
set_option maxRecDepth 100000 in
theorem sg_L_moveCount_0 {g : ev_G} {S : ev_S} {Q : ev_O → ev_S → Prop} (b0 : Nat) (x1 : Int32) (b2 : Nat) (hQ : ev_Cv g m_X9_moveCount 3 1 [ev_o 9 b0, ev_i x1] S (fun o S1 => (∃ v1_ : Int32, o = .inl (some (ev_i v1_)) ∧ (
    ∀ S2 : ev_S, S2 = (S1.1, (v1_.toInt64, S1.2.2)) → (
      Q (.inl (some (ev_i 0))) S2))) ∨ (o = .inr 0 ∧ (
    Q (.inl (some (ev_i 1))) S1)))) : ev_Cv g m_L_moveCount 4 1 [ev_o 9 b0, ev_i x1, ev_o 21 b2] S Q := by
  refine ev_enter (by decide) rfl rfl (Nat.le_of_ble_eq_true rfl) ?_
  show ev_E g m_L_moveCount 4 1 0 [some (ev_o 9 b0), some (ev_i x1), some (ev_o 21 b2), none] [] S Q
  refine ev_aload_n (ev_o 21 b2) dL_moveCount_0 rfl rfl ?_
  refine ev_iconst (0) dL_moveCount_1 rfl ?_
  refine ev_aload_n (ev_o 9 b0) dL_moveCount_2 rfl rfl ?_
  refine ev_iload_n (x1) dL_moveCount_3 rfl ?_
  refine ev_cV mv_X9_moveCount 3 1 9 [ev_i x1] [ev_i 0, ev_o 21 b2] dL_moveCount_4 kw_1372 rfl (by decide) rfl (by decide) (by decide) (Nat.le_of_ble_eq_true rfl) hQ ?_ rfl
  rintro o S1 (⟨v1_, rfl, hQ⟩ | ⟨rfl, hQ⟩)
  · show ev_E g m_L_moveCount 4 0 7 [some (ev_o 9 b0), some (ev_i x1), some (ev_o 21 b2), none] [ev_i v1_, ev_i 0, ev_o 21 b2] S1 Q
    refine ev_i2l dL_moveCount_7 ?_
    refine ev_lastore dL_moveCount_8 ?_
    refine ev_sub hQ (fun S2 hS2 hQ => ?_)
    refine ev_E.goal (pc' := 9) (L' := [some (ev_o 9 b0), some (ev_i x1), some (ev_o 21 b2), none]) (K' := []) (S' := S2) ?_ rfl rfl rfl hS2
    refine ev_goto 15 dL_moveCount_9 (by decide) ?_
    refine ev_iconst (0) dL_moveCount_15 rfl ?_
    exact ev_ireturn .int dL_moveCount_16 rfl rfl hQ
  · show ev_T g m_L_moveCount 4 0 4 [some (ev_o 9 b0), some (ev_i x1), some (ev_o 21 b2), none] S1 0 Q
    refine ev_T_catch [] (⟨0, 9, 12, 25⟩) [] "" rfl (by intro z hz; cases hz) rfl (by decide) kw_1336 jc_0 (fun q => ?_)
    show ev_E g m_L_moveCount 4 0 12 [some (ev_o 9 b0), some (ev_i x1), some (ev_o 21 b2), none] [ev_x 4 q] S1 Q
    refine ev_astore_n dL_moveCount_12 rfl (Nat.le_of_ble_eq_true rfl) (ev_hw rfl) ?_
    show ev_E g m_L_moveCount 4 0 13 [some (ev_o 9 b0), some (ev_i x1), some (ev_o 21 b2), some (ev_x 4 q)] [] S1 Q
    refine ev_iconst (1) dL_moveCount_13 rfl ?_
    exact ev_ireturn .int dL_moveCount_14 rfl rfl hQ
set_option maxHeartbeats 4000000 in
set_option maxRecDepth 100000 in
theorem sg_L_isTurn_0 {g : ev_G} {S : ev_S} {Q : ev_O → ev_S → Prop} (b0 : Nat) (x1 : Int32) (b2 : Nat) (hQ : ev_Cv g m_X9_isTurn 5 1 [ev_o 9 b0, ev_i x1] S (fun o S1 => (∃ v1_ : Bool, o = .inl (some (ev_i (if v1_ = true then 1 else 0))) ∧ (
    (v1_ = true → (
      ∀ S2 : ev_S, S2 = (S1.1, (1, S1.2.2)) → (
        Q (.inl (some (ev_i 0))) S2))) ∧
    (¬ (v1_ = true) → (
      ∀ S3 : ev_S, S3 = (S1.1, (0, S1.2.2)) → (
        Q (.inl (some (ev_i 0))) S3))))) ∨ (o = .inr 0 ∧ (
    Q (.inl (some (ev_i 1))) S1)))) : ev_Cv g m_L_isTurn 6 1 [ev_o 9 b0, ev_i x1, ev_o 21 b2] S Q := by
  refine ev_enter (by decide) rfl rfl (Nat.le_of_ble_eq_true rfl) ?_
  show ev_E g m_L_isTurn 6 1 0 [some (ev_o 9 b0), some (ev_i x1), some (ev_o 21 b2), none] [] S Q
  refine ev_aload_n (ev_o 21 b2) dL_isTurn_0 rfl rfl ?_
  refine ev_iconst (0) dL_isTurn_1 rfl ?_
  refine ev_aload_n (ev_o 9 b0) dL_isTurn_2 rfl rfl ?_
  refine ev_iload_n (x1) dL_isTurn_3 rfl ?_
  refine ev_cV mv_X9_isTurn 5 1 9 [ev_i x1] [ev_i 0, ev_o 21 b2] dL_isTurn_4 kw_1380 rfl (by decide) rfl (by decide) (by decide) (Nat.le_of_ble_eq_true rfl) hQ ?_ rfl
  rintro o S1 (⟨v1_, rfl, hQ⟩ | ⟨rfl, hQ⟩)
  · show ev_E g m_L_isTurn 6 0 7 [some (ev_o 9 b0), some (ev_i x1), some (ev_o 21 b2), none] [ev_i (if v1_ = true then 1 else 0), ev_i 0, ev_o 21 b2] S1 Q
    by_cases c1 : v1_ = true
    · rw [if_pos c1]
      replace hQ := hQ.1 c1
      refine ev_if_eq 14 dL_isTurn_7 (by decide) (fun h9 => absurd h9 (by decide : ¬ ((1 : Int32) = 0))) (fun _ => ?_)
      refine ev_lconst (1) dL_isTurn_10 rfl ?_
      refine ev_goto 15 dL_isTurn_11 (by decide) ?_
      refine ev_lastore dL_isTurn_15 ?_
      refine ev_sub hQ (fun S2 hS2 hQ => ?_)
      refine ev_E.goal (pc' := 16) (L' := [some (ev_o 9 b0), some (ev_i x1), some (ev_o 21 b2), none]) (K' := []) (S' := S2) ?_ rfl rfl rfl hS2
      refine ev_goto 22 dL_isTurn_16 (by decide) ?_
      refine ev_iconst (0) dL_isTurn_22 rfl ?_
      exact ev_ireturn .int dL_isTurn_23 rfl rfl hQ
    · rw [if_neg c1]
      replace hQ := hQ.2 c1
      refine ev_if_eq 14 dL_isTurn_7 (by decide) (fun _ => ?_) (fun h9 => absurd (by decide : ((0 : Int32) = 0)) h9)
      refine ev_lconst (0) dL_isTurn_14 rfl ?_
      refine ev_lastore dL_isTurn_15 ?_
      refine ev_sub hQ (fun S3 hS3 hQ => ?_)
      refine ev_E.goal (pc' := 16) (L' := [some (ev_o 9 b0), some (ev_i x1), some (ev_o 21 b2), none]) (K' := []) (S' := S3) ?_ rfl rfl rfl hS3
      refine ev_goto 22 dL_isTurn_16 (by decide) ?_
      refine ev_iconst (0) dL_isTurn_22 rfl ?_
      exact ev_ireturn .int dL_isTurn_23 rfl rfl hQ
  · show ev_T g m_L_isTurn 6 0 4 [some (ev_o 9 b0), some (ev_i x1), some (ev_o 21 b2), none] S1 0 Q
    refine ev_T_catch [] (⟨0, 16, 19, 25⟩) [] "" rfl (by intro z hz; cases hz) rfl (by decide) kw_1336 jc_0 (fun q => ?_)
    show ev_E g m_L_isTurn 6 0 19 [some (ev_o 9 b0), some (ev_i x1), some (ev_o 21 b2), none] [ev_x 4 q] S1 Q
    refine ev_astore_n dL_isTurn_19 rfl (Nat.le_of_ble_eq_true rfl) (ev_hw rfl) ?_
    show ev_E g m_L_isTurn 6 0 20 [some (ev_o 9 b0), some (ev_i x1), some (ev_o 21 b2), some (ev_x 4 q)] [] S1 Q
    refine ev_iconst (1) dL_isTurn_20 rfl ?_
    exact ev_ireturn .int dL_isTurn_21 rfl rfl hQ
set_option maxHeartbeats 4000000 in
set_option maxRecDepth 100000 in
theorem sg_L_isOver_0 {g : ev_G} {S : ev_S} {Q : ev_O → ev_S → Prop} (b0 : Nat) (x1 : Int32) (b2 : Nat) (hQ : ev_Cv g m_X9_isOver 4 1 [ev_o 9 b0, ev_i x1] S (fun o S1 => (∃ v1_ : Bool, o = .inl (some (ev_i (if v1_ = true then 1 else 0))) ∧ (
    (v1_ = true → (
      ∀ S2 : ev_S, S2 = (S1.1, (1, S1.2.2)) → (
        Q (.inl (some (ev_i 0))) S2))) ∧
    (¬ (v1_ = true) → (
      ∀ S3 : ev_S, S3 = (S1.1, (0, S1.2.2)) → (
        Q (.inl (some (ev_i 0))) S3))))) ∨ (o = .inr 0 ∧ (
    Q (.inl (some (ev_i 1))) S1)))) : ev_Cv g m_L_isOver 5 1 [ev_o 9 b0, ev_i x1, ev_o 21 b2] S Q := by
  refine ev_enter (by decide) rfl rfl (Nat.le_of_ble_eq_true rfl) ?_
  show ev_E g m_L_isOver 5 1 0 [some (ev_o 9 b0), some (ev_i x1), some (ev_o 21 b2), none] [] S Q
  refine ev_aload_n (ev_o 21 b2) dL_isOver_0 rfl rfl ?_
  refine ev_iconst (0) dL_isOver_1 rfl ?_
  refine ev_aload_n (ev_o 9 b0) dL_isOver_2 rfl rfl ?_
  refine ev_iload_n (x1) dL_isOver_3 rfl ?_
  refine ev_cV mv_X9_isOver 4 1 9 [ev_i x1] [ev_i 0, ev_o 21 b2] dL_isOver_4 kw_1389 rfl (by decide) rfl (by decide) (by decide) (Nat.le_of_ble_eq_true rfl) hQ ?_ rfl
  rintro o S1 (⟨v1_, rfl, hQ⟩ | ⟨rfl, hQ⟩)
  · show ev_E g m_L_isOver 5 0 7 [some (ev_o 9 b0), some (ev_i x1), some (ev_o 21 b2), none] [ev_i (if v1_ = true then 1 else 0), ev_i 0, ev_o 21 b2] S1 Q
    by_cases c1 : v1_ = true
    · rw [if_pos c1]
      replace hQ := hQ.1 c1
      refine ev_if_eq 14 dL_isOver_7 (by decide) (fun h9 => absurd h9 (by decide : ¬ ((1 : Int32) = 0))) (fun _ => ?_)
      refine ev_lconst (1) dL_isOver_10 rfl ?_
      refine ev_goto 15 dL_isOver_11 (by decide) ?_
      refine ev_lastore dL_isOver_15 ?_
      refine ev_sub hQ (fun S2 hS2 hQ => ?_)
      refine ev_E.goal (pc' := 16) (L' := [some (ev_o 9 b0), some (ev_i x1), some (ev_o 21 b2), none]) (K' := []) (S' := S2) ?_ rfl rfl rfl hS2
      refine ev_goto 22 dL_isOver_16 (by decide) ?_
      refine ev_iconst (0) dL_isOver_22 rfl ?_
      exact ev_ireturn .int dL_isOver_23 rfl rfl hQ
    · rw [if_neg c1]
      replace hQ := hQ.2 c1
      refine ev_if_eq 14 dL_isOver_7 (by decide) (fun _ => ?_) (fun h9 => absurd (by decide : ((0 : Int32) = 0)) h9)
      refine ev_lconst (0) dL_isOver_14 rfl ?_
      refine ev_lastore dL_isOver_15 ?_
      refine ev_sub hQ (fun S3 hS3 hQ => ?_)
      refine ev_E.goal (pc' := 16) (L' := [some (ev_o 9 b0), some (ev_i x1), some (ev_o 21 b2), none]) (K' := []) (S' := S3) ?_ rfl rfl rfl hS3
      refine ev_goto 22 dL_isOver_16 (by decide) ?_
      refine ev_iconst (0) dL_isOver_22 rfl ?_
      exact ev_ireturn .int dL_isOver_23 rfl rfl hQ
  · show ev_T g m_L_isOver 5 0 4 [some (ev_o 9 b0), some (ev_i x1), some (ev_o 21 b2), none] S1 0 Q
    refine ev_T_catch [] (⟨0, 16, 19, 25⟩) [] "" rfl (by intro z hz; cases hz) rfl (by decide) kw_1336 jc_0 (fun q => ?_)
    show ev_E g m_L_isOver 5 0 19 [some (ev_o 9 b0), some (ev_i x1), some (ev_o 21 b2), none] [ev_x 4 q] S1 Q
    refine ev_astore_n dL_isOver_19 rfl (Nat.le_of_ble_eq_true rfl) (ev_hw rfl) ?_
    show ev_E g m_L_isOver 5 0 20 [some (ev_o 9 b0), some (ev_i x1), some (ev_o 21 b2), some (ev_x 4 q)] [] S1 Q
    refine ev_iconst (1) dL_isOver_20 rfl ?_
    exact ev_ireturn .int dL_isOver_21 rfl rfl hQ
set_option maxHeartbeats 4000000 in
set_option maxRecDepth 100000 in
theorem sg_L_winner_0 {g : ev_G} {S : ev_S} {Q : ev_O → ev_S → Prop} (b0 : Nat) (x1 : Int32) (b2 : Nat) (hQ : ev_Cv g m_X9_winner 4 1 [ev_o 9 b0, ev_i x1] S (fun o S1 => (∃ v1_ : Int32, o = .inl (some (ev_i v1_)) ∧ (
    ∀ S2 : ev_S, S2 = (S1.1, (v1_.toInt64, S1.2.2)) → (
      Q (.inl (some (ev_i 0))) S2))) ∨ (o = .inr 0 ∧ (
    Q (.inl (some (ev_i 1))) S1)))) : ev_Cv g m_L_winner 5 1 [ev_o 9 b0, ev_i x1, ev_o 21 b2] S Q := by
  refine ev_enter (by decide) rfl rfl (Nat.le_of_ble_eq_true rfl) ?_
  show ev_E g m_L_winner 5 1 0 [some (ev_o 9 b0), some (ev_i x1), some (ev_o 21 b2), none] [] S Q
  refine ev_aload_n (ev_o 21 b2) dL_winner_0 rfl rfl ?_
  refine ev_iconst (0) dL_winner_1 rfl ?_
  refine ev_aload_n (ev_o 9 b0) dL_winner_2 rfl rfl ?_
  refine ev_iload_n (x1) dL_winner_3 rfl ?_
  refine ev_cV mv_X9_winner 4 1 9 [ev_i x1] [ev_i 0, ev_o 21 b2] dL_winner_4 kw_1397 rfl (by decide) rfl (by decide) (by decide) (Nat.le_of_ble_eq_true rfl) hQ ?_ rfl
  rintro o S1 (⟨v1_, rfl, hQ⟩ | ⟨rfl, hQ⟩)
  · show ev_E g m_L_winner 5 0 7 [some (ev_o 9 b0), some (ev_i x1), some (ev_o 21 b2), none] [ev_i v1_, ev_i 0, ev_o 21 b2] S1 Q
    refine ev_i2l dL_winner_7 ?_
    refine ev_lastore dL_winner_8 ?_
    refine ev_sub hQ (fun S2 hS2 hQ => ?_)
    refine ev_E.goal (pc' := 9) (L' := [some (ev_o 9 b0), some (ev_i x1), some (ev_o 21 b2), none]) (K' := []) (S' := S2) ?_ rfl rfl rfl hS2
    refine ev_goto 15 dL_winner_9 (by decide) ?_
    refine ev_iconst (0) dL_winner_15 rfl ?_
    exact ev_ireturn .int dL_winner_16 rfl rfl hQ
  · show ev_T g m_L_winner 5 0 4 [some (ev_o 9 b0), some (ev_i x1), some (ev_o 21 b2), none] S1 0 Q
    refine ev_T_catch [] (⟨0, 9, 12, 25⟩) [] "" rfl (by intro z hz; cases hz) rfl (by decide) kw_1336 jc_0 (fun q => ?_)
    show ev_E g m_L_winner 5 0 12 [some (ev_o 9 b0), some (ev_i x1), some (ev_o 21 b2), none] [ev_x 4 q] S1 Q
    refine ev_astore_n dL_winner_12 rfl (Nat.le_of_ble_eq_true rfl) (ev_hw rfl) ?_
    show ev_E g m_L_winner 5 0 13 [some (ev_o 9 b0), some (ev_i x1), some (ev_o 21 b2), some (ev_x 4 q)] [] S1 Q
    refine ev_iconst (1) dL_winner_13 rfl ?_
    exact ev_ireturn .int dL_winner_14 rfl rfl hQ
set_option maxHeartbeats 4000000 in
set_option maxRecDepth 100000 in
theorem sg_L_canMove_0 {g : ev_G} {S : ev_S} {Q : ev_O → ev_S → Prop} (b0 : Nat) (x1 : Int32) (x2 : Int32) (x3 : Int32) (b4 : Nat) (hQ : ev_Cv g m_X9_canMove 4 1 [ev_o 9 b0, ev_i x1, ev_i x2, ev_i x3] S (fun o S1 => (∃ v1_ : Bool, o = .inl (some (ev_i (if v1_ = true then 1 else 0))) ∧ (
    (v1_ = true → (
      ∀ S2 : ev_S, S2 = (S1.1, (1, S1.2.2)) → (
        Q (.inl (some (ev_i 0))) S2))) ∧
    (¬ (v1_ = true) → (
      ∀ S3 : ev_S, S3 = (S1.1, (0, S1.2.2)) → (
        Q (.inl (some (ev_i 0))) S3))))) ∨ (o = .inr 0 ∧ (
    Q (.inl (some (ev_i 1))) S1)))) : ev_Cv g m_L_canMove 5 1 [ev_o 9 b0, ev_i x1, ev_i x2, ev_i x3, ev_o 21 b4] S Q := by
  refine ev_enter (by decide) rfl rfl (Nat.le_of_ble_eq_true rfl) ?_
  show ev_E g m_L_canMove 5 1 0 [some (ev_o 9 b0), some (ev_i x1), some (ev_i x2), some (ev_i x3), some (ev_o 21 b4), none] [] S Q
  refine ev_aload (ev_o 21 b4) dL_canMove_0 rfl rfl ?_
  refine ev_iconst (0) dL_canMove_2 rfl ?_
  refine ev_aload_n (ev_o 9 b0) dL_canMove_3 rfl rfl ?_
  refine ev_iload_n (x1) dL_canMove_4 rfl ?_
  refine ev_iload_n (x2) dL_canMove_5 rfl ?_
  refine ev_iload_n (x3) dL_canMove_6 rfl ?_
  refine ev_cV mv_X9_canMove 4 1 9 [ev_i x1, ev_i x2, ev_i x3] [ev_i 0, ev_o 21 b4] dL_canMove_7 kw_1404 rfl (by decide) rfl (by decide) (by decide) (Nat.le_of_ble_eq_true rfl) hQ ?_ rfl
  rintro o S1 (⟨v1_, rfl, hQ⟩ | ⟨rfl, hQ⟩)
  · show ev_E g m_L_canMove 5 0 10 [some (ev_o 9 b0), some (ev_i x1), some (ev_i x2), some (ev_i x3), some (ev_o 21 b4), none] [ev_i (if v1_ = true then 1 else 0), ev_i 0, ev_o 21 b4] S1 Q
    by_cases c1 : v1_ = true
    · rw [if_pos c1]
      replace hQ := hQ.1 c1
      refine ev_if_eq 17 dL_canMove_10 (by decide) (fun h9 => absurd h9 (by decide : ¬ ((1 : Int32) = 0))) (fun _ => ?_)
      refine ev_lconst (1) dL_canMove_13 rfl ?_
      refine ev_goto 18 dL_canMove_14 (by decide) ?_
      refine ev_lastore dL_canMove_18 ?_
      refine ev_sub hQ (fun S2 hS2 hQ => ?_)
      refine ev_E.goal (pc' := 19) (L' := [some (ev_o 9 b0), some (ev_i x1), some (ev_i x2), some (ev_i x3), some (ev_o 21 b4), none]) (K' := []) (S' := S2) ?_ rfl rfl rfl hS2
      refine ev_goto 26 dL_canMove_19 (by decide) ?_
      refine ev_iconst (0) dL_canMove_26 rfl ?_
      exact ev_ireturn .int dL_canMove_27 rfl rfl hQ
    · rw [if_neg c1]
      replace hQ := hQ.2 c1
      refine ev_if_eq 17 dL_canMove_10 (by decide) (fun _ => ?_) (fun h9 => absurd (by decide : ((0 : Int32) = 0)) h9)
      refine ev_lconst (0) dL_canMove_17 rfl ?_
      refine ev_lastore dL_canMove_18 ?_
      refine ev_sub hQ (fun S3 hS3 hQ => ?_)
      refine ev_E.goal (pc' := 19) (L' := [some (ev_o 9 b0), some (ev_i x1), some (ev_i x2), some (ev_i x3), some (ev_o 21 b4), none]) (K' := []) (S' := S3) ?_ rfl rfl rfl hS3
      refine ev_goto 26 dL_canMove_19 (by decide) ?_
      refine ev_iconst (0) dL_canMove_26 rfl ?_
      exact ev_ireturn .int dL_canMove_27 rfl rfl hQ
  · show ev_T g m_L_canMove 5 0 7 [some (ev_o 9 b0), some (ev_i x1), some (ev_i x2), some (ev_i x3), some (ev_o 21 b4), none] S1 0 Q
    refine ev_T_catch [] (⟨0, 19, 22, 25⟩) [] "" rfl (by intro z hz; cases hz) rfl (by decide) kw_1336 jc_0 (fun q => ?_)
    show ev_E g m_L_canMove 5 0 22 [some (ev_o 9 b0), some (ev_i x1), some (ev_i x2), some (ev_i x3), some (ev_o 21 b4), none] [ev_x 4 q] S1 Q
    refine ev_astore dL_canMove_22 rfl (Nat.le_of_ble_eq_true rfl) (ev_hw rfl) ?_
    show ev_E g m_L_canMove 5 0 24 [some (ev_o 9 b0), some (ev_i x1), some (ev_i x2), some (ev_i x3), some (ev_o 21 b4), some (ev_x 4 q)] [] S1 Q
    refine ev_iconst (1) dL_canMove_24 rfl ?_
    exact ev_ireturn .int dL_canMove_25 rfl rfl hQ
set_option maxHeartbeats 4000000 in
set_option maxRecDepth 100000 in
theorem sg_L_mobility_0 {g : ev_G} {S : ev_S} {Q : ev_O → ev_S → Prop} (b0 : Nat) (x1 : Int32) (x2 : Int32) (b3 : Nat) (hQ : ev_Cv g m_X9_mobility 5 1 [ev_o 9 b0, ev_i x1, ev_i x2] S (fun o S1 => (∃ v1_ : Int32, o = .inl (some (ev_i v1_)) ∧ (
    ∀ S2 : ev_S, S2 = (S1.1, (v1_.toInt64, S1.2.2)) → (
      Q (.inl (some (ev_i 0))) S2))) ∨ (o = .inr 0 ∧ (
    Q (.inl (some (ev_i 1))) S1)))) : ev_Cv g m_L_mobility 6 1 [ev_o 9 b0, ev_i x1, ev_i x2, ev_o 21 b3] S Q := by
  refine ev_enter (by decide) rfl rfl (Nat.le_of_ble_eq_true rfl) ?_
  show ev_E g m_L_mobility 6 1 0 [some (ev_o 9 b0), some (ev_i x1), some (ev_i x2), some (ev_o 21 b3), none] [] S Q
  refine ev_aload_n (ev_o 21 b3) dL_mobility_0 rfl rfl ?_
  refine ev_iconst (0) dL_mobility_1 rfl ?_
  refine ev_aload_n (ev_o 9 b0) dL_mobility_2 rfl rfl ?_
  refine ev_iload_n (x1) dL_mobility_3 rfl ?_
  refine ev_iload_n (x2) dL_mobility_4 rfl ?_
  refine ev_cV mv_X9_mobility 5 1 9 [ev_i x1, ev_i x2] [ev_i 0, ev_o 21 b3] dL_mobility_5 kw_1412 rfl (by decide) rfl (by decide) (by decide) (Nat.le_of_ble_eq_true rfl) hQ ?_ rfl
  rintro o S1 (⟨v1_, rfl, hQ⟩ | ⟨rfl, hQ⟩)
  · show ev_E g m_L_mobility 6 0 8 [some (ev_o 9 b0), some (ev_i x1), some (ev_i x2), some (ev_o 21 b3), none] [ev_i v1_, ev_i 0, ev_o 21 b3] S1 Q
    refine ev_i2l dL_mobility_8 ?_
    refine ev_lastore dL_mobility_9 ?_
    refine ev_sub hQ (fun S2 hS2 hQ => ?_)
    refine ev_E.goal (pc' := 10) (L' := [some (ev_o 9 b0), some (ev_i x1), some (ev_i x2), some (ev_o 21 b3), none]) (K' := []) (S' := S2) ?_ rfl rfl rfl hS2
    refine ev_goto 17 dL_mobility_10 (by decide) ?_
    refine ev_iconst (0) dL_mobility_17 rfl ?_
    exact ev_ireturn .int dL_mobility_18 rfl rfl hQ
  · show ev_T g m_L_mobility 6 0 5 [some (ev_o 9 b0), some (ev_i x1), some (ev_i x2), some (ev_o 21 b3), none] S1 0 Q
    refine ev_T_catch [] (⟨0, 10, 13, 25⟩) [] "" rfl (by intro z hz; cases hz) rfl (by decide) kw_1336 jc_0 (fun q => ?_)
    show ev_E g m_L_mobility 6 0 13 [some (ev_o 9 b0), some (ev_i x1), some (ev_i x2), some (ev_o 21 b3), none] [ev_x 4 q] S1 Q
    refine ev_astore dL_mobility_13 rfl (Nat.le_of_ble_eq_true rfl) (ev_hw rfl) ?_
    show ev_E g m_L_mobility 6 0 15 [some (ev_o 9 b0), some (ev_i x1), some (ev_i x2), some (ev_o 21 b3), some (ev_x 4 q)] [] S1 Q
    refine ev_iconst (1) dL_mobility_15 rfl ?_
    exact ev_ireturn .int dL_mobility_16 rfl rfl hQ
set_option maxHeartbeats 4000000 in
set_option maxRecDepth 100000 in
theorem sg_L_movedFrom_0 {g : ev_G} {S : ev_S} {Q : ev_O → ev_S → Prop} (b0 : Nat) (x1 : Int32) (x2 : Int32) (b3 : Nat) (hQ : ev_Cv g m_X9_movedFrom 4 2 [ev_o 9 b0, ev_i x1, ev_i x2] S (fun o S1 => (∃ v1_ : Int32, o = .inl (some (ev_i v1_)) ∧ (
    ∀ S2 : ev_S, S2 = (S1.1, (v1_.toInt64, S1.2.2)) → (
      Q (.inl (some (ev_i 0))) S2))) ∨ (o = .inr 0 ∧ (
    Q (.inl (some (ev_i 1))) S1)) ∨ (o = .inr 3 ∧ (
    Q (.inl (some (ev_i 2))) S1)))) : ev_Cv g m_L_movedFrom 5 2 [ev_o 9 b0, ev_i x1, ev_i x2, ev_o 21 b3] S Q := by
  refine ev_enter (by decide) rfl rfl (Nat.le_of_ble_eq_true rfl) ?_
  show ev_E g m_L_movedFrom 5 2 0 [some (ev_o 9 b0), some (ev_i x1), some (ev_i x2), some (ev_o 21 b3), none] [] S Q
  refine ev_aload_n (ev_o 21 b3) dL_movedFrom_0 rfl rfl ?_
  refine ev_iconst (0) dL_movedFrom_1 rfl ?_
  refine ev_aload_n (ev_o 9 b0) dL_movedFrom_2 rfl rfl ?_
  refine ev_iload_n (x1) dL_movedFrom_3 rfl ?_
  refine ev_iload_n (x2) dL_movedFrom_4 rfl ?_
  refine ev_cV mv_X9_movedFrom 4 2 9 [ev_i x1, ev_i x2] [ev_i 0, ev_o 21 b3] dL_movedFrom_5 kw_1425 rfl (by decide) rfl (by decide) (by decide) (Nat.le_of_ble_eq_true rfl) hQ ?_ rfl
  rintro o S1 (⟨v1_, rfl, hQ⟩ | ⟨rfl, hQ⟩ | ⟨rfl, hQ⟩)
  · show ev_E g m_L_movedFrom 5 0 8 [some (ev_o 9 b0), some (ev_i x1), some (ev_i x2), some (ev_o 21 b3), none] [ev_i v1_, ev_i 0, ev_o 21 b3] S1 Q
    refine ev_i2l dL_movedFrom_8 ?_
    refine ev_lastore dL_movedFrom_9 ?_
    refine ev_sub hQ (fun S2 hS2 hQ => ?_)
    refine ev_E.goal (pc' := 10) (L' := [some (ev_o 9 b0), some (ev_i x1), some (ev_i x2), some (ev_o 21 b3), none]) (K' := []) (S' := S2) ?_ rfl rfl rfl hS2
    refine ev_goto 21 dL_movedFrom_10 (by decide) ?_
    refine ev_iconst (0) dL_movedFrom_21 rfl ?_
    exact ev_ireturn .int dL_movedFrom_22 rfl rfl hQ
  · show ev_T g m_L_movedFrom 5 0 5 [some (ev_o 9 b0), some (ev_i x1), some (ev_i x2), some (ev_o 21 b3), none] S1 0 Q
    refine ev_T_catch [] (⟨0, 10, 13, 25⟩) [⟨0, 10, 17, 53⟩] "" rfl (by intro z hz; cases hz) rfl (by decide) kw_1336 jc_0 (fun q => ?_)
    show ev_E g m_L_movedFrom 5 0 13 [some (ev_o 9 b0), some (ev_i x1), some (ev_i x2), some (ev_o 21 b3), none] [ev_x 4 q] S1 Q
    refine ev_astore dL_movedFrom_13 rfl (Nat.le_of_ble_eq_true rfl) (ev_hw rfl) ?_
    show ev_E g m_L_movedFrom 5 0 15 [some (ev_o 9 b0), some (ev_i x1), some (ev_i x2), some (ev_o 21 b3), some (ev_x 4 q)] [] S1 Q
    refine ev_iconst (1) dL_movedFrom_15 rfl ?_
    exact ev_ireturn .int dL_movedFrom_16 rfl rfl hQ
  · show ev_T g m_L_movedFrom 5 0 5 [some (ev_o 9 b0), some (ev_i x1), some (ev_i x2), some (ev_o 21 b3), none] S1 3 Q
    refine ev_T_catch [⟨0, 10, 13, 25⟩] (⟨0, 10, 17, 53⟩) [] "" rfl (by intro z hz; simp only [List.mem_cons, List.not_mem_nil, or_false] at hz; rcases hz with rfl; exact ⟨(3, 0), (by decide), rfl, (by decide), kw_1336⟩) rfl (by decide) kw_1424 jc_3 (fun q => ?_)
    show ev_E g m_L_movedFrom 5 0 17 [some (ev_o 9 b0), some (ev_i x1), some (ev_i x2), some (ev_o 21 b3), none] [ev_x 4 q] S1 Q
    refine ev_astore dL_movedFrom_17 rfl (Nat.le_of_ble_eq_true rfl) (ev_hw rfl) ?_
    show ev_E g m_L_movedFrom 5 0 19 [some (ev_o 9 b0), some (ev_i x1), some (ev_i x2), some (ev_o 21 b3), some (ev_x 4 q)] [] S1 Q
    refine ev_iconst (2) dL_movedFrom_19 rfl ?_
    exact ev_ireturn .int dL_movedFrom_20 rfl rfl hQ
set_option maxHeartbeats 4000000 in
set_option maxRecDepth 100000 in
theorem sg_L_movedTo_0 {g : ev_G} {S : ev_S} {Q : ev_O → ev_S → Prop} (b0 : Nat) (x1 : Int32) (x2 : Int32) (b3 : Nat) (hQ : ev_Cv g m_X9_movedTo 4 2 [ev_o 9 b0, ev_i x1, ev_i x2] S (fun o S1 => (∃ v1_ : Int32, o = .inl (some (ev_i v1_)) ∧ (
    ∀ S2 : ev_S, S2 = (S1.1, (v1_.toInt64, S1.2.2)) → (
      Q (.inl (some (ev_i 0))) S2))) ∨ (o = .inr 0 ∧ (
    Q (.inl (some (ev_i 1))) S1)) ∨ (o = .inr 3 ∧ (
    Q (.inl (some (ev_i 2))) S1)))) : ev_Cv g m_L_movedTo 5 2 [ev_o 9 b0, ev_i x1, ev_i x2, ev_o 21 b3] S Q := by
  refine ev_enter (by decide) rfl rfl (Nat.le_of_ble_eq_true rfl) ?_
  show ev_E g m_L_movedTo 5 2 0 [some (ev_o 9 b0), some (ev_i x1), some (ev_i x2), some (ev_o 21 b3), none] [] S Q
  refine ev_aload_n (ev_o 21 b3) dL_movedTo_0 rfl rfl ?_
  refine ev_iconst (0) dL_movedTo_1 rfl ?_
  refine ev_aload_n (ev_o 9 b0) dL_movedTo_2 rfl rfl ?_
  refine ev_iload_n (x1) dL_movedTo_3 rfl ?_
  refine ev_iload_n (x2) dL_movedTo_4 rfl ?_
  refine ev_cV mv_X9_movedTo 4 2 9 [ev_i x1, ev_i x2] [ev_i 0, ev_o 21 b3] dL_movedTo_5 kw_1454 rfl (by decide) rfl (by decide) (by decide) (Nat.le_of_ble_eq_true rfl) hQ ?_ rfl
  rintro o S1 (⟨v1_, rfl, hQ⟩ | ⟨rfl, hQ⟩ | ⟨rfl, hQ⟩)
  · show ev_E g m_L_movedTo 5 0 8 [some (ev_o 9 b0), some (ev_i x1), some (ev_i x2), some (ev_o 21 b3), none] [ev_i v1_, ev_i 0, ev_o 21 b3] S1 Q
    refine ev_i2l dL_movedTo_8 ?_
    refine ev_lastore dL_movedTo_9 ?_
    refine ev_sub hQ (fun S2 hS2 hQ => ?_)
    refine ev_E.goal (pc' := 10) (L' := [some (ev_o 9 b0), some (ev_i x1), some (ev_i x2), some (ev_o 21 b3), none]) (K' := []) (S' := S2) ?_ rfl rfl rfl hS2
    refine ev_goto 21 dL_movedTo_10 (by decide) ?_
    refine ev_iconst (0) dL_movedTo_21 rfl ?_
    exact ev_ireturn .int dL_movedTo_22 rfl rfl hQ
  · show ev_T g m_L_movedTo 5 0 5 [some (ev_o 9 b0), some (ev_i x1), some (ev_i x2), some (ev_o 21 b3), none] S1 0 Q
    refine ev_T_catch [] (⟨0, 10, 13, 25⟩) [⟨0, 10, 17, 53⟩] "" rfl (by intro z hz; cases hz) rfl (by decide) kw_1336 jc_0 (fun q => ?_)
    show ev_E g m_L_movedTo 5 0 13 [some (ev_o 9 b0), some (ev_i x1), some (ev_i x2), some (ev_o 21 b3), none] [ev_x 4 q] S1 Q
    refine ev_astore dL_movedTo_13 rfl (Nat.le_of_ble_eq_true rfl) (ev_hw rfl) ?_
    show ev_E g m_L_movedTo 5 0 15 [some (ev_o 9 b0), some (ev_i x1), some (ev_i x2), some (ev_o 21 b3), some (ev_x 4 q)] [] S1 Q
    refine ev_iconst (1) dL_movedTo_15 rfl ?_
    exact ev_ireturn .int dL_movedTo_16 rfl rfl hQ
  · show ev_T g m_L_movedTo 5 0 5 [some (ev_o 9 b0), some (ev_i x1), some (ev_i x2), some (ev_o 21 b3), none] S1 3 Q
    refine ev_T_catch [⟨0, 10, 13, 25⟩] (⟨0, 10, 17, 53⟩) [] "" rfl (by intro z hz; simp only [List.mem_cons, List.not_mem_nil, or_false] at hz; rcases hz with rfl; exact ⟨(3, 0), (by decide), rfl, (by decide), kw_1336⟩) rfl (by decide) kw_1424 jc_3 (fun q => ?_)
    show ev_E g m_L_movedTo 5 0 17 [some (ev_o 9 b0), some (ev_i x1), some (ev_i x2), some (ev_o 21 b3), none] [ev_x 4 q] S1 Q
    refine ev_astore dL_movedTo_17 rfl (Nat.le_of_ble_eq_true rfl) (ev_hw rfl) ?_
    show ev_E g m_L_movedTo 5 0 19 [some (ev_o 9 b0), some (ev_i x1), some (ev_i x2), some (ev_o 21 b3), some (ev_x 4 q)] [] S1 Q
    refine ev_iconst (2) dL_movedTo_19 rfl ?_
    exact ev_ireturn .int dL_movedTo_20 rfl rfl hQ
set_option maxHeartbeats 4000000 in
set_option maxRecDepth 100000 in
theorem sg_L_storedMoves_0 {g : ev_G} {S : ev_S} {Q : ev_O → ev_S → Prop} (b0 : Nat) (x1 : Int32) (b2 : Nat) (hQ : ev_Cv g m_X9_storedMoves 2 1 [ev_o 9 b0, ev_i x1] S (fun o S1 => (∃ v1_ : Int32, o = .inl (some (ev_i v1_)) ∧ (
    ∀ S2 : ev_S, S2 = (S1.1, (v1_.toInt64, S1.2.2)) → (
      Q (.inl (some (ev_i 0))) S2))) ∨ (o = .inr 0 ∧ (
    Q (.inl (some (ev_i 1))) S1)))) : ev_Cv g m_L_storedMoves 3 1 [ev_o 9 b0, ev_i x1, ev_o 21 b2] S Q := by
  refine ev_enter (by decide) rfl rfl (Nat.le_of_ble_eq_true rfl) ?_
  show ev_E g m_L_storedMoves 3 1 0 [some (ev_o 9 b0), some (ev_i x1), some (ev_o 21 b2), none] [] S Q
  refine ev_aload_n (ev_o 21 b2) dL_storedMoves_0 rfl rfl ?_
  refine ev_iconst (0) dL_storedMoves_1 rfl ?_
  refine ev_aload_n (ev_o 9 b0) dL_storedMoves_2 rfl rfl ?_
  refine ev_iload_n (x1) dL_storedMoves_3 rfl ?_
  refine ev_cV mv_X9_storedMoves 2 1 9 [ev_i x1] [ev_i 0, ev_o 21 b2] dL_storedMoves_4 kw_1462 rfl (by decide) rfl (by decide) (by decide) (Nat.le_of_ble_eq_true rfl) hQ ?_ rfl
  rintro o S1 (⟨v1_, rfl, hQ⟩ | ⟨rfl, hQ⟩)
  · show ev_E g m_L_storedMoves 3 0 7 [some (ev_o 9 b0), some (ev_i x1), some (ev_o 21 b2), none] [ev_i v1_, ev_i 0, ev_o 21 b2] S1 Q
    refine ev_i2l dL_storedMoves_7 ?_
    refine ev_lastore dL_storedMoves_8 ?_
    refine ev_sub hQ (fun S2 hS2 hQ => ?_)
    refine ev_E.goal (pc' := 9) (L' := [some (ev_o 9 b0), some (ev_i x1), some (ev_o 21 b2), none]) (K' := []) (S' := S2) ?_ rfl rfl rfl hS2
    refine ev_goto 15 dL_storedMoves_9 (by decide) ?_
    refine ev_iconst (0) dL_storedMoves_15 rfl ?_
    exact ev_ireturn .int dL_storedMoves_16 rfl rfl hQ
  · show ev_T g m_L_storedMoves 3 0 4 [some (ev_o 9 b0), some (ev_i x1), some (ev_o 21 b2), none] S1 0 Q
    refine ev_T_catch [] (⟨0, 9, 12, 25⟩) [] "" rfl (by intro z hz; cases hz) rfl (by decide) kw_1336 jc_0 (fun q => ?_)
    show ev_E g m_L_storedMoves 3 0 12 [some (ev_o 9 b0), some (ev_i x1), some (ev_o 21 b2), none] [ev_x 4 q] S1 Q
    refine ev_astore_n dL_storedMoves_12 rfl (Nat.le_of_ble_eq_true rfl) (ev_hw rfl) ?_
    show ev_E g m_L_storedMoves 3 0 13 [some (ev_o 9 b0), some (ev_i x1), some (ev_o 21 b2), some (ev_x 4 q)] [] S1 Q
    refine ev_iconst (1) dL_storedMoves_13 rfl ?_
    exact ev_ireturn .int dL_storedMoves_14 rfl rfl hQ
set_option maxHeartbeats 4000000 in
set_option maxRecDepth 100000 in
theorem sg_L_snowDepth_0 {g : ev_G} {S : ev_S} {Q : ev_O → ev_S → Prop} (b0 : Nat) (x1 : Int32) (x2 : Int32) (b3 : Nat) (hQ : ev_Cv g m_X9_snowDepth 3 1 [ev_o 9 b0, ev_i x1, ev_i x2] S (fun o S1 => (∃ v1_ : Int32, o = .inl (some (ev_i v1_)) ∧ (
    ∀ S2 : ev_S, S2 = (S1.1, (v1_.toInt64, S1.2.2)) → (
      Q (.inl (some (ev_i 0))) S2))) ∨ (o = .inr 0 ∧ (
    Q (.inl (some (ev_i 1))) S1)))) : ev_Cv g m_L_snowDepth 4 1 [ev_o 9 b0, ev_i x1, ev_i x2, ev_o 21 b3] S Q := by
  refine ev_enter (by decide) rfl rfl (Nat.le_of_ble_eq_true rfl) ?_
  show ev_E g m_L_snowDepth 4 1 0 [some (ev_o 9 b0), some (ev_i x1), some (ev_i x2), some (ev_o 21 b3), none] [] S Q
  refine ev_aload_n (ev_o 21 b3) dL_snowDepth_0 rfl rfl ?_
  refine ev_iconst (0) dL_snowDepth_1 rfl ?_
  refine ev_aload_n (ev_o 9 b0) dL_snowDepth_2 rfl rfl ?_
  refine ev_iload_n (x1) dL_snowDepth_3 rfl ?_
  refine ev_iload_n (x2) dL_snowDepth_4 rfl ?_
  refine ev_cV mv_X9_snowDepth 3 1 9 [ev_i x1, ev_i x2] [ev_i 0, ev_o 21 b3] dL_snowDepth_5 kw_1473 rfl (by decide) rfl (by decide) (by decide) (Nat.le_of_ble_eq_true rfl) hQ ?_ rfl
  rintro o S1 (⟨v1_, rfl, hQ⟩ | ⟨rfl, hQ⟩)
  · show ev_E g m_L_snowDepth 4 0 8 [some (ev_o 9 b0), some (ev_i x1), some (ev_i x2), some (ev_o 21 b3), none] [ev_i v1_, ev_i 0, ev_o 21 b3] S1 Q
    refine ev_i2l dL_snowDepth_8 ?_
    refine ev_lastore dL_snowDepth_9 ?_
    refine ev_sub hQ (fun S2 hS2 hQ => ?_)
    refine ev_E.goal (pc' := 10) (L' := [some (ev_o 9 b0), some (ev_i x1), some (ev_i x2), some (ev_o 21 b3), none]) (K' := []) (S' := S2) ?_ rfl rfl rfl hS2
    refine ev_goto 17 dL_snowDepth_10 (by decide) ?_
    refine ev_iconst (0) dL_snowDepth_17 rfl ?_
    exact ev_ireturn .int dL_snowDepth_18 rfl rfl hQ
  · show ev_T g m_L_snowDepth 4 0 5 [some (ev_o 9 b0), some (ev_i x1), some (ev_i x2), some (ev_o 21 b3), none] S1 0 Q
    refine ev_T_catch [] (⟨0, 10, 13, 25⟩) [] "" rfl (by intro z hz; cases hz) rfl (by decide) kw_1336 jc_0 (fun q => ?_)
    show ev_E g m_L_snowDepth 4 0 13 [some (ev_o 9 b0), some (ev_i x1), some (ev_i x2), some (ev_o 21 b3), none] [ev_x 4 q] S1 Q
    refine ev_astore dL_snowDepth_13 rfl (Nat.le_of_ble_eq_true rfl) (ev_hw rfl) ?_
    show ev_E g m_L_snowDepth 4 0 15 [some (ev_o 9 b0), some (ev_i x1), some (ev_i x2), some (ev_o 21 b3), some (ev_x 4 q)] [] S1 Q
    refine ev_iconst (1) dL_snowDepth_15 rfl ?_
    exact ev_ireturn .int dL_snowDepth_16 rfl rfl hQ
