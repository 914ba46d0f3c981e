set_option maxHeartbeats 4000000 in
set_option maxRecDepth 100000 in
theorem sg_X6_arrive_0 {g : ev_G} {S : ev_S} {Q : ev_O → ev_S → Prop} (a : Nat) (x0 : Int32) (x1 : Int32) (hQ : ∀ S1 : ev_S, S1 = (j_put S (a + 10) 84 x0 2) → (
    ∀ S2 : ev_S, S2 = (j_put S1 (a + 13) 84 x0 x1) → (
      ∀ S3 : ev_S, S3 = (ev_up S2 a 16 ((S2.1 a 16) + 1)) → (
        ∀ S4 : ev_S, S4 = (ev_up S3 a 17 ((S2.1 a 17) + (x1 - (j_at (S3.1 (a + 12)) 84 x0)))) → (
          ∀ S5 : ev_S, S5 = (j_put S4 (a + 4) 8 (((j_at (S4.1 (a + 9)) 84 x0) * 2) + (1 - (j_at (S4.1 (a + 5)) 84 x0))) ((j_at (S4.1 (a + 4)) 8 (((j_at (S4.1 (a + 9)) 84 x0) * 2) + (1 - (j_at (S4.1 (a + 5)) 84 x0)))) + 1)) → (
            ∀ S6 : ev_S, S6 = (j_put S5 (a + 15) 84 (S5.1 a 15) x0) → (
              ∀ S7 : ev_S, S7 = (ev_up S6 a 15 ((S6.1 a 15) + 1)) → (
                Q (.inl none) S7)))))))) : ev_Cv g m_X6_arrive 3 0 [ev_o 6 a, ev_i x0, ev_i x1] S Q := by
  refine ev_enter (by decide) rfl rfl (Nat.le_of_ble_eq_true rfl) ?_
  show ev_E g m_X6_arrive 3 0 0 [some (ev_o 6 a), some (ev_i x0), some (ev_i x1)] [] S Q
  refine ev_aload_n (ev_o 6 a) dX6_arrive_0 rfl rfl ?_
  refine gf_6_6 dX6_arrive_1 kw_335 ?_
  refine ev_iload_n (x0) dX6_arrive_4 rfl ?_
  refine ev_iconst (2) dX6_arrive_5 rfl ?_
  refine ev_fNn ms_X9_put 1 [ev_y 84 (a + 10), ev_i x0, ev_i 2] [] dX6_arrive_6 (List.mem_of_getElem? (i := 26) rfl) rfl (by decide) (Nat.le_of_ble_eq_true rfl) (sp_X9_put 84 (a + 10) x0 2) ?_ rfl
  refine ev_sub hQ (fun S1 hS1 hQ => ?_)
  refine ev_E.goal (pc' := 9) (L' := [some (ev_o 6 a), some (ev_i x0), some (ev_i x1)]) (K' := []) (S' := S1) ?_ rfl rfl rfl hS1
  refine ev_aload_n (ev_o 6 a) dX6_arrive_9 rfl rfl ?_
  refine gf_6_9 dX6_arrive_10 kw_338 ?_
  refine ev_iload_n (x0) dX6_arrive_13 rfl ?_
  refine ev_iload_n (x1) dX6_arrive_14 rfl ?_
  refine ev_fNn ms_X9_put 1 [ev_y 84 (a + 13), ev_i x0, ev_i x1] [] dX6_arrive_15 (List.mem_of_getElem? (i := 26) rfl) rfl (by decide) (Nat.le_of_ble_eq_true rfl) (sp_X9_put 84 (a + 13) x0 x1) ?_ rfl
  refine ev_sub hQ (fun S2 hS2 hQ => ?_)
  refine ev_E.goal (pc' := 18) (L' := [some (ev_o 6 a), some (ev_i x0), some (ev_i x1)]) (K' := []) (S' := S2) ?_ rfl rfl rfl hS2
  refine ev_aload_n (ev_o 6 a) dX6_arrive_18 rfl rfl ?_
  refine ev_dup dX6_arrive_19 rfl ?_
  refine gf_6_16 dX6_arrive_20 kw_345 ?_
  refine ev_iconst (1) dX6_arrive_23 rfl ?_
  refine ev_iadd dX6_arrive_24 ?_
  refine pf_6_16 dX6_arrive_25 kw_345 ?_
  refine ev_sub hQ (fun S3 hS3 hQ => ?_)
  refine ev_E.goal (pc' := 28) (L' := [some (ev_o 6 a), some (ev_i x0), some (ev_i x1)]) (K' := []) (S' := S3) ?_ rfl rfl rfl hS3
  refine ev_aload_n (ev_o 6 a) dX6_arrive_28 rfl rfl ?_
  refine ev_dup dX6_arrive_29 rfl ?_
  refine gf_6_17 dX6_arrive_30 kw_346 ?_
  refine ev_ke (j_rk hS3 (Or.inr (by decide))) ?_
  refine ev_iload_n (x1) dX6_arrive_33 rfl ?_
  refine ev_aload_n (ev_o 6 a) dX6_arrive_34 rfl rfl ?_
  refine gf_6_8 dX6_arrive_35 kw_337 ?_
  refine ev_iload_n (x0) dX6_arrive_38 rfl ?_
  refine ev_fN ms_X9_at 1 [ev_y 84 (a + 12), ev_i x0] [ev_i x1, ev_i (S2.1 a 17), ev_o 6 a] dX6_arrive_39 (List.mem_of_getElem? (i := 27) rfl) rfl (by decide) (Nat.le_of_ble_eq_true rfl) (sp_X9_at 84 (a + 12) x0) ?_ rfl
  refine ev_isub dX6_arrive_42 ?_
  refine ev_iadd dX6_arrive_43 ?_
  refine pf_6_17 dX6_arrive_44 kw_346 ?_
  refine ev_sub hQ (fun S4 hS4 hQ => ?_)
  refine ev_E.goal (pc' := 47) (L' := [some (ev_o 6 a), some (ev_i x0), some (ev_i x1)]) (K' := []) (S' := S4) ?_ rfl rfl rfl hS4
  refine ev_aload_n (ev_o 6 a) dX6_arrive_47 rfl rfl ?_
  refine gf_6_0 dX6_arrive_48 kw_329 ?_
  refine ev_aload_n (ev_o 6 a) dX6_arrive_51 rfl rfl ?_
  refine gf_6_5 dX6_arrive_52 kw_334 ?_
  refine ev_iload_n (x0) dX6_arrive_55 rfl ?_
  refine ev_fN ms_X9_at 1 [ev_y 84 (a + 9), ev_i x0] [ev_o 5 (a + 1)] dX6_arrive_56 (List.mem_of_getElem? (i := 27) rfl) rfl (by decide) (Nat.le_of_ble_eq_true rfl) (sp_X9_at 84 (a + 9) x0) ?_ rfl
  refine ev_iconst (1) dX6_arrive_59 rfl ?_
  refine ev_aload_n (ev_o 6 a) dX6_arrive_60 rfl rfl ?_
  refine ev_iload_n (x0) dX6_arrive_61 rfl ?_
  refine ev_fV mv_X6_writerOf 2 6 [ev_i x0] [ev_i 1, ev_i (j_at (S4.1 (a + 9)) 84 x0), ev_o 5 (a + 1)] dX6_arrive_62 kw_1026 rfl (by decide) rfl (by decide) (Nat.le_of_ble_eq_true rfl) (sp_X6_writerOf a x0) ?_ rfl
  refine ev_isub dX6_arrive_65 ?_
  refine ev_iconst (1) dX6_arrive_66 rfl ?_
  refine ev_fVn mv_X5_changeMules 2 5 [ev_i (j_at (S4.1 (a + 9)) 84 x0), ev_i (1 - (j_at (S4.1 (a + 5)) 84 x0)), ev_i 1] [] dX6_arrive_67 kw_1027 rfl (by decide) rfl (by decide) (Nat.le_of_ble_eq_true rfl) (sp_X5_changeMules (a + 1) (j_at (S4.1 (a + 9)) 84 x0) (1 - (j_at (S4.1 (a + 5)) 84 x0)) 1) ?_ rfl
  refine ev_sub hQ (fun S5 hS5 hQ => ?_)
  refine ev_E.goal (pc' := 70) (L' := [some (ev_o 6 a), some (ev_i x0), some (ev_i x1)]) (K' := []) (S' := S5) ?_ rfl rfl rfl hS5
  refine ev_aload_n (ev_o 6 a) dX6_arrive_70 rfl rfl ?_
  refine gf_6_11 dX6_arrive_71 kw_340 ?_
  refine ev_aload_n (ev_o 6 a) dX6_arrive_74 rfl rfl ?_
  refine gf_6_15 dX6_arrive_75 kw_344 ?_
  refine ev_iload_n (x0) dX6_arrive_78 rfl ?_
  refine ev_fNn ms_X9_put 1 [ev_y 84 (a + 15), ev_i (S5.1 a 15), ev_i x0] [] dX6_arrive_79 (List.mem_of_getElem? (i := 26) rfl) rfl (by decide) (Nat.le_of_ble_eq_true rfl) (sp_X9_put 84 (a + 15) (S5.1 a 15) x0) ?_ rfl
  refine ev_sub hQ (fun S6 hS6 hQ => ?_)
  refine ev_E.goal (pc' := 82) (L' := [some (ev_o 6 a), some (ev_i x0), some (ev_i x1)]) (K' := []) (S' := S6) ?_ rfl rfl rfl hS6
  refine ev_aload_n (ev_o 6 a) dX6_arrive_82 rfl rfl ?_
  refine ev_dup dX6_arrive_83 rfl ?_
  refine gf_6_15 dX6_arrive_84 kw_344 ?_
  refine ev_iconst (1) dX6_arrive_87 rfl ?_
  refine ev_iadd dX6_arrive_88 ?_
  refine pf_6_15 dX6_arrive_89 kw_344 ?_
  refine ev_sub hQ (fun S7 hS7 hQ => ?_)
  refine ev_E.goal (pc' := 92) (L' := [some (ev_o 6 a), some (ev_i x0), some (ev_i x1)]) (K' := []) (S' := S7) ?_ rfl rfl rfl hS7
  exact ev_return dX6_arrive_92 rfl hQ
set_option maxHeartbeats 4000000 in
set_option maxRecDepth 100000 in
theorem sg_X5_daysOver_0 {g : ev_G} {S : ev_S} {Q : ev_O → ev_S → Prop} (a : Nat) (x0 : Int32) (x1 : Int32) (hQ : ((j_at (S.1 (a + 2)) 48 ((x0 * 12) + x1)) < 9 → (
    Q (.inl (some (ev_i ((j_at (S.1 (a + 1)) 4 x0) + (j_at (S.1 (a + 2)) 48 ((x0 * 12) + x1)))))) S)) ∧
  (¬ ((j_at (S.1 (a + 2)) 48 ((x0 * 12) + x1)) < 9) → (
    Q (.inl (some (ev_i (-1)))) S))) : ev_Cv g m_X5_daysOver 3 0 [ev_o 5 a, ev_i x0, ev_i x1] S Q := by
  refine ev_enter (by decide) rfl rfl (Nat.le_of_ble_eq_true rfl) ?_
  show ev_E g m_X5_daysOver 3 0 0 [some (ev_o 5 a), some (ev_i x0), some (ev_i x1), none] [] S Q
  refine ev_aload_n (ev_o 5 a) dX5_daysOver_0 rfl rfl ?_
  refine ev_iload_n (x0) dX5_daysOver_1 rfl ?_
  refine ev_iload_n (x1) dX5_daysOver_2 rfl ?_
  refine ev_fV mv_X5_snowIn 2 5 [ev_i x0, ev_i x1] [] dX5_daysOver_3 kw_644 rfl (by decide) rfl (by decide) (Nat.le_of_ble_eq_true rfl) (sp_X5_snowIn a x0 x1) ?_ rfl
  refine ev_istore_n dX5_daysOver_6 (Nat.le_of_ble_eq_true rfl) (ev_hw rfl) ?_
  show ev_E g m_X5_daysOver 3 0 7 [some (ev_o 5 a), some (ev_i x0), some (ev_i x1), some (ev_i (j_at (S.1 (a + 2)) 48 ((x0 * 12) + x1)))] [] S Q
  refine ev_iload_n ((j_at (S.1 (a + 2)) 48 ((x0 * 12) + x1))) dX5_daysOver_7 rfl ?_
  refine ev_bipush (9) dX5_daysOver_8 (by decide) ?_
  refine ev_icmp_lt 17 dX5_daysOver_10 (by decide) (fun c1 => ?_) (fun c1 => ?_)
  · replace hQ := hQ.1 c1
    refine ev_aload_n (ev_o 5 a) dX5_daysOver_17 rfl rfl ?_
    refine gf_5_0 dX5_daysOver_18 kw_313 ?_
    refine ev_iload_n (x0) dX5_daysOver_21 rfl ?_
    refine ev_fN ms_X9_at 1 [ev_y 4 (a + 1), ev_i x0] [] dX5_daysOver_22 (List.mem_of_getElem? (i := 14) rfl) rfl (by decide) (Nat.le_of_ble_eq_true rfl) (sp_X9_at 4 (a + 1) x0) ?_ rfl
    refine ev_iload_n ((j_at (S.1 (a + 2)) 48 ((x0 * 12) + x1))) dX5_daysOver_25 rfl ?_
    refine ev_iadd dX5_daysOver_26 ?_
    exact ev_ireturn .int dX5_daysOver_27 rfl rfl hQ
  · replace hQ := hQ.2 c1
    refine ev_iconst (-1) dX5_daysOver_13 rfl ?_
    refine ev_goto 27 dX5_daysOver_14 (by decide) ?_
    exact ev_ireturn .int dX5_daysOver_27 rfl rfl hQ
def f_X5_daysOver (S : ev_S) (a : Nat) (x0 : Int32) (x1 : Int32) : Int32 := if (j_at (S.1 (a + 2)) 48 ((x0 * 12) + x1)) < 9 then (((j_at (S.1 (a + 1)) 4 x0) + (j_at (S.1 (a + 2)) 48 ((x0 * 12) + x1)))) else ((-1))
set_option maxHeartbeats 4000000 in
set_option maxRecDepth 100000 in
theorem sp_X5_daysOver {g : ev_G} {S : ev_S} (a : Nat) (x0 : Int32) (x1 : Int32)  : ev_Fn g m_X5_daysOver 3 [ev_o 5 a, ev_i x0, ev_i x1] S (some (ev_i (f_X5_daysOver S a x0 x1))) S := by
  intro Q hQ
  refine sg_X5_daysOver_0 a x0 x1 ?_
  unfold f_X5_daysOver at hQ
  refine ⟨fun c1 => ?_, fun c1 => ?_⟩
  · rw [if_pos c1] at hQ
    exact hQ
  · rw [if_neg c1] at hQ
    exact hQ
set_option maxHeartbeats 4000000 in
set_option maxRecDepth 100000 in
theorem sg_X6_waitingAt_0 {g : ev_G} {S : ev_S} {Q : ev_O → ev_S → Prop} (a : Nat) (x0 : Int32) (x1 : Int32) (hQ : Q (.inl (some (ev_i (j_at (S.1 (a + 16)) 8 ((x0 * 2) + x1))))) S) : ev_Cv g m_X6_waitingAt 2 0 [ev_o 6 a, ev_i x0, ev_i x1] S Q := by
  refine ev_enter (by decide) rfl rfl (Nat.le_of_ble_eq_true rfl) ?_
  show ev_E g m_X6_waitingAt 2 0 0 [some (ev_o 6 a), some (ev_i x0), some (ev_i x1)] [] S Q
  refine ev_aload_n (ev_o 6 a) dX6_waitingAt_0 rfl rfl ?_
  refine gf_6_12 dX6_waitingAt_1 kw_341 ?_
  refine ev_iload_n (x0) dX6_waitingAt_4 rfl ?_
  refine ev_iconst (2) dX6_waitingAt_5 rfl ?_
  refine ev_imul dX6_waitingAt_6 ?_
  refine ev_iload_n (x1) dX6_waitingAt_7 rfl ?_
  refine ev_iadd dX6_waitingAt_8 ?_
  refine ev_fN ms_X9_at 1 [ev_y 8 (a + 16), ev_i ((x0 * 2) + x1)] [] dX6_waitingAt_9 (List.mem_of_getElem? (i := 27) rfl) rfl (by decide) (Nat.le_of_ble_eq_true rfl) (sp_X9_at 8 (a + 16) ((x0 * 2) + x1)) ?_ rfl
  exact ev_ireturn .int dX6_waitingAt_12 rfl rfl hQ
set_option maxHeartbeats 4000000 in
set_option maxRecDepth 100000 in
theorem sp_X6_waitingAt {g : ev_G} {S : ev_S} (a : Nat) (x0 : Int32) (x1 : Int32)  : ev_Fn g m_X6_waitingAt 2 [ev_o 6 a, ev_i x0, ev_i x1] S (some (ev_i (j_at (S.1 (a + 16)) 8 ((x0 * 2) + x1)))) S := by
  intro Q hQ
  refine sg_X6_waitingAt_0 a x0 x1 ?_
  exact hQ
set_option maxHeartbeats 4000000 in
set_option maxRecDepth 100000 in
theorem sg_X5_mulesAt_0 {g : ev_G} {S : ev_S} {Q : ev_O → ev_S → Prop} (a : Nat) (x0 : Int32) (x1 : Int32) (hQ : Q (.inl (some (ev_i (j_at (S.1 (a + 3)) 8 ((x0 * 2) + x1))))) S) : ev_Cv g m_X5_mulesAt 2 0 [ev_o 5 a, ev_i x0, ev_i x1] S Q := by
  refine ev_enter (by decide) rfl rfl (Nat.le_of_ble_eq_true rfl) ?_
  show ev_E g m_X5_mulesAt 2 0 0 [some (ev_o 5 a), some (ev_i x0), some (ev_i x1)] [] S Q
  refine ev_aload_n (ev_o 5 a) dX5_mulesAt_0 rfl rfl ?_
  refine gf_5_2 dX5_mulesAt_1 kw_315 ?_
  refine ev_iload_n (x0) dX5_mulesAt_4 rfl ?_
  refine ev_iconst (2) dX5_mulesAt_5 rfl ?_
  refine ev_imul dX5_mulesAt_6 ?_
  refine ev_iload_n (x1) dX5_mulesAt_7 rfl ?_
  refine ev_iadd dX5_mulesAt_8 ?_
  refine ev_fN ms_X9_at 1 [ev_y 8 (a + 3), ev_i ((x0 * 2) + x1)] [] dX5_mulesAt_9 (List.mem_of_getElem? (i := 14) rfl) rfl (by decide) (Nat.le_of_ble_eq_true rfl) (sp_X9_at 8 (a + 3) ((x0 * 2) + x1)) ?_ rfl
  exact ev_ireturn .int dX5_mulesAt_12 rfl rfl hQ
set_option maxHeartbeats 4000000 in
set_option maxRecDepth 100000 in
theorem sp_X5_mulesAt {g : ev_G} {S : ev_S} (a : Nat) (x0 : Int32) (x1 : Int32)  : ev_Fn g m_X5_mulesAt 2 [ev_o 5 a, ev_i x0, ev_i x1] S (some (ev_i (j_at (S.1 (a + 3)) 8 ((x0 * 2) + x1)))) S := by
  intro Q hQ
  refine sg_X5_mulesAt_0 a x0 x1 ?_
  exact hQ
set_option maxHeartbeats 4000000 in
set_option maxRecDepth 100000 in
theorem sg_X6_stateOf_0 {g : ev_G} {S : ev_S} {Q : ev_O → ev_S → Prop} (a : Nat) (x0 : Int32) (hQ : Q (.inl (some (ev_i (j_at (S.1 (a + 10)) 84 x0)))) S) : ev_Cv g m_X6_stateOf 2 0 [ev_o 6 a, ev_i x0] S Q := by
  refine ev_enter (by decide) rfl rfl (Nat.le_of_ble_eq_true rfl) ?_
  show ev_E g m_X6_stateOf 2 0 0 [some (ev_o 6 a), some (ev_i x0)] [] S Q
  refine ev_aload_n (ev_o 6 a) dX6_stateOf_0 rfl rfl ?_
  refine gf_6_6 dX6_stateOf_1 kw_335 ?_
  refine ev_iload_n (x0) dX6_stateOf_4 rfl ?_
  refine ev_fN ms_X9_at 1 [ev_y 84 (a + 10), ev_i x0] [] dX6_stateOf_5 (List.mem_of_getElem? (i := 27) rfl) rfl (by decide) (Nat.le_of_ble_eq_true rfl) (sp_X9_at 84 (a + 10) x0) ?_ rfl
  exact ev_ireturn .int dX6_stateOf_8 rfl rfl hQ
set_option maxHeartbeats 4000000 in
set_option maxRecDepth 100000 in
theorem sp_X6_stateOf {g : ev_G} {S : ev_S} (a : Nat) (x0 : Int32)  : ev_Fn g m_X6_stateOf 2 [ev_o 6 a, ev_i x0] S (some (ev_i (j_at (S.1 (a + 10)) 84 x0))) S := by
  intro Q hQ
  refine sg_X6_stateOf_0 a x0 ?_
  exact hQ
set_option maxHeartbeats 4000000 in
set_option maxRecDepth 100000 in
theorem sg_X6_sendOff_0 {g : ev_G} {S : ev_S} {Q : ev_O → ev_S → Prop} (a : Nat) (x0 : Int32) (x1 : Int32) (x2 : Int32) (hQ : ev_E g m_X6_sendOff 3 0 3 [some (ev_o 6 a), some (ev_i x0), some (ev_i x1), some (ev_i x2), some (ev_i 0)] [] S Q) : ev_Cv g m_X6_sendOff 3 0 [ev_o 6 a, ev_i x0, ev_i x1, ev_i x2] S Q := by
  refine ev_enter (by decide) rfl rfl (Nat.le_of_ble_eq_true rfl) ?_
  show ev_E g m_X6_sendOff 3 0 0 [some (ev_o 6 a), some (ev_i x0), some (ev_i x1), some (ev_i x2), none] [] S Q
  refine ev_iconst (0) dX6_sendOff_0 rfl ?_
  refine ev_istore dX6_sendOff_1 (Nat.le_of_ble_eq_true rfl) (ev_hw rfl) ?_
  show ev_E g m_X6_sendOff 3 0 3 [some (ev_o 6 a), some (ev_i x0), some (ev_i x1), some (ev_i x2), some (ev_i 0)] [] S Q
  exact hQ
set_option maxHeartbeats 4000000 in
set_option maxRecDepth 100000 in
theorem sg_X6_sendOff_3 {g : ev_G} {S : ev_S} {Q : ev_O → ev_S → Prop} (a : Nat) (u1 : Int32) (u2 : Int32) (u3 : Int32) (u4 : Int32) (hQ : ((S.1 a 13) ≤ u4 → (
    Q (.inl none) S)) ∧
  (¬ ((S.1 a 13) ≤ u4) → (
    ((j_at (S.1 (a + 16)) 8 ((u1 * 2) + u2)) ≤ 0 → (
      Q (.inl none) S)) ∧
    (¬ ((j_at (S.1 (a + 16)) 8 ((u1 * 2) + u2)) ≤ 0) → (
      (0 < (j_at (S.1 (a + 4)) 8 ((u1 * 2) + u2)) → (
        ((j_at (S.1 (a + 10)) 84 u4) = 0 → (
          ((j_at (S.1 (a + 9)) 84 u4) = u1 → (
            ((j_at (S.1 (a + 5)) 84 u4) = u2 → (
              ∀ S1 : ev_S, S1 = (j_put S (a + 10) 84 u4 1) → (
                ∀ S2 : ev_S, S2 = (j_put S1 (a + 11) 84 u4 u3) → (
                  ∀ S3 : ev_S, S3 = (j_put S2 (a + 14) 84 (S2.1 a 14) u4) → (
                    ∀ S4 : ev_S, S4 = (ev_up S3 a 14 ((S3.1 a 14) + 1)) → (
                      ∀ S5 : ev_S, S5 = (j_put S4 (a + 16) 8 ((u1 * 2) + u2) ((j_at (S4.1 (a + 16)) 8 ((u1 * 2) + u2)) + (-1))) → (
                        ∀ S6 : ev_S, S6 = (j_put S5 (a + 4) 8 ((u1 * 2) + u2) ((j_at (S5.1 (a + 4)) 8 ((u1 * 2) + u2)) + (-1))) → (
                          ev_E g m_X6_sendOff 3 0 3 [some (ev_o 6 a), some (ev_i u1), some (ev_i u2), some (ev_i u3), some (ev_i (u4 + 1))] [] S6 Q)))))))) ∧
            (¬ ((j_at (S.1 (a + 5)) 84 u4) = u2) → (
              ev_E g m_X6_sendOff 3 0 3 [some (ev_o 6 a), some (ev_i u1), some (ev_i u2), some (ev_i u3), some (ev_i (u4 + 1))] [] S Q)))) ∧
          (¬ ((j_at (S.1 (a + 9)) 84 u4) = u1) → (
            ev_E g m_X6_sendOff 3 0 3 [some (ev_o 6 a), some (ev_i u1), some (ev_i u2), some (ev_i u3), some (ev_i (u4 + 1))] [] S Q)))) ∧
        (¬ ((j_at (S.1 (a + 10)) 84 u4) = 0) → (
          ev_E g m_X6_sendOff 3 0 3 [some (ev_o 6 a), some (ev_i u1), some (ev_i u2), some (ev_i u3), some (ev_i (u4 + 1))] [] S Q)))) ∧
      (¬ (0 < (j_at (S.1 (a + 4)) 8 ((u1 * 2) + u2))) → (
        Q (.inl none) S))))))) : ev_E g m_X6_sendOff 3 0 3 [some (ev_o 6 a), some (ev_i u1), some (ev_i u2), some (ev_i u3), some (ev_i u4)] [] S Q := by
  refine ev_iload (u4) dX6_sendOff_3 rfl ?_
  refine ev_aload_n (ev_o 6 a) dX6_sendOff_5 rfl rfl ?_
  refine gf_6_13 dX6_sendOff_6 kw_342 ?_
  refine ev_icmp_ge 132 dX6_sendOff_9 (by decide) (fun c1 => ?_) (fun c1 => ?_)
  · replace hQ := hQ.1 c1
    exact ev_return dX6_sendOff_132 rfl hQ
  · replace hQ := hQ.2 c1
    refine ev_aload_n (ev_o 6 a) dX6_sendOff_12 rfl rfl ?_
    refine ev_iload_n (u1) dX6_sendOff_13 rfl ?_
    refine ev_iload_n (u2) dX6_sendOff_14 rfl ?_
    refine ev_fV mv_X6_waitingAt 2 6 [ev_i u1, ev_i u2] [] dX6_sendOff_15 kw_1040 rfl (by decide) rfl (by decide) (Nat.le_of_ble_eq_true rfl) (sp_X6_waitingAt a u1 u2) ?_ rfl
    refine ev_if_le 33 dX6_sendOff_18 (by decide) (fun c2 => ?_) (fun c2 => ?_)
    · replace hQ := hQ.1 c2
      exact ev_return dX6_sendOff_33 rfl hQ
    · replace hQ := hQ.2 c2
      refine ev_aload_n (ev_o 6 a) dX6_sendOff_21 rfl rfl ?_
      refine gf_6_0 dX6_sendOff_22 kw_329 ?_
      refine ev_iload_n (u1) dX6_sendOff_25 rfl ?_
      refine ev_iload_n (u2) dX6_sendOff_26 rfl ?_
      refine ev_fV mv_X5_mulesAt 2 5 [ev_i u1, ev_i u2] [] dX6_sendOff_27 kw_1044 rfl (by decide) rfl (by decide) (Nat.le_of_ble_eq_true rfl) (sp_X5_mulesAt (a + 1) u1 u2) ?_ rfl
      refine ev_if_gt 34 dX6_sendOff_30 (by decide) (fun c3 => ?_) (fun c3 => ?_)
      · replace hQ := hQ.1 c3
        refine ev_aload_n (ev_o 6 a) dX6_sendOff_34 rfl rfl ?_
        refine ev_iload (u4) dX6_sendOff_35 rfl ?_
        refine ev_fV mv_X6_stateOf 2 6 [ev_i u4] [] dX6_sendOff_37 kw_1048 rfl (by decide) rfl (by decide) (Nat.le_of_ble_eq_true rfl) (sp_X6_stateOf a u4) ?_ rfl
        refine ev_if_ne 126 dX6_sendOff_40 (by decide) (fun c4 => ?_) (fun c4 => ?_)
        · replace hQ := hQ.2 c4
          refine ev_iinc u4 (1) dX6_sendOff_126 rfl (by decide) (ev_hw rfl) ?_
          show ev_E g m_X6_sendOff 3 0 129 [some (ev_o 6 a), some (ev_i u1), some (ev_i u2), some (ev_i u3), some (ev_i (u4 + 1))] [] S Q
          refine ev_goto 3 dX6_sendOff_129 (by decide) ?_
          exact hQ
        · replace hQ := hQ.1 c4
          refine ev_aload_n (ev_o 6 a) dX6_sendOff_43 rfl rfl ?_
          refine gf_6_5 dX6_sendOff_44 kw_334 ?_
          refine ev_iload (u4) dX6_sendOff_47 rfl ?_
          refine ev_fN ms_X9_at 1 [ev_y 84 (a + 9), ev_i u4] [] dX6_sendOff_49 (List.mem_of_getElem? (i := 27) rfl) rfl (by decide) (Nat.le_of_ble_eq_true rfl) (sp_X9_at 84 (a + 9) u4) ?_ rfl
          refine ev_iload_n (u1) dX6_sendOff_52 rfl ?_
          refine ev_icmp_ne 126 dX6_sendOff_53 (by decide) (fun c5 => ?_) (fun c5 => ?_)
          · replace hQ := hQ.2 c5
            refine ev_iinc u4 (1) dX6_sendOff_126 rfl (by decide) (ev_hw rfl) ?_
            show ev_E g m_X6_sendOff 3 0 129 [some (ev_o 6 a), some (ev_i u1), some (ev_i u2), some (ev_i u3), some (ev_i (u4 + 1))] [] S Q
            refine ev_goto 3 dX6_sendOff_129 (by decide) ?_
            exact hQ
          · replace hQ := hQ.1 c5
            refine ev_aload_n (ev_o 6 a) dX6_sendOff_56 rfl rfl ?_
            refine ev_iload (u4) dX6_sendOff_57 rfl ?_
            refine ev_fV mv_X6_writerOf 2 6 [ev_i u4] [] dX6_sendOff_59 kw_1026 rfl (by decide) rfl (by decide) (Nat.le_of_ble_eq_true rfl) (sp_X6_writerOf a u4) ?_ rfl
            refine ev_iload_n (u2) dX6_sendOff_62 rfl ?_
            refine ev_icmp_ne 126 dX6_sendOff_63 (by decide) (fun c6 => ?_) (fun c6 => ?_)
            · replace hQ := hQ.2 c6
              refine ev_iinc u4 (1) dX6_sendOff_126 rfl (by decide) (ev_hw rfl) ?_
              show ev_E g m_X6_sendOff 3 0 129 [some (ev_o 6 a), some (ev_i u1), some (ev_i u2), some (ev_i u3), some (ev_i (u4 + 1))] [] S Q
              refine ev_goto 3 dX6_sendOff_129 (by decide) ?_
              exact hQ
            · replace hQ := hQ.1 c6
              refine ev_aload_n (ev_o 6 a) dX6_sendOff_66 rfl rfl ?_
              refine gf_6_6 dX6_sendOff_67 kw_335 ?_
              refine ev_iload (u4) dX6_sendOff_70 rfl ?_
              refine ev_iconst (1) dX6_sendOff_72 rfl ?_
              refine ev_fNn ms_X9_put 1 [ev_y 84 (a + 10), ev_i u4, ev_i 1] [] dX6_sendOff_73 (List.mem_of_getElem? (i := 26) rfl) rfl (by decide) (Nat.le_of_ble_eq_true rfl) (sp_X9_put 84 (a + 10) u4 1) ?_ rfl
              refine ev_sub hQ (fun S1 hS1 hQ => ?_)
              refine ev_E.goal (pc' := 76) (L' := [some (ev_o 6 a), some (ev_i u1), some (ev_i u2), some (ev_i u3), some (ev_i u4)]) (K' := []) (S' := S1) ?_ rfl rfl rfl hS1
              refine ev_aload_n (ev_o 6 a) dX6_sendOff_76 rfl rfl ?_
              refine gf_6_7 dX6_sendOff_77 kw_336 ?_
              refine ev_iload (u4) dX6_sendOff_80 rfl ?_
              refine ev_iload_n (u3) dX6_sendOff_82 rfl ?_
              refine ev_fNn ms_X9_put 1 [ev_y 84 (a + 11), ev_i u4, ev_i u3] [] dX6_sendOff_83 (List.mem_of_getElem? (i := 26) rfl) rfl (by decide) (Nat.le_of_ble_eq_true rfl) (sp_X9_put 84 (a + 11) u4 u3) ?_ rfl
              refine ev_sub hQ (fun S2 hS2 hQ => ?_)
              refine ev_E.goal (pc' := 86) (L' := [some (ev_o 6 a), some (ev_i u1), some (ev_i u2), some (ev_i u3), some (ev_i u4)]) (K' := []) (S' := S2) ?_ rfl rfl rfl hS2
              refine ev_aload_n (ev_o 6 a) dX6_sendOff_86 rfl rfl ?_
              refine gf_6_10 dX6_sendOff_87 kw_339 ?_
              refine ev_aload_n (ev_o 6 a) dX6_sendOff_90 rfl rfl ?_
              refine gf_6_14 dX6_sendOff_91 kw_343 ?_
              refine ev_iload (u4) dX6_sendOff_94 rfl ?_
              refine ev_fNn ms_X9_put 1 [ev_y 84 (a + 14), ev_i (S2.1 a 14), ev_i u4] [] dX6_sendOff_96 (List.mem_of_getElem? (i := 26) rfl) rfl (by decide) (Nat.le_of_ble_eq_true rfl) (sp_X9_put 84 (a + 14) (S2.1 a 14) u4) ?_ rfl
              refine ev_sub hQ (fun S3 hS3 hQ => ?_)
              refine ev_E.goal (pc' := 99) (L' := [some (ev_o 6 a), some (ev_i u1), some (ev_i u2), some (ev_i u3), some (ev_i u4)]) (K' := []) (S' := S3) ?_ rfl rfl rfl hS3
              refine ev_aload_n (ev_o 6 a) dX6_sendOff_99 rfl rfl ?_
              refine ev_dup dX6_sendOff_100 rfl ?_
              refine gf_6_14 dX6_sendOff_101 kw_343 ?_
              refine ev_iconst (1) dX6_sendOff_104 rfl ?_
              refine ev_iadd dX6_sendOff_105 ?_
              refine pf_6_14 dX6_sendOff_106 kw_343 ?_
              refine ev_sub hQ (fun S4 hS4 hQ => ?_)
              refine ev_E.goal (pc' := 109) (L' := [some (ev_o 6 a), some (ev_i u1), some (ev_i u2), some (ev_i u3), some (ev_i u4)]) (K' := []) (S' := S4) ?_ rfl rfl rfl hS4
              refine ev_aload_n (ev_o 6 a) dX6_sendOff_109 rfl rfl ?_
              refine ev_iload_n (u1) dX6_sendOff_110 rfl ?_
              refine ev_iload_n (u2) dX6_sendOff_111 rfl ?_
              refine ev_iconst (-1) dX6_sendOff_112 rfl ?_
              refine ev_fVn mv_X6_changeWaiting 2 6 [ev_i u1, ev_i u2, ev_i (-1)] [] dX6_sendOff_113 kw_924 rfl (by decide) rfl (by decide) (Nat.le_of_ble_eq_true rfl) (sp_X6_changeWaiting a u1 u2 (-1)) ?_ rfl
              refine ev_sub hQ (fun S5 hS5 hQ => ?_)
              refine ev_E.goal (pc' := 116) (L' := [some (ev_o 6 a), some (ev_i u1), some (ev_i u2), some (ev_i u3), some (ev_i u4)]) (K' := []) (S' := S5) ?_ rfl rfl rfl hS5
              refine ev_aload_n (ev_o 6 a) dX6_sendOff_116 rfl rfl ?_
              refine gf_6_0 dX6_sendOff_117 kw_329 ?_
              refine ev_iload_n (u1) dX6_sendOff_120 rfl ?_
              refine ev_iload_n (u2) dX6_sendOff_121 rfl ?_
              refine ev_iconst (-1) dX6_sendOff_122 rfl ?_
              refine ev_fVn mv_X5_changeMules 2 5 [ev_i u1, ev_i u2, ev_i (-1)] [] dX6_sendOff_123 kw_1027 rfl (by decide) rfl (by decide) (Nat.le_of_ble_eq_true rfl) (sp_X5_changeMules (a + 1) u1 u2 (-1)) ?_ rfl
              refine ev_sub hQ (fun S6 hS6 hQ => ?_)
              refine ev_E.goal (pc' := 126) (L' := [some (ev_o 6 a), some (ev_i u1), some (ev_i u2), some (ev_i u3), some (ev_i u4)]) (K' := []) (S' := S6) ?_ rfl rfl rfl hS6
              refine ev_iinc u4 (1) dX6_sendOff_126 rfl (by decide) (ev_hw rfl) ?_
              show ev_E g m_X6_sendOff 3 0 129 [some (ev_o 6 a), some (ev_i u1), some (ev_i u2), some (ev_i u3), some (ev_i (u4 + 1))] [] S6 Q
              refine ev_goto 3 dX6_sendOff_129 (by decide) ?_
              exact hQ
      · replace hQ := hQ.2 c3
        exact ev_return dX6_sendOff_33 rfl hQ
set_option maxHeartbeats 4000000 in
set_option maxRecDepth 100000 in
theorem sg_X6_passDay_0 {g : ev_G} {S : ev_S} {Q : ev_O → ev_S → Prop} (a : Nat) (x0 : Int32) (hQ : ∀ S1 : ev_S, S1 = (ev_up S a 15 0) → (
    ev_E g m_X6_passDay 4 0 15 [some (ev_o 6 a), some (ev_i x0), some (ev_i (ev_rem (x0 / 30) 12)), some (ev_i 0), some (ev_i 0), none, none] [] S1 Q)) : ev_Cv g m_X6_passDay 4 0 [ev_o 6 a, ev_i x0] S Q := by
  refine ev_enter (by decide) rfl rfl (Nat.le_of_ble_eq_true rfl) ?_
  show ev_E g m_X6_passDay 4 0 0 [some (ev_o 6 a), some (ev_i x0), none, none, none, none, none] [] S Q
  refine ev_iload_n (x0) dX6_passDay_0 rfl ?_
  refine ev_fN ms_X9_monthOf 1 [ev_i x0] [] dX6_passDay_1 (List.mem_of_getElem? (i := 30) rfl) rfl (by decide) (Nat.le_of_ble_eq_true rfl) (sp_X9_monthOf x0) ?_ rfl
  refine ev_istore_n dX6_passDay_4 (Nat.le_of_ble_eq_true rfl) (ev_hw rfl) ?_
  show ev_E g m_X6_passDay 4 0 5 [some (ev_o 6 a), some (ev_i x0), some (ev_i (ev_rem (x0 / 30) 12)), none, none, none, none] [] S Q
  refine ev_iconst (0) dX6_passDay_5 rfl ?_
  refine ev_istore_n dX6_passDay_6 (Nat.le_of_ble_eq_true rfl) (ev_hw rfl) ?_
  show ev_E g m_X6_passDay 4 0 7 [some (ev_o 6 a), some (ev_i x0), some (ev_i (ev_rem (x0 / 30) 12)), some (ev_i 0), none, none, none] [] S Q
  refine ev_aload_n (ev_o 6 a) dX6_passDay_7 rfl rfl ?_
  refine ev_iconst (0) dX6_passDay_8 rfl ?_
  refine pf_6_15 dX6_passDay_9 kw_344 ?_
  refine ev_sub hQ (fun S1 hS1 hQ => ?_)
  refine ev_E.goal (pc' := 12) (L' := [some (ev_o 6 a), some (ev_i x0), some (ev_i (ev_rem (x0 / 30) 12)), some (ev_i 0), none, none, none]) (K' := []) (S' := S1) ?_ rfl rfl rfl hS1
  refine ev_iconst (0) dX6_passDay_12 rfl ?_
  refine ev_istore dX6_passDay_13 (Nat.le_of_ble_eq_true rfl) (ev_hw rfl) ?_
  show ev_E g m_X6_passDay 4 0 15 [some (ev_o 6 a), some (ev_i x0), some (ev_i (ev_rem (x0 / 30) 12)), some (ev_i 0), some (ev_i 0), none, none] [] S1 Q
  exact hQ
set_option maxHeartbeats 4000000 in
set_option maxRecDepth 100000 in
theorem sg_X6_passDay_15 {g : ev_G} {S : ev_S} {Q : ev_O → ev_S → Prop} (a : Nat) (u1 : Int32) (u2 : Int32) (u3 : Int32) (u4 : Int32) (hQ : ((S.1 a 14) ≤ u4 → (
    ∀ S1 : ev_S, S1 = (ev_up S a 14 u3) → (
      ev_E g m_X6_passDay 4 0 122 [some (ev_o 6 a), none, some (ev_i u2), none, some (ev_i 0), none, none] [] S1 Q))) ∧
  (¬ ((S.1 a 14) ≤ u4) → (
    ((j_at (S.1 (a + 3)) 48 (((j_at (S.1 (a + 9)) 84 (j_at (S.1 (a + 14)) 84 u4)) * 12) + u2)) < 9 → (
      ∀ S2 : ev_S, S2 = (j_put S (a + 11) 84 (j_at (S.1 (a + 14)) 84 u4) ((j_at (S.1 (a + 11)) 84 (j_at (S.1 (a + 14)) 84 u4)) + (-1))) → (
        (((j_at (S.1 (a + 11)) 84 (j_at (S.1 (a + 14)) 84 u4)) + (-1)) = 0 → (
          ev_Cv g m_X6_arrive 3 0 [ev_o 6 a, ev_i (j_at (S.1 (a + 14)) 84 u4), ev_i u1] S2 (fun o S4 => o = .inl none ∧ (
            ev_E g m_X6_passDay 4 0 15 [some (ev_o 6 a), some (ev_i u1), some (ev_i u2), some (ev_i u3), some (ev_i (u4 + 1)), none, none] [] S4 Q)))) ∧
        (¬ (((j_at (S.1 (a + 11)) 84 (j_at (S.1 (a + 14)) 84 u4)) + (-1)) = 0) → (
          ∀ S3 : ev_S, S3 = (j_put S2 (a + 14) 84 u3 (j_at (S.1 (a + 14)) 84 u4)) → (
            ev_E g m_X6_passDay 4 0 15 [some (ev_o 6 a), some (ev_i u1), some (ev_i u2), some (ev_i (u3 + 1)), some (ev_i (u4 + 1)), none, none] [] S3 Q)))))) ∧
    (¬ ((j_at (S.1 (a + 3)) 48 (((j_at (S.1 (a + 9)) 84 (j_at (S.1 (a + 14)) 84 u4)) * 12) + u2)) < 9) → (
      ((j_at (S.1 (a + 11)) 84 (j_at (S.1 (a + 14)) 84 u4)) = 0 → (
        ev_Cv g m_X6_arrive 3 0 [ev_o 6 a, ev_i (j_at (S.1 (a + 14)) 84 u4), ev_i u1] S (fun o S6 => o = .inl none ∧ (
          ev_E g m_X6_passDay 4 0 15 [some (ev_o 6 a), some (ev_i u1), some (ev_i u2), some (ev_i u3), some (ev_i (u4 + 1)), none, none] [] S6 Q)))) ∧
      (¬ ((j_at (S.1 (a + 11)) 84 (j_at (S.1 (a + 14)) 84 u4)) = 0) → (
        ∀ S5 : ev_S, S5 = (j_put S (a + 14) 84 u3 (j_at (S.1 (a + 14)) 84 u4)) → (
          ev_E g m_X6_passDay 4 0 15 [some (ev_o 6 a), some (ev_i u1), some (ev_i u2), some (ev_i (u3 + 1)), some (ev_i (u4 + 1)), none, none] [] S5 Q)))))))) : ev_E g m_X6_passDay 4 0 15 [some (ev_o 6 a), some (ev_i u1), some (ev_i u2), some (ev_i u3), some (ev_i u4), none, none] [] S Q := by
  refine ev_iload (u4) dX6_passDay_15 rfl ?_
  refine ev_aload_n (ev_o 6 a) dX6_passDay_17 rfl rfl ?_
  refine gf_6_14 dX6_passDay_18 kw_343 ?_
  refine ev_icmp_ge 114 dX6_passDay_21 (by decide) (fun c1 => ?_) (fun c1 => ?_)
  · replace hQ := hQ.1 c1
    refine ev_aload_n (ev_o 6 a) dX6_passDay_114 rfl rfl ?_
    refine ev_iload_n (u3) dX6_passDay_115 rfl ?_
    refine pf_6_14 dX6_passDay_116 kw_343 ?_
    refine ev_sub hQ (fun S1 hS1 hQ => ?_)
    refine ev_E.goal (pc' := 119) (L' := [some (ev_o 6 a), some (ev_i u1), some (ev_i u2), some (ev_i u3), some (ev_i u4), none, none]) (K' := []) (S' := S1) ?_ rfl rfl rfl hS1
    refine ev_iconst (0) dX6_passDay_119 rfl ?_
    refine ev_istore dX6_passDay_120 (Nat.le_of_ble_eq_true rfl) (ev_hw rfl) ?_
    show ev_E g m_X6_passDay 4 0 122 [some (ev_o 6 a), some (ev_i u1), some (ev_i u2), some (ev_i u3), some (ev_i 0), none, none] [] S1 Q
    refine ev_fgm [true, false, true, false, true, false, false] ?_
    exact hQ
  · replace hQ := hQ.2 c1
    refine ev_aload_n (ev_o 6 a) dX6_passDay_24 rfl rfl ?_
    refine gf_6_10 dX6_passDay_25 kw_339 ?_
    refine ev_iload (u4) dX6_passDay_28 rfl ?_
    refine ev_fN ms_X9_at 1 [ev_y 84 (a + 14), ev_i u4] [] dX6_passDay_30 (List.mem_of_getElem? (i := 27) rfl) rfl (by decide) (Nat.le_of_ble_eq_true rfl) (sp_X9_at 84 (a + 14) u4) ?_ rfl
    refine ev_istore dX6_passDay_33 (Nat.le_of_ble_eq_true rfl) (ev_hw rfl) ?_
    show ev_E g m_X6_passDay 4 0 35 [some (ev_o 6 a), some (ev_i u1), some (ev_i u2), some (ev_i u3), some (ev_i u4), some (ev_i (j_at (S.1 (a + 14)) 84 u4)), none] [] S Q
    refine ev_aload_n (ev_o 6 a) dX6_passDay_35 rfl rfl ?_
    refine gf_6_7 dX6_passDay_36 kw_336 ?_
    refine ev_iload ((j_at (S.1 (a + 14)) 84 u4)) dX6_passDay_39 rfl ?_
    refine ev_fN ms_X9_at 1 [ev_y 84 (a + 11), ev_i (j_at (S.1 (a + 14)) 84 u4)] [] dX6_passDay_41 (List.mem_of_getElem? (i := 27) rfl) rfl (by decide) (Nat.le_of_ble_eq_true rfl) (sp_X9_at 84 (a + 11) (j_at (S.1 (a + 14)) 84 u4)) ?_ rfl
    refine ev_istore dX6_passDay_44 (Nat.le_of_ble_eq_true rfl) (ev_hw rfl) ?_
    show ev_E g m_X6_passDay 4 0 46 [some (ev_o 6 a), some (ev_i u1), some (ev_i u2), some (ev_i u3), some (ev_i u4), some (ev_i (j_at (S.1 (a + 14)) 84 u4)), some (ev_i (j_at (S.1 (a + 11)) 84 (j_at (S.1 (a + 14)) 84 u4)))] [] S Q
    refine ev_aload_n (ev_o 6 a) dX6_passDay_46 rfl rfl ?_
    refine gf_6_0 dX6_passDay_47 kw_329 ?_
    refine ev_aload_n (ev_o 6 a) dX6_passDay_50 rfl rfl ?_
    refine gf_6_5 dX6_passDay_51 kw_334 ?_
    refine ev_iload ((j_at (S.1 (a + 14)) 84 u4)) dX6_passDay_54 rfl ?_
    refine ev_fN ms_X9_at 1 [ev_y 84 (a + 9), ev_i (j_at (S.1 (a + 14)) 84 u4)] [ev_o 5 (a + 1)] dX6_passDay_56 (List.mem_of_getElem? (i := 27) rfl) rfl (by decide) (Nat.le_of_ble_eq_true rfl) (sp_X9_at 84 (a + 9) (j_at (S.1 (a + 14)) 84 u4)) ?_ rfl
    refine ev_iload_n (u2) dX6_passDay_59 rfl ?_
    refine ev_fV mv_X5_isClosed 3 5 [ev_i (j_at (S.1 (a + 9)) 84 (j_at (S.1 (a + 14)) 84 u4)), ev_i u2] [] dX6_passDay_60 kw_1018 rfl (by decide) rfl (by decide) (Nat.le_of_ble_eq_true rfl) (sp_X5_isClosed (a + 1) (j_at (S.1 (a + 9)) 84 (j_at (S.1 (a + 14)) 84 u4)) u2) ?_ rfl
    by_cases c2 : (j_at (S.1 (a + 3)) 48 (((j_at (S.1 (a + 9)) 84 (j_at (S.1 (a + 14)) 84 u4)) * 12) + u2)) < 9
    · rw [if_pos c2]
      replace hQ := hQ.1 c2
      refine ev_if_ne 80 dX6_passDay_63 (by decide) (fun h9 => absurd (by decide : ((0 : Int32) = 0)) h9) (fun _ => ?_)
      refine ev_iinc (j_at (S.1 (a + 11)) 84 (j_at (S.1 (a + 14)) 84 u4)) (-1) dX6_passDay_66 rfl (by decide) (ev_hw rfl) ?_
      show ev_E g m_X6_passDay 4 0 69 [some (ev_o 6 a), some (ev_i u1), some (ev_i u2), some (ev_i u3), some (ev_i u4), some (ev_i (j_at (S.1 (a + 14)) 84 u4)), some (ev_i ((j_at (S.1 (a + 11)) 84 (j_at (S.1 (a + 14)) 84 u4)) + (-1)))] [] S Q
      refine ev_aload_n (ev_o 6 a) dX6_passDay_69 rfl rfl ?_
      refine gf_6_7 dX6_passDay_70 kw_336 ?_
      refine ev_iload ((j_at (S.1 (a + 14)) 84 u4)) dX6_passDay_73 rfl ?_
      refine ev_iload (((j_at (S.1 (a + 11)) 84 (j_at (S.1 (a + 14)) 84 u4)) + (-1))) dX6_passDay_75 rfl ?_
      refine ev_fNn ms_X9_put 1 [ev_y 84 (a + 11), ev_i (j_at (S.1 (a + 14)) 84 u4), ev_i ((j_at (S.1 (a + 11)) 84 (j_at (S.1 (a + 14)) 84 u4)) + (-1))] [] dX6_passDay_77 (List.mem_of_getElem? (i := 26) rfl) rfl (by decide) (Nat.le_of_ble_eq_true rfl) (sp_X9_put 84 (a + 11) (j_at (S.1 (a + 14)) 84 u4) ((j_at (S.1 (a + 11)) 84 (j_at (S.1 (a + 14)) 84 u4)) + (-1))) ?_ rfl
      refine ev_sub hQ (fun S2 hS2 hQ => ?_)
      refine ev_E.goal (pc' := 80) (L' := [some (ev_o 6 a), some (ev_i u1), some (ev_i u2), some (ev_i u3), some (ev_i u4), some (ev_i (j_at (S.1 (a + 14)) 84 u4)), some (ev_i ((j_at (S.1 (a + 11)) 84 (j_at (S.1 (a + 14)) 84 u4)) + (-1)))]) (K' := []) (S' := S2) ?_ rfl rfl rfl hS2
      refine ev_iload (((j_at (S.1 (a + 11)) 84 (j_at (S.1 (a + 14)) 84 u4)) + (-1))) dX6_passDay_80 rfl ?_
      refine ev_if_ne 95 dX6_passDay_82 (by decide) (fun c3 => ?_) (fun c3 => ?_)
      · replace hQ := hQ.2 c3
        refine ev_aload_n (ev_o 6 a) dX6_passDay_95 rfl rfl ?_
        refine gf_6_10 dX6_passDay_96 kw_339 ?_
        refine ev_iload_n (u3) dX6_passDay_99 rfl ?_
        refine ev_iload ((j_at (S.1 (a + 14)) 84 u4)) dX6_passDay_100 rfl ?_
        refine ev_fNn ms_X9_put 1 [ev_y 84 (a + 14), ev_i u3, ev_i (j_at (S.1 (a + 14)) 84 u4)] [] dX6_passDay_102 (List.mem_of_getElem? (i := 26) rfl) rfl (by decide) (Nat.le_of_ble_eq_true rfl) (sp_X9_put 84 (a + 14) u3 (j_at (S.1 (a + 14)) 84 u4)) ?_ rfl
        refine ev_sub hQ (fun S3 hS3 hQ => ?_)
        refine ev_E.goal (pc' := 105) (L' := [some (ev_o 6 a), some (ev_i u1), some (ev_i u2), some (ev_i u3), some (ev_i u4), some (ev_i (j_at (S.1 (a + 14)) 84 u4)), some (ev_i ((j_at (S.1 (a + 11)) 84 (j_at (S.1 (a + 14)) 84 u4)) + (-1)))]) (K' := []) (S' := S3) ?_ rfl rfl rfl hS3
        refine ev_iinc u3 (1) dX6_passDay_105 rfl (by decide) (ev_hw rfl) ?_
        show ev_E g m_X6_passDay 4 0 108 [some (ev_o 6 a), some (ev_i u1), some (ev_i u2), some (ev_i (u3 + 1)), some (ev_i u4), some (ev_i (j_at (S.1 (a + 14)) 84 u4)), some (ev_i ((j_at (S.1 (a + 11)) 84 (j_at (S.1 (a + 14)) 84 u4)) + (-1)))] [] S3 Q
        refine ev_iinc u4 (1) dX6_passDay_108 rfl (by decide) (ev_hw rfl) ?_
        show ev_E g m_X6_passDay 4 0 111 [some (ev_o 6 a), some (ev_i u1), some (ev_i u2), some (ev_i (u3 + 1)), some (ev_i (u4 + 1)), some (ev_i (j_at (S.1 (a + 14)) 84 u4)), some (ev_i ((j_at (S.1 (a + 11)) 84 (j_at (S.1 (a + 14)) 84 u4)) + (-1)))] [] S3 Q
        refine ev_goto 15 dX6_passDay_111 (by decide) ?_
        refine ev_fgm [true, true, true, true, true, false, false] ?_
        exact hQ
      · replace hQ := hQ.1 c3
        refine ev_aload_n (ev_o 6 a) dX6_passDay_85 rfl rfl ?_
        refine ev_iload ((j_at (S.1 (a + 14)) 84 u4)) dX6_passDay_86 rfl ?_
        refine ev_iload_n (u1) dX6_passDay_88 rfl ?_
        refine ev_cV mv_X6_arrive 3 0 6 [ev_i (j_at (S.1 (a + 14)) 84 u4), ev_i u1] [] dX6_passDay_89 kw_1022 rfl (by decide) rfl (by decide) (by decide) (Nat.le_of_ble_eq_true rfl) hQ ?_ rfl
        rintro o S4 ⟨rfl, hQ⟩
        show ev_E g m_X6_passDay 4 0 92 [some (ev_o 6 a), some (ev_i u1), some (ev_i u2), some (ev_i u3), some (ev_i u4), some (ev_i (j_at (S.1 (a + 14)) 84 u4)), some (ev_i ((j_at (S.1 (a + 11)) 84 (j_at (S.1 (a + 14)) 84 u4)) + (-1)))] [] S4 Q
        refine ev_goto 108 dX6_passDay_92 (by decide) ?_
        refine ev_iinc u4 (1) dX6_passDay_108 rfl (by decide) (ev_hw rfl) ?_
        show ev_E g m_X6_passDay 4 0 111 [some (ev_o 6 a), some (ev_i u1), some (ev_i u2), some (ev_i u3), some (ev_i (u4 + 1)), some (ev_i (j_at (S.1 (a + 14)) 84 u4)), some (ev_i ((j_at (S.1 (a + 11)) 84 (j_at (S.1 (a + 14)) 84 u4)) + (-1)))] [] S4 Q
        refine ev_goto 15 dX6_passDay_111 (by decide) ?_
        refine ev_fgm [true, true, true, true, true, false, false] ?_
        exact hQ
    · rw [if_neg c2]
      replace hQ := hQ.2 c2
      refine ev_if_ne 80 dX6_passDay_63 (by decide) (fun _ => ?_) (fun h9 => absurd h9 (by decide : ¬ ((1 : Int32) = 0)))
      refine ev_iload ((j_at (S.1 (a + 11)) 84 (j_at (S.1 (a + 14)) 84 u4))) dX6_passDay_80 rfl ?_
      refine ev_if_ne 95 dX6_passDay_82 (by decide) (fun c4 => ?_) (fun c4 => ?_)
      · replace hQ := hQ.2 c4
        refine ev_aload_n (ev_o 6 a) dX6_passDay_95 rfl rfl ?_
        refine gf_6_10 dX6_passDay_96 kw_339 ?_
        refine ev_iload_n (u3) dX6_passDay_99 rfl ?_
        refine ev_iload ((j_at (S.1 (a + 14)) 84 u4)) dX6_passDay_100 rfl ?_
        refine ev_fNn ms_X9_put 1 [ev_y 84 (a + 14), ev_i u3, ev_i (j_at (S.1 (a + 14)) 84 u4)] [] dX6_passDay_102 (List.mem_of_getElem? (i := 26) rfl) rfl (by decide) (Nat.le_of_ble_eq_true rfl) (sp_X9_put 84 (a + 14) u3 (j_at (S.1 (a + 14)) 84 u4)) ?_ rfl
        refine ev_sub hQ (fun S5 hS5 hQ => ?_)
        refine ev_E.goal (pc' := 105) (L' := [some (ev_o 6 a), some (ev_i u1), some (ev_i u2), some (ev_i u3), some (ev_i u4), some (ev_i (j_at (S.1 (a + 14)) 84 u4)), some (ev_i (j_at (S.1 (a + 11)) 84 (j_at (S.1 (a + 14)) 84 u4)))]) (K' := []) (S' := S5) ?_ rfl rfl rfl hS5
        refine ev_iinc u3 (1) dX6_passDay_105 rfl (by decide) (ev_hw rfl) ?_
        show ev_E g m_X6_passDay 4 0 108 [some (ev_o 6 a), some (ev_i u1), some (ev_i u2), some (ev_i (u3 + 1)), some (ev_i u4), some (ev_i (j_at (S.1 (a + 14)) 84 u4)), some (ev_i (j_at (S.1 (a + 11)) 84 (j_at (S.1 (a + 14)) 84 u4)))] [] S5 Q
        refine ev_iinc u4 (1) dX6_passDay_108 rfl (by decide) (ev_hw rfl) ?_
        show ev_E g m_X6_passDay 4 0 111 [some (ev_o 6 a), some (ev_i u1), some (ev_i u2), some (ev_i (u3 + 1)), some (ev_i (u4 + 1)), some (ev_i (j_at (S.1 (a + 14)) 84 u4)), some (ev_i (j_at (S.1 (a + 11)) 84 (j_at (S.1 (a + 14)) 84 u4)))] [] S5 Q
        refine ev_goto 15 dX6_passDay_111 (by decide) ?_
        refine ev_fgm [true, true, true, true, true, false, false] ?_
        exact hQ
      · replace hQ := hQ.1 c4
        refine ev_aload_n (ev_o 6 a) dX6_passDay_85 rfl rfl ?_
        refine ev_iload ((j_at (S.1 (a + 14)) 84 u4)) dX6_passDay_86 rfl ?_
        refine ev_iload_n (u1) dX6_passDay_88 rfl ?_
        refine ev_cV mv_X6_arrive 3 0 6 [ev_i (j_at (S.1 (a + 14)) 84 u4), ev_i u1] [] dX6_passDay_89 kw_1022 rfl (by decide) rfl (by decide) (by decide) (Nat.le_of_ble_eq_true rfl) hQ ?_ rfl
        rintro o S6 ⟨rfl, hQ⟩
        show ev_E g m_X6_passDay 4 0 92 [some (ev_o 6 a), some (ev_i u1), some (ev_i u2), some (ev_i u3), some (ev_i u4), some (ev_i (j_at (S.1 (a + 14)) 84 u4)), some (ev_i (j_at (S.1 (a + 11)) 84 (j_at (S.1 (a + 14)) 84 u4)))] [] S6 Q
        refine ev_goto 108 dX6_passDay_92 (by decide) ?_
        refine ev_iinc u4 (1) dX6_passDay_108 rfl (by decide) (ev_hw rfl) ?_
        show ev_E g m_X6_passDay 4 0 111 [some (ev_o 6 a), some (ev_i u1), some (ev_i u2), some (ev_i u3), some (ev_i (u4 + 1)), some (ev_i (j_at (S.1 (a + 14)) 84 u4)), some (ev_i (j_at (S.1 (a + 11)) 84 (j_at (S.1 (a + 14)) 84 u4)))] [] S6 Q
        refine ev_goto 15 dX6_passDay_111 (by decide) ?_
        refine ev_fgm [true, true, true, true, true, false, false] ?_
        exact hQ
set_option maxHeartbeats 4000000 in
set_option maxRecDepth 100000 in
theorem sg_X6_passDay_122 {g : ev_G} {S : ev_S} {Q : ev_O → ev_S → Prop} (a : Nat) (u2 : Int32) (u4 : Int32) (hQ : ((S.1 (a + 1) 3) ≤ u4 → (
    Q (.inl (some (ev_i (S.1 a 15)))) S)) ∧
  (¬ ((S.1 (a + 1) 3) ≤ u4) → (
    ev_E g m_X6_passDay 4 0 149 [some (ev_o 6 a), none, some (ev_i u2), none, some (ev_i u4), some (ev_i (f_X5_daysOver S (a + 1) u4 u2)), some (ev_i 0)] [] S Q))) : ev_E g m_X6_passDay 4 0 122 [some (ev_o 6 a), none, some (ev_i u2), none, some (ev_i u4), none, none] [] S Q := by
  refine ev_iload (u4) dX6_passDay_122 rfl ?_
  refine ev_aload_n (ev_o 6 a) dX6_passDay_124 rfl rfl ?_
  refine gf_6_0 dX6_passDay_125 kw_329 ?_
  refine ev_fV mv_X5_count 1 5 [] [ev_i u4] dX6_passDay_128 kw_1031 rfl (by decide) rfl (by decide) (Nat.le_of_ble_eq_true rfl) (sp_X5_count (a + 1)) ?_ rfl
  refine ev_icmp_ge 183 dX6_passDay_131 (by decide) (fun c1 => ?_) (fun c1 => ?_)
  · replace hQ := hQ.1 c1
    refine ev_aload_n (ev_o 6 a) dX6_passDay_183 rfl rfl ?_
    refine gf_6_15 dX6_passDay_184 kw_344 ?_
    exact ev_ireturn .int dX6_passDay_187 rfl rfl hQ
  · replace hQ := hQ.2 c1
    refine ev_aload_n (ev_o 6 a) dX6_passDay_134 rfl rfl ?_
    refine gf_6_0 dX6_passDay_135 kw_329 ?_
    refine ev_iload (u4) dX6_passDay_138 rfl ?_
    refine ev_iload_n (u2) dX6_passDay_140 rfl ?_
    refine ev_fV mv_X5_daysOver 3 5 [ev_i u4, ev_i u2] [] dX6_passDay_141 kw_1032 rfl (by decide) rfl (by decide) (Nat.le_of_ble_eq_true rfl) (sp_X5_daysOver (a + 1) u4 u2) ?_ rfl
    refine ev_istore dX6_passDay_144 (Nat.le_of_ble_eq_true rfl) (ev_hw rfl) ?_
    show ev_E g m_X6_passDay 4 0 146 [some (ev_o 6 a), none, some (ev_i u2), none, some (ev_i u4), some (ev_i (f_X5_daysOver S (a + 1) u4 u2)), none] [] S Q
    refine ev_iconst (0) dX6_passDay_146 rfl ?_
    refine ev_istore dX6_passDay_147 (Nat.le_of_ble_eq_true rfl) (ev_hw rfl) ?_
    show ev_E g m_X6_passDay 4 0 149 [some (ev_o 6 a), none, some (ev_i u2), none, some (ev_i u4), some (ev_i (f_X5_daysOver S (a + 1) u4 u2)), some (ev_i 0)] [] S Q
    exact hQ
set_option maxHeartbeats 4000000 in
set_option maxRecDepth 100000 in
theorem sg_X6_passDay_149 {g : ev_G} {S : ev_S} {Q : ev_O → ev_S → Prop} (a : Nat) (u2 : Int32) (u4 : Int32) (u5 : Int32) (u6 : Int32) (hQ : (2 ≤ u6 → (
    ev_E g m_X6_passDay 4 0 122 [some (ev_o 6 a), none, some (ev_i u2), none, some (ev_i (u4 + 1)), none, none] [] S Q)) ∧
  (¬ (2 ≤ u6) → (
    (u5 = (-1) → (
      ev_E g m_X6_passDay 4 0 122 [some (ev_o 6 a), none, some (ev_i u2), none, some (ev_i (u4 + 1)), none, none] [] S Q)) ∧
    (¬ (u5 = (-1)) → (
      ev_Cv g m_X6_sendOff 3 0 [ev_o 6 a, ev_i u4, ev_i u6, ev_i u5] S (fun o S1 => o = .inl none ∧ (
        ev_E g m_X6_passDay 4 0 149 [some (ev_o 6 a), none, some (ev_i u2), none, some (ev_i u4), some (ev_i u5), some (ev_i (u6 + 1))] [] S1 Q))))))) : ev_E g m_X6_passDay 4 0 149 [some (ev_o 6 a), none, some (ev_i u2), none, some (ev_i u4), some (ev_i u5), some (ev_i u6)] [] S Q := by
  refine ev_iload (u6) dX6_passDay_149 rfl ?_
  refine ev_iconst (2) dX6_passDay_151 rfl ?_
  refine ev_icmp_ge 177 dX6_passDay_152 (by decide) (fun c1 => ?_) (fun c1 => ?_)
  · replace hQ := hQ.1 c1
    refine ev_iinc u4 (1) dX6_passDay_177 rfl (by decide) (ev_hw rfl) ?_
    show ev_E g m_X6_passDay 4 0 180 [some (ev_o 6 a), none, some (ev_i u2), none, some (ev_i (u4 + 1)), some (ev_i u5), some (ev_i u6)] [] S Q
    refine ev_goto 122 dX6_passDay_180 (by decide) ?_
    refine ev_fgm [true, false, true, false, true, false, false] ?_
    exact hQ
  · replace hQ := hQ.2 c1
    refine ev_iload (u5) dX6_passDay_155 rfl ?_
    refine ev_iconst (-1) dX6_passDay_157 rfl ?_
    refine ev_icmp_eq 177 dX6_passDay_158 (by decide) (fun c2 => ?_) (fun c2 => ?_)
    · replace hQ := hQ.1 c2
      refine ev_iinc u4 (1) dX6_passDay_177 rfl (by decide) (ev_hw rfl) ?_
      show ev_E g m_X6_passDay 4 0 180 [some (ev_o 6 a), none, some (ev_i u2), none, some (ev_i (u4 + 1)), some (ev_i u5), some (ev_i u6)] [] S Q
      refine ev_goto 122 dX6_passDay_180 (by decide) ?_
      refine ev_fgm [true, false, true, false, true, false, false] ?_
      exact hQ
    · replace hQ := hQ.2 c2
      refine ev_aload_n (ev_o 6 a) dX6_passDay_161 rfl rfl ?_
      refine ev_iload (u4) dX6_passDay_162 rfl ?_
      refine ev_iload (u6) dX6_passDay_164 rfl ?_
      refine ev_iload (u5) dX6_passDay_166 rfl ?_
      refine ev_cV mv_X6_sendOff 3 0 6 [ev_i u4, ev_i u6, ev_i u5] [] dX6_passDay_168 kw_1036 rfl (by decide) rfl (by decide) (by decide) (Nat.le_of_ble_eq_true rfl) hQ ?_ rfl
      rintro o S1 ⟨rfl, hQ⟩
      show ev_E g m_X6_passDay 4 0 171 [some (ev_o 6 a), none, some (ev_i u2), none, some (ev_i u4), some (ev_i u5), some (ev_i u6)] [] S1 Q
      refine ev_iinc u6 (1) dX6_passDay_171 rfl (by decide) (ev_hw rfl) ?_
      show ev_E g m_X6_passDay 4 0 174 [some (ev_o 6 a), none, some (ev_i u2), none, some (ev_i u4), some (ev_i u5), some (ev_i (u6 + 1))] [] S1 Q
      refine ev_goto 149 dX6_passDay_174 (by decide) ?_
      exact hQ
set_option maxHeartbeats 4000000 in
set_option maxRecDepth 100000 in
theorem sg_X6_arrival_0 {g : ev_G} {S : ev_S} {Q : ev_O → ev_S → Prop} (a : Nat) (x0 : Int32) (hQ : Q (.inl (some (ev_i (j_at (S.1 (a + 15)) 84 x0)))) S) : ev_Cv g m_X6_arrival 2 0 [ev_o 6 a, ev_i x0] S Q := by
  refine ev_enter (by decide) rfl rfl (Nat.le_of_ble_eq_true rfl) ?_
  show ev_E g m_X6_arrival 2 0 0 [some (ev_o 6 a), some (ev_i x0)] [] S Q
  refine ev_aload_n (ev_o 6 a) dX6_arrival_0 rfl rfl ?_
  refine gf_6_11 dX6_arrival_1 kw_340 ?_
  refine ev_iload_n (x0) dX6_arrival_4 rfl ?_
  refine ev_fN ms_X9_at 1 [ev_y 84 (a + 15), ev_i x0] [] dX6_arrival_5 (List.mem_of_getElem? (i := 27) rfl) rfl (by decide) (Nat.le_of_ble_eq_true rfl) (sp_X9_at 84 (a + 15) x0) ?_ rfl
  exact ev_ireturn .int dX6_arrival_8 rfl rfl hQ
set_option maxHeartbeats 4000000 in
set_option maxRecDepth 100000 in
theorem sp_X6_arrival {g : ev_G} {S : ev_S} (a : Nat) (x0 : Int32)  : ev_Fn g m_X6_arrival 2 [ev_o 6 a, ev_i x0] S (some (ev_i (j_at (S.1 (a + 15)) 84 x0))) S := by
  intro Q hQ
  refine sg_X6_arrival_0 a x0 ?_
  exact hQ
set_option maxHeartbeats 4000000 in
set_option maxRecDepth 100000 in
theorem sg_X0_made_0 {g : ev_G} {S : ev_S} {Q : ev_O → ev_S → Prop} (a : Nat) (hQ : Q (.inl (some (ev_i (S.1 a 6)))) S) : ev_Cv g m_X0_made 1 0 [ev_o 0 a] S Q := by
  refine ev_enter (by decide) rfl rfl (Nat.le_of_ble_eq_true rfl) ?_
  show ev_E g m_X0_made 1 0 0 [some (ev_o 0 a)] [] S Q
  refine ev_aload_n (ev_o 0 a) dX0_made_0 rfl rfl ?_
  refine gf_0_6 dX0_made_1 kw_245 ?_
  exact ev_ireturn .int dX0_made_4 rfl rfl hQ
set_option maxHeartbeats 4000000 in
set_option maxRecDepth 100000 in
theorem sp_X0_made {g : ev_G} {S : ev_S} (a : Nat)  : ev_Fn g m_X0_made 1 [ev_o 0 a] S (some (ev_i (S.1 a 6))) S := by
  intro Q hQ
  refine sg_X0_made_0 a ?_
  exact hQ
set_option maxHeartbeats 4000000 in
set_option maxRecDepth 100000 in
theorem sg_X1_takeIn_0 {g : ev_G} {S : ev_S} {Q : ev_O → ev_S → Prop} (a : Nat) (x0 : Int32) (x1 : Int32) (x2 : Int32) (hQ : (x2 = (-1) → (
    (x0 ≤ (S.1 (a + 1) 6) → (
      Q (.inl (some (ev_i 0))) S)) ∧
    (¬ (x0 ≤ (S.1 (a + 1) 6)) → (
      ((j_at (S.1 (a + 6)) 61 x0) = (-1) → (
        ∀ S1 : ev_S, S1 = (j_put S (a + 6) 61 x0 x1) → (
          ∀ S2 : ev_S, S2 = (ev_up S1 a 5 ((S1.1 a 5) + 1)) → (
            Q (.inl (some (ev_i 1))) S2)))) ∧
      (¬ ((j_at (S.1 (a + 6)) 61 x0) = (-1)) → (
        Q (.inl (some (ev_i 0))) S)))))) ∧
  (¬ (x2 = (-1)) → (
    ((j_at (S.1 (a + 8)) 61 x0) = (-1) → (
      ∀ S3 : ev_S, S3 = (j_put (j_put S (a + 7) 61 x0 x2) (a + 8) 61 x0 x1) → (
        Q (.inl (some (ev_i 1))) S3))) ∧
    (¬ ((j_at (S.1 (a + 8)) 61 x0) = (-1)) → (
      Q (.inl (some (ev_i 0))) S))))) : ev_Cv g m_X1_takeIn 3 0 [ev_o 1 a, ev_i x0, ev_i x1, ev_i x2] S Q := by
  refine ev_enter (by decide) rfl rfl (Nat.le_of_ble_eq_true rfl) ?_
  show ev_E g m_X1_takeIn 3 0 0 [some (ev_o 1 a), some (ev_i x0), some (ev_i x1), some (ev_i x2)] [] S Q
  refine ev_iload_n (x2) dX1_takeIn_0 rfl ?_
  refine ev_iconst (-1) dX1_takeIn_1 rfl ?_
  refine ev_icmp_eq 24 dX1_takeIn_2 (by decide) (fun c1 => ?_) (fun c1 => ?_)
  · replace hQ := hQ.1 c1
    refine ev_iload_n (x0) dX1_takeIn_24 rfl ?_
    refine ev_aload_n (ev_o 1 a) dX1_takeIn_25 rfl rfl ?_
    refine gf_1_1 dX1_takeIn_26 kw_268 ?_
    refine ev_fV mv_X0_made 1 0 [] [ev_i x0] dX1_takeIn_29 kw_1061 rfl (by decide) rfl (by decide) (Nat.le_of_ble_eq_true rfl) (sp_X0_made (a + 1)) ?_ rfl
    refine ev_icmp_le 47 dX1_takeIn_32 (by decide) (fun c2 => ?_) (fun c2 => ?_)
    · replace hQ := hQ.1 c2
      refine ev_iconst (0) dX1_takeIn_47 rfl ?_
      exact ev_ireturn .boolean dX1_takeIn_48 rfl rfl hQ
    · replace hQ := hQ.2 c2
      refine ev_aload_n (ev_o 1 a) dX1_takeIn_35 rfl rfl ?_
      refine gf_1_2 dX1_takeIn_36 kw_269 ?_
      refine ev_iload_n (x0) dX1_takeIn_39 rfl ?_
      refine ev_fN ms_X9_at 1 [ev_y 61 (a + 6), ev_i x0] [] dX1_takeIn_40 (List.mem_of_getElem? (i := 28) rfl) rfl (by decide) (Nat.le_of_ble_eq_true rfl) (sp_X9_at 61 (a + 6) x0) ?_ rfl
      refine ev_iconst (-1) dX1_takeIn_43 rfl ?_
      refine ev_icmp_eq 49 dX1_takeIn_44 (by decide) (fun c3 => ?_) (fun c3 => ?_)
      · replace hQ := hQ.1 c3
        refine ev_aload_n (ev_o 1 a) dX1_takeIn_49 rfl rfl ?_
        refine gf_1_2 dX1_takeIn_50 kw_269 ?_
        refine ev_iload_n (x0) dX1_takeIn_53 rfl ?_
        refine ev_iload_n (x1) dX1_takeIn_54 rfl ?_
        refine ev_fNn ms_X9_put 1 [ev_y 61 (a + 6), ev_i x0, ev_i x1] [] dX1_takeIn_55 (List.mem_of_getElem? (i := 29) rfl) rfl (by decide) (Nat.le_of_ble_eq_true rfl) (sp_X9_put 61 (a + 6) x0 x1) ?_ rfl
        refine ev_sub hQ (fun S1 hS1 hQ => ?_)
        refine ev_E.goal (pc' := 58) (L' := [some (ev_o 1 a), some (ev_i x0), some (ev_i x1), some (ev_i x2)]) (K' := []) (S' := S1) ?_ rfl rfl rfl hS1
        refine ev_aload_n (ev_o 1 a) dX1_takeIn_58 rfl rfl ?_
        refine ev_dup dX1_takeIn_59 rfl ?_
        refine gf_1_5 dX1_takeIn_60 kw_272 ?_
        refine ev_iconst (1) dX1_takeIn_63 rfl ?_
        refine ev_iadd dX1_takeIn_64 ?_
        refine pf_1_5 dX1_takeIn_65 kw_272 ?_
        refine ev_sub hQ (fun S2 hS2 hQ => ?_)
        refine ev_E.goal (pc' := 68) (L' := [some (ev_o 1 a), some (ev_i x0), some (ev_i x1), some (ev_i x2)]) (K' := []) (S' := S2) ?_ rfl rfl rfl hS2
        refine ev_iconst (1) dX1_takeIn_68 rfl ?_
        exact ev_ireturn .boolean dX1_takeIn_69 rfl rfl hQ
      · replace hQ := hQ.2 c3
        refine ev_iconst (0) dX1_takeIn_47 rfl ?_
        exact ev_ireturn .boolean dX1_takeIn_48 rfl rfl hQ
  · replace hQ := hQ.2 c1
    refine ev_aload_n (ev_o 1 a) dX1_takeIn_5 rfl rfl ?_
    refine ev_iload_n (x0) dX1_takeIn_6 rfl ?_
    refine ev_fV mv_X1_hasPromise 2 1 [ev_i x0] [] dX1_takeIn_7 kw_935 rfl (by decide) rfl (by decide) (Nat.le_of_ble_eq_true rfl) (sp_X1_hasPromise a x0) ?_ rfl
    by_cases c4 : (j_at (S.1 (a + 8)) 61 x0) = (-1)
    · rw [if_pos c4]
      replace hQ := hQ.1 c4
      refine ev_if_eq 15 dX1_takeIn_10 (by decide) (fun _ => ?_) (fun h9 => absurd (by decide : ((0 : Int32) = 0)) h9)
      refine ev_aload_n (ev_o 1 a) dX1_takeIn_15 rfl rfl ?_
      refine ev_iload_n (x0) dX1_takeIn_16 rfl ?_
      refine ev_iload_n (x2) dX1_takeIn_17 rfl ?_
      refine ev_iload_n (x1) dX1_takeIn_18 rfl ?_
      refine ev_fVn mv_X1_keepPromise 2 1 [ev_i x0, ev_i x2, ev_i x1] [] dX1_takeIn_19 kw_1060 rfl (by decide) rfl (by decide) (Nat.le_of_ble_eq_true rfl) (sp_X1_keepPromise a x0 x2 x1) ?_ rfl
      refine ev_sub hQ (fun S3 hS3 hQ => ?_)
      refine ev_E.goal (pc' := 22) (L' := [some (ev_o 1 a), some (ev_i x0), some (ev_i x1), some (ev_i x2)]) (K' := []) (S' := S3) ?_ rfl rfl rfl hS3
      refine ev_iconst (1) dX1_takeIn_22 rfl ?_
      exact ev_ireturn .boolean dX1_takeIn_23 rfl rfl hQ
    · rw [if_neg c4]
      replace hQ := hQ.2 c4
      refine ev_if_eq 15 dX1_takeIn_10 (by decide) (fun h9 => absurd h9 (by decide : ¬ ((1 : Int32) = 0))) (fun _ => ?_)
      refine ev_iconst (0) dX1_takeIn_13 rfl ?_
      exact ev_ireturn .boolean dX1_takeIn_14 rfl rfl hQ
set_option maxHeartbeats 4000000 in
set_option maxRecDepth 100000 in
theorem sg_X2_passDay_0 {g : ev_G} {S : ev_S} {Q : ev_O → ev_S → Prop} (a : Nat) (hQ : ∀ S1 : ev_S, S1 = (ev_up S a 4 ((S.1 a 4) + 1)) → (
    ev_Cv g m_X6_passDay 4 0 [ev_o 6 (a + 19), ev_i ((S.1 a 4) + 1)] S1 (fun o S2 => ∃ v1_ : Int32, o = .inl (some (ev_i v1_)) ∧ (
      ev_E g m_X2_passDay 5 0 24 [some (ev_o 2 a), some (ev_i v1_), some (ev_i 0), none, none] [] S2 Q)))) : ev_Cv g m_X2_passDay 5 0 [ev_o 2 a] S Q := by
  refine ev_enter (by decide) rfl rfl (Nat.le_of_ble_eq_true rfl) ?_
  show ev_E g m_X2_passDay 5 0 0 [some (ev_o 2 a), none, none, none, none] [] S Q
  refine ev_aload_n (ev_o 2 a) dX2_passDay_0 rfl rfl ?_
  refine ev_dup dX2_passDay_1 rfl ?_
  refine gf_2_4 dX2_passDay_2 kw_390 ?_
  refine ev_iconst (1) dX2_passDay_5 rfl ?_
  refine ev_iadd dX2_passDay_6 ?_
  refine pf_2_4 dX2_passDay_7 kw_390 ?_
  refine ev_sub hQ (fun S1 hS1 hQ => ?_)
  refine ev_E.goal (pc' := 10) (L' := [some (ev_o 2 a), none, none, none, none]) (K' := []) (S' := S1) ?_ rfl rfl rfl hS1
  refine ev_aload_n (ev_o 2 a) dX2_passDay_10 rfl rfl ?_
  refine gf_2_2 dX2_passDay_11 kw_388 ?_
  refine ev_aload_n (ev_o 2 a) dX2_passDay_14 rfl rfl ?_
  refine gf_2_4 dX2_passDay_15 kw_390 ?_
  refine ev_ke (j_rs hS1) ?_
  refine ev_cV mv_X6_passDay 4 0 6 [ev_i ((S.1 a 4) + 1)] [] dX2_passDay_18 kw_1011 rfl (by decide) rfl (by decide) (by decide) (Nat.le_of_ble_eq_true rfl) hQ ?_ rfl
  rintro o S2 ⟨v1_, rfl, hQ⟩
  show ev_E g m_X2_passDay 5 0 21 [some (ev_o 2 a), none, none, none, none] [ev_i v1_] S2 Q
  refine ev_istore_n dX2_passDay_21 (Nat.le_of_ble_eq_true rfl) (ev_hw rfl) ?_
  show ev_E g m_X2_passDay 5 0 22 [some (ev_o 2 a), some (ev_i v1_), none, none, none] [] S2 Q
  refine ev_iconst (0) dX2_passDay_22 rfl ?_
  refine ev_istore_n dX2_passDay_23 (Nat.le_of_ble_eq_true rfl) (ev_hw rfl) ?_
  show ev_E g m_X2_passDay 5 0 24 [some (ev_o 2 a), some (ev_i v1_), some (ev_i 0), none, none] [] S2 Q
  exact hQ
set_option maxHeartbeats 4000000 in
set_option maxRecDepth 100000 in
theorem sg_X2_passDay_24 {g : ev_G} {S : ev_S} {Q : ev_O → ev_S → Prop} (a : Nat) (u1 : Int32) (u2 : Int32) (hQ : (u1 ≤ u2 → (
    Q (.inl (some (ev_i u1))) S)) ∧
  (¬ (u1 ≤ u2) → (
    ev_Cv g m_X1_takeIn 3 0 [ev_o 1 (a_X2_deskOf a (1 - (j_at (S.1 (a + 24)) 84 (j_at (S.1 (a + 34)) 84 u2)))), ev_i (j_at (S.1 (a + 25)) 84 (j_at (S.1 (a + 34)) 84 u2)), ev_i (j_at (S.1 (a + 26)) 84 (j_at (S.1 (a + 34)) 84 u2)), ev_i (j_at (S.1 (a + 27)) 84 (j_at (S.1 (a + 34)) 84 u2))] S (fun o S1 => ∃ v1_ : Bool, o = .inl (some (ev_i (if v1_ = true then 1 else 0))) ∧ (
      (v1_ = true → (
        ev_Cv g m_X1_settle 4 0 [ev_o 1 (a_X2_deskOf a (1 - (j_at (S.1 (a + 24)) 84 (j_at (S.1 (a + 34)) 84 u2)))), ev_i (S1.1 a 4)] S1 (fun o S2 => o = .inl none ∧ (
          ev_E g m_X2_passDay 5 0 24 [some (ev_o 2 a), some (ev_i u1), some (ev_i (u2 + 1)), none, none] [] S2 Q)))) ∧
      (¬ (v1_ = true) → (
        ∀ S3 : ev_S, S3 = (ev_up S1 a 5 ((S1.1 a 5) + 1)) → (
          ev_Cv g m_X1_settle 4 0 [ev_o 1 (a_X2_deskOf a (1 - (j_at (S.1 (a + 24)) 84 (j_at (S.1 (a + 34)) 84 u2)))), ev_i (S1.1 a 4)] S3 (fun o S4 => o = .inl none ∧ (
            ev_E g m_X2_passDay 5 0 24 [some (ev_o 2 a), some (ev_i u1), some (ev_i (u2 + 1)), none, none] [] S4 Q)))))))))) : ev_E g m_X2_passDay 5 0 24 [some (ev_o 2 a), some (ev_i u1), some (ev_i u2), none, none] [] S Q := by
  refine ev_iload_n (u2) dX2_passDay_24 rfl ?_
  refine ev_iload_n (u1) dX2_passDay_25 rfl ?_
  refine ev_icmp_ge 111 dX2_passDay_26 (by decide) (fun c1 => ?_) (fun c1 => ?_)
  · replace hQ := hQ.1 c1
    refine ev_iload_n (u1) dX2_passDay_111 rfl ?_
    exact ev_ireturn .int dX2_passDay_112 rfl rfl hQ
  · replace hQ := hQ.2 c1
    refine ev_aload_n (ev_o 2 a) dX2_passDay_29 rfl rfl ?_
    refine gf_2_2 dX2_passDay_30 kw_388 ?_
    refine ev_iload_n (u2) dX2_passDay_33 rfl ?_
    refine ev_fV mv_X6_arrival 2 6 [ev_i u2] [] dX2_passDay_34 kw_1052 rfl (by decide) rfl (by decide) (Nat.le_of_ble_eq_true rfl) (sp_X6_arrival (a + 19) u2) ?_ rfl
    refine ev_istore_n dX2_passDay_37 (Nat.le_of_ble_eq_true rfl) (ev_hw rfl) ?_
    show ev_E g m_X2_passDay 5 0 38 [some (ev_o 2 a), some (ev_i u1), some (ev_i u2), some (ev_i (j_at (S.1 (a + 34)) 84 u2)), none] [] S Q
    refine ev_aload_n (ev_o 2 a) dX2_passDay_38 rfl rfl ?_
    refine ev_iconst (1) dX2_passDay_39 rfl ?_
    refine ev_aload_n (ev_o 2 a) dX2_passDay_40 rfl rfl ?_
    refine gf_2_2 dX2_passDay_41 kw_388 ?_
    refine ev_iload_n ((j_at (S.1 (a + 34)) 84 u2)) dX2_passDay_44 rfl ?_
    refine ev_fV mv_X6_writerOf 2 6 [ev_i (j_at (S.1 (a + 34)) 84 u2)] [ev_i 1, ev_o 2 a] dX2_passDay_45 kw_983 rfl (by decide) rfl (by decide) (Nat.le_of_ble_eq_true rfl) (sp_X6_writerOf (a + 19) (j_at (S.1 (a + 34)) 84 u2)) ?_ rfl
    refine ev_isub dX2_passDay_48 ?_
    refine ev_fV mv_X2_deskOf 1 2 [ev_i (1 - (j_at (S.1 (a + 24)) 84 (j_at (S.1 (a + 34)) 84 u2)))] [] dX2_passDay_49 kw_581 rfl (by decide) rfl (by decide) (Nat.le_of_ble_eq_true rfl) (sp_X2_deskOf a (1 - (j_at (S.1 (a + 24)) 84 (j_at (S.1 (a + 34)) 84 u2)))) ?_ rfl
    refine ev_astore dX2_passDay_52 rfl (Nat.le_of_ble_eq_true rfl) (ev_hw rfl) ?_
    show ev_E g m_X2_passDay 5 0 54 [some (ev_o 2 a), some (ev_i u1), some (ev_i u2), some (ev_i (j_at (S.1 (a + 34)) 84 u2)), some (ev_o 1 (a_X2_deskOf a (1 - (j_at (S.1 (a + 24)) 84 (j_at (S.1 (a + 34)) 84 u2)))))] [] S Q
    refine ev_aload (ev_o 1 (a_X2_deskOf a (1 - (j_at (S.1 (a + 24)) 84 (j_at (S.1 (a + 34)) 84 u2))))) dX2_passDay_54 rfl rfl ?_
    refine ev_aload_n (ev_o 2 a) dX2_passDay_56 rfl rfl ?_
    refine gf_2_2 dX2_passDay_57 kw_388 ?_
    refine ev_iload_n ((j_at (S.1 (a + 34)) 84 u2)) dX2_passDay_60 rfl ?_
    refine ev_fV mv_X6_numberOf 2 6 [ev_i (j_at (S.1 (a + 34)) 84 u2)] [ev_o 1 (a_X2_deskOf a (1 - (j_at (S.1 (a + 24)) 84 (j_at (S.1 (a + 34)) 84 u2))))] dX2_passDay_61 kw_987 rfl (by decide) rfl (by decide) (Nat.le_of_ble_eq_true rfl) (sp_X6_numberOf (a + 19) (j_at (S.1 (a + 34)) 84 u2)) ?_ rfl
    refine ev_aload_n (ev_o 2 a) dX2_passDay_64 rfl rfl ?_
    refine gf_2_2 dX2_passDay_65 kw_388 ?_
    refine ev_iload_n ((j_at (S.1 (a + 34)) 84 u2)) dX2_passDay_68 rfl ?_
    refine ev_fV mv_X6_moveIn 2 6 [ev_i (j_at (S.1 (a + 34)) 84 u2)] [ev_i (j_at (S.1 (a + 25)) 84 (j_at (S.1 (a + 34)) 84 u2)), ev_o 1 (a_X2_deskOf a (1 - (j_at (S.1 (a + 24)) 84 (j_at (S.1 (a + 34)) 84 u2))))] dX2_passDay_69 kw_991 rfl (by decide) rfl (by decide) (Nat.le_of_ble_eq_true rfl) (sp_X6_moveIn (a + 19) (j_at (S.1 (a + 34)) 84 u2)) ?_ rfl
    refine ev_aload_n (ev_o 2 a) dX2_passDay_72 rfl rfl ?_
    refine gf_2_2 dX2_passDay_73 kw_388 ?_
    refine ev_iload_n ((j_at (S.1 (a + 34)) 84 u2)) dX2_passDay_76 rfl ?_
    refine ev_fV mv_X6_expectedOf 2 6 [ev_i (j_at (S.1 (a + 34)) 84 u2)] [ev_i (j_at (S.1 (a + 26)) 84 (j_at (S.1 (a + 34)) 84 u2)), ev_i (j_at (S.1 (a + 25)) 84 (j_at (S.1 (a + 34)) 84 u2)), ev_o 1 (a_X2_deskOf a (1 - (j_at (S.1 (a + 24)) 84 (j_at (S.1 (a + 34)) 84 u2))))] dX2_passDay_77 kw_995 rfl (by decide) rfl (by decide) (Nat.le_of_ble_eq_true rfl) (sp_X6_expectedOf (a + 19) (j_at (S.1 (a + 34)) 84 u2)) ?_ rfl
    refine ev_cV mv_X1_takeIn 3 0 1 [ev_i (j_at (S.1 (a + 25)) 84 (j_at (S.1 (a + 34)) 84 u2)), ev_i (j_at (S.1 (a + 26)) 84 (j_at (S.1 (a + 34)) 84 u2)), ev_i (j_at (S.1 (a + 27)) 84 (j_at (S.1 (a + 34)) 84 u2))] [] dX2_passDay_80 kw_1056 rfl (by decide) rfl (by decide) (by decide) (Nat.le_of_ble_eq_true rfl) hQ ?_ rfl
    rintro o S1 ⟨v1_, rfl, hQ⟩
    show ev_E g m_X2_passDay 5 0 83 [some (ev_o 2 a), some (ev_i u1), some (ev_i u2), some (ev_i (j_at (S.1 (a + 34)) 84 u2)), some (ev_o 1 (a_X2_deskOf a (1 - (j_at (S.1 (a + 24)) 84 (j_at (S.1 (a + 34)) 84 u2)))))] [ev_i (if v1_ = true then 1 else 0)] S1 Q
    by_cases c2 : v1_ = true
    · rw [if_pos c2]
      replace hQ := hQ.1 c2
      refine ev_if_ne 96 dX2_passDay_83 (by decide) (fun _ => ?_) (fun h9 => absurd h9 (by decide : ¬ ((1 : Int32) = 0)))
      refine ev_aload (ev_o 1 (a_X2_deskOf a (1 - (j_at (S.1 (a + 24)) 84 (j_at (S.1 (a + 34)) 84 u2))))) dX2_passDay_96 rfl rfl ?_
      refine ev_aload_n (ev_o 2 a) dX2_passDay_98 rfl rfl ?_
      refine gf_2_4 dX2_passDay_99 kw_390 ?_
      refine ev_cV mv_X1_settle 4 0 1 [ev_i (S1.1 a 4)] [] dX2_passDay_102 kw_929 rfl (by decide) rfl (by decide) (by decide) (Nat.le_of_ble_eq_true rfl) hQ ?_ rfl
      rintro o S2 ⟨rfl, hQ⟩
      show ev_E g m_X2_passDay 5 0 105 [some (ev_o 2 a), some (ev_i u1), some (ev_i u2), some (ev_i (j_at (S.1 (a + 34)) 84 u2)), some (ev_o 1 (a_X2_deskOf a (1 - (j_at (S.1 (a + 24)) 84 (j_at (S.1 (a + 34)) 84 u2)))))] [] S2 Q
      refine ev_iinc u2 (1) dX2_passDay_105 rfl (by decide) (ev_hw rfl) ?_
      show ev_E g m_X2_passDay 5 0 108 [some (ev_o 2 a), some (ev_i u1), some (ev_i (u2 + 1)), some (ev_i (j_at (S.1 (a + 34)) 84 u2)), some (ev_o 1 (a_X2_deskOf a (1 - (j_at (S.1 (a + 24)) 84 (j_at (S.1 (a + 34)) 84 u2)))))] [] S2 Q
      refine ev_goto 24 dX2_passDay_108 (by decide) ?_
      refine ev_fgm [true, true, true, false, false] ?_
      exact hQ
    · rw [if_neg c2]
      replace hQ := hQ.2 c2
      refine ev_if_ne 96 dX2_passDay_83 (by decide) (fun h9 => absurd (by decide : ((0 : Int32) = 0)) h9) (fun _ => ?_)
      refine ev_aload_n (ev_o 2 a) dX2_passDay_86 rfl rfl ?_
      refine ev_dup dX2_passDay_87 rfl ?_
      refine gf_2_5 dX2_passDay_88 kw_391 ?_
      refine ev_iconst (1) dX2_passDay_91 rfl ?_
      refine ev_iadd dX2_passDay_92 ?_
      refine pf_2_5 dX2_passDay_93 kw_391 ?_
      refine ev_sub hQ (fun S3 hS3 hQ => ?_)
      refine ev_E.goal (pc' := 96) (L' := [some (ev_o 2 a), some (ev_i u1), some (ev_i u2), some (ev_i (j_at (S.1 (a + 34)) 84 u2)), some (ev_o 1 (a_X2_deskOf a (1 - (j_at (S.1 (a + 24)) 84 (j_at (S.1 (a + 34)) 84 u2)))))]) (K' := []) (S' := S3) ?_ rfl rfl rfl hS3
      refine ev_aload (ev_o 1 (a_X2_deskOf a (1 - (j_at (S.1 (a + 24)) 84 (j_at (S.1 (a + 34)) 84 u2))))) dX2_passDay_96 rfl rfl ?_
      refine ev_aload_n (ev_o 2 a) dX2_passDay_98 rfl rfl ?_
      refine gf_2_4 dX2_passDay_99 kw_390 ?_
      refine ev_ke (j_rk hS3 (Or.inr (by decide))) ?_
      refine ev_cV mv_X1_settle 4 0 1 [ev_i (S1.1 a 4)] [] dX2_passDay_102 kw_929 rfl (by decide) rfl (by decide) (by decide) (Nat.le_of_ble_eq_true rfl) hQ ?_ rfl
      rintro o S4 ⟨rfl, hQ⟩
      show ev_E g m_X2_passDay 5 0 105 [some (ev_o 2 a), some (ev_i u1), some (ev_i u2), some (ev_i (j_at (S.1 (a + 34)) 84 u2)), some (ev_o 1 (a_X2_deskOf a (1 - (j_at (S.1 (a + 24)) 84 (j_at (S.1 (a + 34)) 84 u2)))))] [] S4 Q
      refine ev_iinc u2 (1) dX2_passDay_105 rfl (by decide) (ev_hw rfl) ?_
      show ev_E g m_X2_passDay 5 0 108 [some (ev_o 2 a), some (ev_i u1), some (ev_i (u2 + 1)), some (ev_i (j_at (S.1 (a + 34)) 84 u2)), some (ev_o 1 (a_X2_deskOf a (1 - (j_at (S.1 (a + 24)) 84 (j_at (S.1 (a + 34)) 84 u2)))))] [] S4 Q
      refine ev_goto 24 dX2_passDay_108 (by decide) ?_
      refine ev_fgm [true, true, true, false, false] ?_
      exact hQ
set_option maxHeartbeats 4000000 in
set_option maxRecDepth 100000 in
theorem sg_X2_letDaysPass_0 {g : ev_G} {S : ev_S} {Q : ev_O → ev_S → Prop} (a : Nat) (x0 : Int32) (hQ : ev_E g m_X2_letDaysPass 6 0 4 [some (ev_o 2 a), some (ev_i x0), some (ev_i 0), some (ev_i 0)] [] S Q) : ev_Cv g m_X2_letDaysPass 6 0 [ev_o 2 a, ev_i x0] S Q := by
  refine ev_enter (by decide) rfl rfl (Nat.le_of_ble_eq_true rfl) ?_
  show ev_E g m_X2_letDaysPass 6 0 0 [some (ev_o 2 a), some (ev_i x0), none, none] [] S Q
  refine ev_iconst (0) dX2_letDaysPass_0 rfl ?_
  refine ev_istore_n dX2_letDaysPass_1 (Nat.le_of_ble_eq_true rfl) (ev_hw rfl) ?_
  show ev_E g m_X2_letDaysPass 6 0 2 [some (ev_o 2 a), some (ev_i x0), some (ev_i 0), none] [] S Q
  refine ev_iconst (0) dX2_letDaysPass_2 rfl ?_
  refine ev_istore_n dX2_letDaysPass_3 (Nat.le_of_ble_eq_true rfl) (ev_hw rfl) ?_
  show ev_E g m_X2_letDaysPass 6 0 4 [some (ev_o 2 a), some (ev_i x0), some (ev_i 0), some (ev_i 0)] [] S Q
  exact hQ
set_option maxHeartbeats 4000000 in
set_option maxRecDepth 100000 in
theorem sg_X2_letDaysPass_4 {g : ev_G} {S : ev_S} {Q : ev_O → ev_S → Prop} (a : Nat) (u1 : Int32) (u2 : Int32) (u3 : Int32) (hQ : (u1 ≤ u3 → (
    Q (.inl (some (ev_i u2))) S)) ∧
  (¬ (u1 ≤ u3) → (
    ev_Cv g m_X2_passDay 5 0 [ev_o 2 a] S (fun o S1 => ∃ v1_ : Int32, o = .inl (some (ev_i v1_)) ∧ (
      ev_E g m_X2_letDaysPass 6 0 4 [some (ev_o 2 a), some (ev_i u1), some (ev_i (u2 + v1_)), some (ev_i (u3 + 1))] [] S1 Q))))) : ev_E g m_X2_letDaysPass 6 0 4 [some (ev_o 2 a), some (ev_i u1), some (ev_i u2), some (ev_i u3)] [] S Q := by
  refine ev_iload_n (u3) dX2_letDaysPass_4 rfl ?_
  refine ev_iload_n (u1) dX2_letDaysPass_5 rfl ?_
  refine ev_icmp_ge 22 dX2_letDaysPass_6 (by decide) (fun c1 => ?_) (fun c1 => ?_)
  · replace hQ := hQ.1 c1
    refine ev_iload_n (u2) dX2_letDaysPass_22 rfl ?_
    exact ev_ireturn .int dX2_letDaysPass_23 rfl rfl hQ
  · replace hQ := hQ.2 c1
    refine ev_iload_n (u2) dX2_letDaysPass_9 rfl ?_
    refine ev_aload_n (ev_o 2 a) dX2_letDaysPass_10 rfl rfl ?_
    refine ev_cV mv_X2_passDay 5 0 2 [] [ev_i u2] dX2_letDaysPass_11 kw_1007 rfl (by decide) rfl (by decide) (by decide) (Nat.le_of_ble_eq_true rfl) hQ ?_ rfl
    rintro o S1 ⟨v1_, rfl, hQ⟩
    show ev_E g m_X2_letDaysPass 6 0 14 [some (ev_o 2 a), some (ev_i u1), some (ev_i u2), some (ev_i u3)] [ev_i v1_, ev_i u2] S1 Q
    refine ev_iadd dX2_letDaysPass_14 ?_
    refine ev_istore_n dX2_letDaysPass_15 (Nat.le_of_ble_eq_true rfl) (ev_hw rfl) ?_
    show ev_E g m_X2_letDaysPass 6 0 16 [some (ev_o 2 a), some (ev_i u1), some (ev_i (u2 + v1_)), some (ev_i u3)] [] S1 Q
    refine ev_iinc u3 (1) dX2_letDaysPass_16 rfl (by decide) (ev_hw rfl) ?_
    show ev_E g m_X2_letDaysPass 6 0 19 [some (ev_o 2 a), some (ev_i u1), some (ev_i (u2 + v1_)), some (ev_i (u3 + 1))] [] S1 Q
    refine ev_goto 4 dX2_letDaysPass_19 (by decide) ?_
    exact hQ
set_option maxHeartbeats 4000000 in
set_option maxRecDepth 100000 in
theorem sg_X2_muleFault_0 {g : ev_G} {S : ev_S} {Q : ev_O → ev_S → Prop} (a : Nat) (x0 : Int32) (x1 : Int32) (hQ : ((t_X5_exists S (a + 20) x0) = true → (
    ((t_X9_isPlayer x1) = true → (
      ((j_at (S.1 (a + 23)) 8 ((x0 * 2) + x1)) < 9 → (
        Q (.inl (some (ev_i 0))) S)) ∧
      (¬ ((j_at (S.1 (a + 23)) 8 ((x0 * 2) + x1)) < 9) → (
        Q (.inl (some (ev_i 2))) S)))) ∧
    (¬ ((t_X9_isPlayer x1) = true) → (
      Q (.inl (some (ev_i 1))) S)))) ∧
  (¬ ((t_X5_exists S (a + 20) x0) = true) → (
    Q (.inl (some (ev_i 1))) S))) : ev_Cv g m_X2_muleFault 3 0 [ev_o 2 a, ev_i x0, ev_i x1] S Q := by
  refine ev_enter (by decide) rfl rfl (Nat.le_of_ble_eq_true rfl) ?_
  show ev_E g m_X2_muleFault 3 0 0 [some (ev_o 2 a), some (ev_i x0), some (ev_i x1)] [] S Q
  refine ev_aload_n (ev_o 2 a) dX2_muleFault_0 rfl rfl ?_
  refine ev_fV mv_X2_passes 2 2 [] [] dX2_muleFault_1 kw_863 rfl (by decide) rfl (by decide) (Nat.le_of_ble_eq_true rfl) (sp_X2_passes a) ?_ rfl
  refine ev_iload_n (x0) dX2_muleFault_4 rfl ?_
  refine ev_fV mv_X5_exists 1 5 [ev_i x0] [] dX2_muleFault_5 kw_864 rfl (by decide) rfl (by decide) (Nat.le_of_ble_eq_true rfl) (sp_X5_exists (a + 20) x0) ?_ rfl
  by_cases c1 : (t_X5_exists S (a + 20) x0) = true
  · rw [if_pos c1]
    replace hQ := hQ.1 c1
    refine ev_if_eq 18 dX2_muleFault_8 (by decide) (fun h9 => absurd h9 (by decide : ¬ ((1 : Int32) = 0))) (fun _ => ?_)
    refine ev_iload_n (x1) dX2_muleFault_11 rfl ?_
    refine ev_fN ms_X9_isPlayer 1 [ev_i x1] [] dX2_muleFault_12 (List.mem_of_getElem? (i := 21) rfl) rfl (by decide) (Nat.le_of_ble_eq_true rfl) (sp_X9_isPlayer x1) ?_ rfl
    by_cases c2 : (t_X9_isPlayer x1) = true
    · rw [if_pos c2]
      replace hQ := hQ.1 c2
      refine ev_if_ne 20 dX2_muleFault_15 (by decide) (fun _ => ?_) (fun h9 => absurd h9 (by decide : ¬ ((1 : Int32) = 0)))
      refine ev_aload_n (ev_o 2 a) dX2_muleFault_20 rfl rfl ?_
      refine ev_fV mv_X2_passes 2 2 [] [] dX2_muleFault_21 kw_863 rfl (by decide) rfl (by decide) (Nat.le_of_ble_eq_true rfl) (sp_X2_passes a) ?_ rfl
      refine ev_iload_n (x0) dX2_muleFault_24 rfl ?_
      refine ev_iload_n (x1) dX2_muleFault_25 rfl ?_
      refine ev_fV mv_X5_mulesAt 2 5 [ev_i x0, ev_i x1] [] dX2_muleFault_26 kw_1069 rfl (by decide) rfl (by decide) (Nat.le_of_ble_eq_true rfl) (sp_X5_mulesAt (a + 20) x0 x1) ?_ rfl
      refine ev_bipush (9) dX2_muleFault_29 (by decide) ?_
      refine ev_icmp_lt 38 dX2_muleFault_31 (by decide) (fun c3 => ?_) (fun c3 => ?_)
      · replace hQ := hQ.1 c3
        refine ev_iconst (0) dX2_muleFault_38 rfl ?_
        exact ev_ireturn .int dX2_muleFault_39 rfl rfl hQ
      · replace hQ := hQ.2 c3
        refine ev_iconst (2) dX2_muleFault_34 rfl ?_
        refine ev_goto 39 dX2_muleFault_35 (by decide) ?_
        exact ev_ireturn .int dX2_muleFault_39 rfl rfl hQ
    · rw [if_neg c2]
      replace hQ := hQ.2 c2
      refine ev_if_ne 20 dX2_muleFault_15 (by decide) (fun h9 => absurd (by decide : ((0 : Int32) = 0)) h9) (fun _ => ?_)
      refine ev_iconst (1) dX2_muleFault_18 rfl ?_
      exact ev_ireturn .int dX2_muleFault_19 rfl rfl hQ
  · rw [if_neg c1]
    replace hQ := hQ.2 c1
    refine ev_if_eq 18 dX2_muleFault_8 (by decide) (fun _ => ?_) (fun h9 => absurd (by decide : ((0 : Int32) = 0)) h9)
    refine ev_iconst (1) dX2_muleFault_18 rfl ?_
    exact ev_ireturn .int dX2_muleFault_19 rfl rfl hQ
def f_X2_muleFault (S : ev_S) (a : Nat) (x0 : Int32) (x1 : Int32) : Int32 := if (t_X5_exists S (a + 20) x0) = true then (if (t_X9_isPlayer x1) = true then (if (j_at (S.1 (a + 23)) 8 ((x0 * 2) + x1)) < 9 then (0) else (2)) else (1)) else (1)
set_option maxHeartbeats 4000000 in
set_option maxRecDepth 100000 in
theorem sp_X2_muleFault {g : ev_G} {S : ev_S} (a : Nat) (x0 : Int32) (x1 : Int32)  : ev_Fn g m_X2_muleFault 3 [ev_o 2 a, ev_i x0, ev_i x1] S (some (ev_i (f_X2_muleFault S a x0 x1))) S := by
  intro Q hQ
  refine sg_X2_muleFault_0 a x0 x1 ?_
  unfold f_X2_muleFault at hQ
  refine ⟨fun c1 => ?_, fun c1 => ?_⟩
  · rw [if_pos c1] at hQ
    refine ⟨fun c2 => ?_, fun c2 => ?_⟩
    · rw [if_pos c2] at hQ
      refine ⟨fun c3 => ?_, fun c3 => ?_⟩
      · rw [if_pos c3] at hQ
        exact hQ
      · rw [if_neg c3] at hQ
        exact hQ
    · rw [if_neg c2] at hQ
      exact hQ
  · rw [if_neg c1] at hQ
    exact hQ
set_option maxHeartbeats 4000000 in
set_option maxRecDepth 100000 in
theorem sg_X5_bringMule_0 {g : ev_G} {S : ev_S} {Q : ev_O → ev_S → Prop} (a : Nat) (x0 : Int32) (x1 : Int32) (hQ : ∀ S1 : ev_S, S1 = (ev_up S a 4 ((S.1 a 4) + 1)) → (
    ∀ S2 : ev_S, S2 = (j_put S1 (a + 3) 8 ((x0 * 2) + x1) ((j_at (S1.1 (a + 3)) 8 ((x0 * 2) + x1)) + 1)) → (
      Q (.inl (some (ev_i (j_at (S2.1 (a + 3)) 8 ((x0 * 2) + x1))))) S2))) : ev_Cv g m_X5_bringMule 3 0 [ev_o 5 a, ev_i x0, ev_i x1] S Q := by
  refine ev_enter (by decide) rfl rfl (Nat.le_of_ble_eq_true rfl) ?_
  show ev_E g m_X5_bringMule 3 0 0 [some (ev_o 5 a), some (ev_i x0), some (ev_i x1)] [] S Q
  refine ev_aload_n (ev_o 5 a) dX5_bringMule_0 rfl rfl ?_
  refine ev_dup dX5_bringMule_1 rfl ?_
  refine gf_5_4 dX5_bringMule_2 kw_317 ?_
  refine ev_iconst (1) dX5_bringMule_5 rfl ?_
  refine ev_iadd dX5_bringMule_6 ?_
  refine pf_5_4 dX5_bringMule_7 kw_317 ?_
  refine ev_sub hQ (fun S1 hS1 hQ => ?_)
  refine ev_E.goal (pc' := 10) (L' := [some (ev_o 5 a), some (ev_i x0), some (ev_i x1)]) (K' := []) (S' := S1) ?_ rfl rfl rfl hS1
  refine ev_aload_n (ev_o 5 a) dX5_bringMule_10 rfl rfl ?_
  refine ev_iload_n (x0) dX5_bringMule_11 rfl ?_
  refine ev_iload_n (x1) dX5_bringMule_12 rfl ?_
  refine ev_iconst (1) dX5_bringMule_13 rfl ?_
  refine ev_fVn mv_X5_changeMules 2 5 [ev_i x0, ev_i x1, ev_i 1] [] dX5_bringMule_14 kw_1074 rfl (by decide) rfl (by decide) (Nat.le_of_ble_eq_true rfl) (sp_X5_changeMules a x0 x1 1) ?_ rfl
  refine ev_sub hQ (fun S2 hS2 hQ => ?_)
  refine ev_E.goal (pc' := 17) (L' := [some (ev_o 5 a), some (ev_i x0), some (ev_i x1)]) (K' := []) (S' := S2) ?_ rfl rfl rfl hS2
  refine ev_aload_n (ev_o 5 a) dX5_bringMule_17 rfl rfl ?_
  refine ev_iload_n (x0) dX5_bringMule_18 rfl ?_
  refine ev_iload_n (x1) dX5_bringMule_19 rfl ?_
  refine ev_fV mv_X5_mulesAt 2 5 [ev_i x0, ev_i x1] [] dX5_bringMule_20 kw_1075 rfl (by decide) rfl (by decide) (Nat.le_of_ble_eq_true rfl) (sp_X5_mulesAt a x0 x1) ?_ rfl
  exact ev_ireturn .int dX5_bringMule_23 rfl rfl hQ
set_option maxHeartbeats 4000000 in
set_option maxRecDepth 100000 in
theorem sp_X5_bringMule {g : ev_G} {S : ev_S} (a : Nat) (x0 : Int32) (x1 : Int32)  : ev_Fn g m_X5_bringMule 3 [ev_o 5 a, ev_i x0, ev_i x1] S (some (ev_i (j_at ((j_put (ev_up S a 4 ((S.1 a 4) + 1)) (a + 3) 8 ((x0 * 2) + x1) ((j_at ((ev_up S a 4 ((S.1 a 4) + 1)).1 (a + 3)) 8 ((x0 * 2) + x1)) + 1)).1 (a + 3)) 8 ((x0 * 2) + x1)))) (j_put (ev_up S a 4 ((S.1 a 4) + 1)) (a + 3) 8 ((x0 * 2) + x1) ((j_at ((ev_up S a 4 ((S.1 a 4) + 1)).1 (a + 3)) 8 ((x0 * 2) + x1)) + 1)) := by
  intro Q hQ
  refine sg_X5_bringMule_0 a x0 x1 ?_
  intro S1 hS1
  intro S2 hS2
  subst hS2
  subst hS1
  exact hQ
set_option maxHeartbeats 4000000 in
set_option maxRecDepth 100000 in
theorem sg_X9_isMonth_0 {g : ev_G} {S : ev_S} {Q : ev_O → ev_S → Prop} (x0 : Int32) (hQ : (x0 < 0 → (
    Q (.inl (some (ev_i 0))) S)) ∧
  (¬ (x0 < 0) → (
    (12 ≤ x0 → (
      Q (.inl (some (ev_i 0))) S)) ∧
    (¬ (12 ≤ x0) → (
      Q (.inl (some (ev_i 1))) S))))) : ev_Cv g m_X9_isMonth 1 0 [ev_i x0] S Q := by
  refine ev_enter (by decide) rfl rfl (Nat.le_of_ble_eq_true rfl) ?_
  show ev_E g m_X9_isMonth 1 0 0 [some (ev_i x0)] [] S Q
  refine ev_iload_n (x0) dX9_isMonth_0 rfl ?_
  refine ev_if_lt 14 dX9_isMonth_1 (by decide) (fun c1 => ?_) (fun c1 => ?_)
  · replace hQ := hQ.1 c1
    refine ev_iconst (0) dX9_isMonth_14 rfl ?_
    exact ev_ireturn .boolean dX9_isMonth_15 rfl rfl hQ
  · replace hQ := hQ.2 c1
    refine ev_iload_n (x0) dX9_isMonth_4 rfl ?_
    refine ev_bipush (12) dX9_isMonth_5 (by decide) ?_
    refine ev_icmp_ge 14 dX9_isMonth_7 (by decide) (fun c2 => ?_) (fun c2 => ?_)
    · replace hQ := hQ.1 c2
      refine ev_iconst (0) dX9_isMonth_14 rfl ?_
      exact ev_ireturn .boolean dX9_isMonth_15 rfl rfl hQ
    · replace hQ := hQ.2 c2
      refine ev_iconst (1) dX9_isMonth_10 rfl ?_
      refine ev_goto 15 dX9_isMonth_11 (by decide) ?_
      exact ev_ireturn .boolean dX9_isMonth_15 rfl rfl hQ
def t_X9_isMonth (x0 : Int32) : Bool := if x0 < 0 then (false) else (if 12 ≤ x0 then (false) else (true))
set_option maxHeartbeats 4000000 in
set_option maxRecDepth 100000 in
theorem sp_X9_isMonth {g : ev_G} {S : ev_S} (x0 : Int32)  : ev_Fn g m_X9_isMonth 1 [ev_i x0] S (some (ev_i (if (t_X9_isMonth x0) = true then 1 else 0))) S := by
  intro Q hQ
  refine sg_X9_isMonth_0 x0 ?_
  unfold t_X9_isMonth at hQ
  refine ⟨fun c1 => ?_, fun c1 => ?_⟩
  · rw [if_pos c1] at hQ
    exact hQ
  · rw [if_neg c1] at hQ
    refine ⟨fun c2 => ?_, fun c2 => ?_⟩
    · rw [if_pos c2] at hQ
      exact hQ
    · rw [if_neg c2] at hQ
      exact hQ
set_option maxHeartbeats 4000000 in
set_option maxRecDepth 100000 in
theorem sg_X2_snowFault_0 {g : ev_G} {S : ev_S} {Q : ev_O → ev_S → Prop} (a : Nat) (x0 : Int32) (x1 : Int32) (x2 : Int32) (hQ : ((t_X5_exists S (a + 20) x0) = true → (
    ((t_X9_isMonth x1) = true → (
      (x2 < 0 → (
        Q (.inl (some (ev_i 3))) S)) ∧
      (¬ (x2 < 0) → (
        (x2 ≤ 9 → (
          Q (.inl (some (ev_i 0))) S)) ∧
        (¬ (x2 ≤ 9) → (
          Q (.inl (some (ev_i 3))) S)))))) ∧
    (¬ ((t_X9_isMonth x1) = true) → (
      Q (.inl (some (ev_i 1))) S)))) ∧
  (¬ ((t_X5_exists S (a + 20) x0) = true) → (
    Q (.inl (some (ev_i 1))) S))) : ev_Cv g m_X2_snowFault 3 0 [ev_o 2 a, ev_i x0, ev_i x1, ev_i x2] S Q := by
  refine ev_enter (by decide) rfl rfl (Nat.le_of_ble_eq_true rfl) ?_
  show ev_E g m_X2_snowFault 3 0 0 [some (ev_o 2 a), some (ev_i x0), some (ev_i x1), some (ev_i x2)] [] S Q
  refine ev_aload_n (ev_o 2 a) dX2_snowFault_0 rfl rfl ?_
  refine ev_fV mv_X2_passes 2 2 [] [] dX2_snowFault_1 kw_863 rfl (by decide) rfl (by decide) (Nat.le_of_ble_eq_true rfl) (sp_X2_passes a) ?_ rfl
  refine ev_iload_n (x0) dX2_snowFault_4 rfl ?_
  refine ev_fV mv_X5_exists 1 5 [ev_i x0] [] dX2_snowFault_5 kw_864 rfl (by decide) rfl (by decide) (Nat.le_of_ble_eq_true rfl) (sp_X5_exists (a + 20) x0) ?_ rfl
  by_cases c1 : (t_X5_exists S (a + 20) x0) = true
  · rw [if_pos c1]
    replace hQ := hQ.1 c1
    refine ev_if_eq 18 dX2_snowFault_8 (by decide) (fun h9 => absurd h9 (by decide : ¬ ((1 : Int32) = 0))) (fun _ => ?_)
    refine ev_iload_n (x1) dX2_snowFault_11 rfl ?_
    refine ev_fN ms_X9_isMonth 1 [ev_i x1] [] dX2_snowFault_12 (List.mem_of_getElem? (i := 31) rfl) rfl (by decide) (Nat.le_of_ble_eq_true rfl) (sp_X9_isMonth x1) ?_ rfl
    by_cases c2 : (t_X9_isMonth x1) = true
    · rw [if_pos c2]
      replace hQ := hQ.1 c2
      refine ev_if_ne 20 dX2_snowFault_15 (by decide) (fun _ => ?_) (fun h9 => absurd h9 (by decide : ¬ ((1 : Int32) = 0)))
      refine ev_iload_n (x2) dX2_snowFault_20 rfl ?_
      refine ev_if_lt 30 dX2_snowFault_21 (by decide) (fun c3 => ?_) (fun c3 => ?_)
      · replace hQ := hQ.1 c3
        refine ev_iconst (3) dX2_snowFault_30 rfl ?_
        refine ev_goto 35 dX2_snowFault_31 (by decide) ?_
        exact ev_ireturn .int dX2_snowFault_35 rfl rfl hQ
      · replace hQ := hQ.2 c3
        refine ev_iload_n (x2) dX2_snowFault_24 rfl ?_
        refine ev_bipush (9) dX2_snowFault_25 (by decide) ?_
        refine ev_icmp_le 34 dX2_snowFault_27 (by decide) (fun c4 => ?_) (fun c4 => ?_)
        · replace hQ := hQ.1 c4
          refine ev_iconst (0) dX2_snowFault_34 rfl ?_
          exact ev_ireturn .int dX2_snowFault_35 rfl rfl hQ
        · replace hQ := hQ.2 c4
          refine ev_iconst (3) dX2_snowFault_30 rfl ?_
          refine ev_goto 35 dX2_snowFault_31 (by decide) ?_
          exact ev_ireturn .int dX2_snowFault_35 rfl rfl hQ
    · rw [if_neg c2]
      replace hQ := hQ.2 c2
      refine ev_if_ne 20 dX2_snowFault_15 (by decide) (fun h9 => absurd (by decide : ((0 : Int32) = 0)) h9) (fun _ => ?_)
      refine ev_iconst (1) dX2_snowFault_18 rfl ?_
      exact ev_ireturn .int dX2_snowFault_19 rfl rfl hQ
  · rw [if_neg c1]
    replace hQ := hQ.2 c1
    refine ev_if_eq 18 dX2_snowFault_8 (by decide) (fun _ => ?_) (fun h9 => absurd (by decide : ((0 : Int32) = 0)) h9)
    refine ev_iconst (1) dX2_snowFault_18 rfl ?_
    exact ev_ireturn .int dX2_snowFault_19 rfl rfl hQ
def f_X2_snowFault (S : ev_S) (a : Nat) (x0 : Int32) (x1 : Int32) (x2 : Int32) : Int32 := if (t_X5_exists S (a + 20) x0) = true then (if (t_X9_isMonth x1) = true then (if x2 < 0 then (3) else (if x2 ≤ 9 then (0) else (3))) else (1)) else (1)
set_option maxHeartbeats 4000000 in
set_option maxRecDepth 100000 in
theorem sp_X2_snowFault {g : ev_G} {S : ev_S} (a : Nat) (x0 : Int32) (x1 : Int32) (x2 : Int32)  : ev_Fn g m_X2_snowFault 3 [ev_o 2 a, ev_i x0, ev_i x1, ev_i x2] S (some (ev_i (f_X2_snowFault S a x0 x1 x2))) S := by
  intro Q hQ
  refine sg_X2_snowFault_0 a x0 x1 x2 ?_
  unfold f_X2_snowFault at hQ
  refine ⟨fun c1 => ?_, fun c1 => ?_⟩
  · rw [if_pos c1] at hQ
    refine ⟨fun c2 => ?_, fun c2 => ?_⟩
    · rw [if_pos c2] at hQ
      refine ⟨fun c3 => ?_, fun c3 => ?_⟩
      · rw [if_pos c3] at hQ
        exact hQ
      · rw [if_neg c3] at hQ
        refine ⟨fun c4 => ?_, fun c4 => ?_⟩
        · rw [if_pos c4] at hQ
          exact hQ
        · rw [if_neg c4] at hQ
          exact hQ
    · rw [if_neg c2] at hQ
      exact hQ
  · rw [if_neg c1] at hQ
    exact hQ
set_option maxHeartbeats 4000000 in
set_option maxRecDepth 100000 in
theorem sg_X9_perform_0 {g : ev_G} {S : ev_S} {Q : ev_O → ev_S → Prop} (a : Nat) (x0 : Int32) (hQ : ((j_at (S.1 (a + 4)) 60 x0) = 1 → (
    ev_Cv g m_X2_moveFault 5 0 [ev_o 2 (a + 11), ev_i (j_at (S.1 (a + 5)) 360 ((x0 * 6) + 0)), ev_i (j_at (S.1 (a + 5)) 360 ((x0 * 6) + 1)), ev_i (j_at (S.1 (a + 5)) 360 ((x0 * 6) + 2)), ev_i (j_at (S.1 (a + 5)) 360 ((x0 * 6) + 3))] S (fun o S1 => ∃ v1_ : Int32, o = .inl (some (ev_i v1_)) ∧ (
      (v1_ = 0 → (
        ev_Cv g m_X2_makeMove 5 0 [ev_o 2 (a + 11), ev_i (j_at (S.1 (a + 5)) 360 ((x0 * 6) + 0)), ev_i (j_at (S.1 (a + 5)) 360 ((x0 * 6) + 1)), ev_i (j_at (S.1 (a + 5)) 360 ((x0 * 6) + 2)), ev_i (j_at (S.1 (a + 5)) 360 ((x0 * 6) + 3))] S1 (fun o S2 => ∃ v2_ : Int32, o = .inl (some (ev_i v2_)) ∧ (
          Q (.inl (some (ev_i 1))) S2)))) ∧
      (¬ (v1_ = 0) → (
        Q (.inl (some (ev_i 0))) S1)))))) ∧
  (¬ ((j_at (S.1 (a + 4)) 60 x0) = 1) → (
    ((j_at (S.1 (a + 4)) 60 x0) = 2 → (
      ev_Cv g m_X9_performPromise 6 0 [ev_o 9 a, ev_i x0] S (fun o S3 => ∃ v3_ : Bool, o = .inl (some (ev_i (if v3_ = true then 1 else 0))) ∧ (
        (v3_ = true → (
          Q (.inl (some (ev_i 1))) S3)) ∧
        (¬ (v3_ = true) → (
          Q (.inl (some (ev_i 0))) S3)))))) ∧
    (¬ ((j_at (S.1 (a + 4)) 60 x0) = 2) → (
      ((j_at (S.1 (a + 4)) 60 x0) = 3 → (
        ((f_X2_copyFault S (a + 11) (j_at (S.1 (a + 5)) 360 ((x0 * 6) + 0)) (j_at (S.1 (a + 5)) 360 ((x0 * 6) + 1))) = 0 → (
          ev_Cv g m_X2_makeCopy 4 0 [ev_o 2 (a + 11), ev_i (j_at (S.1 (a + 5)) 360 ((x0 * 6) + 0)), ev_i (j_at (S.1 (a + 5)) 360 ((x0 * 6) + 1))] S (fun o S4 => ∃ v4_ : Int32, o = .inl (some (ev_i v4_)) ∧ (
            Q (.inl (some (ev_i 1))) S4)))) ∧
        (¬ ((f_X2_copyFault S (a + 11) (j_at (S.1 (a + 5)) 360 ((x0 * 6) + 0)) (j_at (S.1 (a + 5)) 360 ((x0 * 6) + 1))) = 0) → (
          Q (.inl (some (ev_i 0))) S)))) ∧
      (¬ ((j_at (S.1 (a + 4)) 60 x0) = 3) → (
        ((j_at (S.1 (a + 4)) 60 x0) = 4 → (
          ((f_X2_daysFault S (a + 11) (j_at (S.1 (a + 5)) 360 ((x0 * 6) + 0))) = 0 → (
            ev_Cv g m_X2_letDaysPass 6 0 [ev_o 2 (a + 11), ev_i (j_at (S.1 (a + 5)) 360 ((x0 * 6) + 0))] S (fun o S5 => ∃ v5_ : Int32, o = .inl (some (ev_i v5_)) ∧ (
              Q (.inl (some (ev_i 1))) S5)))) ∧
          (¬ ((f_X2_daysFault S (a + 11) (j_at (S.1 (a + 5)) 360 ((x0 * 6) + 0))) = 0) → (
            Q (.inl (some (ev_i 0))) S)))) ∧
        (¬ ((j_at (S.1 (a + 4)) 60 x0) = 4) → (
          ((j_at (S.1 (a + 4)) 60 x0) = 5 → (
            ((f_X2_muleFault S (a + 11) (j_at (S.1 (a + 5)) 360 ((x0 * 6) + 0)) (j_at (S.1 (a + 5)) 360 ((x0 * 6) + 1))) = 0 → (
              ∀ S6 : ev_S, S6 = (j_put (ev_up S (a + 31) 4 ((S.1 (a + 31) 4) + 1)) (a + 34) 8 (((j_at (S.1 (a + 5)) 360 ((x0 * 6) + 0)) * 2) + (j_at (S.1 (a + 5)) 360 ((x0 * 6) + 1))) ((j_at ((ev_up S (a + 31) 4 ((S.1 (a + 31) 4) + 1)).1 (a + 34)) 8 (((j_at (S.1 (a + 5)) 360 ((x0 * 6) + 0)) * 2) + (j_at (S.1 (a + 5)) 360 ((x0 * 6) + 1)))) + 1)) → (
                Q (.inl (some (ev_i 1))) S6))) ∧
            (¬ ((f_X2_muleFault S (a + 11) (j_at (S.1 (a + 5)) 360 ((x0 * 6) + 0)) (j_at (S.1 (a + 5)) 360 ((x0 * 6) + 1))) = 0) → (
              Q (.inl (some (ev_i 0))) S)))) ∧
          (¬ ((j_at (S.1 (a + 4)) 60 x0) = 5) → (
            ((j_at (S.1 (a + 4)) 60 x0) = 6 → (
              ((f_X2_snowFault S (a + 11) (j_at (S.1 (a + 5)) 360 ((x0 * 6) + 0)) (j_at (S.1 (a + 5)) 360 ((x0 * 6) + 1)) (j_at (S.1 (a + 5)) 360 ((x0 * 6) + 2))) = 0 → (
                ∀ S7 : ev_S, S7 = (j_put S (a + 33) 48 (((j_at (S.1 (a + 5)) 360 ((x0 * 6) + 0)) * 12) + (j_at (S.1 (a + 5)) 360 ((x0 * 6) + 1))) (j_at (S.1 (a + 5)) 360 ((x0 * 6) + 2))) → (
                  Q (.inl (some (ev_i 1))) S7))) ∧
              (¬ ((f_X2_snowFault S (a + 11) (j_at (S.1 (a + 5)) 360 ((x0 * 6) + 0)) (j_at (S.1 (a + 5)) 360 ((x0 * 6) + 1)) (j_at (S.1 (a + 5)) 360 ((x0 * 6) + 2))) = 0) → (
                Q (.inl (some (ev_i 0))) S)))) ∧
            (¬ ((j_at (S.1 (a + 4)) 60 x0) = 6) → (
              Q (.inl (some (ev_i 0))) S))))))))))))) : ev_Cv g m_X9_perform 7 0 [ev_o 9 a, ev_i x0] S Q := by
  refine ev_enter (by decide) rfl rfl (Nat.le_of_ble_eq_true rfl) ?_
  show ev_E g m_X9_perform 7 0 0 [some (ev_o 9 a), some (ev_i x0), none, none, none, none] [] S Q
  refine ev_aload_n (ev_o 9 a) dX9_perform_0 rfl rfl ?_
  refine gf_9_1 dX9_perform_1 kw_688 ?_
  refine ev_iload_n (x0) dX9_perform_4 rfl ?_
  refine ev_iconst (0) dX9_perform_5 rfl ?_
  refine ev_fV mv_X7_argument 2 7 [ev_i x0, ev_i 0] [] dX9_perform_6 kw_845 rfl (by decide) rfl (by decide) (Nat.le_of_ble_eq_true rfl) (sp_X7_argument (a + 3) x0 0) ?_ rfl
  refine ev_istore_n dX9_perform_9 (Nat.le_of_ble_eq_true rfl) (ev_hw rfl) ?_
  show ev_E g m_X9_perform 7 0 10 [some (ev_o 9 a), some (ev_i x0), some (ev_i (j_at (S.1 (a + 5)) 360 ((x0 * 6) + 0))), none, none, none] [] S Q
  refine ev_aload_n (ev_o 9 a) dX9_perform_10 rfl rfl ?_
  refine gf_9_1 dX9_perform_11 kw_688 ?_
  refine ev_iload_n (x0) dX9_perform_14 rfl ?_
  refine ev_iconst (1) dX9_perform_15 rfl ?_
  refine ev_fV mv_X7_argument 2 7 [ev_i x0, ev_i 1] [] dX9_perform_16 kw_845 rfl (by decide) rfl (by decide) (Nat.le_of_ble_eq_true rfl) (sp_X7_argument (a + 3) x0 1) ?_ rfl
  refine ev_istore_n dX9_perform_19 (Nat.le_of_ble_eq_true rfl) (ev_hw rfl) ?_
  show ev_E g m_X9_perform 7 0 20 [some (ev_o 9 a), some (ev_i x0), some (ev_i (j_at (S.1 (a + 5)) 360 ((x0 * 6) + 0))), some (ev_i (j_at (S.1 (a + 5)) 360 ((x0 * 6) + 1))), none, none] [] S Q
  refine ev_aload_n (ev_o 9 a) dX9_perform_20 rfl rfl ?_
  refine gf_9_1 dX9_perform_21 kw_688 ?_
  refine ev_iload_n (x0) dX9_perform_24 rfl ?_
  refine ev_iconst (2) dX9_perform_25 rfl ?_
  refine ev_fV mv_X7_argument 2 7 [ev_i x0, ev_i 2] [] dX9_perform_26 kw_845 rfl (by decide) rfl (by decide) (Nat.le_of_ble_eq_true rfl) (sp_X7_argument (a + 3) x0 2) ?_ rfl
  refine ev_istore dX9_perform_29 (Nat.le_of_ble_eq_true rfl) (ev_hw rfl) ?_
  show ev_E g m_X9_perform 7 0 31 [some (ev_o 9 a), some (ev_i x0), some (ev_i (j_at (S.1 (a + 5)) 360 ((x0 * 6) + 0))), some (ev_i (j_at (S.1 (a + 5)) 360 ((x0 * 6) + 1))), some (ev_i (j_at (S.1 (a + 5)) 360 ((x0 * 6) + 2))), none] [] S Q
  refine ev_aload_n (ev_o 9 a) dX9_perform_31 rfl rfl ?_
  refine gf_9_1 dX9_perform_32 kw_688 ?_
  refine ev_iload_n (x0) dX9_perform_35 rfl ?_
  refine ev_iconst (3) dX9_perform_36 rfl ?_
  refine ev_fV mv_X7_argument 2 7 [ev_i x0, ev_i 3] [] dX9_perform_37 kw_845 rfl (by decide) rfl (by decide) (Nat.le_of_ble_eq_true rfl) (sp_X7_argument (a + 3) x0 3) ?_ rfl
  refine ev_istore dX9_perform_40 (Nat.le_of_ble_eq_true rfl) (ev_hw rfl) ?_
  show ev_E g m_X9_perform 7 0 42 [some (ev_o 9 a), some (ev_i x0), some (ev_i (j_at (S.1 (a + 5)) 360 ((x0 * 6) + 0))), some (ev_i (j_at (S.1 (a + 5)) 360 ((x0 * 6) + 1))), some (ev_i (j_at (S.1 (a + 5)) 360 ((x0 * 6) + 2))), some (ev_i (j_at (S.1 (a + 5)) 360 ((x0 * 6) + 3)))] [] S Q
  refine ev_aload_n (ev_o 9 a) dX9_perform_42 rfl rfl ?_
  refine gf_9_1 dX9_perform_43 kw_688 ?_
  refine ev_iload_n (x0) dX9_perform_46 rfl ?_
  refine ev_fV mv_X7_commandAt 2 7 [ev_i x0] [] dX9_perform_47 kw_846 rfl (by decide) rfl (by decide) (Nat.le_of_ble_eq_true rfl) (sp_X7_commandAt (a + 3) x0) ?_ rfl
  by_cases c1 : (j_at (S.1 (a + 4)) 60 x0) = 1
  · replace hQ := hQ.1 c1
    refine ev_tableIn (off := 38) 88 dX9_perform_50 (by rw [c1]; decide) (by rw [c1]; decide) (by rw [c1]; rfl) (by decide) ?_
    refine ev_aload_n (ev_o 9 a) dX9_perform_88 rfl rfl ?_
    refine gf_9_3 dX9_perform_89 kw_690 ?_
    refine ev_iload_n ((j_at (S.1 (a + 5)) 360 ((x0 * 6) + 0))) dX9_perform_92 rfl ?_
    refine ev_iload_n ((j_at (S.1 (a + 5)) 360 ((x0 * 6) + 1))) dX9_perform_93 rfl ?_
    refine ev_iload ((j_at (S.1 (a + 5)) 360 ((x0 * 6) + 2))) dX9_perform_94 rfl ?_
    refine ev_iload ((j_at (S.1 (a + 5)) 360 ((x0 * 6) + 3))) dX9_perform_96 rfl ?_
    refine ev_cV mv_X2_moveFault 5 0 2 [ev_i (j_at (S.1 (a + 5)) 360 ((x0 * 6) + 0)), ev_i (j_at (S.1 (a + 5)) 360 ((x0 * 6) + 1)), ev_i (j_at (S.1 (a + 5)) 360 ((x0 * 6) + 2)), ev_i (j_at (S.1 (a + 5)) 360 ((x0 * 6) + 3))] [] dX9_perform_98 kw_847 rfl (by decide) rfl (by decide) (by decide) (Nat.le_of_ble_eq_true rfl) hQ ?_ rfl
    rintro o S1 ⟨v1_, rfl, hQ⟩
    show ev_E g m_X9_perform 7 0 101 [some (ev_o 9 a), some (ev_i x0), some (ev_i (j_at (S.1 (a + 5)) 360 ((x0 * 6) + 0))), some (ev_i (j_at (S.1 (a + 5)) 360 ((x0 * 6) + 1))), some (ev_i (j_at (S.1 (a + 5)) 360 ((x0 * 6) + 2))), some (ev_i (j_at (S.1 (a + 5)) 360 ((x0 * 6) + 3)))] [ev_i v1_] S1 Q
    refine ev_if_eq 106 dX9_perform_101 (by decide) (fun c2 => ?_) (fun c2 => ?_)
    · replace hQ := hQ.1 c2
      refine ev_aload_n (ev_o 9 a) dX9_perform_106 rfl rfl ?_
      refine gf_9_3 dX9_perform_107 kw_690 ?_
      refine ev_iload_n ((j_at (S.1 (a + 5)) 360 ((x0 * 6) + 0))) dX9_perform_110 rfl ?_
      refine ev_iload_n ((j_at (S.1 (a + 5)) 360 ((x0 * 6) + 1))) dX9_perform_111 rfl ?_
      refine ev_iload ((j_at (S.1 (a + 5)) 360 ((x0 * 6) + 2))) dX9_perform_112 rfl ?_
      refine ev_iload ((j_at (S.1 (a + 5)) 360 ((x0 * 6) + 3))) dX9_perform_114 rfl ?_
      refine ev_cV mv_X2_makeMove 5 0 2 [ev_i (j_at (S.1 (a + 5)) 360 ((x0 * 6) + 0)), ev_i (j_at (S.1 (a + 5)) 360 ((x0 * 6) + 1)), ev_i (j_at (S.1 (a + 5)) 360 ((x0 * 6) + 2)), ev_i (j_at (S.1 (a + 5)) 360 ((x0 * 6) + 3))] [] dX9_perform_116 kw_897 rfl (by decide) rfl (by decide) (by decide) (Nat.le_of_ble_eq_true rfl) hQ ?_ rfl
      rintro o S2 ⟨v2_, rfl, hQ⟩
      show ev_E g m_X9_perform 7 0 119 [some (ev_o 9 a), some (ev_i x0), some (ev_i (j_at (S.1 (a + 5)) 360 ((x0 * 6) + 0))), some (ev_i (j_at (S.1 (a + 5)) 360 ((x0 * 6) + 1))), some (ev_i (j_at (S.1 (a + 5)) 360 ((x0 * 6) + 2))), some (ev_i (j_at (S.1 (a + 5)) 360 ((x0 * 6) + 3)))] [ev_i v2_] S2 Q
      refine ev_pop dX9_perform_119 rfl ?_
      refine ev_iconst (1) dX9_perform_120 rfl ?_
      exact ev_ireturn .boolean dX9_perform_121 rfl rfl hQ
    · replace hQ := hQ.2 c2
      refine ev_iconst (0) dX9_perform_104 rfl ?_
      exact ev_ireturn .boolean dX9_perform_105 rfl rfl hQ
  · replace hQ := hQ.2 c1
    by_cases c3 : (j_at (S.1 (a + 4)) 60 x0) = 2
    · replace hQ := hQ.1 c3
      refine ev_tableIn (off := 72) 122 dX9_perform_50 (by rw [c3]; decide) (by rw [c3]; decide) (by rw [c3]; rfl) (by decide) ?_
      refine ev_aload_n (ev_o 9 a) dX9_perform_122 rfl rfl ?_
      refine ev_iload_n (x0) dX9_perform_123 rfl ?_
      refine ev_cV mv_X9_performPromise 6 0 9 [ev_i x0] [] dX9_perform_124 kw_950 rfl (by decide) rfl (by decide) (by decide) (Nat.le_of_ble_eq_true rfl) hQ ?_ rfl
      rintro o S3 ⟨v3_, rfl, hQ⟩
      show ev_E g m_X9_perform 7 0 127 [some (ev_o 9 a), some (ev_i x0), some (ev_i (j_at (S.1 (a + 5)) 360 ((x0 * 6) + 0))), some (ev_i (j_at (S.1 (a + 5)) 360 ((x0 * 6) + 1))), some (ev_i (j_at (S.1 (a + 5)) 360 ((x0 * 6) + 2))), some (ev_i (j_at (S.1 (a + 5)) 360 ((x0 * 6) + 3)))] [ev_i (if v3_ = true then 1 else 0)] S3 Q
      by_cases c4 : v3_ = true
      · rw [if_pos c4]
        replace hQ := hQ.1 c4
        exact ev_ireturn .boolean dX9_perform_127 rfl rfl hQ
      · rw [if_neg c4]
        replace hQ := hQ.2 c4
        exact ev_ireturn .boolean dX9_perform_127 rfl rfl hQ
    · replace hQ := hQ.2 c3
      by_cases c5 : (j_at (S.1 (a + 4)) 60 x0) = 3
      · replace hQ := hQ.1 c5
        refine ev_tableIn (off := 78) 128 dX9_perform_50 (by rw [c5]; decide) (by rw [c5]; decide) (by rw [c5]; rfl) (by decide) ?_
        refine ev_aload_n (ev_o 9 a) dX9_perform_128 rfl rfl ?_
        refine gf_9_3 dX9_perform_129 kw_690 ?_
        refine ev_iload_n ((j_at (S.1 (a + 5)) 360 ((x0 * 6) + 0))) dX9_perform_132 rfl ?_
        refine ev_iload_n ((j_at (S.1 (a + 5)) 360 ((x0 * 6) + 1))) dX9_perform_133 rfl ?_
        refine ev_fV mv_X2_copyFault 3 2 [ev_i (j_at (S.1 (a + 5)) 360 ((x0 * 6) + 0)), ev_i (j_at (S.1 (a + 5)) 360 ((x0 * 6) + 1))] [] dX9_perform_134 kw_971 rfl (by decide) rfl (by decide) (Nat.le_of_ble_eq_true rfl) (sp_X2_copyFault (a + 11) (j_at (S.1 (a + 5)) 360 ((x0 * 6) + 0)) (j_at (S.1 (a + 5)) 360 ((x0 * 6) + 1))) ?_ rfl
        refine ev_if_eq 142 dX9_perform_137 (by decide) (fun c6 => ?_) (fun c6 => ?_)
        · replace hQ := hQ.1 c6
          refine ev_aload_n (ev_o 9 a) dX9_perform_142 rfl rfl ?_
          refine gf_9_3 dX9_perform_143 kw_690 ?_
          refine ev_iload_n ((j_at (S.1 (a + 5)) 360 ((x0 * 6) + 0))) dX9_perform_146 rfl ?_
          refine ev_iload_n ((j_at (S.1 (a + 5)) 360 ((x0 * 6) + 1))) dX9_perform_147 rfl ?_
          refine ev_cV mv_X2_makeCopy 4 0 2 [ev_i (j_at (S.1 (a + 5)) 360 ((x0 * 6) + 0)), ev_i (j_at (S.1 (a + 5)) 360 ((x0 * 6) + 1))] [] dX9_perform_148 kw_979 rfl (by decide) rfl (by decide) (by decide) (Nat.le_of_ble_eq_true rfl) hQ ?_ rfl
          rintro o S4 ⟨v4_, rfl, hQ⟩
          show ev_E g m_X9_perform 7 0 151 [some (ev_o 9 a), some (ev_i x0), some (ev_i (j_at (S.1 (a + 5)) 360 ((x0 * 6) + 0))), some (ev_i (j_at (S.1 (a + 5)) 360 ((x0 * 6) + 1))), some (ev_i (j_at (S.1 (a + 5)) 360 ((x0 * 6) + 2))), some (ev_i (j_at (S.1 (a + 5)) 360 ((x0 * 6) + 3)))] [ev_i v4_] S4 Q
          refine ev_pop dX9_perform_151 rfl ?_
          refine ev_iconst (1) dX9_perform_152 rfl ?_
          exact ev_ireturn .boolean dX9_perform_153 rfl rfl hQ
        · replace hQ := hQ.2 c6
          refine ev_iconst (0) dX9_perform_140 rfl ?_
          exact ev_ireturn .boolean dX9_perform_141 rfl rfl hQ
      · replace hQ := hQ.2 c5
        by_cases c7 : (j_at (S.1 (a + 4)) 60 x0) = 4
        · replace hQ := hQ.1 c7
          refine ev_tableIn (off := 104) 154 dX9_perform_50 (by rw [c7]; decide) (by rw [c7]; decide) (by rw [c7]; rfl) (by decide) ?_
          refine ev_aload_n (ev_o 9 a) dX9_perform_154 rfl rfl ?_
          refine gf_9_3 dX9_perform_155 kw_690 ?_
          refine ev_iload_n ((j_at (S.1 (a + 5)) 360 ((x0 * 6) + 0))) dX9_perform_158 rfl ?_
          refine ev_fV mv_X2_daysFault 1 2 [ev_i (j_at (S.1 (a + 5)) 360 ((x0 * 6) + 0))] [] dX9_perform_159 kw_999 rfl (by decide) rfl (by decide) (Nat.le_of_ble_eq_true rfl) (sp_X2_daysFault (a + 11) (j_at (S.1 (a + 5)) 360 ((x0 * 6) + 0))) ?_ rfl
          refine ev_if_eq 167 dX9_perform_162 (by decide) (fun c8 => ?_) (fun c8 => ?_)
          · replace hQ := hQ.1 c8
            refine ev_aload_n (ev_o 9 a) dX9_perform_167 rfl rfl ?_
            refine gf_9_3 dX9_perform_168 kw_690 ?_
            refine ev_iload_n ((j_at (S.1 (a + 5)) 360 ((x0 * 6) + 0))) dX9_perform_171 rfl ?_
            refine ev_cV mv_X2_letDaysPass 6 0 2 [ev_i (j_at (S.1 (a + 5)) 360 ((x0 * 6) + 0))] [] dX9_perform_172 kw_1003 rfl (by decide) rfl (by decide) (by decide) (Nat.le_of_ble_eq_true rfl) hQ ?_ rfl
            rintro o S5 ⟨v5_, rfl, hQ⟩
            show ev_E g m_X9_perform 7 0 175 [some (ev_o 9 a), some (ev_i x0), some (ev_i (j_at (S.1 (a + 5)) 360 ((x0 * 6) + 0))), some (ev_i (j_at (S.1 (a + 5)) 360 ((x0 * 6) + 1))), some (ev_i (j_at (S.1 (a + 5)) 360 ((x0 * 6) + 2))), some (ev_i (j_at (S.1 (a + 5)) 360 ((x0 * 6) + 3)))] [ev_i v5_] S5 Q
            refine ev_pop dX9_perform_175 rfl ?_
            refine ev_iconst (1) dX9_perform_176 rfl ?_
            exact ev_ireturn .boolean dX9_perform_177 rfl rfl hQ
          · replace hQ := hQ.2 c8
            refine ev_iconst (0) dX9_perform_165 rfl ?_
            exact ev_ireturn .boolean dX9_perform_166 rfl rfl hQ
        · replace hQ := hQ.2 c7
          by_cases c9 : (j_at (S.1 (a + 4)) 60 x0) = 5
          · replace hQ := hQ.1 c9
            refine ev_tableIn (off := 128) 178 dX9_perform_50 (by rw [c9]; decide) (by rw [c9]; decide) (by rw [c9]; rfl) (by decide) ?_
            refine ev_aload_n (ev_o 9 a) dX9_perform_178 rfl rfl ?_
            refine gf_9_3 dX9_perform_179 kw_690 ?_
            refine ev_iload_n ((j_at (S.1 (a + 5)) 360 ((x0 * 6) + 0))) dX9_perform_182 rfl ?_
            refine ev_iload_n ((j_at (S.1 (a + 5)) 360 ((x0 * 6) + 1))) dX9_perform_183 rfl ?_
            refine ev_fV mv_X2_muleFault 3 2 [ev_i (j_at (S.1 (a + 5)) 360 ((x0 * 6) + 0)), ev_i (j_at (S.1 (a + 5)) 360 ((x0 * 6) + 1))] [] dX9_perform_184 kw_1065 rfl (by decide) rfl (by decide) (Nat.le_of_ble_eq_true rfl) (sp_X2_muleFault (a + 11) (j_at (S.1 (a + 5)) 360 ((x0 * 6) + 0)) (j_at (S.1 (a + 5)) 360 ((x0 * 6) + 1))) ?_ rfl
            refine ev_if_eq 192 dX9_perform_187 (by decide) (fun c10 => ?_) (fun c10 => ?_)
            · replace hQ := hQ.1 c10
              refine ev_aload_n (ev_o 9 a) dX9_perform_192 rfl rfl ?_
              refine gf_9_3 dX9_perform_193 kw_690 ?_
              refine ev_fV mv_X2_passes 2 2 [] [] dX9_perform_196 kw_616 rfl (by decide) rfl (by decide) (Nat.le_of_ble_eq_true rfl) (sp_X2_passes (a + 11)) ?_ rfl
              refine ev_iload_n ((j_at (S.1 (a + 5)) 360 ((x0 * 6) + 0))) dX9_perform_199 rfl ?_
              refine ev_iload_n ((j_at (S.1 (a + 5)) 360 ((x0 * 6) + 1))) dX9_perform_200 rfl ?_
              refine ev_fV mv_X5_bringMule 3 5 [ev_i (j_at (S.1 (a + 5)) 360 ((x0 * 6) + 0)), ev_i (j_at (S.1 (a + 5)) 360 ((x0 * 6) + 1))] [] dX9_perform_201 kw_1070 rfl (by decide) rfl (by decide) (Nat.le_of_ble_eq_true rfl) (sp_X5_bringMule (a + 31) (j_at (S.1 (a + 5)) 360 ((x0 * 6) + 0)) (j_at (S.1 (a + 5)) 360 ((x0 * 6) + 1))) ?_ rfl
              refine ev_sub hQ (fun S6 hS6 hQ => ?_)
              refine ev_E.goal (pc' := 204) (L' := [some (ev_o 9 a), some (ev_i x0), some (ev_i (j_at (S.1 (a + 5)) 360 ((x0 * 6) + 0))), some (ev_i (j_at (S.1 (a + 5)) 360 ((x0 * 6) + 1))), some (ev_i (j_at (S.1 (a + 5)) 360 ((x0 * 6) + 2))), some (ev_i (j_at (S.1 (a + 5)) 360 ((x0 * 6) + 3)))]) (K' := [ev_i (j_at ((j_put (ev_up S (a + 31) 4 ((S.1 (a + 31) 4) + 1)) (a + 34) 8 (((j_at (S.1 (a + 5)) 360 ((x0 * 6) + 0)) * 2) + (j_at (S.1 (a + 5)) 360 ((x0 * 6) + 1))) ((j_at ((ev_up S (a + 31) 4 ((S.1 (a + 31) 4) + 1)).1 (a + 34)) 8 (((j_at (S.1 (a + 5)) 360 ((x0 * 6) + 0)) * 2) + (j_at (S.1 (a + 5)) 360 ((x0 * 6) + 1)))) + 1)).1 (a + 34)) 8 (((j_at (S.1 (a + 5)) 360 ((x0 * 6) + 0)) * 2) + (j_at (S.1 (a + 5)) 360 ((x0 * 6) + 1))))]) (S' := S6) ?_ rfl rfl rfl hS6
              refine ev_pop dX9_perform_204 rfl ?_
              refine ev_iconst (1) dX9_perform_205 rfl ?_
              exact ev_ireturn .boolean dX9_perform_206 rfl rfl hQ
            · replace hQ := hQ.2 c10
              refine ev_iconst (0) dX9_perform_190 rfl ?_
              exact ev_ireturn .boolean dX9_perform_191 rfl rfl hQ
          · replace hQ := hQ.2 c9
            by_cases c11 : (j_at (S.1 (a + 4)) 60 x0) = 6
            · replace hQ := hQ.1 c11
              refine ev_tableIn (off := 157) 207 dX9_perform_50 (by rw [c11]; decide) (by rw [c11]; decide) (by rw [c11]; rfl) (by decide) ?_
              refine ev_aload_n (ev_o 9 a) dX9_perform_207 rfl rfl ?_
              refine gf_9_3 dX9_perform_208 kw_690 ?_
              refine ev_iload_n ((j_at (S.1 (a + 5)) 360 ((x0 * 6) + 0))) dX9_perform_211 rfl ?_
              refine ev_iload_n ((j_at (S.1 (a + 5)) 360 ((x0 * 6) + 1))) dX9_perform_212 rfl ?_
              refine ev_iload ((j_at (S.1 (a + 5)) 360 ((x0 * 6) + 2))) dX9_perform_213 rfl ?_
              refine ev_fV mv_X2_snowFault 3 2 [ev_i (j_at (S.1 (a + 5)) 360 ((x0 * 6) + 0)), ev_i (j_at (S.1 (a + 5)) 360 ((x0 * 6) + 1)), ev_i (j_at (S.1 (a + 5)) 360 ((x0 * 6) + 2))] [] dX9_perform_215 kw_1076 rfl (by decide) rfl (by decide) (Nat.le_of_ble_eq_true rfl) (sp_X2_snowFault (a + 11) (j_at (S.1 (a + 5)) 360 ((x0 * 6) + 0)) (j_at (S.1 (a + 5)) 360 ((x0 * 6) + 1)) (j_at (S.1 (a + 5)) 360 ((x0 * 6) + 2))) ?_ rfl
              refine ev_if_eq 223 dX9_perform_218 (by decide) (fun c12 => ?_) (fun c12 => ?_)
              · replace hQ := hQ.1 c12
                refine ev_aload_n (ev_o 9 a) dX9_perform_223 rfl rfl ?_
                refine gf_9_3 dX9_perform_224 kw_690 ?_
                refine ev_fV mv_X2_passes 2 2 [] [] dX9_perform_227 kw_616 rfl (by decide) rfl (by decide) (Nat.le_of_ble_eq_true rfl) (sp_X2_passes (a + 11)) ?_ rfl
                refine ev_iload_n ((j_at (S.1 (a + 5)) 360 ((x0 * 6) + 0))) dX9_perform_230 rfl ?_
                refine ev_iload_n ((j_at (S.1 (a + 5)) 360 ((x0 * 6) + 1))) dX9_perform_231 rfl ?_
                refine ev_iload ((j_at (S.1 (a + 5)) 360 ((x0 * 6) + 2))) dX9_perform_232 rfl ?_
                refine ev_fV mv_X5_changeSnow 3 5 [ev_i (j_at (S.1 (a + 5)) 360 ((x0 * 6) + 0)), ev_i (j_at (S.1 (a + 5)) 360 ((x0 * 6) + 1)), ev_i (j_at (S.1 (a + 5)) 360 ((x0 * 6) + 2))] [] dX9_perform_234 kw_640 rfl (by decide) rfl (by decide) (Nat.le_of_ble_eq_true rfl) (sp_X5_changeSnow (a + 31) (j_at (S.1 (a + 5)) 360 ((x0 * 6) + 0)) (j_at (S.1 (a + 5)) 360 ((x0 * 6) + 1)) (j_at (S.1 (a + 5)) 360 ((x0 * 6) + 2))) ?_ rfl
                refine ev_sub hQ (fun S7 hS7 hQ => ?_)
                refine ev_E.goal (pc' := 237) (L' := [some (ev_o 9 a), some (ev_i x0), some (ev_i (j_at (S.1 (a + 5)) 360 ((x0 * 6) + 0))), some (ev_i (j_at (S.1 (a + 5)) 360 ((x0 * 6) + 1))), some (ev_i (j_at (S.1 (a + 5)) 360 ((x0 * 6) + 2))), some (ev_i (j_at (S.1 (a + 5)) 360 ((x0 * 6) + 3)))]) (K' := [ev_i (j_at (S.1 (a + 33)) 48 (((j_at (S.1 (a + 5)) 360 ((x0 * 6) + 0)) * 12) + (j_at (S.1 (a + 5)) 360 ((x0 * 6) + 1))))]) (S' := S7) ?_ rfl rfl rfl hS7
                refine ev_pop dX9_perform_237 rfl ?_
                refine ev_iconst (1) dX9_perform_238 rfl ?_
                exact ev_ireturn .boolean dX9_perform_239 rfl rfl hQ
              · replace hQ := hQ.2 c12
                refine ev_iconst (0) dX9_perform_221 rfl ?_
                exact ev_ireturn .boolean dX9_perform_222 rfl rfl hQ
            · replace hQ := hQ.2 c11
              refine ev_tableOut 240 dX9_perform_50 (j_out0 (fun k h1 h2 h3 => by
                  have h4 : k = 1 ∨ k = 2 ∨ k = 3 ∨ k = 4 ∨ k = 5 ∨ k = 6 := by omega
                  rcases h4 with rfl | rfl | rfl | rfl | rfl | rfl
                  · exact c1 (h3.trans (by decide))
                  · exact c3 (h3.trans (by decide))
                  · exact c5 (h3.trans (by decide))
                  · exact c7 (h3.trans (by decide))
                  · exact c9 (h3.trans (by decide))
                  · exact c11 (h3.trans (by decide)))) (by decide) ?_
              refine ev_iconst (0) dX9_perform_240 rfl ?_
              exact ev_ireturn .boolean dX9_perform_241 rfl rfl hQ
set_option maxHeartbeats 4000000 in
set_option maxRecDepth 100000 in
theorem sg_X9_runScript_0 {g : ev_G} {S : ev_S} {Q : ev_O → ev_S → Prop} (a : Nat) (hQ : ev_Cv g m_X7_read 8 0 [ev_o 7 (a + 3), ev_o 8 (a + 1)] S (fun o S1 => o = .inl none ∧ (
    ∀ S2 : ev_S, S2 = (ev_up S1 (a + 1) 1 0) → (
      ∀ S3 : ev_S, S3 = (ev_up (ev_up S2 a 10 (S2.1 (a + 1) 7)) a 11 (S2.1 (a + 1) 8)) → (
        (((ev_up S2 a 10 (S2.1 (a + 1) 7)).1 a 10) = 0 → (
          ev_Cv g m_X3_remember 5 0 [ev_o 3 (a + 93), ev_o 2 (a + 11)] S3 (fun o S4 => o = .inl none ∧ (
            ev_E g m_X9_runScript 9 0 48 [some (ev_o 9 a), some (ev_i 0), some (ev_i 0), some (ev_i 0)] [] S4 Q)))) ∧
        (¬ (((ev_up S2 a 10 (S2.1 (a + 1) 7)).1 a 10) = 0) → (
          Q (.inl (some (ev_i (-1)))) S3))))))) : ev_Cv g m_X9_runScript 9 0 [ev_o 9 a] S Q := by
  refine ev_enter (by decide) rfl rfl (Nat.le_of_ble_eq_true rfl) ?_
  show ev_E g m_X9_runScript 9 0 0 [some (ev_o 9 a), none, none, none] [] S Q
  refine ev_aload_n (ev_o 9 a) dX9_runScript_0 rfl rfl ?_
  refine gf_9_1 dX9_runScript_1 kw_688 ?_
  refine ev_aload_n (ev_o 9 a) dX9_runScript_4 rfl rfl ?_
  refine gf_9_0 dX9_runScript_5 kw_687 ?_
  refine ev_cV mv_X7_read 8 0 7 [ev_o 8 (a + 1)] [] dX9_runScript_8 kw_749 rfl (by decide) rfl (by decide) (by decide) (Nat.le_of_ble_eq_true rfl) hQ ?_ rfl
  rintro o S1 ⟨rfl, hQ⟩
  show ev_E g m_X9_runScript 9 0 11 [some (ev_o 9 a), none, none, none] [] S1 Q
  refine ev_aload_n (ev_o 9 a) dX9_runScript_11 rfl rfl ?_
  refine gf_9_0 dX9_runScript_12 kw_687 ?_
  refine ev_fVn mv_X8_clear 1 8 [] [] dX9_runScript_15 kw_683 rfl (by decide) rfl (by decide) (Nat.le_of_ble_eq_true rfl) (sp_X8_clear (a + 1)) ?_ rfl
  refine ev_sub hQ (fun S2 hS2 hQ => ?_)
  refine ev_E.goal (pc' := 18) (L' := [some (ev_o 9 a), none, none, none]) (K' := []) (S' := S2) ?_ rfl rfl rfl hS2
  refine ev_aload_n (ev_o 9 a) dX9_runScript_18 rfl rfl ?_
  refine ev_fVn mv_X9_noteError 2 9 [] [] dX9_runScript_19 kw_729 rfl (by decide) rfl (by decide) (Nat.le_of_ble_eq_true rfl) (sp_X9_noteError a) ?_ rfl
  refine ev_sub hQ (fun S3 hS3 hQ => ?_)
  refine ev_E.goal (pc' := 22) (L' := [some (ev_o 9 a), none, none, none]) (K' := []) (S' := S3) ?_ rfl rfl rfl hS3
  refine ev_aload_n (ev_o 9 a) dX9_runScript_22 rfl rfl ?_
  refine gf_9_10 dX9_runScript_23 kw_697 ?_
  refine ev_ke (j_rk hS3 (Or.inr (by decide))) ?_
  refine ev_if_eq 31 dX9_runScript_26 (by decide) (fun c1 => ?_) (fun c1 => ?_)
  · replace hQ := hQ.1 c1
    refine ev_aload_n (ev_o 9 a) dX9_runScript_31 rfl rfl ?_
    refine gf_9_5 dX9_runScript_32 kw_692 ?_
    refine ev_aload_n (ev_o 9 a) dX9_runScript_35 rfl rfl ?_
    refine gf_9_3 dX9_runScript_36 kw_690 ?_
    refine ev_cV mv_X3_remember 5 0 3 [ev_o 2 (a + 11)] [] dX9_runScript_39 kw_811 rfl (by decide) rfl (by decide) (by decide) (Nat.le_of_ble_eq_true rfl) hQ ?_ rfl
    rintro o S4 ⟨rfl, hQ⟩
    show ev_E g m_X9_runScript 9 0 42 [some (ev_o 9 a), none, none, none] [] S4 Q
    refine ev_iconst (0) dX9_runScript_42 rfl ?_
    refine ev_istore_n dX9_runScript_43 (Nat.le_of_ble_eq_true rfl) (ev_hw rfl) ?_
    show ev_E g m_X9_runScript 9 0 44 [some (ev_o 9 a), some (ev_i 0), none, none] [] S4 Q
    refine ev_iconst (0) dX9_runScript_44 rfl ?_
    refine ev_istore_n dX9_runScript_45 (Nat.le_of_ble_eq_true rfl) (ev_hw rfl) ?_
    show ev_E g m_X9_runScript 9 0 46 [some (ev_o 9 a), some (ev_i 0), some (ev_i 0), none] [] S4 Q
    refine ev_iconst (0) dX9_runScript_46 rfl ?_
    refine ev_istore_n dX9_runScript_47 (Nat.le_of_ble_eq_true rfl) (ev_hw rfl) ?_
    show ev_E g m_X9_runScript 9 0 48 [some (ev_o 9 a), some (ev_i 0), some (ev_i 0), some (ev_i 0)] [] S4 Q
    exact hQ
  · replace hQ := hQ.2 c1
    refine ev_iconst (-1) dX9_runScript_29 rfl ?_
    exact ev_ireturn .int dX9_runScript_30 rfl rfl hQ
set_option maxHeartbeats 4000000 in
set_option maxRecDepth 100000 in
theorem sg_X9_runScript_48 {g : ev_G} {S : ev_S} {Q : ev_O → ev_S → Prop} (a : Nat) (u1 : Int32) (u2 : Int32) (u3 : Int32) (hQ : (24060 ≤ u3 → (
    Q (.inl (some (ev_i u1))) S)) ∧
  (¬ (24060 ≤ u3) → (
    ((S.1 (a + 3) 5) ≤ u2 → (
      Q (.inl (some (ev_i u1))) S)) ∧
    (¬ ((S.1 (a + 3) 5) ≤ u2) → (
      (40 ≤ u1 → (
        Q (.inl (some (ev_i u1))) S)) ∧
      (¬ (40 ≤ u1) → (
        ((t_X7_isJump S (a + 3) u2) = true → (
          ev_Cv g m_X7_jump 3 0 [ev_o 7 (a + 3), ev_i u2] S (fun o S1 => ∃ v1_ : Int32, o = .inl (some (ev_i v1_)) ∧ (
            ev_E g m_X9_runScript 9 0 48 [some (ev_o 9 a), some (ev_i u1), some (ev_i v1_), some (ev_i (u3 + 1))] [] S1 Q)))) ∧
        (¬ ((t_X7_isJump S (a + 3) u2) = true) → (
          ev_Cv g m_X9_perform 7 0 [ev_o 9 a, ev_i u2] S (fun o S2 => ∃ v2_ : Bool, o = .inl (some (ev_i (if v2_ = true then 1 else 0))) ∧ (
            (v2_ = true → (
              ev_E g m_X9_runScript 9 0 48 [some (ev_o 9 a), some (ev_i (u1 + 1)), some (ev_i (u2 + 1)), some (ev_i (u3 + 1))] [] S2 Q)) ∧
            (¬ (v2_ = true) → (
              Q (.inl (some (ev_i u1))) S2))))))))))))) : ev_E g m_X9_runScript 9 0 48 [some (ev_o 9 a), some (ev_i u1), some (ev_i u2), some (ev_i u3)] [] S Q := by
  refine ev_iload_n (u3) dX9_runScript_48 rfl ?_
  refine ev_sipush (24060) dX9_runScript_49 (by decide) ?_
  refine ev_icmp_ge 120 dX9_runScript_52 (by decide) (fun c1 => ?_) (fun c1 => ?_)
  · replace hQ := hQ.1 c1
    refine ev_iload_n (u1) dX9_runScript_120 rfl ?_
    exact ev_ireturn .int dX9_runScript_121 rfl rfl hQ
  · replace hQ := hQ.2 c1
    refine ev_iload_n (u2) dX9_runScript_55 rfl ?_
    refine ev_aload_n (ev_o 9 a) dX9_runScript_56 rfl rfl ?_
    refine gf_9_1 dX9_runScript_57 kw_688 ?_
    refine ev_fV mv_X7_length 1 7 [] [ev_i u2] dX9_runScript_60 kw_821 rfl (by decide) rfl (by decide) (Nat.le_of_ble_eq_true rfl) (sp_X7_length (a + 3)) ?_ rfl
    refine ev_icmp_ge 120 dX9_runScript_63 (by decide) (fun c2 => ?_) (fun c2 => ?_)
    · replace hQ := hQ.1 c2
      refine ev_iload_n (u1) dX9_runScript_120 rfl ?_
      exact ev_ireturn .int dX9_runScript_121 rfl rfl hQ
    · replace hQ := hQ.2 c2
      refine ev_iload_n (u1) dX9_runScript_66 rfl ?_
      refine ev_bipush (40) dX9_runScript_67 (by decide) ?_
      refine ev_icmp_ge 120 dX9_runScript_69 (by decide) (fun c3 => ?_) (fun c3 => ?_)
      · replace hQ := hQ.1 c3
        refine ev_iload_n (u1) dX9_runScript_120 rfl ?_
        exact ev_ireturn .int dX9_runScript_121 rfl rfl hQ
      · replace hQ := hQ.2 c3
        refine ev_aload_n (ev_o 9 a) dX9_runScript_72 rfl rfl ?_
        refine gf_9_1 dX9_runScript_73 kw_688 ?_
        refine ev_iload_n (u2) dX9_runScript_76 rfl ?_
        refine ev_fV mv_X7_isJump 3 7 [ev_i u2] [] dX9_runScript_77 kw_825 rfl (by decide) rfl (by decide) (Nat.le_of_ble_eq_true rfl) (sp_X7_isJump (a + 3) u2) ?_ rfl
        by_cases c4 : (t_X7_isJump S (a + 3) u2) = true
        · rw [if_pos c4]
          replace hQ := hQ.1 c4
          refine ev_if_eq 95 dX9_runScript_80 (by decide) (fun h9 => absurd h9 (by decide : ¬ ((1 : Int32) = 0))) (fun _ => ?_)
          refine ev_aload_n (ev_o 9 a) dX9_runScript_83 rfl rfl ?_
          refine gf_9_1 dX9_runScript_84 kw_688 ?_
          refine ev_iload_n (u2) dX9_runScript_87 rfl ?_
          refine ev_cV mv_X7_jump 3 0 7 [ev_i u2] [] dX9_runScript_88 kw_833 rfl (by decide) rfl (by decide) (by decide) (Nat.le_of_ble_eq_true rfl) hQ ?_ rfl
          rintro o S1 ⟨v1_, rfl, hQ⟩
          show ev_E g m_X9_runScript 9 0 91 [some (ev_o 9 a), some (ev_i u1), some (ev_i u2), some (ev_i u3)] [ev_i v1_] S1 Q
          refine ev_istore_n dX9_runScript_91 (Nat.le_of_ble_eq_true rfl) (ev_hw rfl) ?_
          show ev_E g m_X9_runScript 9 0 92 [some (ev_o 9 a), some (ev_i u1), some (ev_i v1_), some (ev_i u3)] [] S1 Q
          refine ev_goto 114 dX9_runScript_92 (by decide) ?_
          refine ev_iinc u3 (1) dX9_runScript_114 rfl (by decide) (ev_hw rfl) ?_
          show ev_E g m_X9_runScript 9 0 117 [some (ev_o 9 a), some (ev_i u1), some (ev_i v1_), some (ev_i (u3 + 1))] [] S1 Q
          refine ev_goto 48 dX9_runScript_117 (by decide) ?_
          exact hQ
        · rw [if_neg c4]
          replace hQ := hQ.2 c4
          refine ev_if_eq 95 dX9_runScript_80 (by decide) (fun _ => ?_) (fun h9 => absurd (by decide : ((0 : Int32) = 0)) h9)
          refine ev_aload_n (ev_o 9 a) dX9_runScript_95 rfl rfl ?_
          refine ev_iload_n (u2) dX9_runScript_96 rfl ?_
          refine ev_cV mv_X9_perform 7 0 9 [ev_i u2] [] dX9_runScript_97 kw_841 rfl (by decide) rfl (by decide) (by decide) (Nat.le_of_ble_eq_true rfl) hQ ?_ rfl
          rintro o S2 ⟨v2_, rfl, hQ⟩
          show ev_E g m_X9_runScript 9 0 100 [some (ev_o 9 a), some (ev_i u1), some (ev_i u2), some (ev_i u3)] [ev_i (if v2_ = true then 1 else 0)] S2 Q
          by_cases c5 : v2_ = true
          · rw [if_pos c5]
            replace hQ := hQ.1 c5
            refine ev_if_eq 112 dX9_runScript_100 (by decide) (fun h9 => absurd h9 (by decide : ¬ ((1 : Int32) = 0))) (fun _ => ?_)
            refine ev_iinc u1 (1) dX9_runScript_103 rfl (by decide) (ev_hw rfl) ?_
            show ev_E g m_X9_runScript 9 0 106 [some (ev_o 9 a), some (ev_i (u1 + 1)), some (ev_i u2), some (ev_i u3)] [] S2 Q
            refine ev_iinc u2 (1) dX9_runScript_106 rfl (by decide) (ev_hw rfl) ?_
            show ev_E g m_X9_runScript 9 0 109 [some (ev_o 9 a), some (ev_i (u1 + 1)), some (ev_i (u2 + 1)), some (ev_i u3)] [] S2 Q
            refine ev_goto 114 dX9_runScript_109 (by decide) ?_
            refine ev_iinc u3 (1) dX9_runScript_114 rfl (by decide) (ev_hw rfl) ?_
            show ev_E g m_X9_runScript 9 0 117 [some (ev_o 9 a), some (ev_i (u1 + 1)), some (ev_i (u2 + 1)), some (ev_i (u3 + 1))] [] S2 Q
            refine ev_goto 48 dX9_runScript_117 (by decide) ?_
            exact hQ
          · rw [if_neg c5]
            replace hQ := hQ.2 c5
            refine ev_if_eq 112 dX9_runScript_100 (by decide) (fun _ => ?_) (fun h9 => absurd (by decide : ((0 : Int32) = 0)) h9)
            refine ev_iload_n (u1) dX9_runScript_112 rfl ?_
            exact ev_ireturn .int dX9_runScript_113 rfl rfl hQ
set_option maxHeartbeats 4000000 in
set_option maxRecDepth 100000 in
theorem sg_X9_errorCode_0 {g : ev_G} {S : ev_S} {Q : ev_O → ev_S → Prop} (a : Nat) (hQ : Q (.inl (some (ev_i (S.1 a 10)))) S) : ev_Cv g m_X9_errorCode 1 0 [ev_o 9 a] S Q := by
  refine ev_enter (by decide) rfl rfl (Nat.le_of_ble_eq_true rfl) ?_
  show ev_E g m_X9_errorCode 1 0 0 [some (ev_o 9 a)] [] S Q
  refine ev_aload_n (ev_o 9 a) dX9_errorCode_0 rfl rfl ?_
  refine gf_9_10 dX9_errorCode_1 kw_697 ?_
  exact ev_ireturn .int dX9_errorCode_4 rfl rfl hQ
set_option maxHeartbeats 4000000 in
set_option maxRecDepth 100000 in
theorem sp_X9_errorCode {g : ev_G} {S : ev_S} (a : Nat)  : ev_Fn g m_X9_errorCode 1 [ev_o 9 a] S (some (ev_i (S.1 a 10))) S := by
  intro Q hQ
  refine sg_X9_errorCode_0 a ?_
  exact hQ
set_option maxHeartbeats 4000000 in
set_option maxRecDepth 100000 in
theorem sg_X9_errorPosition_0 {g : ev_G} {S : ev_S} {Q : ev_O → ev_S → Prop} (a : Nat) (hQ : Q (.inl (some (ev_i (S.1 a 11)))) S) : ev_Cv g m_X9_errorPosition 1 0 [ev_o 9 a] S Q := by
  refine ev_enter (by decide) rfl rfl (Nat.le_of_ble_eq_true rfl) ?_
  show ev_E g m_X9_errorPosition 1 0 0 [some (ev_o 9 a)] [] S Q
  refine ev_aload_n (ev_o 9 a) dX9_errorPosition_0 rfl rfl ?_
  refine gf_9_11 dX9_errorPosition_1 kw_698 ?_
  exact ev_ireturn .int dX9_errorPosition_4 rfl rfl hQ
set_option maxHeartbeats 4000000 in
set_option maxRecDepth 100000 in
theorem sp_X9_errorPosition {g : ev_G} {S : ev_S} (a : Nat)  : ev_Fn g m_X9_errorPosition 1 [ev_o 9 a] S (some (ev_i (S.1 a 11))) S := by
  intro Q hQ
  refine sg_X9_errorPosition_0 a ?_
  exact hQ
set_option maxHeartbeats 4000000 in
set_option maxRecDepth 100000 in
theorem sg_X9_boardSize_0 {g : ev_G} {S : ev_S} {Q : ev_O → ev_S → Prop} (a : Nat) (hQ : Q (.inl (some (ev_i (S.1 ((a_X2_deskOf (a + 11) 0) + 1) 4)))) S) : ev_Cv g m_X9_boardSize 3 0 [ev_o 9 a] S Q := by
  refine ev_enter (by decide) rfl rfl (Nat.le_of_ble_eq_true rfl) ?_
  show ev_E g m_X9_boardSize 3 0 0 [some (ev_o 9 a)] [] S Q
  refine ev_aload_n (ev_o 9 a) dX9_boardSize_0 rfl rfl ?_
  refine gf_9_3 dX9_boardSize_1 kw_690 ?_
  refine ev_iconst (0) dX9_boardSize_4 rfl ?_
  refine ev_fV mv_X2_boardOf 2 2 [ev_i 0] [] dX9_boardSize_5 kw_577 rfl (by decide) rfl (by decide) (Nat.le_of_ble_eq_true rfl) (sp_X2_boardOf (a + 11) 0) ?_ rfl
  refine ev_fV mv_X0_size 1 0 [] [] dX9_boardSize_8 kw_1095 rfl (by decide) rfl (by decide) (Nat.le_of_ble_eq_true rfl) (sp_X0_size ((a_X2_deskOf (a + 11) 0) + 1)) ?_ rfl
  exact ev_ireturn .int dX9_boardSize_11 rfl rfl hQ
set_option maxHeartbeats 4000000 in
set_option maxRecDepth 100000 in
theorem sp_X9_boardSize {g : ev_G} {S : ev_S} (a : Nat)  : ev_Fn g m_X9_boardSize 3 [ev_o 9 a] S (some (ev_i (S.1 ((a_X2_deskOf (a + 11) 0) + 1) 4))) S := by
  intro Q hQ
  refine sg_X9_boardSize_0 a ?_
  exact hQ
set_option maxHeartbeats 4000000 in
set_option maxRecDepth 100000 in
theorem sg_X0_limit_0 {g : ev_G} {S : ev_S} {Q : ev_O → ev_S → Prop} (a : Nat) (hQ : Q (.inl (some (ev_i (S.1 a 5)))) S) : ev_Cv g m_X0_limit 1 0 [ev_o 0 a] S Q := by
  refine ev_enter (by decide) rfl rfl (Nat.le_of_ble_eq_true rfl) ?_
  show ev_E g m_X0_limit 1 0 0 [some (ev_o 0 a)] [] S Q
  refine ev_aload_n (ev_o 0 a) dX0_limit_0 rfl rfl ?_
  refine gf_0_5 dX0_limit_1 kw_244 ?_
  exact ev_ireturn .int dX0_limit_4 rfl rfl hQ
set_option maxHeartbeats 4000000 in
set_option maxRecDepth 100000 in
theorem sp_X0_limit {g : ev_G} {S : ev_S} (a : Nat)  : ev_Fn g m_X0_limit 1 [ev_o 0 a] S (some (ev_i (S.1 a 5))) S := by
  intro Q hQ
  refine sg_X0_limit_0 a ?_
  exact hQ
set_option maxHeartbeats 4000000 in
set_option maxRecDepth 100000 in
theorem sg_X9_moveLimit_0 {g : ev_G} {S : ev_S} {Q : ev_O → ev_S → Prop} (a : Nat) (hQ : Q (.inl (some (ev_i (S.1 ((a_X2_deskOf (a + 11) 0) + 1) 5)))) S) : ev_Cv g m_X9_moveLimit 3 0 [ev_o 9 a] S Q := by
  refine ev_enter (by decide) rfl rfl (Nat.le_of_ble_eq_true rfl) ?_
  show ev_E g m_X9_moveLimit 3 0 0 [some (ev_o 9 a)] [] S Q
  refine ev_aload_n (ev_o 9 a) dX9_moveLimit_0 rfl rfl ?_
  refine gf_9_3 dX9_moveLimit_1 kw_690 ?_
  refine ev_iconst (0) dX9_moveLimit_4 rfl ?_
  refine ev_fV mv_X2_boardOf 2 2 [ev_i 0] [] dX9_moveLimit_5 kw_577 rfl (by decide) rfl (by decide) (Nat.le_of_ble_eq_true rfl) (sp_X2_boardOf (a + 11) 0) ?_ rfl
  refine ev_fV mv_X0_limit 1 0 [] [] dX9_moveLimit_8 kw_1100 rfl (by decide) rfl (by decide) (Nat.le_of_ble_eq_true rfl) (sp_X0_limit ((a_X2_deskOf (a + 11) 0) + 1)) ?_ rfl
  exact ev_ireturn .int dX9_moveLimit_11 rfl rfl hQ
set_option maxHeartbeats 4000000 in
set_option maxRecDepth 100000 in
theorem sp_X9_moveLimit {g : ev_G} {S : ev_S} (a : Nat)  : ev_Fn g m_X9_moveLimit 3 [ev_o 9 a] S (some (ev_i (S.1 ((a_X2_deskOf (a + 11) 0) + 1) 5))) S := by
  intro Q hQ
  refine sg_X9_moveLimit_0 a ?_
  exact hQ
set_option maxHeartbeats 4000000 in
set_option maxRecDepth 100000 in
theorem sg_X2_today_0 {g : ev_G} {S : ev_S} {Q : ev_O → ev_S → Prop} (a : Nat) (hQ : Q (.inl (some (ev_i (S.1 a 4)))) S) : ev_Cv g m_X2_today 1 0 [ev_o 2 a] S Q := by
  refine ev_enter (by decide) rfl rfl (Nat.le_of_ble_eq_true rfl) ?_
  show ev_E g m_X2_today 1 0 0 [some (ev_o 2 a)] [] S Q
  refine ev_aload_n (ev_o 2 a) dX2_today_0 rfl rfl ?_
  refine gf_2_4 dX2_today_1 kw_390 ?_
  exact ev_ireturn .int dX2_today_4 rfl rfl hQ
set_option maxHeartbeats 4000000 in
set_option maxRecDepth 100000 in
theorem sp_X2_today {g : ev_G} {S : ev_S} (a : Nat)  : ev_Fn g m_X2_today 1 [ev_o 2 a] S (some (ev_i (S.1 a 4))) S := by
  intro Q hQ
  refine sg_X2_today_0 a ?_
  exact hQ
set_option maxHeartbeats 4000000 in
set_option maxRecDepth 100000 in
theorem sg_X9_day_0 {g : ev_G} {S : ev_S} {Q : ev_O → ev_S → Prop} (a : Nat) (hQ : Q (.inl (some (ev_i (S.1 (a + 11) 4)))) S) : ev_Cv g m_X9_day 2 0 [ev_o 9 a] S Q := by
  refine ev_enter (by decide) rfl rfl (Nat.le_of_ble_eq_true rfl) ?_
  show ev_E g m_X9_day 2 0 0 [some (ev_o 9 a)] [] S Q
  refine ev_aload_n (ev_o 9 a) dX9_day_0 rfl rfl ?_
  refine gf_9_3 dX9_day_1 kw_690 ?_
  refine ev_fV mv_X2_today 1 2 [] [] dX9_day_4 kw_1108 rfl (by decide) rfl (by decide) (Nat.le_of_ble_eq_true rfl) (sp_X2_today (a + 11)) ?_ rfl
  exact ev_ireturn .int dX9_day_7 rfl rfl hQ
set_option maxHeartbeats 4000000 in
set_option maxRecDepth 100000 in
theorem sp_X9_day {g : ev_G} {S : ev_S} (a : Nat)  : ev_Fn g m_X9_day 2 [ev_o 9 a] S (some (ev_i (S.1 (a + 11) 4))) S := by
  intro Q hQ
  refine sg_X9_day_0 a ?_
  exact hQ
set_option maxHeartbeats 4000000 in
set_option maxRecDepth 100000 in
theorem sg_X9_month_0 {g : ev_G} {S : ev_S} {Q : ev_O → ev_S → Prop} (a : Nat) (hQ : Q (.inl (some (ev_i (ev_rem ((S.1 (a + 11) 4) / 30) 12)))) S) : ev_Cv g m_X9_month 2 0 [ev_o 9 a] S Q := by
  refine ev_enter (by decide) rfl rfl (Nat.le_of_ble_eq_true rfl) ?_
  show ev_E g m_X9_month 2 0 0 [some (ev_o 9 a)] [] S Q
  refine ev_aload_n (ev_o 9 a) dX9_month_0 rfl rfl ?_
  refine gf_9_3 dX9_month_1 kw_690 ?_
  refine ev_fV mv_X2_today 1 2 [] [] dX9_month_4 kw_1108 rfl (by decide) rfl (by decide) (Nat.le_of_ble_eq_true rfl) (sp_X2_today (a + 11)) ?_ rfl
  refine ev_fS ms_X9_monthOf 1 [ev_i (S.1 (a + 11) 4)] [] dX9_month_7 kw_1116 rfl (by decide) (Nat.le_of_ble_eq_true rfl) (sp_X9_monthOf (S.1 (a + 11) 4)) ?_ rfl
  exact ev_ireturn .int dX9_month_10 rfl rfl hQ
set_option maxHeartbeats 4000000 in
set_option maxRecDepth 100000 in
theorem sp_X9_month {g : ev_G} {S : ev_S} (a : Nat)  : ev_Fn g m_X9_month 2 [ev_o 9 a] S (some (ev_i (ev_rem ((S.1 (a + 11) 4) / 30) 12))) S := by
  intro Q hQ
  refine sg_X9_month_0 a ?_
  exact hQ
set_option maxHeartbeats 4000000 in
set_option maxRecDepth 100000 in
theorem sg_X9_require_0 {g : ev_G} {S : ev_S} {Q : ev_O → ev_S → Prop} (x0 : Int32) (hQ : (x0 = 0 → (
    Q (.inr 0) S)) ∧
  (¬ (x0 = 0) → (
    Q (.inl none) S))) : ev_Cv g m_X9_require 1 1 [ev_i x0] S Q := by
  refine ev_enter (by decide) rfl rfl (Nat.le_of_ble_eq_true rfl) ?_
  show ev_E g m_X9_require 1 1 0 [some (ev_i x0)] [] S Q
  refine ev_iload_n (x0) dX9_require_0 rfl ?_
  refine ev_if_ne 15 dX9_require_1 (by decide) (fun c1 => ?_) (fun c1 => ?_)
  · replace hQ := hQ.2 c1
    exact ev_return dX9_require_15 rfl hQ
  · replace hQ := hQ.1 c1
    exact ev_throwW 0 377 379 381 21 "there is no such thing" (by decide) (by decide) rfl (by decide) kw_1346 kw_132 (List.mem_of_getElem? (i := 21) rfl) at_X9_381 dX9_require_4 dX9_require_7 dX9_require_8 dX9_require_11 dX9_require_14 (Nat.le_of_ble_eq_true rfl) hQ
set_option maxHeartbeats 4000000 in
set_option maxRecDepth 100000 in
theorem sg_X9_bishopOwner_0 {g : ev_G} {S : ev_S} {Q : ev_O → ev_S → Prop} (a : Nat) (x0 : Int32) (x1 : Int32) (hQ : ((t_X9_isPlayer x0) = true → (
    ((t_X2_isSquare S (a + 11) x1) = true → (
      Q (.inl (some (ev_i (j_at (S.1 ((a_X2_deskOf (a + 11) x0) + 2)) 64 x1)))) S)) ∧
    (¬ ((t_X2_isSquare S (a + 11) x1) = true) → (
      Q (.inr 0) S)))) ∧
  (¬ ((t_X9_isPlayer x0) = true) → (
    Q (.inr 0) S))) : ev_Cv g m_X9_bishopOwner 4 1 [ev_o 9 a, ev_i x0, ev_i x1] S Q := by
  refine ev_enter (by decide) rfl rfl (Nat.le_of_ble_eq_true rfl) ?_
  show ev_E g m_X9_bishopOwner 4 1 0 [some (ev_o 9 a), some (ev_i x0), some (ev_i x1)] [] S Q
  refine ev_iload_n (x0) dX9_bishopOwner_0 rfl ?_
  refine ev_fS ms_X9_isPlayer 1 [ev_i x0] [] dX9_bishopOwner_1 kw_1341 rfl (by decide) (Nat.le_of_ble_eq_true rfl) (sp_X9_isPlayer x0) ?_ rfl
  by_cases c1 : (t_X9_isPlayer x0) = true
  · rw [if_pos c1]
    replace hQ := hQ.1 c1
    refine ev_if_eq 22 dX9_bishopOwner_4 (by decide) (fun h9 => absurd h9 (by decide : ¬ ((1 : Int32) = 0))) (fun _ => ?_)
    refine ev_aload_n (ev_o 9 a) dX9_bishopOwner_7 rfl rfl ?_
    refine gf_9_3 dX9_bishopOwner_8 kw_690 ?_
    refine ev_iload_n (x1) dX9_bishopOwner_11 rfl ?_
    refine ev_fV mv_X2_isSquare 3 2 [ev_i x1] [] dX9_bishopOwner_12 kw_1342 rfl (by decide) rfl (by decide) (Nat.le_of_ble_eq_true rfl) (sp_X2_isSquare (a + 11) x1) ?_ rfl
    by_cases c2 : (t_X2_isSquare S (a + 11) x1) = true
    · rw [if_pos c2]
      replace hQ := hQ.1 c2
      refine ev_if_eq 22 dX9_bishopOwner_15 (by decide) (fun h9 => absurd h9 (by decide : ¬ ((1 : Int32) = 0))) (fun _ => ?_)
      refine ev_iconst (1) dX9_bishopOwner_18 rfl ?_
      refine ev_goto 23 dX9_bishopOwner_19 (by decide) ?_
      refine ev_cS ms_X9_require 1 1 [ev_i 1] [] dX9_bishopOwner_23 kw_1343 rfl (by decide) (by decide) (Nat.le_of_ble_eq_true rfl) (Q' := fun o z => ev_After g m_X9_bishopOwner 4 (1 - 1) 23 [some (ev_o 9 a), some (ev_i x0), some (ev_i x1)] [] z Q o) (sg_X9_require_0 1 ?_) (fun o z h => h) rfl
      refine j_neg (by decide : ¬ ((1 : Int32) = 0)) ?_
      show ev_E g m_X9_bishopOwner 4 0 26 [some (ev_o 9 a), some (ev_i x0), some (ev_i x1)] [] S Q
      refine ev_aload_n (ev_o 9 a) dX9_bishopOwner_26 rfl rfl ?_
      refine gf_9_3 dX9_bishopOwner_27 kw_690 ?_
      refine ev_iload_n (x0) dX9_bishopOwner_30 rfl ?_
      refine ev_fV mv_X2_boardOf 2 2 [ev_i x0] [] dX9_bishopOwner_31 kw_577 rfl (by decide) rfl (by decide) (Nat.le_of_ble_eq_true rfl) (sp_X2_boardOf (a + 11) x0) ?_ rfl
      refine ev_iload_n (x1) dX9_bishopOwner_34 rfl ?_
      refine ev_fV mv_X0_ownerOn 2 0 [ev_i x1] [] dX9_bishopOwner_35 kw_598 rfl (by decide) rfl (by decide) (Nat.le_of_ble_eq_true rfl) (sp_X0_ownerOn ((a_X2_deskOf (a + 11) x0) + 1) x1) ?_ rfl
      exact ev_ireturn .int dX9_bishopOwner_38 rfl rfl hQ
    · rw [if_neg c2]
      replace hQ := hQ.2 c2
      refine ev_if_eq 22 dX9_bishopOwner_15 (by decide) (fun _ => ?_) (fun h9 => absurd (by decide : ((0 : Int32) = 0)) h9)
      refine ev_iconst (0) dX9_bishopOwner_22 rfl ?_
      refine ev_cS ms_X9_require 1 1 [ev_i 0] [] dX9_bishopOwner_23 kw_1343 rfl (by decide) (by decide) (Nat.le_of_ble_eq_true rfl) (Q' := fun o z => ev_After g m_X9_bishopOwner 4 (1 - 1) 23 [some (ev_o 9 a), some (ev_i x0), some (ev_i x1)] [] z Q o) (sg_X9_require_0 0 ?_) (fun o z h => h) rfl
      refine j_pos (by decide : ((0 : Int32) = 0)) ?_
      exact ev_T_out (by decide) rfl hQ
  · rw [if_neg c1]
    replace hQ := hQ.2 c1
    refine ev_if_eq 22 dX9_bishopOwner_4 (by decide) (fun _ => ?_) (fun h9 => absurd (by decide : ((0 : Int32) = 0)) h9)
    refine ev_iconst (0) dX9_bishopOwner_22 rfl ?_
    refine ev_cS ms_X9_require 1 1 [ev_i 0] [] dX9_bishopOwner_23 kw_1343 rfl (by decide) (by decide) (Nat.le_of_ble_eq_true rfl) (Q' := fun o z => ev_After g m_X9_bishopOwner 4 (1 - 1) 23 [some (ev_o 9 a), some (ev_i x0), some (ev_i x1)] [] z Q o) (sg_X9_require_0 0 ?_) (fun o z h => h) rfl
    refine j_pos (by decide : ((0 : Int32) = 0)) ?_
    exact ev_T_out (by decide) rfl hQ
set_option maxHeartbeats 4000000 in
set_option maxRecDepth 100000 in
theorem sg_X9_bishopCount_0 {g : ev_G} {S : ev_S} {Q : ev_O → ev_S → Prop} (a : Nat) (x0 : Int32) (x1 : Int32) (hQ : ((t_X9_isPlayer x0) = true → (
    ((t_X9_isPlayer x1) = true → (
      Q (.inl (some (ev_i (j_at (S.1 ((a_X2_deskOf (a + 11) x0) + 3)) 2 x1)))) S)) ∧
    (¬ ((t_X9_isPlayer x1) = true) → (
      Q (.inr 0) S)))) ∧
  (¬ ((t_X9_isPlayer x0) = true) → (
    Q (.inr 0) S))) : ev_Cv g m_X9_bishopCount 3 1 [ev_o 9 a, ev_i x0, ev_i x1] S Q := by
  refine ev_enter (by decide) rfl rfl (Nat.le_of_ble_eq_true rfl) ?_
  show ev_E g m_X9_bishopCount 3 1 0 [some (ev_o 9 a), some (ev_i x0), some (ev_i x1)] [] S Q
  refine ev_iload_n (x0) dX9_bishopCount_0 rfl ?_
  refine ev_fS ms_X9_isPlayer 1 [ev_i x0] [] dX9_bishopCount_1 kw_1341 rfl (by decide) (Nat.le_of_ble_eq_true rfl) (sp_X9_isPlayer x0) ?_ rfl
  by_cases c1 : (t_X9_isPlayer x0) = true
  · rw [if_pos c1]
    replace hQ := hQ.1 c1
    refine ev_if_eq 18 dX9_bishopCount_4 (by decide) (fun h9 => absurd h9 (by decide : ¬ ((1 : Int32) = 0))) (fun _ => ?_)
    refine ev_iload_n (x1) dX9_bishopCount_7 rfl ?_
    refine ev_fS ms_X9_isPlayer 1 [ev_i x1] [] dX9_bishopCount_8 kw_1341 rfl (by decide) (Nat.le_of_ble_eq_true rfl) (sp_X9_isPlayer x1) ?_ rfl
    by_cases c2 : (t_X9_isPlayer x1) = true
    · rw [if_pos c2]
      replace hQ := hQ.1 c2
      refine ev_if_eq 18 dX9_bishopCount_11 (by decide) (fun h9 => absurd h9 (by decide : ¬ ((1 : Int32) = 0))) (fun _ => ?_)
      refine ev_iconst (1) dX9_bishopCount_14 rfl ?_
      refine ev_goto 19 dX9_bishopCount_15 (by decide) ?_
      refine ev_cS ms_X9_require 1 1 [ev_i 1] [] dX9_bishopCount_19 kw_1343 rfl (by decide) (by decide) (Nat.le_of_ble_eq_true rfl) (Q' := fun o z => ev_After g m_X9_bishopCount 3 (1 - 1) 19 [some (ev_o 9 a), some (ev_i x0), some (ev_i x1)] [] z Q o) (sg_X9_require_0 1 ?_) (fun o z h => h) rfl
      refine j_neg (by decide : ¬ ((1 : Int32) = 0)) ?_
      show ev_E g m_X9_bishopCount 3 0 22 [some (ev_o 9 a), some (ev_i x0), some (ev_i x1)] [] S Q
      refine ev_aload_n (ev_o 9 a) dX9_bishopCount_22 rfl rfl ?_
      refine gf_9_3 dX9_bishopCount_23 kw_690 ?_
      refine ev_iload_n (x0) dX9_bishopCount_26 rfl ?_
      refine ev_fV mv_X2_boardOf 2 2 [ev_i x0] [] dX9_bishopCount_27 kw_577 rfl (by decide) rfl (by decide) (Nat.le_of_ble_eq_true rfl) (sp_X2_boardOf (a + 11) x0) ?_ rfl
      refine ev_iload_n (x1) dX9_bishopCount_30 rfl ?_
      refine ev_fV mv_X0_bishopsOf 2 0 [ev_i x1] [] dX9_bishopCount_31 kw_589 rfl (by decide) rfl (by decide) (Nat.le_of_ble_eq_true rfl) (sp_X0_bishopsOf ((a_X2_deskOf (a + 11) x0) + 1) x1) ?_ rfl
      exact ev_ireturn .int dX9_bishopCount_34 rfl rfl hQ
    · rw [if_neg c2]
      replace hQ := hQ.2 c2
      refine ev_if_eq 18 dX9_bishopCount_11 (by decide) (fun _ => ?_) (fun h9 => absurd (by decide : ((0 : Int32) = 0)) h9)
      refine ev_iconst (0) dX9_bishopCount_18 rfl ?_
      refine ev_cS ms_X9_require 1 1 [ev_i 0] [] dX9_bishopCount_19 kw_1343 rfl (by decide) (by decide) (Nat.le_of_ble_eq_true rfl) (Q' := fun o z => ev_After g m_X9_bishopCount 3 (1 - 1) 19 [some (ev_o 9 a), some (ev_i x0), some (ev_i x1)] [] z Q o) (sg_X9_require_0 0 ?_) (fun o z h => h) rfl
      refine j_pos (by decide : ((0 : Int32) = 0)) ?_
      exact ev_T_out (by decide) rfl hQ
  · rw [if_neg c1]
    replace hQ := hQ.2 c1
    refine ev_if_eq 18 dX9_bishopCount_4 (by decide) (fun _ => ?_) (fun h9 => absurd (by decide : ((0 : Int32) = 0)) h9)
    refine ev_iconst (0) dX9_bishopCount_18 rfl ?_
    refine ev_cS ms_X9_require 1 1 [ev_i 0] [] dX9_bishopCount_19 kw_1343 rfl (by decide) (by decide) (Nat.le_of_ble_eq_true rfl) (Q' := fun o z => ev_After g m_X9_bishopCount 3 (1 - 1) 19 [some (ev_o 9 a), some (ev_i x0), some (ev_i x1)] [] z Q o) (sg_X9_require_0 0 ?_) (fun o z h => h) rfl
    refine j_pos (by decide : ((0 : Int32) = 0)) ?_
    exact ev_T_out (by decide) rfl hQ
set_option maxHeartbeats 4000000 in
set_option maxRecDepth 100000 in
theorem sg_X9_moveCount_0 {g : ev_G} {S : ev_S} {Q : ev_O → ev_S → Prop} (a : Nat) (x0 : Int32) (hQ : ((t_X9_isPlayer x0) = true → (
    Q (.inl (some (ev_i (S.1 ((a_X2_deskOf (a + 11) x0) + 1) 6)))) S)) ∧
  (¬ ((t_X9_isPlayer x0) = true) → (
    Q (.inr 0) S))) : ev_Cv g m_X9_moveCount 3 1 [ev_o 9 a, ev_i x0] S Q := by
  refine ev_enter (by decide) rfl rfl (Nat.le_of_ble_eq_true rfl) ?_
  show ev_E g m_X9_moveCount 3 1 0 [some (ev_o 9 a), some (ev_i x0)] [] S Q
  refine ev_iload_n (x0) dX9_moveCount_0 rfl ?_
  refine ev_fS ms_X9_isPlayer 1 [ev_i x0] [] dX9_moveCount_1 kw_1341 rfl (by decide) (Nat.le_of_ble_eq_true rfl) (sp_X9_isPlayer x0) ?_ rfl
  by_cases c1 : (t_X9_isPlayer x0) = true
  · rw [if_pos c1]
    replace hQ := hQ.1 c1
    refine ev_cS ms_X9_require 1 1 [ev_i 1] [] dX9_moveCount_4 kw_1343 rfl (by decide) (by decide) (Nat.le_of_ble_eq_true rfl) (Q' := fun o z => ev_After g m_X9_moveCount 3 (1 - 1) 4 [some (ev_o 9 a), some (ev_i x0)] [] z Q o) (sg_X9_require_0 1 ?_) (fun o z h => h) rfl
    refine j_neg (by decide : ¬ ((1 : Int32) = 0)) ?_
    show ev_E g m_X9_moveCount 3 0 7 [some (ev_o 9 a), some (ev_i x0)] [] S Q
    refine ev_aload_n (ev_o 9 a) dX9_moveCount_7 rfl rfl ?_
    refine gf_9_3 dX9_moveCount_8 kw_690 ?_
    refine ev_iload_n (x0) dX9_moveCount_11 rfl ?_
    refine ev_fV mv_X2_boardOf 2 2 [ev_i x0] [] dX9_moveCount_12 kw_577 rfl (by decide) rfl (by decide) (Nat.le_of_ble_eq_true rfl) (sp_X2_boardOf (a + 11) x0) ?_ rfl
    refine ev_fV mv_X0_made 1 0 [] [] dX9_moveCount_15 kw_1376 rfl (by decide) rfl (by decide) (Nat.le_of_ble_eq_true rfl) (sp_X0_made ((a_X2_deskOf (a + 11) x0) + 1)) ?_ rfl
    exact ev_ireturn .int dX9_moveCount_18 rfl rfl hQ
  · rw [if_neg c1]
    replace hQ := hQ.2 c1
    refine ev_cS ms_X9_require 1 1 [ev_i 0] [] dX9_moveCount_4 kw_1343 rfl (by decide) (by decide) (Nat.le_of_ble_eq_true rfl) (Q' := fun o z => ev_After g m_X9_moveCount 3 (1 - 1) 4 [some (ev_o 9 a), some (ev_i x0)] [] z Q o) (sg_X9_require_0 0 ?_) (fun o z h => h) rfl
    refine j_pos (by decide : ((0 : Int32) = 0)) ?_
    exact ev_T_out (by decide) rfl hQ
