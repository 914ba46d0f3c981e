set_option maxHeartbeats 4000000 in
set_option maxRecDepth 100000 in
theorem sg_X2_makePromise_0 {g : ev_G} {S : ev_S} {Q : ev_O → ev_S → Prop} (a : Nat) (x0 : Int32) (x1 : Int32) (x2 : Int32) (x3 : Int32) (hQ : ∀ S1 : ev_S, S1 = (j_put (j_put S ((a_X2_deskOf a x0) + 7) 61 (((S.1 ((a_X2_deskOf a x0) + 1) 6) + 1) + 1) x2) ((a_X2_deskOf a x0) + 8) 61 (((S.1 ((a_X2_deskOf a x0) + 1) 6) + 1) + 1) x3) → (
    ev_Cv g m_X6_add 3 0 [ev_o 6 (a + 19), ev_i x0, ev_i (((S.1 ((a_X2_deskOf a x0) + 1) 6) + 1) + 1), ev_i x3, ev_i x2, ev_i x1, ev_i (S1.1 a 4)] S1 (fun o S2 => ∃ v1_ : Int32, o = .inl (some (ev_i v1_)) ∧ (
      Q (.inl (some (ev_i (((S.1 ((a_X2_deskOf a x0) + 1) 6) + 1) + 1)))) S2)))) : ev_Cv g m_X2_makePromise 4 0 [ev_o 2 a, ev_i x0, ev_i x1, ev_i x2, ev_i x3] S Q := by
  refine ev_enter (by decide) rfl rfl (Nat.le_of_ble_eq_true rfl) ?_
  show ev_E g m_X2_makePromise 4 0 0 [some (ev_o 2 a), some (ev_i x0), some (ev_i x1), some (ev_i x2), some (ev_i x3), none] [] S Q
  refine ev_aload_n (ev_o 2 a) dX2_makePromise_0 rfl rfl ?_
  refine ev_iload_n (x0) dX2_makePromise_1 rfl ?_
  refine ev_fV mv_X2_boardOf 2 2 [ev_i x0] [] dX2_makePromise_2 kw_961 rfl (by decide) rfl (by decide) (Nat.le_of_ble_eq_true rfl) (sp_X2_boardOf a x0) ?_ rfl
  refine ev_fV mv_X0_nextNumber 1 0 [] [] dX2_makePromise_5 kw_1099 rfl (by decide) rfl (by decide) (Nat.le_of_ble_eq_true rfl) (sp_X0_nextNumber ((a_X2_deskOf a x0) + 1)) ?_ rfl
  refine ev_iconst (1) dX2_makePromise_8 rfl ?_
  refine ev_iadd dX2_makePromise_9 ?_
  refine ev_istore dX2_makePromise_10 (Nat.le_of_ble_eq_true rfl) (ev_hw rfl) ?_
  show ev_E g m_X2_makePromise 4 0 12 [some (ev_o 2 a), some (ev_i x0), some (ev_i x1), some (ev_i x2), some (ev_i x3), some (ev_i (((S.1 ((a_X2_deskOf a x0) + 1) 6) + 1) + 1))] [] S Q
  refine ev_aload_n (ev_o 2 a) dX2_makePromise_12 rfl rfl ?_
  refine ev_iload_n (x0) dX2_makePromise_13 rfl ?_
  refine ev_fV mv_X2_deskOf 1 2 [ev_i x0] [] dX2_makePromise_14 kw_492 rfl (by decide) rfl (by decide) (Nat.le_of_ble_eq_true rfl) (sp_X2_deskOf a x0) ?_ rfl
  refine ev_iload ((((S.1 ((a_X2_deskOf a x0) + 1) 6) + 1) + 1)) dX2_makePromise_17 rfl ?_
  refine ev_iload_n (x2) dX2_makePromise_19 rfl ?_
  refine ev_iload (x3) dX2_makePromise_20 rfl ?_
  refine ev_fVn mv_X1_keepPromise 2 1 [ev_i (((S.1 ((a_X2_deskOf a x0) + 1) 6) + 1) + 1), ev_i x2, ev_i x3] [] dX2_makePromise_22 kw_1606 rfl (by decide) rfl (by decide) (Nat.le_of_ble_eq_true rfl) (sp_X1_keepPromise (a_X2_deskOf a x0) (((S.1 ((a_X2_deskOf a x0) + 1) 6) + 1) + 1) x2 x3) ?_ rfl
  refine ev_sub hQ (fun S1 hS1 hQ => ?_)
  refine ev_E.goal (pc' := 25) (L' := [some (ev_o 2 a), some (ev_i x0), some (ev_i x1), some (ev_i x2), some (ev_i x3), some (ev_i (((S.1 ((a_X2_deskOf a x0) + 1) 6) + 1) + 1))]) (K' := []) (S' := S1) ?_ rfl rfl rfl hS1
  refine ev_aload_n (ev_o 2 a) dX2_makePromise_25 rfl rfl ?_
  refine gf_2_2 dX2_makePromise_26 kw_299 ?_
  refine ev_iload_n (x0) dX2_makePromise_29 rfl ?_
  refine ev_iload ((((S.1 ((a_X2_deskOf a x0) + 1) 6) + 1) + 1)) dX2_makePromise_30 rfl ?_
  refine ev_iload (x3) dX2_makePromise_32 rfl ?_
  refine ev_iload_n (x2) dX2_makePromise_34 rfl ?_
  refine ev_iload_n (x1) dX2_makePromise_35 rfl ?_
  refine ev_aload_n (ev_o 2 a) dX2_makePromise_36 rfl rfl ?_
  refine gf_2_4 dX2_makePromise_37 kw_301 ?_
  refine ev_cV mv_X6_add 3 0 6 [ev_i x0, ev_i (((S.1 ((a_X2_deskOf a x0) + 1) 6) + 1) + 1), ev_i x3, ev_i x2, ev_i x1, ev_i (S1.1 a 4)] [] dX2_makePromise_40 kw_1582 rfl (by decide) rfl (by decide) (by decide) (Nat.le_of_ble_eq_true rfl) hQ ?_ rfl
  rintro o S2 ⟨v1_, rfl, hQ⟩
  show ev_E g m_X2_makePromise 4 0 43 [some (ev_o 2 a), some (ev_i x0), some (ev_i x1), some (ev_i x2), some (ev_i x3), some (ev_i (((S.1 ((a_X2_deskOf a x0) + 1) 6) + 1) + 1))] [ev_i v1_] S2 Q
  refine ev_pop dX2_makePromise_43 rfl ?_
  refine ev_iload ((((S.1 ((a_X2_deskOf a x0) + 1) 6) + 1) + 1)) dX2_makePromise_44 rfl ?_
  exact ev_ireturn .int dX2_makePromise_46 rfl rfl hQ
set_option maxHeartbeats 4000000 in
set_option maxRecDepth 100000 in
theorem sg_X9_promise_0 {g : ev_G} {S : ev_S} {Q : ev_O → ev_S → Prop} (a : Nat) (x0 : Int32) (x1 : Int32) (x2 : Int32) (x3 : Int32) (x4 : Int32) (x5 : Int32) (hQ : ev_Cv g m_X2_promiseFault 5 0 [ev_o 2 (a + 11), ev_i x0, ev_i x1, ev_i x2, ev_i x3, ev_i x4, ev_i x5] S (fun o S1 => ∃ v1_ : Int32, o = .inl (some (ev_i v1_)) ∧ (
    (v1_ = 1 → (
      Q (.inr 0) S1)) ∧
    (¬ (v1_ = 1) → (
      (v1_ = 2 → (
        Q (.inr 1) S1)) ∧
      (¬ (v1_ = 2) → (
        (v1_ = 3 → (
          Q (.inr 2) S1)) ∧
        (¬ (v1_ = 3) → (
          ev_Cv g m_X3_remember 5 0 [ev_o 3 (a + 93), ev_o 2 (a + 11)] S1 (fun o S2 => o = .inl none ∧ (
            ev_Cv g m_X2_makePromise 4 0 [ev_o 2 (a + 11), ev_i x0, ev_i x1, ev_i ((x2 * 64) + x3), ev_i ((x4 * 64) + x5)] S2 (fun o S3 => ∃ v3_ : Int32, o = .inl (some (ev_i v3_)) ∧ (
              Q (.inl (some (ev_i v3_))) S3))))))))))))) : ev_Cv g m_X9_promise 6 1 [ev_o 9 a, ev_i x0, ev_i x1, ev_i x2, ev_i x3, ev_i x4, ev_i x5] S Q := by
  refine ev_enter (by decide) rfl rfl (Nat.le_of_ble_eq_true rfl) ?_
  show ev_E g m_X9_promise 6 1 0 [some (ev_o 9 a), some (ev_i x0), some (ev_i x1), some (ev_i x2), some (ev_i x3), some (ev_i x4), some (ev_i x5)] [] S Q
  refine ev_aload_n (ev_o 9 a) dX9_promise_0 rfl rfl ?_
  refine gf_9_3 dX9_promise_1 kw_601 ?_
  refine ev_iload_n (x0) dX9_promise_4 rfl ?_
  refine ev_iload_n (x1) dX9_promise_5 rfl ?_
  refine ev_iload_n (x2) dX9_promise_6 rfl ?_
  refine ev_iload (x3) dX9_promise_7 rfl ?_
  refine ev_iload (x4) dX9_promise_9 rfl ?_
  refine ev_iload (x5) dX9_promise_11 rfl ?_
  refine ev_cV mv_X2_promiseFault 5 0 2 [ev_i x0, ev_i x1, ev_i x2, ev_i x3, ev_i x4, ev_i x5] [] dX9_promise_13 kw_1593 rfl (by decide) rfl (by decide) (by decide) (Nat.le_of_ble_eq_true rfl) hQ ?_ rfl
  rintro o S1 ⟨v1_, rfl, hQ⟩
  show ev_E g m_X9_promise 6 1 16 [some (ev_o 9 a), some (ev_i x0), some (ev_i x1), some (ev_i x2), some (ev_i x3), some (ev_i x4), some (ev_i x5)] [ev_i v1_] S1 Q
  refine ev_cS ms_X9_refuse 1 1 [ev_i v1_] [] dX9_promise_16 kw_1546 rfl (by decide) (by decide) (Nat.le_of_ble_eq_true rfl) (Q' := fun o z => ev_After g m_X9_promise 6 (1 - 1) 16 [some (ev_o 9 a), some (ev_i x0), some (ev_i x1), some (ev_i x2), some (ev_i x3), some (ev_i x4), some (ev_i x5)] [] z Q o) (sg_X9_refuse_0 v1_ ?_) (fun o z h => h) rfl
  refine ⟨fun c1 => ?_, fun c1 => ?_⟩
  · replace hQ := hQ.1 c1
    exact ev_T_out (by decide) rfl hQ
  · replace hQ := hQ.2 c1
    refine ⟨fun c2 => ?_, fun c2 => ?_⟩
    · replace hQ := hQ.1 c2
      exact ev_T_out (by decide) rfl hQ
    · replace hQ := hQ.2 c2
      refine ⟨fun c3 => ?_, fun c3 => ?_⟩
      · replace hQ := hQ.1 c3
        exact ev_T_out (by decide) rfl hQ
      · replace hQ := hQ.2 c3
        show ev_E g m_X9_promise 6 0 19 [some (ev_o 9 a), some (ev_i x0), some (ev_i x1), some (ev_i x2), some (ev_i x3), some (ev_i x4), some (ev_i x5)] [] S1 Q
        refine ev_aload_n (ev_o 9 a) dX9_promise_19 rfl rfl ?_
        refine gf_9_5 dX9_promise_20 kw_603 ?_
        refine ev_aload_n (ev_o 9 a) dX9_promise_23 rfl rfl ?_
        refine gf_9_3 dX9_promise_24 kw_601 ?_
        refine ev_cV mv_X3_remember 5 0 3 [ev_o 2 (a + 11)] [] dX9_promise_27 kw_1566 rfl (by decide) rfl (by decide) (by decide) (Nat.le_of_ble_eq_true rfl) hQ ?_ rfl
        rintro o S2 ⟨rfl, hQ⟩
        show ev_E g m_X9_promise 6 0 30 [some (ev_o 9 a), some (ev_i x0), some (ev_i x1), some (ev_i x2), some (ev_i x3), some (ev_i x4), some (ev_i x5)] [] S2 Q
        refine ev_aload_n (ev_o 9 a) dX9_promise_30 rfl rfl ?_
        refine gf_9_3 dX9_promise_31 kw_601 ?_
        refine ev_iload_n (x0) dX9_promise_34 rfl ?_
        refine ev_iload_n (x1) dX9_promise_35 rfl ?_
        refine ev_iload_n (x2) dX9_promise_36 rfl ?_
        refine ev_iload (x3) dX9_promise_37 rfl ?_
        refine ev_fS ms_X9_moveOf 1 [ev_i x2, ev_i x3] [ev_i x1, ev_i x0, ev_o 2 (a + 11)] dX9_promise_39 kw_1601 rfl (by decide) (Nat.le_of_ble_eq_true rfl) (sp_X9_moveOf x2 x3) ?_ rfl
        refine ev_iload (x4) dX9_promise_42 rfl ?_
        refine ev_iload (x5) dX9_promise_44 rfl ?_
        refine ev_fS ms_X9_moveOf 1 [ev_i x4, ev_i x5] [ev_i ((x2 * 64) + x3), ev_i x1, ev_i x0, ev_o 2 (a + 11)] dX9_promise_46 kw_1601 rfl (by decide) (Nat.le_of_ble_eq_true rfl) (sp_X9_moveOf x4 x5) ?_ rfl
        refine ev_cV mv_X2_makePromise 4 0 2 [ev_i x0, ev_i x1, ev_i ((x2 * 64) + x3), ev_i ((x4 * 64) + x5)] [] dX9_promise_49 kw_1602 rfl (by decide) rfl (by decide) (by decide) (Nat.le_of_ble_eq_true rfl) hQ ?_ rfl
        rintro o S3 ⟨v3_, rfl, hQ⟩
        show ev_E g m_X9_promise 6 0 52 [some (ev_o 9 a), some (ev_i x0), some (ev_i x1), some (ev_i x2), some (ev_i x3), some (ev_i x4), some (ev_i x5)] [ev_i v3_] S3 Q
        exact ev_ireturn .int dX9_promise_52 rfl rfl hQ
set_option maxHeartbeats 4000000 in
set_option maxRecDepth 100000 in
theorem sg_X2_copyFault_0 {g : ev_G} {S : ev_S} {Q : ev_O → ev_S → Prop} (a : Nat) (x0 : Int32) (x1 : Int32) (hQ : ((t_X6_exists S (a + 19) x0) = true → (
    ((t_X5_exists S (a + 20) x1) = true → (
      ((S.1 (a + 19) 13) < 80 → (
        Q (.inl (some (ev_i 0))) S)) ∧
      (¬ ((S.1 (a + 19) 13) < 80) → (
        Q (.inl (some (ev_i 2))) S)))) ∧
    (¬ ((t_X5_exists S (a + 20) x1) = true) → (
      Q (.inl (some (ev_i 1))) S)))) ∧
  (¬ ((t_X6_exists S (a + 19) x0) = true) → (
    Q (.inl (some (ev_i 1))) S))) : ev_Cv g m_X2_copyFault 3 0 [ev_o 2 a, ev_i x0, ev_i x1] S Q := by
  refine ev_enter (by decide) rfl rfl (Nat.le_of_ble_eq_true rfl) ?_
  show ev_E g m_X2_copyFault 3 0 0 [some (ev_o 2 a), some (ev_i x0), some (ev_i x1)] [] S Q
  refine ev_aload_n (ev_o 2 a) dX2_copyFault_0 rfl rfl ?_
  refine gf_2_2 dX2_copyFault_1 kw_299 ?_
  refine ev_iload_n (x0) dX2_copyFault_4 rfl ?_
  refine ev_fV mv_X6_exists 1 6 [ev_i x0] [] dX2_copyFault_5 kw_1615 rfl (by decide) rfl (by decide) (Nat.le_of_ble_eq_true rfl) (sp_X6_exists (a + 19) x0) ?_ rfl
  by_cases c1 : (t_X6_exists S (a + 19) x0) = true
  · rw [if_pos c1]
    replace hQ := hQ.1 c1
    refine ev_if_eq 22 dX2_copyFault_8 (by decide) (fun h9 => absurd h9 (by decide : ¬ ((1 : Int32) = 0))) (fun _ => ?_)
    refine ev_aload_n (ev_o 2 a) dX2_copyFault_11 rfl rfl ?_
    refine ev_fV mv_X2_passes 2 2 [] [] dX2_copyFault_12 kw_1312 rfl (by decide) rfl (by decide) (Nat.le_of_ble_eq_true rfl) (sp_X2_passes a) ?_ rfl
    refine ev_iload_n (x1) dX2_copyFault_15 rfl ?_
    refine ev_fV mv_X5_exists 1 5 [ev_i x1] [] dX2_copyFault_16 kw_1538 rfl (by decide) rfl (by decide) (Nat.le_of_ble_eq_true rfl) (sp_X5_exists (a + 20) x1) ?_ rfl
    by_cases c2 : (t_X5_exists S (a + 20) x1) = true
    · rw [if_pos c2]
      replace hQ := hQ.1 c2
      refine ev_if_ne 24 dX2_copyFault_19 (by decide) (fun _ => ?_) (fun h9 => absurd h9 (by decide : ¬ ((1 : Int32) = 0)))
      refine ev_aload_n (ev_o 2 a) dX2_copyFault_24 rfl rfl ?_
      refine gf_2_2 dX2_copyFault_25 kw_299 ?_
      refine ev_fV mv_X6_isFull 1 6 [] [] dX2_copyFault_28 kw_1540 rfl (by decide) rfl (by decide) (Nat.le_of_ble_eq_true rfl) (sp_X6_isFull (a + 19)) ?_ rfl
      by_cases c3 : (S.1 (a + 19) 13) < 80
      · rw [if_pos c3]
        replace hQ := hQ.1 c3
        refine ev_if_eq 38 dX2_copyFault_31 (by decide) (fun _ => ?_) (fun h9 => absurd (by decide : ((0 : Int32) = 0)) h9)
        refine ev_iconst (0) dX2_copyFault_38 rfl ?_
        exact ev_ireturn .int dX2_copyFault_39 rfl rfl hQ
      · rw [if_neg c3]
        replace hQ := hQ.2 c3
        refine ev_if_eq 38 dX2_copyFault_31 (by decide) (fun h9 => absurd h9 (by decide : ¬ ((1 : Int32) = 0))) (fun _ => ?_)
        refine ev_iconst (2) dX2_copyFault_34 rfl ?_
        refine ev_goto 39 dX2_copyFault_35 (by decide) ?_
        exact ev_ireturn .int dX2_copyFault_39 rfl rfl hQ
    · rw [if_neg c2]
      replace hQ := hQ.2 c2
      refine ev_if_ne 24 dX2_copyFault_19 (by decide) (fun h9 => absurd (by decide : ((0 : Int32) = 0)) h9) (fun _ => ?_)
      refine ev_iconst (1) dX2_copyFault_22 rfl ?_
      exact ev_ireturn .int dX2_copyFault_23 rfl rfl hQ
  · rw [if_neg c1]
    replace hQ := hQ.2 c1
    refine ev_if_eq 22 dX2_copyFault_8 (by decide) (fun _ => ?_) (fun h9 => absurd (by decide : ((0 : Int32) = 0)) h9)
    refine ev_iconst (1) dX2_copyFault_22 rfl ?_
    exact ev_ireturn .int dX2_copyFault_23 rfl rfl hQ
def f_X2_copyFault (S : ev_S) (a : Nat) (x0 : Int32) (x1 : Int32) : Int32 := if (t_X6_exists S (a + 19) x0) = true then (if (t_X5_exists S (a + 20) x1) = true then (if (S.1 (a + 19) 13) < 80 then (0) else (2)) else (1)) else (1)
set_option maxHeartbeats 4000000 in
set_option maxRecDepth 100000 in
theorem sp_X2_copyFault {g : ev_G} {S : ev_S} (a : Nat) (x0 : Int32) (x1 : Int32)  : ev_Fn g m_X2_copyFault 3 [ev_o 2 a, ev_i x0, ev_i x1] S (some (ev_i (f_X2_copyFault S a x0 x1))) S := by
  intro Q hQ
  refine sg_X2_copyFault_0 a x0 x1 ?_
  unfold f_X2_copyFault at hQ
  refine ⟨fun c1 => ?_, fun c1 => ?_⟩
  · rw [if_pos c1] at hQ
    refine ⟨fun c2 => ?_, fun c2 => ?_⟩
    · rw [if_pos c2] at hQ
      refine ⟨fun c3 => ?_, fun c3 => ?_⟩
      · rw [if_pos c3] at hQ
        exact hQ
      · rw [if_neg c3] at hQ
        exact hQ
    · rw [if_neg c2] at hQ
      exact hQ
  · rw [if_neg c1] at hQ
    exact hQ
set_option maxHeartbeats 4000000 in
set_option maxRecDepth 100000 in
theorem sg_X2_makeCopy_0 {g : ev_G} {S : ev_S} {Q : ev_O → ev_S → Prop} (a : Nat) (x0 : Int32) (x1 : Int32) (hQ : ev_Cv g m_X6_add 3 0 [ev_o 6 (a + 19), ev_i (j_at (S.1 (a + 24)) 84 x0), ev_i (j_at (S.1 (a + 25)) 84 x0), ev_i (j_at (S.1 (a + 26)) 84 x0), ev_i (j_at (S.1 (a + 27)) 84 x0), ev_i x1, ev_i (S.1 a 4)] S (fun o S1 => ∃ v1_ : Int32, o = .inl (some (ev_i v1_)) ∧ (
    Q (.inl (some (ev_i v1_))) S1))) : ev_Cv g m_X2_makeCopy 4 0 [ev_o 2 a, ev_i x0, ev_i x1] S Q := by
  refine ev_enter (by decide) rfl rfl (Nat.le_of_ble_eq_true rfl) ?_
  show ev_E g m_X2_makeCopy 4 0 0 [some (ev_o 2 a), some (ev_i x0), some (ev_i x1)] [] S Q
  refine ev_aload_n (ev_o 2 a) dX2_makeCopy_0 rfl rfl ?_
  refine gf_2_2 dX2_makeCopy_1 kw_299 ?_
  refine ev_aload_n (ev_o 2 a) dX2_makeCopy_4 rfl rfl ?_
  refine gf_2_2 dX2_makeCopy_5 kw_299 ?_
  refine ev_iload_n (x0) dX2_makeCopy_8 rfl ?_
  refine ev_fV mv_X6_writerOf 2 6 [ev_i x0] [ev_o 6 (a + 19)] dX2_makeCopy_9 kw_1104 rfl (by decide) rfl (by decide) (Nat.le_of_ble_eq_true rfl) (sp_X6_writerOf (a + 19) x0) ?_ rfl
  refine ev_aload_n (ev_o 2 a) dX2_makeCopy_12 rfl rfl ?_
  refine gf_2_2 dX2_makeCopy_13 kw_299 ?_
  refine ev_iload_n (x0) dX2_makeCopy_16 rfl ?_
  refine ev_fV mv_X6_numberOf 2 6 [ev_i x0] [ev_i (j_at (S.1 (a + 24)) 84 x0), ev_o 6 (a + 19)] dX2_makeCopy_17 kw_1113 rfl (by decide) rfl (by decide) (Nat.le_of_ble_eq_true rfl) (sp_X6_numberOf (a + 19) x0) ?_ rfl
  refine ev_aload_n (ev_o 2 a) dX2_makeCopy_20 rfl rfl ?_
  refine gf_2_2 dX2_makeCopy_21 kw_299 ?_
  refine ev_iload_n (x0) dX2_makeCopy_24 rfl ?_
  refine ev_fV mv_X6_moveIn 2 6 [ev_i x0] [ev_i (j_at (S.1 (a + 25)) 84 x0), ev_i (j_at (S.1 (a + 24)) 84 x0), ev_o 6 (a + 19)] dX2_makeCopy_25 kw_1439 rfl (by decide) rfl (by decide) (Nat.le_of_ble_eq_true rfl) (sp_X6_moveIn (a + 19) x0) ?_ rfl
  refine ev_aload_n (ev_o 2 a) dX2_makeCopy_28 rfl rfl ?_
  refine gf_2_2 dX2_makeCopy_29 kw_299 ?_
  refine ev_iload_n (x0) dX2_makeCopy_32 rfl ?_
  refine ev_fV mv_X6_expectedOf 2 6 [ev_i x0] [ev_i (j_at (S.1 (a + 26)) 84 x0), ev_i (j_at (S.1 (a + 25)) 84 x0), ev_i (j_at (S.1 (a + 24)) 84 x0), ev_o 6 (a + 19)] dX2_makeCopy_33 kw_1443 rfl (by decide) rfl (by decide) (Nat.le_of_ble_eq_true rfl) (sp_X6_expectedOf (a + 19) x0) ?_ rfl
  refine ev_iload_n (x1) dX2_makeCopy_36 rfl ?_
  refine ev_aload_n (ev_o 2 a) dX2_makeCopy_37 rfl rfl ?_
  refine gf_2_4 dX2_makeCopy_38 kw_301 ?_
  refine ev_cV mv_X6_add 3 0 6 [ev_i (j_at (S.1 (a + 24)) 84 x0), ev_i (j_at (S.1 (a + 25)) 84 x0), ev_i (j_at (S.1 (a + 26)) 84 x0), ev_i (j_at (S.1 (a + 27)) 84 x0), ev_i x1, ev_i (S.1 a 4)] [] dX2_makeCopy_41 kw_1582 rfl (by decide) rfl (by decide) (by decide) (Nat.le_of_ble_eq_true rfl) hQ ?_ rfl
  rintro o S1 ⟨v1_, rfl, hQ⟩
  show ev_E g m_X2_makeCopy 4 0 44 [some (ev_o 2 a), some (ev_i x0), some (ev_i x1)] [ev_i v1_] S1 Q
  exact ev_ireturn .int dX2_makeCopy_44 rfl rfl hQ
set_option maxHeartbeats 4000000 in
set_option maxRecDepth 100000 in
theorem sg_X9_resend_0 {g : ev_G} {S : ev_S} {Q : ev_O → ev_S → Prop} (a : Nat) (x0 : Int32) (x1 : Int32) (hQ : ((f_X2_copyFault S (a + 11) x0 x1) = 1 → (
    Q (.inr 0) S)) ∧
  (¬ ((f_X2_copyFault S (a + 11) x0 x1) = 1) → (
    ((f_X2_copyFault S (a + 11) x0 x1) = 2 → (
      Q (.inr 1) S)) ∧
    (¬ ((f_X2_copyFault S (a + 11) x0 x1) = 2) → (
      ((f_X2_copyFault S (a + 11) x0 x1) = 3 → (
        Q (.inr 2) S)) ∧
      (¬ ((f_X2_copyFault S (a + 11) x0 x1) = 3) → (
        ev_Cv g m_X3_remember 5 0 [ev_o 3 (a + 93), ev_o 2 (a + 11)] S (fun o S1 => o = .inl none ∧ (
          ev_Cv g m_X2_makeCopy 4 0 [ev_o 2 (a + 11), ev_i x0, ev_i x1] S1 (fun o S2 => ∃ v2_ : Int32, o = .inl (some (ev_i v2_)) ∧ (
            Q (.inl (some (ev_i v2_))) S2))))))))))) : ev_Cv g m_X9_resend 6 1 [ev_o 9 a, ev_i x0, ev_i x1] S Q := by
  refine ev_enter (by decide) rfl rfl (Nat.le_of_ble_eq_true rfl) ?_
  show ev_E g m_X9_resend 6 1 0 [some (ev_o 9 a), some (ev_i x0), some (ev_i x1)] [] S Q
  refine ev_aload_n (ev_o 9 a) dX9_resend_0 rfl rfl ?_
  refine gf_9_3 dX9_resend_1 kw_601 ?_
  refine ev_iload_n (x0) dX9_resend_4 rfl ?_
  refine ev_iload_n (x1) dX9_resend_5 rfl ?_
  refine ev_fV mv_X2_copyFault 3 2 [ev_i x0, ev_i x1] [] dX9_resend_6 kw_1611 rfl (by decide) rfl (by decide) (Nat.le_of_ble_eq_true rfl) (sp_X2_copyFault (a + 11) x0 x1) ?_ rfl
  refine ev_cS ms_X9_refuse 1 1 [ev_i (f_X2_copyFault S (a + 11) x0 x1)] [] dX9_resend_9 kw_1546 rfl (by decide) (by decide) (Nat.le_of_ble_eq_true rfl) (Q' := fun o z => ev_After g m_X9_resend 6 (1 - 1) 9 [some (ev_o 9 a), some (ev_i x0), some (ev_i x1)] [] z Q o) (sg_X9_refuse_0 (f_X2_copyFault S (a + 11) x0 x1) ?_) (fun o z h => h) rfl
  refine ⟨fun c1 => ?_, fun c1 => ?_⟩
  · replace hQ := hQ.1 c1
    exact ev_T_out (by decide) rfl hQ
  · replace hQ := hQ.2 c1
    refine ⟨fun c2 => ?_, fun c2 => ?_⟩
    · replace hQ := hQ.1 c2
      exact ev_T_out (by decide) rfl hQ
    · replace hQ := hQ.2 c2
      refine ⟨fun c3 => ?_, fun c3 => ?_⟩
      · replace hQ := hQ.1 c3
        exact ev_T_out (by decide) rfl hQ
      · replace hQ := hQ.2 c3
        show ev_E g m_X9_resend 6 0 12 [some (ev_o 9 a), some (ev_i x0), some (ev_i x1)] [] S Q
        refine ev_aload_n (ev_o 9 a) dX9_resend_12 rfl rfl ?_
        refine gf_9_5 dX9_resend_13 kw_603 ?_
        refine ev_aload_n (ev_o 9 a) dX9_resend_16 rfl rfl ?_
        refine gf_9_3 dX9_resend_17 kw_601 ?_
        refine ev_cV mv_X3_remember 5 0 3 [ev_o 2 (a + 11)] [] dX9_resend_20 kw_1566 rfl (by decide) rfl (by decide) (by decide) (Nat.le_of_ble_eq_true rfl) hQ ?_ rfl
        rintro o S1 ⟨rfl, hQ⟩
        show ev_E g m_X9_resend 6 0 23 [some (ev_o 9 a), some (ev_i x0), some (ev_i x1)] [] S1 Q
        refine ev_aload_n (ev_o 9 a) dX9_resend_23 rfl rfl ?_
        refine gf_9_3 dX9_resend_24 kw_601 ?_
        refine ev_iload_n (x0) dX9_resend_27 rfl ?_
        refine ev_iload_n (x1) dX9_resend_28 rfl ?_
        refine ev_cV mv_X2_makeCopy 4 0 2 [ev_i x0, ev_i x1] [] dX9_resend_29 kw_1616 rfl (by decide) rfl (by decide) (by decide) (Nat.le_of_ble_eq_true rfl) hQ ?_ rfl
        rintro o S2 ⟨v2_, rfl, hQ⟩
        show ev_E g m_X9_resend 6 0 32 [some (ev_o 9 a), some (ev_i x0), some (ev_i x1)] [ev_i v2_] S2 Q
        exact ev_ireturn .int dX9_resend_32 rfl rfl hQ
set_option maxHeartbeats 4000000 in
set_option maxRecDepth 100000 in
theorem sg_X2_daysFault_0 {g : ev_G} {S : ev_S} {Q : ev_O → ev_S → Prop} (a : Nat) (x0 : Int32) (hQ : (x0 < 1 → (
    Q (.inl (some (ev_i 3))) S)) ∧
  (¬ (x0 < 1) → (
    (x0 ≤ 60 → (
      (((S.1 a 4) + x0) ≤ 9999 → (
        Q (.inl (some (ev_i 0))) S)) ∧
      (¬ (((S.1 a 4) + x0) ≤ 9999) → (
        Q (.inl (some (ev_i 2))) S)))) ∧
    (¬ (x0 ≤ 60) → (
      Q (.inl (some (ev_i 3))) S))))) : ev_Cv g m_X2_daysFault 1 0 [ev_o 2 a, ev_i x0] S Q := by
  refine ev_enter (by decide) rfl rfl (Nat.le_of_ble_eq_true rfl) ?_
  show ev_E g m_X2_daysFault 1 0 0 [some (ev_o 2 a), some (ev_i x0)] [] S Q
  refine ev_iload_n (x0) dX2_daysFault_0 rfl ?_
  refine ev_iconst (1) dX2_daysFault_1 rfl ?_
  refine ev_icmp_lt 11 dX2_daysFault_2 (by decide) (fun c1 => ?_) (fun c1 => ?_)
  · replace hQ := hQ.1 c1
    refine ev_iconst (3) dX2_daysFault_11 rfl ?_
    exact ev_ireturn .int dX2_daysFault_12 rfl rfl hQ
  · replace hQ := hQ.2 c1
    refine ev_iload_n (x0) dX2_daysFault_5 rfl ?_
    refine ev_bipush (60) dX2_daysFault_6 (by decide) ?_
    refine ev_icmp_le 13 dX2_daysFault_8 (by decide) (fun c2 => ?_) (fun c2 => ?_)
    · replace hQ := hQ.1 c2
      refine ev_aload_n (ev_o 2 a) dX2_daysFault_13 rfl rfl ?_
      refine gf_2_4 dX2_daysFault_14 kw_301 ?_
      refine ev_iload_n (x0) dX2_daysFault_17 rfl ?_
      refine ev_iadd dX2_daysFault_18 ?_
      refine ev_sipush (9999) dX2_daysFault_19 (by decide) ?_
      refine ev_icmp_le 29 dX2_daysFault_22 (by decide) (fun c3 => ?_) (fun c3 => ?_)
      · replace hQ := hQ.1 c3
        refine ev_iconst (0) dX2_daysFault_29 rfl ?_
        exact ev_ireturn .int dX2_daysFault_30 rfl rfl hQ
      · replace hQ := hQ.2 c3
        refine ev_iconst (2) dX2_daysFault_25 rfl ?_
        refine ev_goto 30 dX2_daysFault_26 (by decide) ?_
        exact ev_ireturn .int dX2_daysFault_30 rfl rfl hQ
    · replace hQ := hQ.2 c2
      refine ev_iconst (3) dX2_daysFault_11 rfl ?_
      exact ev_ireturn .int dX2_daysFault_12 rfl rfl hQ
def f_X2_daysFault (S : ev_S) (a : Nat) (x0 : Int32) : Int32 := if x0 < 1 then (3) else (if x0 ≤ 60 then (if ((S.1 a 4) + x0) ≤ 9999 then (0) else (2)) else (3))
set_option maxHeartbeats 4000000 in
set_option maxRecDepth 100000 in
theorem sp_X2_daysFault {g : ev_G} {S : ev_S} (a : Nat) (x0 : Int32)  : ev_Fn g m_X2_daysFault 1 [ev_o 2 a, ev_i x0] S (some (ev_i (f_X2_daysFault S a x0))) S := by
  intro Q hQ
  refine sg_X2_daysFault_0 a x0 ?_
  unfold f_X2_daysFault at hQ
  refine ⟨fun c1 => ?_, fun c1 => ?_⟩
  · rw [if_pos c1] at hQ
    exact hQ
  · rw [if_neg c1] at hQ
    refine ⟨fun c2 => ?_, fun c2 => ?_⟩
    · rw [if_pos c2] at hQ
      refine ⟨fun c3 => ?_, fun c3 => ?_⟩
      · rw [if_pos c3] at hQ
        exact hQ
      · rw [if_neg c3] at hQ
        exact hQ
    · rw [if_neg c2] at hQ
      exact hQ
set_option maxHeartbeats 4000000 in
set_option maxRecDepth 100000 in
theorem sg_X2_letDaysPass_0 {g : ev_G} {S : ev_S} {Q : ev_O → ev_S → Prop} (a : Nat) (x0 : Int32) (hQ : ev_E g m_X2_letDaysPass 6 0 4 [some (ev_o 2 a), some (ev_i x0), some (ev_i 0), some (ev_i 0)] [] S Q) : ev_Cv g m_X2_letDaysPass 6 0 [ev_o 2 a, ev_i x0] S Q := by
  refine ev_enter (by decide) rfl rfl (Nat.le_of_ble_eq_true rfl) ?_
  show ev_E g m_X2_letDaysPass 6 0 0 [some (ev_o 2 a), some (ev_i x0), none, none] [] S Q
  refine ev_iconst (0) dX2_letDaysPass_0 rfl ?_
  refine ev_istore_n dX2_letDaysPass_1 (Nat.le_of_ble_eq_true rfl) (ev_hw rfl) ?_
  show ev_E g m_X2_letDaysPass 6 0 2 [some (ev_o 2 a), some (ev_i x0), some (ev_i 0), none] [] S Q
  refine ev_iconst (0) dX2_letDaysPass_2 rfl ?_
  refine ev_istore_n dX2_letDaysPass_3 (Nat.le_of_ble_eq_true rfl) (ev_hw rfl) ?_
  show ev_E g m_X2_letDaysPass 6 0 4 [some (ev_o 2 a), some (ev_i x0), some (ev_i 0), some (ev_i 0)] [] S Q
  exact hQ
set_option maxHeartbeats 4000000 in
set_option maxRecDepth 100000 in
theorem sg_X2_letDaysPass_4 {g : ev_G} {S : ev_S} {Q : ev_O → ev_S → Prop} (a : Nat) (u1 : Int32) (u2 : Int32) (u3 : Int32) (hQ : (u1 ≤ u3 → (
    Q (.inl (some (ev_i u2))) S)) ∧
  (¬ (u1 ≤ u3) → (
    ev_Cv g m_X2_passDay 5 0 [ev_o 2 a] S (fun o S1 => ∃ v1_ : Int32, o = .inl (some (ev_i v1_)) ∧ (
      ev_E g m_X2_letDaysPass 6 0 4 [some (ev_o 2 a), some (ev_i u1), some (ev_i (u2 + v1_)), some (ev_i (u3 + 1))] [] S1 Q))))) : ev_E g m_X2_letDaysPass 6 0 4 [some (ev_o 2 a), some (ev_i u1), some (ev_i u2), some (ev_i u3)] [] S Q := by
  refine ev_iload_n (u3) dX2_letDaysPass_4 rfl ?_
  refine ev_iload_n (u1) dX2_letDaysPass_5 rfl ?_
  refine ev_icmp_ge 22 dX2_letDaysPass_6 (by decide) (fun c1 => ?_) (fun c1 => ?_)
  · replace hQ := hQ.1 c1
    refine ev_iload_n (u2) dX2_letDaysPass_22 rfl ?_
    exact ev_ireturn .int dX2_letDaysPass_23 rfl rfl hQ
  · replace hQ := hQ.2 c1
    refine ev_iload_n (u2) dX2_letDaysPass_9 rfl ?_
    refine ev_aload_n (ev_o 2 a) dX2_letDaysPass_10 rfl rfl ?_
    refine ev_cV mv_X2_passDay 5 0 2 [] [ev_i u2] dX2_letDaysPass_11 kw_1656 rfl (by decide) rfl (by decide) (by decide) (Nat.le_of_ble_eq_true rfl) hQ ?_ rfl
    rintro o S1 ⟨v1_, rfl, hQ⟩
    show ev_E g m_X2_letDaysPass 6 0 14 [some (ev_o 2 a), some (ev_i u1), some (ev_i u2), some (ev_i u3)] [ev_i v1_, ev_i u2] S1 Q
    refine ev_iadd dX2_letDaysPass_14 ?_
    refine ev_istore_n dX2_letDaysPass_15 (Nat.le_of_ble_eq_true rfl) (ev_hw rfl) ?_
    show ev_E g m_X2_letDaysPass 6 0 16 [some (ev_o 2 a), some (ev_i u1), some (ev_i (u2 + v1_)), some (ev_i u3)] [] S1 Q
    refine ev_iinc u3 (1) dX2_letDaysPass_16 rfl (by decide) (ev_hw rfl) ?_
    show ev_E g m_X2_letDaysPass 6 0 19 [some (ev_o 2 a), some (ev_i u1), some (ev_i (u2 + v1_)), some (ev_i (u3 + 1))] [] S1 Q
    refine ev_goto 4 dX2_letDaysPass_19 (by decide) ?_
    exact hQ
set_option maxHeartbeats 4000000 in
set_option maxRecDepth 100000 in
theorem sg_X9_advance_0 {g : ev_G} {S : ev_S} {Q : ev_O → ev_S → Prop} (a : Nat) (x0 : Int32) (hQ : ((f_X2_daysFault S (a + 11) x0) = 1 → (
    Q (.inr 0) S)) ∧
  (¬ ((f_X2_daysFault S (a + 11) x0) = 1) → (
    ((f_X2_daysFault S (a + 11) x0) = 2 → (
      Q (.inr 1) S)) ∧
    (¬ ((f_X2_daysFault S (a + 11) x0) = 2) → (
      ((f_X2_daysFault S (a + 11) x0) = 3 → (
        Q (.inr 2) S)) ∧
      (¬ ((f_X2_daysFault S (a + 11) x0) = 3) → (
        ev_Cv g m_X3_remember 5 0 [ev_o 3 (a + 93), ev_o 2 (a + 11)] S (fun o S1 => o = .inl none ∧ (
          ev_Cv g m_X2_letDaysPass 6 0 [ev_o 2 (a + 11), ev_i x0] S1 (fun o S2 => ∃ v2_ : Int32, o = .inl (some (ev_i v2_)) ∧ (
            Q (.inl (some (ev_i v2_))) S2))))))))))) : ev_Cv g m_X9_advance 7 1 [ev_o 9 a, ev_i x0] S Q := by
  refine ev_enter (by decide) rfl rfl (Nat.le_of_ble_eq_true rfl) ?_
  show ev_E g m_X9_advance 7 1 0 [some (ev_o 9 a), some (ev_i x0)] [] S Q
  refine ev_aload_n (ev_o 9 a) dX9_advance_0 rfl rfl ?_
  refine gf_9_3 dX9_advance_1 kw_601 ?_
  refine ev_iload_n (x0) dX9_advance_4 rfl ?_
  refine ev_fV mv_X2_daysFault 1 2 [ev_i x0] [] dX9_advance_5 kw_1648 rfl (by decide) rfl (by decide) (Nat.le_of_ble_eq_true rfl) (sp_X2_daysFault (a + 11) x0) ?_ rfl
  refine ev_cS ms_X9_refuse 1 1 [ev_i (f_X2_daysFault S (a + 11) x0)] [] dX9_advance_8 kw_1546 rfl (by decide) (by decide) (Nat.le_of_ble_eq_true rfl) (Q' := fun o z => ev_After g m_X9_advance 7 (1 - 1) 8 [some (ev_o 9 a), some (ev_i x0)] [] z Q o) (sg_X9_refuse_0 (f_X2_daysFault S (a + 11) x0) ?_) (fun o z h => h) rfl
  refine ⟨fun c1 => ?_, fun c1 => ?_⟩
  · replace hQ := hQ.1 c1
    exact ev_T_out (by decide) rfl hQ
  · replace hQ := hQ.2 c1
    refine ⟨fun c2 => ?_, fun c2 => ?_⟩
    · replace hQ := hQ.1 c2
      exact ev_T_out (by decide) rfl hQ
    · replace hQ := hQ.2 c2
      refine ⟨fun c3 => ?_, fun c3 => ?_⟩
      · replace hQ := hQ.1 c3
        exact ev_T_out (by decide) rfl hQ
      · replace hQ := hQ.2 c3
        show ev_E g m_X9_advance 7 0 11 [some (ev_o 9 a), some (ev_i x0)] [] S Q
        refine ev_aload_n (ev_o 9 a) dX9_advance_11 rfl rfl ?_
        refine gf_9_5 dX9_advance_12 kw_603 ?_
        refine ev_aload_n (ev_o 9 a) dX9_advance_15 rfl rfl ?_
        refine gf_9_3 dX9_advance_16 kw_601 ?_
        refine ev_cV mv_X3_remember 5 0 3 [ev_o 2 (a + 11)] [] dX9_advance_19 kw_1566 rfl (by decide) rfl (by decide) (by decide) (Nat.le_of_ble_eq_true rfl) hQ ?_ rfl
        rintro o S1 ⟨rfl, hQ⟩
        show ev_E g m_X9_advance 7 0 22 [some (ev_o 9 a), some (ev_i x0)] [] S1 Q
        refine ev_aload_n (ev_o 9 a) dX9_advance_22 rfl rfl ?_
        refine gf_9_3 dX9_advance_23 kw_601 ?_
        refine ev_iload_n (x0) dX9_advance_26 rfl ?_
        refine ev_cV mv_X2_letDaysPass 6 0 2 [ev_i x0] [] dX9_advance_27 kw_1652 rfl (by decide) rfl (by decide) (by decide) (Nat.le_of_ble_eq_true rfl) hQ ?_ rfl
        rintro o S2 ⟨v2_, rfl, hQ⟩
        show ev_E g m_X9_advance 7 0 30 [some (ev_o 9 a), some (ev_i x0)] [ev_i v2_] S2 Q
        exact ev_ireturn .int dX9_advance_30 rfl rfl hQ
set_option maxHeartbeats 4000000 in
set_option maxRecDepth 100000 in
theorem sg_X2_muleFault_0 {g : ev_G} {S : ev_S} {Q : ev_O → ev_S → Prop} (a : Nat) (x0 : Int32) (x1 : Int32) (hQ : ((t_X5_exists S (a + 20) x0) = true → (
    ((t_X9_isPlayer x1) = true → (
      ((j_at (S.1 (a + 23)) 8 ((x0 * 2) + x1)) < 9 → (
        Q (.inl (some (ev_i 0))) S)) ∧
      (¬ ((j_at (S.1 (a + 23)) 8 ((x0 * 2) + x1)) < 9) → (
        Q (.inl (some (ev_i 2))) S)))) ∧
    (¬ ((t_X9_isPlayer x1) = true) → (
      Q (.inl (some (ev_i 1))) S)))) ∧
  (¬ ((t_X5_exists S (a + 20) x0) = true) → (
    Q (.inl (some (ev_i 1))) S))) : ev_Cv g m_X2_muleFault 3 0 [ev_o 2 a, ev_i x0, ev_i x1] S Q := by
  refine ev_enter (by decide) rfl rfl (Nat.le_of_ble_eq_true rfl) ?_
  show ev_E g m_X2_muleFault 3 0 0 [some (ev_o 2 a), some (ev_i x0), some (ev_i x1)] [] S Q
  refine ev_aload_n (ev_o 2 a) dX2_muleFault_0 rfl rfl ?_
  refine ev_fV mv_X2_passes 2 2 [] [] dX2_muleFault_1 kw_1312 rfl (by decide) rfl (by decide) (Nat.le_of_ble_eq_true rfl) (sp_X2_passes a) ?_ rfl
  refine ev_iload_n (x0) dX2_muleFault_4 rfl ?_
  refine ev_fV mv_X5_exists 1 5 [ev_i x0] [] dX2_muleFault_5 kw_1538 rfl (by decide) rfl (by decide) (Nat.le_of_ble_eq_true rfl) (sp_X5_exists (a + 20) x0) ?_ rfl
  by_cases c1 : (t_X5_exists S (a + 20) x0) = true
  · rw [if_pos c1]
    replace hQ := hQ.1 c1
    refine ev_if_eq 18 dX2_muleFault_8 (by decide) (fun h9 => absurd h9 (by decide : ¬ ((1 : Int32) = 0))) (fun _ => ?_)
    refine ev_iload_n (x1) dX2_muleFault_11 rfl ?_
    refine ev_fN ms_X9_isPlayer 1 [ev_i x1] [] dX2_muleFault_12 (List.mem_of_getElem? (i := 29) rfl) rfl (by decide) (Nat.le_of_ble_eq_true rfl) (sp_X9_isPlayer x1) ?_ rfl
    by_cases c2 : (t_X9_isPlayer x1) = true
    · rw [if_pos c2]
      replace hQ := hQ.1 c2
      refine ev_if_ne 20 dX2_muleFault_15 (by decide) (fun _ => ?_) (fun h9 => absurd h9 (by decide : ¬ ((1 : Int32) = 0)))
      refine ev_aload_n (ev_o 2 a) dX2_muleFault_20 rfl rfl ?_
      refine ev_fV mv_X2_passes 2 2 [] [] dX2_muleFault_21 kw_1312 rfl (by decide) rfl (by decide) (Nat.le_of_ble_eq_true rfl) (sp_X2_passes a) ?_ rfl
      refine ev_iload_n (x0) dX2_muleFault_24 rfl ?_
      refine ev_iload_n (x1) dX2_muleFault_25 rfl ?_
      refine ev_fV mv_X5_mulesAt 2 5 [ev_i x0, ev_i x1] [] dX2_muleFault_26 kw_1628 rfl (by decide) rfl (by decide) (Nat.le_of_ble_eq_true rfl) (sp_X5_mulesAt (a + 20) x0 x1) ?_ rfl
      refine ev_bipush (9) dX2_muleFault_29 (by decide) ?_
      refine ev_icmp_lt 38 dX2_muleFault_31 (by decide) (fun c3 => ?_) (fun c3 => ?_)
      · replace hQ := hQ.1 c3
        refine ev_iconst (0) dX2_muleFault_38 rfl ?_
        exact ev_ireturn .int dX2_muleFault_39 rfl rfl hQ
      · replace hQ := hQ.2 c3
        refine ev_iconst (2) dX2_muleFault_34 rfl ?_
        refine ev_goto 39 dX2_muleFault_35 (by decide) ?_
        exact ev_ireturn .int dX2_muleFault_39 rfl rfl hQ
    · rw [if_neg c2]
      replace hQ := hQ.2 c2
      refine ev_if_ne 20 dX2_muleFault_15 (by decide) (fun h9 => absurd (by decide : ((0 : Int32) = 0)) h9) (fun _ => ?_)
      refine ev_iconst (1) dX2_muleFault_18 rfl ?_
      exact ev_ireturn .int dX2_muleFault_19 rfl rfl hQ
  · rw [if_neg c1]
    replace hQ := hQ.2 c1
    refine ev_if_eq 18 dX2_muleFault_8 (by decide) (fun _ => ?_) (fun h9 => absurd (by decide : ((0 : Int32) = 0)) h9)
    refine ev_iconst (1) dX2_muleFault_18 rfl ?_
    exact ev_ireturn .int dX2_muleFault_19 rfl rfl hQ
def f_X2_muleFault (S : ev_S) (a : Nat) (x0 : Int32) (x1 : Int32) : Int32 := if (t_X5_exists S (a + 20) x0) = true then (if (t_X9_isPlayer x1) = true then (if (j_at (S.1 (a + 23)) 8 ((x0 * 2) + x1)) < 9 then (0) else (2)) else (1)) else (1)
set_option maxHeartbeats 4000000 in
set_option maxRecDepth 100000 in
theorem sp_X2_muleFault {g : ev_G} {S : ev_S} (a : Nat) (x0 : Int32) (x1 : Int32)  : ev_Fn g m_X2_muleFault 3 [ev_o 2 a, ev_i x0, ev_i x1] S (some (ev_i (f_X2_muleFault S a x0 x1))) S := by
  intro Q hQ
  refine sg_X2_muleFault_0 a x0 x1 ?_
  unfold f_X2_muleFault at hQ
  refine ⟨fun c1 => ?_, fun c1 => ?_⟩
  · rw [if_pos c1] at hQ
    refine ⟨fun c2 => ?_, fun c2 => ?_⟩
    · rw [if_pos c2] at hQ
      refine ⟨fun c3 => ?_, fun c3 => ?_⟩
      · rw [if_pos c3] at hQ
        exact hQ
      · rw [if_neg c3] at hQ
        exact hQ
    · rw [if_neg c2] at hQ
      exact hQ
  · rw [if_neg c1] at hQ
    exact hQ
set_option maxHeartbeats 4000000 in
set_option maxRecDepth 100000 in
theorem sg_X5_bringMule_0 {g : ev_G} {S : ev_S} {Q : ev_O → ev_S → Prop} (a : Nat) (x0 : Int32) (x1 : Int32) (hQ : ∀ S1 : ev_S, S1 = (ev_up S a 4 ((S.1 a 4) + 1)) → (
    ∀ S2 : ev_S, S2 = (j_put S1 (a + 3) 8 ((x0 * 2) + x1) ((j_at (S1.1 (a + 3)) 8 ((x0 * 2) + x1)) + 1)) → (
      Q (.inl (some (ev_i (j_at (S2.1 (a + 3)) 8 ((x0 * 2) + x1))))) S2))) : ev_Cv g m_X5_bringMule 3 0 [ev_o 5 a, ev_i x0, ev_i x1] S Q := by
  refine ev_enter (by decide) rfl rfl (Nat.le_of_ble_eq_true rfl) ?_
  show ev_E g m_X5_bringMule 3 0 0 [some (ev_o 5 a), some (ev_i x0), some (ev_i x1)] [] S Q
  refine ev_aload_n (ev_o 5 a) dX5_bringMule_0 rfl rfl ?_
  refine ev_dup dX5_bringMule_1 rfl ?_
  refine gf_5_4 dX5_bringMule_2 kw_228 ?_
  refine ev_iconst (1) dX5_bringMule_5 rfl ?_
  refine ev_iadd dX5_bringMule_6 ?_
  refine pf_5_4 dX5_bringMule_7 kw_228 ?_
  refine ev_sub hQ (fun S1 hS1 hQ => ?_)
  refine ev_E.goal (pc' := 10) (L' := [some (ev_o 5 a), some (ev_i x0), some (ev_i x1)]) (K' := []) (S' := S1) ?_ rfl rfl rfl hS1
  refine ev_aload_n (ev_o 5 a) dX5_bringMule_10 rfl rfl ?_
  refine ev_iload_n (x0) dX5_bringMule_11 rfl ?_
  refine ev_iload_n (x1) dX5_bringMule_12 rfl ?_
  refine ev_iconst (1) dX5_bringMule_13 rfl ?_
  refine ev_fVn mv_X5_changeMules 2 5 [ev_i x0, ev_i x1, ev_i 1] [] dX5_bringMule_14 kw_1633 rfl (by decide) rfl (by decide) (Nat.le_of_ble_eq_true rfl) (sp_X5_changeMules a x0 x1 1) ?_ rfl
  refine ev_sub hQ (fun S2 hS2 hQ => ?_)
  refine ev_E.goal (pc' := 17) (L' := [some (ev_o 5 a), some (ev_i x0), some (ev_i x1)]) (K' := []) (S' := S2) ?_ rfl rfl rfl hS2
  refine ev_aload_n (ev_o 5 a) dX5_bringMule_17 rfl rfl ?_
  refine ev_iload_n (x0) dX5_bringMule_18 rfl ?_
  refine ev_iload_n (x1) dX5_bringMule_19 rfl ?_
  refine ev_fV mv_X5_mulesAt 2 5 [ev_i x0, ev_i x1] [] dX5_bringMule_20 kw_1634 rfl (by decide) rfl (by decide) (Nat.le_of_ble_eq_true rfl) (sp_X5_mulesAt a x0 x1) ?_ rfl
  exact ev_ireturn .int dX5_bringMule_23 rfl rfl hQ
set_option maxHeartbeats 4000000 in
set_option maxRecDepth 100000 in
theorem sp_X5_bringMule {g : ev_G} {S : ev_S} (a : Nat) (x0 : Int32) (x1 : Int32)  : ev_Fn g m_X5_bringMule 3 [ev_o 5 a, ev_i x0, ev_i x1] S (some (ev_i (j_at ((j_put (ev_up S a 4 ((S.1 a 4) + 1)) (a + 3) 8 ((x0 * 2) + x1) ((j_at ((ev_up S a 4 ((S.1 a 4) + 1)).1 (a + 3)) 8 ((x0 * 2) + x1)) + 1)).1 (a + 3)) 8 ((x0 * 2) + x1)))) (j_put (ev_up S a 4 ((S.1 a 4) + 1)) (a + 3) 8 ((x0 * 2) + x1) ((j_at ((ev_up S a 4 ((S.1 a 4) + 1)).1 (a + 3)) 8 ((x0 * 2) + x1)) + 1)) := by
  intro Q hQ
  refine sg_X5_bringMule_0 a x0 x1 ?_
  intro S1 hS1
  intro S2 hS2
  subst hS2
  subst hS1
  exact hQ
set_option maxHeartbeats 4000000 in
set_option maxRecDepth 100000 in
theorem sg_X9_addMule_0 {g : ev_G} {S : ev_S} {Q : ev_O → ev_S → Prop} (a : Nat) (x0 : Int32) (x1 : Int32) (hQ : ((f_X2_muleFault S (a + 11) x0 x1) = 1 → (
    Q (.inr 0) S)) ∧
  (¬ ((f_X2_muleFault S (a + 11) x0 x1) = 1) → (
    ((f_X2_muleFault S (a + 11) x0 x1) = 2 → (
      Q (.inr 1) S)) ∧
    (¬ ((f_X2_muleFault S (a + 11) x0 x1) = 2) → (
      ((f_X2_muleFault S (a + 11) x0 x1) = 3 → (
        Q (.inr 2) S)) ∧
      (¬ ((f_X2_muleFault S (a + 11) x0 x1) = 3) → (
        ev_Cv g m_X3_remember 5 0 [ev_o 3 (a + 93), ev_o 2 (a + 11)] S (fun o S1 => o = .inl none ∧ (
          ∀ S2 : ev_S, S2 = (j_put (ev_up S1 (a + 31) 4 ((S1.1 (a + 31) 4) + 1)) (a + 34) 8 ((x0 * 2) + x1) ((j_at ((ev_up S1 (a + 31) 4 ((S1.1 (a + 31) 4) + 1)).1 (a + 34)) 8 ((x0 * 2) + x1)) + 1)) → (
            Q (.inl (some (ev_i (j_at ((j_put (ev_up S1 (a + 31) 4 ((S1.1 (a + 31) 4) + 1)) (a + 34) 8 ((x0 * 2) + x1) ((j_at ((ev_up S1 (a + 31) 4 ((S1.1 (a + 31) 4) + 1)).1 (a + 34)) 8 ((x0 * 2) + x1)) + 1)).1 (a + 34)) 8 ((x0 * 2) + x1))))) S2)))))))))) : ev_Cv g m_X9_addMule 6 1 [ev_o 9 a, ev_i x0, ev_i x1] S Q := by
  refine ev_enter (by decide) rfl rfl (Nat.le_of_ble_eq_true rfl) ?_
  show ev_E g m_X9_addMule 6 1 0 [some (ev_o 9 a), some (ev_i x0), some (ev_i x1)] [] S Q
  refine ev_aload_n (ev_o 9 a) dX9_addMule_0 rfl rfl ?_
  refine gf_9_3 dX9_addMule_1 kw_601 ?_
  refine ev_iload_n (x0) dX9_addMule_4 rfl ?_
  refine ev_iload_n (x1) dX9_addMule_5 rfl ?_
  refine ev_fV mv_X2_muleFault 3 2 [ev_i x0, ev_i x1] [] dX9_addMule_6 kw_1624 rfl (by decide) rfl (by decide) (Nat.le_of_ble_eq_true rfl) (sp_X2_muleFault (a + 11) x0 x1) ?_ rfl
  refine ev_cS ms_X9_refuse 1 1 [ev_i (f_X2_muleFault S (a + 11) x0 x1)] [] dX9_addMule_9 kw_1546 rfl (by decide) (by decide) (Nat.le_of_ble_eq_true rfl) (Q' := fun o z => ev_After g m_X9_addMule 6 (1 - 1) 9 [some (ev_o 9 a), some (ev_i x0), some (ev_i x1)] [] z Q o) (sg_X9_refuse_0 (f_X2_muleFault S (a + 11) x0 x1) ?_) (fun o z h => h) rfl
  refine ⟨fun c1 => ?_, fun c1 => ?_⟩
  · replace hQ := hQ.1 c1
    exact ev_T_out (by decide) rfl hQ
  · replace hQ := hQ.2 c1
    refine ⟨fun c2 => ?_, fun c2 => ?_⟩
    · replace hQ := hQ.1 c2
      exact ev_T_out (by decide) rfl hQ
    · replace hQ := hQ.2 c2
      refine ⟨fun c3 => ?_, fun c3 => ?_⟩
      · replace hQ := hQ.1 c3
        exact ev_T_out (by decide) rfl hQ
      · replace hQ := hQ.2 c3
        show ev_E g m_X9_addMule 6 0 12 [some (ev_o 9 a), some (ev_i x0), some (ev_i x1)] [] S Q
        refine ev_aload_n (ev_o 9 a) dX9_addMule_12 rfl rfl ?_
        refine gf_9_5 dX9_addMule_13 kw_603 ?_
        refine ev_aload_n (ev_o 9 a) dX9_addMule_16 rfl rfl ?_
        refine gf_9_3 dX9_addMule_17 kw_601 ?_
        refine ev_cV mv_X3_remember 5 0 3 [ev_o 2 (a + 11)] [] dX9_addMule_20 kw_1566 rfl (by decide) rfl (by decide) (by decide) (Nat.le_of_ble_eq_true rfl) hQ ?_ rfl
        rintro o S1 ⟨rfl, hQ⟩
        show ev_E g m_X9_addMule 6 0 23 [some (ev_o 9 a), some (ev_i x0), some (ev_i x1)] [] S1 Q
        refine ev_aload_n (ev_o 9 a) dX9_addMule_23 rfl rfl ?_
        refine gf_9_3 dX9_addMule_24 kw_601 ?_
        refine ev_fV mv_X2_passes 2 2 [] [] dX9_addMule_27 kw_527 rfl (by decide) rfl (by decide) (Nat.le_of_ble_eq_true rfl) (sp_X2_passes (a + 11)) ?_ rfl
        refine ev_iload_n (x0) dX9_addMule_30 rfl ?_
        refine ev_iload_n (x1) dX9_addMule_31 rfl ?_
        refine ev_fV mv_X5_bringMule 3 5 [ev_i x0, ev_i x1] [] dX9_addMule_32 kw_1629 rfl (by decide) rfl (by decide) (Nat.le_of_ble_eq_true rfl) (sp_X5_bringMule (a + 31) x0 x1) ?_ rfl
        refine ev_sub hQ (fun S2 hS2 hQ => ?_)
        refine ev_E.goal (pc' := 35) (L' := [some (ev_o 9 a), some (ev_i x0), some (ev_i x1)]) (K' := [ev_i (j_at ((j_put (ev_up S1 (a + 31) 4 ((S1.1 (a + 31) 4) + 1)) (a + 34) 8 ((x0 * 2) + x1) ((j_at ((ev_up S1 (a + 31) 4 ((S1.1 (a + 31) 4) + 1)).1 (a + 34)) 8 ((x0 * 2) + x1)) + 1)).1 (a + 34)) 8 ((x0 * 2) + x1))]) (S' := S2) ?_ rfl rfl rfl hS2
        exact ev_ireturn .int dX9_addMule_35 rfl rfl hQ
set_option maxHeartbeats 4000000 in
set_option maxRecDepth 100000 in
theorem sg_X2_snowFault_0 {g : ev_G} {S : ev_S} {Q : ev_O → ev_S → Prop} (a : Nat) (x0 : Int32) (x1 : Int32) (x2 : Int32) (hQ : ((t_X5_exists S (a + 20) x0) = true → (
    ((t_X9_isMonth x1) = true → (
      (x2 < 0 → (
        Q (.inl (some (ev_i 3))) S)) ∧
      (¬ (x2 < 0) → (
        (x2 ≤ 9 → (
          Q (.inl (some (ev_i 0))) S)) ∧
        (¬ (x2 ≤ 9) → (
          Q (.inl (some (ev_i 3))) S)))))) ∧
    (¬ ((t_X9_isMonth x1) = true) → (
      Q (.inl (some (ev_i 1))) S)))) ∧
  (¬ ((t_X5_exists S (a + 20) x0) = true) → (
    Q (.inl (some (ev_i 1))) S))) : ev_Cv g m_X2_snowFault 3 0 [ev_o 2 a, ev_i x0, ev_i x1, ev_i x2] S Q := by
  refine ev_enter (by decide) rfl rfl (Nat.le_of_ble_eq_true rfl) ?_
  show ev_E g m_X2_snowFault 3 0 0 [some (ev_o 2 a), some (ev_i x0), some (ev_i x1), some (ev_i x2)] [] S Q
  refine ev_aload_n (ev_o 2 a) dX2_snowFault_0 rfl rfl ?_
  refine ev_fV mv_X2_passes 2 2 [] [] dX2_snowFault_1 kw_1312 rfl (by decide) rfl (by decide) (Nat.le_of_ble_eq_true rfl) (sp_X2_passes a) ?_ rfl
  refine ev_iload_n (x0) dX2_snowFault_4 rfl ?_
  refine ev_fV mv_X5_exists 1 5 [ev_i x0] [] dX2_snowFault_5 kw_1538 rfl (by decide) rfl (by decide) (Nat.le_of_ble_eq_true rfl) (sp_X5_exists (a + 20) x0) ?_ rfl
  by_cases c1 : (t_X5_exists S (a + 20) x0) = true
  · rw [if_pos c1]
    replace hQ := hQ.1 c1
    refine ev_if_eq 18 dX2_snowFault_8 (by decide) (fun h9 => absurd h9 (by decide : ¬ ((1 : Int32) = 0))) (fun _ => ?_)
    refine ev_iload_n (x1) dX2_snowFault_11 rfl ?_
    refine ev_fN ms_X9_isMonth 1 [ev_i x1] [] dX2_snowFault_12 (List.mem_of_getElem? (i := 32) rfl) rfl (by decide) (Nat.le_of_ble_eq_true rfl) (sp_X9_isMonth x1) ?_ rfl
    by_cases c2 : (t_X9_isMonth x1) = true
    · rw [if_pos c2]
      replace hQ := hQ.1 c2
      refine ev_if_ne 20 dX2_snowFault_15 (by decide) (fun _ => ?_) (fun h9 => absurd h9 (by decide : ¬ ((1 : Int32) = 0)))
      refine ev_iload_n (x2) dX2_snowFault_20 rfl ?_
      refine ev_if_lt 30 dX2_snowFault_21 (by decide) (fun c3 => ?_) (fun c3 => ?_)
      · replace hQ := hQ.1 c3
        refine ev_iconst (3) dX2_snowFault_30 rfl ?_
        refine ev_goto 35 dX2_snowFault_31 (by decide) ?_
        exact ev_ireturn .int dX2_snowFault_35 rfl rfl hQ
      · replace hQ := hQ.2 c3
        refine ev_iload_n (x2) dX2_snowFault_24 rfl ?_
        refine ev_bipush (9) dX2_snowFault_25 (by decide) ?_
        refine ev_icmp_le 34 dX2_snowFault_27 (by decide) (fun c4 => ?_) (fun c4 => ?_)
        · replace hQ := hQ.1 c4
          refine ev_iconst (0) dX2_snowFault_34 rfl ?_
          exact ev_ireturn .int dX2_snowFault_35 rfl rfl hQ
        · replace hQ := hQ.2 c4
          refine ev_iconst (3) dX2_snowFault_30 rfl ?_
          refine ev_goto 35 dX2_snowFault_31 (by decide) ?_
          exact ev_ireturn .int dX2_snowFault_35 rfl rfl hQ
    · rw [if_neg c2]
      replace hQ := hQ.2 c2
      refine ev_if_ne 20 dX2_snowFault_15 (by decide) (fun h9 => absurd (by decide : ((0 : Int32) = 0)) h9) (fun _ => ?_)
      refine ev_iconst (1) dX2_snowFault_18 rfl ?_
      exact ev_ireturn .int dX2_snowFault_19 rfl rfl hQ
  · rw [if_neg c1]
    replace hQ := hQ.2 c1
    refine ev_if_eq 18 dX2_snowFault_8 (by decide) (fun _ => ?_) (fun h9 => absurd (by decide : ((0 : Int32) = 0)) h9)
    refine ev_iconst (1) dX2_snowFault_18 rfl ?_
    exact ev_ireturn .int dX2_snowFault_19 rfl rfl hQ
def f_X2_snowFault (S : ev_S) (a : Nat) (x0 : Int32) (x1 : Int32) (x2 : Int32) : Int32 := if (t_X5_exists S (a + 20) x0) = true then (if (t_X9_isMonth x1) = true then (if x2 < 0 then (3) else (if x2 ≤ 9 then (0) else (3))) else (1)) else (1)
set_option maxHeartbeats 4000000 in
set_option maxRecDepth 100000 in
theorem sp_X2_snowFault {g : ev_G} {S : ev_S} (a : Nat) (x0 : Int32) (x1 : Int32) (x2 : Int32)  : ev_Fn g m_X2_snowFault 3 [ev_o 2 a, ev_i x0, ev_i x1, ev_i x2] S (some (ev_i (f_X2_snowFault S a x0 x1 x2))) S := by
  intro Q hQ
  refine sg_X2_snowFault_0 a x0 x1 x2 ?_
  unfold f_X2_snowFault at hQ
  refine ⟨fun c1 => ?_, fun c1 => ?_⟩
  · rw [if_pos c1] at hQ
    refine ⟨fun c2 => ?_, fun c2 => ?_⟩
    · rw [if_pos c2] at hQ
      refine ⟨fun c3 => ?_, fun c3 => ?_⟩
      · rw [if_pos c3] at hQ
        exact hQ
      · rw [if_neg c3] at hQ
        refine ⟨fun c4 => ?_, fun c4 => ?_⟩
        · rw [if_pos c4] at hQ
          exact hQ
        · rw [if_neg c4] at hQ
          exact hQ
    · rw [if_neg c2] at hQ
      exact hQ
  · rw [if_neg c1] at hQ
    exact hQ
set_option maxHeartbeats 4000000 in
set_option maxRecDepth 100000 in
theorem sg_X9_setSnow_0 {g : ev_G} {S : ev_S} {Q : ev_O → ev_S → Prop} (a : Nat) (x0 : Int32) (x1 : Int32) (x2 : Int32) (hQ : ((f_X2_snowFault S (a + 11) x0 x1 x2) = 1 → (
    Q (.inr 0) S)) ∧
  (¬ ((f_X2_snowFault S (a + 11) x0 x1 x2) = 1) → (
    ((f_X2_snowFault S (a + 11) x0 x1 x2) = 2 → (
      Q (.inr 1) S)) ∧
    (¬ ((f_X2_snowFault S (a + 11) x0 x1 x2) = 2) → (
      ((f_X2_snowFault S (a + 11) x0 x1 x2) = 3 → (
        Q (.inr 2) S)) ∧
      (¬ ((f_X2_snowFault S (a + 11) x0 x1 x2) = 3) → (
        ev_Cv g m_X3_remember 5 0 [ev_o 3 (a + 93), ev_o 2 (a + 11)] S (fun o S1 => o = .inl none ∧ (
          ∀ S2 : ev_S, S2 = (j_put S1 (a + 33) 48 ((x0 * 12) + x1) x2) → (
            Q (.inl (some (ev_i (j_at (S1.1 (a + 33)) 48 ((x0 * 12) + x1))))) S2)))))))))) : ev_Cv g m_X9_setSnow 6 1 [ev_o 9 a, ev_i x0, ev_i x1, ev_i x2] S Q := by
  refine ev_enter (by decide) rfl rfl (Nat.le_of_ble_eq_true rfl) ?_
  show ev_E g m_X9_setSnow 6 1 0 [some (ev_o 9 a), some (ev_i x0), some (ev_i x1), some (ev_i x2)] [] S Q
  refine ev_aload_n (ev_o 9 a) dX9_setSnow_0 rfl rfl ?_
  refine gf_9_3 dX9_setSnow_1 kw_601 ?_
  refine ev_iload_n (x0) dX9_setSnow_4 rfl ?_
  refine ev_iload_n (x1) dX9_setSnow_5 rfl ?_
  refine ev_iload_n (x2) dX9_setSnow_6 rfl ?_
  refine ev_fV mv_X2_snowFault 3 2 [ev_i x0, ev_i x1, ev_i x2] [] dX9_setSnow_7 kw_1639 rfl (by decide) rfl (by decide) (Nat.le_of_ble_eq_true rfl) (sp_X2_snowFault (a + 11) x0 x1 x2) ?_ rfl
  refine ev_cS ms_X9_refuse 1 1 [ev_i (f_X2_snowFault S (a + 11) x0 x1 x2)] [] dX9_setSnow_10 kw_1546 rfl (by decide) (by decide) (Nat.le_of_ble_eq_true rfl) (Q' := fun o z => ev_After g m_X9_setSnow 6 (1 - 1) 10 [some (ev_o 9 a), some (ev_i x0), some (ev_i x1), some (ev_i x2)] [] z Q o) (sg_X9_refuse_0 (f_X2_snowFault S (a + 11) x0 x1 x2) ?_) (fun o z h => h) rfl
  refine ⟨fun c1 => ?_, fun c1 => ?_⟩
  · replace hQ := hQ.1 c1
    exact ev_T_out (by decide) rfl hQ
  · replace hQ := hQ.2 c1
    refine ⟨fun c2 => ?_, fun c2 => ?_⟩
    · replace hQ := hQ.1 c2
      exact ev_T_out (by decide) rfl hQ
    · replace hQ := hQ.2 c2
      refine ⟨fun c3 => ?_, fun c3 => ?_⟩
      · replace hQ := hQ.1 c3
        exact ev_T_out (by decide) rfl hQ
      · replace hQ := hQ.2 c3
        show ev_E g m_X9_setSnow 6 0 13 [some (ev_o 9 a), some (ev_i x0), some (ev_i x1), some (ev_i x2)] [] S Q
        refine ev_aload_n (ev_o 9 a) dX9_setSnow_13 rfl rfl ?_
        refine gf_9_5 dX9_setSnow_14 kw_603 ?_
        refine ev_aload_n (ev_o 9 a) dX9_setSnow_17 rfl rfl ?_
        refine gf_9_3 dX9_setSnow_18 kw_601 ?_
        refine ev_cV mv_X3_remember 5 0 3 [ev_o 2 (a + 11)] [] dX9_setSnow_21 kw_1566 rfl (by decide) rfl (by decide) (by decide) (Nat.le_of_ble_eq_true rfl) hQ ?_ rfl
        rintro o S1 ⟨rfl, hQ⟩
        show ev_E g m_X9_setSnow 6 0 24 [some (ev_o 9 a), some (ev_i x0), some (ev_i x1), some (ev_i x2)] [] S1 Q
        refine ev_aload_n (ev_o 9 a) dX9_setSnow_24 rfl rfl ?_
        refine gf_9_3 dX9_setSnow_25 kw_601 ?_
        refine ev_fV mv_X2_passes 2 2 [] [] dX9_setSnow_28 kw_527 rfl (by decide) rfl (by decide) (Nat.le_of_ble_eq_true rfl) (sp_X2_passes (a + 11)) ?_ rfl
        refine ev_iload_n (x0) dX9_setSnow_31 rfl ?_
        refine ev_iload_n (x1) dX9_setSnow_32 rfl ?_
        refine ev_iload_n (x2) dX9_setSnow_33 rfl ?_
        refine ev_fV mv_X5_changeSnow 3 5 [ev_i x0, ev_i x1, ev_i x2] [] dX9_setSnow_34 kw_551 rfl (by decide) rfl (by decide) (Nat.le_of_ble_eq_true rfl) (sp_X5_changeSnow (a + 31) x0 x1 x2) ?_ rfl
        refine ev_sub hQ (fun S2 hS2 hQ => ?_)
        refine ev_E.goal (pc' := 37) (L' := [some (ev_o 9 a), some (ev_i x0), some (ev_i x1), some (ev_i x2)]) (K' := [ev_i (j_at (S1.1 (a + 33)) 48 ((x0 * 12) + x1))]) (S' := S2) ?_ rfl rfl rfl hS2
        exact ev_ireturn .int dX9_setSnow_37 rfl rfl hQ
set_option maxHeartbeats 4000000 in
set_option maxRecDepth 100000 in
theorem sg_X3_count_0 {g : ev_G} {S : ev_S} {Q : ev_O → ev_S → Prop} (a : Nat) (hQ : Q (.inl (some (ev_i (S.1 a 1)))) S) : ev_Cv g m_X3_count 1 0 [ev_o 3 a] S Q := by
  refine ev_enter (by decide) rfl rfl (Nat.le_of_ble_eq_true rfl) ?_
  show ev_E g m_X3_count 1 0 0 [some (ev_o 3 a)] [] S Q
  refine ev_aload_n (ev_o 3 a) dX3_count_0 rfl rfl ?_
  refine gf_3_1 dX3_count_1 kw_326 ?_
  exact ev_ireturn .int dX3_count_4 rfl rfl hQ
set_option maxHeartbeats 4000000 in
set_option maxRecDepth 100000 in
theorem sp_X3_count {g : ev_G} {S : ev_S} (a : Nat)  : ev_Fn g m_X3_count 1 [ev_o 3 a] S (some (ev_i (S.1 a 1))) S := by
  intro Q hQ
  refine sg_X3_count_0 a ?_
  exact hQ
set_option maxHeartbeats 4000000 in
set_option maxRecDepth 100000 in
theorem sg_X9_undoCount_0 {g : ev_G} {S : ev_S} {Q : ev_O → ev_S → Prop} (a : Nat) (hQ : Q (.inl (some (ev_i (S.1 (a + 93) 1)))) S) : ev_Cv g m_X9_undoCount 2 0 [ev_o 9 a] S Q := by
  refine ev_enter (by decide) rfl rfl (Nat.le_of_ble_eq_true rfl) ?_
  show ev_E g m_X9_undoCount 2 0 0 [some (ev_o 9 a)] [] S Q
  refine ev_aload_n (ev_o 9 a) dX9_undoCount_0 rfl rfl ?_
  refine gf_9_5 dX9_undoCount_1 kw_603 ?_
  refine ev_fV mv_X3_count 1 3 [] [] dX9_undoCount_4 kw_640 rfl (by decide) rfl (by decide) (Nat.le_of_ble_eq_true rfl) (sp_X3_count (a + 93)) ?_ rfl
  exact ev_ireturn .int dX9_undoCount_7 rfl rfl hQ
set_option maxHeartbeats 4000000 in
set_option maxRecDepth 100000 in
theorem sp_X9_undoCount {g : ev_G} {S : ev_S} (a : Nat)  : ev_Fn g m_X9_undoCount 2 [ev_o 9 a] S (some (ev_i (S.1 (a + 93) 1))) S := by
  intro Q hQ
  refine sg_X9_undoCount_0 a ?_
  exact hQ
set_option maxHeartbeats 4000000 in
set_option maxRecDepth 100000 in
theorem sg_X3_takeBack_0 {g : ev_G} {S : ev_S} {Q : ev_O → ev_S → Prop} (a : Nat) (b0 : Nat) (hQ : (((S.1 a 2) < 0) → False) ∧ (
    (¬ ((S.1 a 2) < 0) → (8 ≤ (S.1 a 2)) → False) ∧ (
      (¬ ((S.1 a 2) < 0) → ¬ (8 ≤ (S.1 a 2)) → vp_in (S.1 a 2) 8) ∧ (
        ev_Cv g m_X2_copyFrom 4 0 [ev_o 2 b0, ev_o 2 (a_past (a + 1) (S.1 a 2))] S (fun o S1 => o = .inl none ∧ (
          ((S1.1 a 2) ≤ 0 → (
            ∀ S2 : ev_S, S2 = (ev_up S1 a 2 7) → (
              ∀ S3 : ev_S, S3 = (ev_up S2 a 1 ((S1.1 a 1) - 1)) → (
                Q (.inl none) S3)))) ∧
          (¬ ((S1.1 a 2) ≤ 0) → (
            ∀ S4 : ev_S, S4 = (ev_up S1 a 2 ((S1.1 a 2) - 1)) → (
              ∀ S5 : ev_S, S5 = (ev_up S4 a 1 ((S1.1 a 1) - 1)) → (
                Q (.inl none) S5)))))))))) : ev_Cv g m_X3_takeBack 5 0 [ev_o 3 a, ev_o 2 b0] S Q := by
  refine ev_enter (by decide) rfl rfl (Nat.le_of_ble_eq_true rfl) ?_
  show ev_E g m_X3_takeBack 5 0 0 [some (ev_o 3 a), some (ev_o 2 b0), none] [] S Q
  refine ev_aload_n (ev_o 3 a) dX3_takeBack_0 rfl rfl ?_
  obtain ⟨h1, hQ⟩ := hQ
  obtain ⟨h2, hQ⟩ := hQ
  obtain ⟨h3, hQ⟩ := hQ
  refine ev_fV mv_X3_newestGame 1 3 [] [] dX3_takeBack_1 kw_720 rfl (by decide) rfl (by decide) (Nat.le_of_ble_eq_true rfl) (sp_X3_newestGame a h1 h2 h3) ?_ rfl
  refine ev_astore_n dX3_takeBack_4 rfl (Nat.le_of_ble_eq_true rfl) (ev_hw rfl) ?_
  show ev_E g m_X3_takeBack 5 0 5 [some (ev_o 3 a), some (ev_o 2 b0), some (ev_o 2 (a_past (a + 1) (S.1 a 2)))] [] S Q
  refine ev_aload_n (ev_o 2 (a_past (a + 1) (S.1 a 2))) dX3_takeBack_5 rfl rfl ?_
  refine ev_ifnull dX3_takeBack_6 rfl ?_
  refine ev_aload_n (ev_o 2 b0) dX3_takeBack_9 rfl rfl ?_
  refine ev_aload_n (ev_o 2 (a_past (a + 1) (S.1 a 2))) dX3_takeBack_10 rfl rfl ?_
  refine ev_cV mv_X2_copyFrom 4 0 2 [ev_o 2 (a_past (a + 1) (S.1 a 2))] [] dX3_takeBack_11 kw_724 rfl (by decide) rfl (by decide) (by decide) (Nat.le_of_ble_eq_true rfl) hQ ?_ rfl
  rintro o S1 ⟨rfl, hQ⟩
  show ev_E g m_X3_takeBack 5 0 14 [some (ev_o 3 a), some (ev_o 2 b0), some (ev_o 2 (a_past (a + 1) (S.1 a 2)))] [] S1 Q
  refine ev_aload_n (ev_o 3 a) dX3_takeBack_14 rfl rfl ?_
  refine ev_aload_n (ev_o 3 a) dX3_takeBack_15 rfl rfl ?_
  refine gf_3_2 dX3_takeBack_16 kw_327 ?_
  refine ev_if_le 31 dX3_takeBack_19 (by decide) (fun c1 => ?_) (fun c1 => ?_)
  · replace hQ := hQ.1 c1
    refine ev_aload_n (ev_o 3 a) dX3_takeBack_31 rfl rfl ?_
    refine gf_3_0 dX3_takeBack_32 kw_325 ?_
    refine ev_glen 8 dX3_takeBack_35 rfl ?_
    refine ev_iconst (1) dX3_takeBack_36 rfl ?_
    refine ev_isub dX3_takeBack_37 ?_
    refine ev_ke (v' := 7) (by decide) ?_
    refine pf_3_2 dX3_takeBack_38 kw_327 ?_
    refine ev_sub hQ (fun S2 hS2 hQ => ?_)
    refine ev_E.goal (pc' := 41) (L' := [some (ev_o 3 a), some (ev_o 2 b0), some (ev_o 2 (a_past (a + 1) (S.1 a 2)))]) (K' := []) (S' := S2) ?_ rfl rfl rfl hS2
    refine ev_aload_n (ev_o 3 a) dX3_takeBack_41 rfl rfl ?_
    refine ev_dup dX3_takeBack_42 rfl ?_
    refine gf_3_1 dX3_takeBack_43 kw_326 ?_
    refine ev_ke (j_rk hS2 (Or.inr (by decide))) ?_
    refine ev_iconst (1) dX3_takeBack_46 rfl ?_
    refine ev_isub dX3_takeBack_47 ?_
    refine pf_3_1 dX3_takeBack_48 kw_326 ?_
    refine ev_sub hQ (fun S3 hS3 hQ => ?_)
    refine ev_E.goal (pc' := 51) (L' := [some (ev_o 3 a), some (ev_o 2 b0), some (ev_o 2 (a_past (a + 1) (S.1 a 2)))]) (K' := []) (S' := S3) ?_ rfl rfl rfl hS3
    exact ev_return dX3_takeBack_51 rfl hQ
  · replace hQ := hQ.2 c1
    refine ev_aload_n (ev_o 3 a) dX3_takeBack_22 rfl rfl ?_
    refine gf_3_2 dX3_takeBack_23 kw_327 ?_
    refine ev_iconst (1) dX3_takeBack_26 rfl ?_
    refine ev_isub dX3_takeBack_27 ?_
    refine ev_goto 38 dX3_takeBack_28 (by decide) ?_
    refine pf_3_2 dX3_takeBack_38 kw_327 ?_
    refine ev_sub hQ (fun S4 hS4 hQ => ?_)
    refine ev_E.goal (pc' := 41) (L' := [some (ev_o 3 a), some (ev_o 2 b0), some (ev_o 2 (a_past (a + 1) (S.1 a 2)))]) (K' := []) (S' := S4) ?_ rfl rfl rfl hS4
    refine ev_aload_n (ev_o 3 a) dX3_takeBack_41 rfl rfl ?_
    refine ev_dup dX3_takeBack_42 rfl ?_
    refine gf_3_1 dX3_takeBack_43 kw_326 ?_
    refine ev_ke (j_rk hS4 (Or.inr (by decide))) ?_
    refine ev_iconst (1) dX3_takeBack_46 rfl ?_
    refine ev_isub dX3_takeBack_47 ?_
    refine pf_3_1 dX3_takeBack_48 kw_326 ?_
    refine ev_sub hQ (fun S5 hS5 hQ => ?_)
    refine ev_E.goal (pc' := 51) (L' := [some (ev_o 3 a), some (ev_o 2 b0), some (ev_o 2 (a_past (a + 1) (S.1 a 2)))]) (K' := []) (S' := S5) ?_ rfl rfl rfl hS5
    exact ev_return dX3_takeBack_51 rfl hQ
set_option maxHeartbeats 4000000 in
set_option maxRecDepth 100000 in
theorem sg_X9_undo_0 {g : ev_G} {S : ev_S} {Q : ev_O → ev_S → Prop} (a : Nat) (hQ : ((S.1 (a + 93) 1) = 0 → (
    Q (.inr 1) S)) ∧
  (¬ ((S.1 (a + 93) 1) = 0) → (
    ev_Cv g m_X3_takeBack 5 0 [ev_o 3 (a + 93), ev_o 2 (a + 11)] S (fun o S1 => o = .inl none ∧ (
      Q (.inl (some (ev_i (S1.1 (a + 93) 1)))) S1))))) : ev_Cv g m_X9_undo 6 1 [ev_o 9 a] S Q := by
  refine ev_enter (by decide) rfl rfl (Nat.le_of_ble_eq_true rfl) ?_
  show ev_E g m_X9_undo 6 1 0 [some (ev_o 9 a)] [] S Q
  refine ev_aload_n (ev_o 9 a) dX9_undo_0 rfl rfl ?_
  refine gf_9_5 dX9_undo_1 kw_603 ?_
  refine ev_fV mv_X3_count 1 3 [] [] dX9_undo_4 kw_640 rfl (by decide) rfl (by decide) (Nat.le_of_ble_eq_true rfl) (sp_X3_count (a + 93)) ?_ rfl
  refine ev_if_ne 21 dX9_undo_7 (by decide) (fun c1 => ?_) (fun c1 => ?_)
  · replace hQ := hQ.2 c1
    refine ev_aload_n (ev_o 9 a) dX9_undo_21 rfl rfl ?_
    refine gf_9_5 dX9_undo_22 kw_603 ?_
    refine ev_aload_n (ev_o 9 a) dX9_undo_25 rfl rfl ?_
    refine gf_9_3 dX9_undo_26 kw_601 ?_
    refine ev_cV mv_X3_takeBack 5 0 3 [ev_o 2 (a + 11)] [] dX9_undo_29 kw_716 rfl (by decide) rfl (by decide) (by decide) (Nat.le_of_ble_eq_true rfl) hQ ?_ rfl
    rintro o S1 ⟨rfl, hQ⟩
    show ev_E g m_X9_undo 6 1 32 [some (ev_o 9 a)] [] S1 Q
    refine ev_aload_n (ev_o 9 a) dX9_undo_32 rfl rfl ?_
    refine gf_9_5 dX9_undo_33 kw_603 ?_
    refine ev_fV mv_X3_count 1 3 [] [] dX9_undo_36 kw_640 rfl (by decide) rfl (by decide) (Nat.le_of_ble_eq_true rfl) (sp_X3_count (a + 93)) ?_ rfl
    exact ev_ireturn .int dX9_undo_39 rfl rfl hQ
  · replace hQ := hQ.1 c1
    exact ev_throwW 1 88 360 92 5 "no change can be undone" (by decide) (by decide) rfl (by decide) kw_648 kw_44 (List.mem_of_getElem? (i := 5) rfl) at_X9_92 dX9_undo_10 dX9_undo_13 dX9_undo_14 dX9_undo_17 dX9_undo_20 (Nat.le_of_ble_eq_true rfl) hQ
