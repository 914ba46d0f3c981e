set_option maxHeartbeats 4000000 in
set_option maxRecDepth 100000 in
theorem sg_X10_appliesAll_0 {g : ev_G} {S : ev_S} {Q : ev_O → ev_S → Prop} (a : Nat) (x0 : Int32) (hQ : ev_E g m_X10_appliesAll 4 0 2 [some (ev_o 10 a), some (ev_i x0), some (ev_i 1), none, none, none] [] S Q) : ev_Cv g m_X10_appliesAll 4 0 [ev_o 10 a, ev_i x0] S Q := by
  refine ev_enter (by decide) rfl rfl (Nat.le_of_ble_eq_true rfl) ?_
  show ev_E g m_X10_appliesAll 4 0 0 [some (ev_o 10 a), some (ev_i x0), none, none, none, none] [] S Q
  refine ev_iconst (1) dX10_appliesAll_0 rfl ?_
  refine ev_istore_n dX10_appliesAll_1 (Nat.le_of_ble_eq_true rfl) (ev_hw rfl) ?_
  show ev_E g m_X10_appliesAll 4 0 2 [some (ev_o 10 a), some (ev_i x0), some (ev_i 1), none, none, none] [] S Q
  exact hQ
set_option maxHeartbeats 4000000 in
set_option maxRecDepth 100000 in
theorem sg_X10_appliesAll_2 {g : ev_G} {S : ev_S} {Q : ev_O → ev_S → Prop} (a : Nat) (u1 : Int32) (u2 : Int32) (hQ : (u2 = 0 → (
    Q (.inl none) S)) ∧
  (¬ (u2 = 0) → (
    ev_Cv g m_X10_overOn 3 0 [ev_o 10 a, ev_i u1] S (fun o S1 => ∃ v1_ : Bool, o = .inl (some (ev_i (if v1_ = true then 1 else 0))) ∧ (
      (v1_ = true → (
        Q (.inl none) S1)) ∧
      (¬ (v1_ = true) → (
        (vp_in ((12 + (7 * u1)) + 0) 2091) ∧ (
          (vp_in (((514 + (124 * u1)) + (2 * ((S1.1 (a + 1) ((12 + (7 * u1)) + 0).toNatClampNeg) + 1))) + 0) 2091) ∧ (
            (vp_in (((514 + (124 * u1)) + (2 * ((S1.1 (a + 1) ((12 + (7 * u1)) + 0).toNatClampNeg) + 1))) + 1) 2091) ∧ (
              ((S1.1 (a + 1) (((514 + (124 * u1)) + (2 * ((S1.1 (a + 1) ((12 + (7 * u1)) + 0).toNatClampNeg) + 1))) + 0).toNatClampNeg) = (-1) → (
                ev_Cv g m_X10_isDue 2 0 [ev_o 10 a, ev_i u1, ev_i ((S1.1 (a + 1) ((12 + (7 * u1)) + 0).toNatClampNeg) + 1)] S1 (fun o S4 => ∃ v3_ : Bool, o = .inl (some (ev_i (if v3_ = true then 1 else 0))) ∧ (
                  (v3_ = true → (
                    (vp_in ((514 + (124 * u1)) + (2 * ((S1.1 (a + 1) ((12 + (7 * u1)) + 0).toNatClampNeg) + 1))) 2091) ∧ (
                      ∀ S5 : ev_S, S5 = (ev_up (ev_up S4 (a + 1) ((514 + (124 * u1)) + (2 * ((S1.1 (a + 1) ((12 + (7 * u1)) + 0).toNatClampNeg) + 1))).toNatClampNeg (-1)) (a + 1) (((514 + (124 * u1)) + (2 * ((S1.1 (a + 1) ((12 + (7 * u1)) + 0).toNatClampNeg) + 1))) + 1).toNatClampNeg (-1)) → (
                        (vp_in ((762 + (6 * ((S1.1 (a + 1) ((12 + (7 * u1)) + 0).toNatClampNeg) + 1))) + 2) 2091) ∧ (
                          (vp_in ((762 + (6 * ((S1.1 (a + 1) ((12 + (7 * u1)) + 0).toNatClampNeg) + 1))) + 3) 2091) ∧ (
                            ev_Cv g m_X10_applies 3 0 [ev_o 10 a, ev_i u1, ev_i (S5.1 (a + 1) ((762 + (6 * ((S1.1 (a + 1) ((12 + (7 * u1)) + 0).toNatClampNeg) + 1))) + 2).toNatClampNeg), ev_i (S5.1 (a + 1) ((762 + (6 * ((S1.1 (a + 1) ((12 + (7 * u1)) + 0).toNatClampNeg) + 1))) + 3).toNatClampNeg)] S5 (fun o S6 => o = .inl none ∧ (
                              ((f_X10_maker ((S1.1 (a + 1) ((12 + (7 * u1)) + 0).toNatClampNeg) + 1)) = u1 → (
                                (vp_in ((12 + (7 * u1)) + 6) 2091) ∧ (
                                  ∀ S7 : ev_S, S7 = (ev_up S6 (a + 1) ((12 + (7 * u1)) + 6).toNatClampNeg ((S6.1 (a + 1) ((12 + (7 * u1)) + 6).toNatClampNeg) + 1)) → (
                                    ev_E g m_X10_appliesAll 4 0 2 [some (ev_o 10 a), some (ev_i u1), some (ev_i 1), none, none, none] [] S7 Q)))) ∧
                              (¬ ((f_X10_maker ((S1.1 (a + 1) ((12 + (7 * u1)) + 0).toNatClampNeg) + 1)) = u1) → (
                                ev_E g m_X10_appliesAll 4 0 2 [some (ev_o 10 a), some (ev_i u1), some (ev_i 1), none, none, none] [] S6 Q)))))))))) ∧
                  (¬ (v3_ = true) → (
                    Q (.inl none) S4)))))) ∧
              (¬ ((S1.1 (a + 1) (((514 + (124 * u1)) + (2 * ((S1.1 (a + 1) ((12 + (7 * u1)) + 0).toNatClampNeg) + 1))) + 0).toNatClampNeg) = (-1)) → (
                (vp_in ((514 + (124 * u1)) + (2 * ((S1.1 (a + 1) ((12 + (7 * u1)) + 0).toNatClampNeg) + 1))) 2091) ∧ (
                  ∀ S2 : ev_S, S2 = (ev_up (ev_up S1 (a + 1) ((514 + (124 * u1)) + (2 * ((S1.1 (a + 1) ((12 + (7 * u1)) + 0).toNatClampNeg) + 1))).toNatClampNeg (-1)) (a + 1) (((514 + (124 * u1)) + (2 * ((S1.1 (a + 1) ((12 + (7 * u1)) + 0).toNatClampNeg) + 1))) + 1).toNatClampNeg (-1)) → (
                    ev_Cv g m_X10_applies 3 0 [ev_o 10 a, ev_i u1, ev_i (S1.1 (a + 1) (((514 + (124 * u1)) + (2 * ((S1.1 (a + 1) ((12 + (7 * u1)) + 0).toNatClampNeg) + 1))) + 0).toNatClampNeg), ev_i (S1.1 (a + 1) (((514 + (124 * u1)) + (2 * ((S1.1 (a + 1) ((12 + (7 * u1)) + 0).toNatClampNeg) + 1))) + 1).toNatClampNeg)] S2 (fun o S3 => o = .inl none ∧ (
                      ev_E g m_X10_appliesAll 4 0 2 [some (ev_o 10 a), some (ev_i u1), some (ev_i 1), none, none, none] [] S3 Q)))))))))))))))) : ev_E g m_X10_appliesAll 4 0 2 [some (ev_o 10 a), some (ev_i u1), some (ev_i u2), none, none, none] [] S Q := by
  refine ev_iload_n (u2) dX10_appliesAll_2 rfl ?_
  refine ev_if_eq 134 dX10_appliesAll_3 (by decide) (fun c1 => ?_) (fun c1 => ?_)
  · replace hQ := hQ.1 c1
    exact ev_return dX10_appliesAll_134 rfl hQ
  · replace hQ := hQ.2 c1
    refine ev_aload_n (ev_o 10 a) dX10_appliesAll_6 rfl rfl ?_
    refine ev_iload_n (u1) dX10_appliesAll_7 rfl ?_
    refine ev_cV mv_X10_overOn 3 0 10 [ev_i u1] [] dX10_appliesAll_8 kw_2044 rfl (by decide) rfl (by decide) (by decide) (Nat.le_of_ble_eq_true rfl) hQ ?_ rfl
    rintro o S1 ⟨v1_, rfl, hQ⟩
    show ev_E g m_X10_appliesAll 4 0 11 [some (ev_o 10 a), some (ev_i u1), some (ev_i u2), none, none, none] [ev_i (if v1_ = true then 1 else 0)] S1 Q
    by_cases c2 : v1_ = true
    · rw [if_pos c2]
      replace hQ := hQ.1 c2
      refine ev_if_ne 134 dX10_appliesAll_11 (by decide) (fun _ => ?_) (fun h9 => absurd h9 (by decide : ¬ ((1 : Int32) = 0)))
      exact ev_return dX10_appliesAll_134 rfl hQ
    · rw [if_neg c2]
      replace hQ := hQ.2 c2
      refine ev_if_ne 134 dX10_appliesAll_11 (by decide) (fun h9 => absurd (by decide : ((0 : Int32) = 0)) h9) (fun _ => ?_)
      refine ev_aload_n (ev_o 10 a) dX10_appliesAll_14 rfl rfl ?_
      refine ev_iload_n (u1) dX10_appliesAll_15 rfl ?_
      obtain ⟨h1, hQ⟩ := hQ
      refine ev_fV mv_X10_nextNumber 2 10 [ev_i u1] [] dX10_appliesAll_16 kw_2052 rfl (by decide) rfl (by decide) (Nat.le_of_ble_eq_true rfl) (sp_X10_nextNumber a u1 h1) ?_ rfl
      refine ev_istore_n dX10_appliesAll_19 (Nat.le_of_ble_eq_true rfl) (ev_hw rfl) ?_
      show ev_E g m_X10_appliesAll 4 0 20 [some (ev_o 10 a), some (ev_i u1), some (ev_i u2), some (ev_i ((S1.1 (a + 1) ((12 + (7 * u1)) + 0).toNatClampNeg) + 1)), none, none] [] S1 Q
      refine ev_aload_n (ev_o 10 a) dX10_appliesAll_20 rfl rfl ?_
      refine ev_iload_n (u1) dX10_appliesAll_21 rfl ?_
      refine ev_iload_n (((S1.1 (a + 1) ((12 + (7 * u1)) + 0).toNatClampNeg) + 1)) dX10_appliesAll_22 rfl ?_
      refine ev_iconst (0) dX10_appliesAll_23 rfl ?_
      obtain ⟨h2, hQ⟩ := hQ
      refine ev_fV mv_X10_storedAt 1 10 [ev_i u1, ev_i ((S1.1 (a + 1) ((12 + (7 * u1)) + 0).toNatClampNeg) + 1), ev_i 0] [] dX10_appliesAll_24 kw_2093 rfl (by decide) rfl (by decide) (Nat.le_of_ble_eq_true rfl) (sp_X10_storedAt a u1 ((S1.1 (a + 1) ((12 + (7 * u1)) + 0).toNatClampNeg) + 1) 0 h2) ?_ rfl
      refine ev_istore dX10_appliesAll_27 (Nat.le_of_ble_eq_true rfl) (ev_hw rfl) ?_
      show ev_E g m_X10_appliesAll 4 0 29 [some (ev_o 10 a), some (ev_i u1), some (ev_i u2), some (ev_i ((S1.1 (a + 1) ((12 + (7 * u1)) + 0).toNatClampNeg) + 1)), some (ev_i (S1.1 (a + 1) (((514 + (124 * u1)) + (2 * ((S1.1 (a + 1) ((12 + (7 * u1)) + 0).toNatClampNeg) + 1))) + 0).toNatClampNeg)), none] [] S1 Q
      refine ev_aload_n (ev_o 10 a) dX10_appliesAll_29 rfl rfl ?_
      refine ev_iload_n (u1) dX10_appliesAll_30 rfl ?_
      refine ev_iload_n (((S1.1 (a + 1) ((12 + (7 * u1)) + 0).toNatClampNeg) + 1)) dX10_appliesAll_31 rfl ?_
      refine ev_iconst (1) dX10_appliesAll_32 rfl ?_
      obtain ⟨h3, hQ⟩ := hQ
      refine ev_fV mv_X10_storedAt 1 10 [ev_i u1, ev_i ((S1.1 (a + 1) ((12 + (7 * u1)) + 0).toNatClampNeg) + 1), ev_i 1] [] dX10_appliesAll_33 kw_2093 rfl (by decide) rfl (by decide) (Nat.le_of_ble_eq_true rfl) (sp_X10_storedAt a u1 ((S1.1 (a + 1) ((12 + (7 * u1)) + 0).toNatClampNeg) + 1) 1 h3) ?_ rfl
      refine ev_istore dX10_appliesAll_36 (Nat.le_of_ble_eq_true rfl) (ev_hw rfl) ?_
      show ev_E g m_X10_appliesAll 4 0 38 [some (ev_o 10 a), some (ev_i u1), some (ev_i u2), some (ev_i ((S1.1 (a + 1) ((12 + (7 * u1)) + 0).toNatClampNeg) + 1)), some (ev_i (S1.1 (a + 1) (((514 + (124 * u1)) + (2 * ((S1.1 (a + 1) ((12 + (7 * u1)) + 0).toNatClampNeg) + 1))) + 0).toNatClampNeg)), some (ev_i (S1.1 (a + 1) (((514 + (124 * u1)) + (2 * ((S1.1 (a + 1) ((12 + (7 * u1)) + 0).toNatClampNeg) + 1))) + 1).toNatClampNeg))] [] S1 Q
      refine ev_iload ((S1.1 (a + 1) (((514 + (124 * u1)) + (2 * ((S1.1 (a + 1) ((12 + (7 * u1)) + 0).toNatClampNeg) + 1))) + 0).toNatClampNeg)) dX10_appliesAll_38 rfl ?_
      refine ev_iconst (-1) dX10_appliesAll_40 rfl ?_
      refine ev_icmp_ne 53 dX10_appliesAll_41 (by decide) (fun c3 => ?_) (fun c3 => ?_)
      · replace hQ := hQ.2 c3
        refine ev_iconst (1) dX10_appliesAll_53 rfl ?_
        refine ev_goto 58 dX10_appliesAll_54 (by decide) ?_
        refine ev_istore_n dX10_appliesAll_58 (Nat.le_of_ble_eq_true rfl) (ev_hw rfl) ?_
        show ev_E g m_X10_appliesAll 4 0 59 [some (ev_o 10 a), some (ev_i u1), some (ev_i 1), some (ev_i ((S1.1 (a + 1) ((12 + (7 * u1)) + 0).toNatClampNeg) + 1)), some (ev_i (S1.1 (a + 1) (((514 + (124 * u1)) + (2 * ((S1.1 (a + 1) ((12 + (7 * u1)) + 0).toNatClampNeg) + 1))) + 0).toNatClampNeg)), some (ev_i (S1.1 (a + 1) (((514 + (124 * u1)) + (2 * ((S1.1 (a + 1) ((12 + (7 * u1)) + 0).toNatClampNeg) + 1))) + 1).toNatClampNeg))] [] S1 Q
        refine ev_iload_n (1) dX10_appliesAll_59 rfl ?_
        refine ev_if_ne 64 dX10_appliesAll_60 (by decide) (fun _ => ?_) (fun h9 => absurd h9 (by decide : ¬ ((1 : Int32) = 0)))
        refine ev_aload_n (ev_o 10 a) dX10_appliesAll_64 rfl rfl ?_
        refine ev_iload_n (u1) dX10_appliesAll_65 rfl ?_
        refine ev_iload_n (((S1.1 (a + 1) ((12 + (7 * u1)) + 0).toNatClampNeg) + 1)) dX10_appliesAll_66 rfl ?_
        refine ev_iconst (-1) dX10_appliesAll_67 rfl ?_
        refine ev_iconst (-1) dX10_appliesAll_68 rfl ?_
        obtain ⟨h4, hQ⟩ := hQ
        refine ev_fVn mv_X10_stores 1 10 [ev_i u1, ev_i ((S1.1 (a + 1) ((12 + (7 * u1)) + 0).toNatClampNeg) + 1), ev_i (-1), ev_i (-1)] [] dX10_appliesAll_69 kw_2109 rfl (by decide) rfl (by decide) (Nat.le_of_ble_eq_true rfl) (sp_X10_stores a u1 ((S1.1 (a + 1) ((12 + (7 * u1)) + 0).toNatClampNeg) + 1) (-1) (-1) h4 h3) ?_ rfl
        refine ev_sub hQ (fun S2 hS2 hQ => ?_)
        refine ev_E.goal (pc' := 72) (L' := [some (ev_o 10 a), some (ev_i u1), some (ev_i 1), some (ev_i ((S1.1 (a + 1) ((12 + (7 * u1)) + 0).toNatClampNeg) + 1)), some (ev_i (S1.1 (a + 1) (((514 + (124 * u1)) + (2 * ((S1.1 (a + 1) ((12 + (7 * u1)) + 0).toNatClampNeg) + 1))) + 0).toNatClampNeg)), some (ev_i (S1.1 (a + 1) (((514 + (124 * u1)) + (2 * ((S1.1 (a + 1) ((12 + (7 * u1)) + 0).toNatClampNeg) + 1))) + 1).toNatClampNeg))]) (K' := []) (S' := S2) ?_ rfl rfl rfl hS2
        refine ev_iload ((S1.1 (a + 1) (((514 + (124 * u1)) + (2 * ((S1.1 (a + 1) ((12 + (7 * u1)) + 0).toNatClampNeg) + 1))) + 0).toNatClampNeg)) dX10_appliesAll_72 rfl ?_
        refine ev_iconst (-1) dX10_appliesAll_74 rfl ?_
        refine ev_icmp_eq 90 dX10_appliesAll_75 (by decide) (fun h9 => absurd h9 c3) (fun _ => ?_)
        refine ev_aload_n (ev_o 10 a) dX10_appliesAll_78 rfl rfl ?_
        refine ev_iload_n (u1) dX10_appliesAll_79 rfl ?_
        refine ev_iload ((S1.1 (a + 1) (((514 + (124 * u1)) + (2 * ((S1.1 (a + 1) ((12 + (7 * u1)) + 0).toNatClampNeg) + 1))) + 0).toNatClampNeg)) dX10_appliesAll_80 rfl ?_
        refine ev_iload ((S1.1 (a + 1) (((514 + (124 * u1)) + (2 * ((S1.1 (a + 1) ((12 + (7 * u1)) + 0).toNatClampNeg) + 1))) + 1).toNatClampNeg)) dX10_appliesAll_82 rfl ?_
        refine ev_cV mv_X10_applies 3 0 10 [ev_i u1, ev_i (S1.1 (a + 1) (((514 + (124 * u1)) + (2 * ((S1.1 (a + 1) ((12 + (7 * u1)) + 0).toNatClampNeg) + 1))) + 0).toNatClampNeg), ev_i (S1.1 (a + 1) (((514 + (124 * u1)) + (2 * ((S1.1 (a + 1) ((12 + (7 * u1)) + 0).toNatClampNeg) + 1))) + 1).toNatClampNeg)] [] dX10_appliesAll_84 kw_2072 rfl (by decide) rfl (by decide) (by decide) (Nat.le_of_ble_eq_true rfl) hQ ?_ rfl
        rintro o S3 ⟨rfl, hQ⟩
        show ev_E g m_X10_appliesAll 4 0 87 [some (ev_o 10 a), some (ev_i u1), some (ev_i 1), some (ev_i ((S1.1 (a + 1) ((12 + (7 * u1)) + 0).toNatClampNeg) + 1)), some (ev_i (S1.1 (a + 1) (((514 + (124 * u1)) + (2 * ((S1.1 (a + 1) ((12 + (7 * u1)) + 0).toNatClampNeg) + 1))) + 0).toNatClampNeg)), some (ev_i (S1.1 (a + 1) (((514 + (124 * u1)) + (2 * ((S1.1 (a + 1) ((12 + (7 * u1)) + 0).toNatClampNeg) + 1))) + 1).toNatClampNeg))] [] S3 Q
        refine ev_goto 131 dX10_appliesAll_87 (by decide) ?_
        refine ev_goto 2 dX10_appliesAll_131 (by decide) ?_
        refine ev_fgm [true, true, true, false, false, false] ?_
        exact hQ
      · replace hQ := hQ.1 c3
        refine ev_aload_n (ev_o 10 a) dX10_appliesAll_44 rfl rfl ?_
        refine ev_iload_n (u1) dX10_appliesAll_45 rfl ?_
        refine ev_iload_n (((S1.1 (a + 1) ((12 + (7 * u1)) + 0).toNatClampNeg) + 1)) dX10_appliesAll_46 rfl ?_
        refine ev_cV mv_X10_isDue 2 0 10 [ev_i u1, ev_i ((S1.1 (a + 1) ((12 + (7 * u1)) + 0).toNatClampNeg) + 1)] [] dX10_appliesAll_47 kw_2097 rfl (by decide) rfl (by decide) (by decide) (Nat.le_of_ble_eq_true rfl) hQ ?_ rfl
        rintro o S4 ⟨v3_, rfl, hQ⟩
        show ev_E g m_X10_appliesAll 4 0 50 [some (ev_o 10 a), some (ev_i u1), some (ev_i u2), some (ev_i ((S1.1 (a + 1) ((12 + (7 * u1)) + 0).toNatClampNeg) + 1)), some (ev_i (S1.1 (a + 1) (((514 + (124 * u1)) + (2 * ((S1.1 (a + 1) ((12 + (7 * u1)) + 0).toNatClampNeg) + 1))) + 0).toNatClampNeg)), some (ev_i (S1.1 (a + 1) (((514 + (124 * u1)) + (2 * ((S1.1 (a + 1) ((12 + (7 * u1)) + 0).toNatClampNeg) + 1))) + 1).toNatClampNeg))] [ev_i (if v3_ = true then 1 else 0)] S4 Q
        by_cases c4 : v3_ = true
        · rw [if_pos c4]
          replace hQ := hQ.1 c4
          refine ev_if_eq 57 dX10_appliesAll_50 (by decide) (fun h9 => absurd h9 (by decide : ¬ ((1 : Int32) = 0))) (fun _ => ?_)
          refine ev_iconst (1) dX10_appliesAll_53 rfl ?_
          refine ev_goto 58 dX10_appliesAll_54 (by decide) ?_
          refine ev_istore_n dX10_appliesAll_58 (Nat.le_of_ble_eq_true rfl) (ev_hw rfl) ?_
          show ev_E g m_X10_appliesAll 4 0 59 [some (ev_o 10 a), some (ev_i u1), some (ev_i 1), some (ev_i ((S1.1 (a + 1) ((12 + (7 * u1)) + 0).toNatClampNeg) + 1)), some (ev_i (S1.1 (a + 1) (((514 + (124 * u1)) + (2 * ((S1.1 (a + 1) ((12 + (7 * u1)) + 0).toNatClampNeg) + 1))) + 0).toNatClampNeg)), some (ev_i (S1.1 (a + 1) (((514 + (124 * u1)) + (2 * ((S1.1 (a + 1) ((12 + (7 * u1)) + 0).toNatClampNeg) + 1))) + 1).toNatClampNeg))] [] S4 Q
          refine ev_iload_n (1) dX10_appliesAll_59 rfl ?_
          refine ev_if_ne 64 dX10_appliesAll_60 (by decide) (fun _ => ?_) (fun h9 => absurd h9 (by decide : ¬ ((1 : Int32) = 0)))
          refine ev_aload_n (ev_o 10 a) dX10_appliesAll_64 rfl rfl ?_
          refine ev_iload_n (u1) dX10_appliesAll_65 rfl ?_
          refine ev_iload_n (((S1.1 (a + 1) ((12 + (7 * u1)) + 0).toNatClampNeg) + 1)) dX10_appliesAll_66 rfl ?_
          refine ev_iconst (-1) dX10_appliesAll_67 rfl ?_
          refine ev_iconst (-1) dX10_appliesAll_68 rfl ?_
          obtain ⟨h5, hQ⟩ := hQ
          refine ev_fVn mv_X10_stores 1 10 [ev_i u1, ev_i ((S1.1 (a + 1) ((12 + (7 * u1)) + 0).toNatClampNeg) + 1), ev_i (-1), ev_i (-1)] [] dX10_appliesAll_69 kw_2109 rfl (by decide) rfl (by decide) (Nat.le_of_ble_eq_true rfl) (sp_X10_stores a u1 ((S1.1 (a + 1) ((12 + (7 * u1)) + 0).toNatClampNeg) + 1) (-1) (-1) h5 h3) ?_ rfl
          refine ev_sub hQ (fun S5 hS5 hQ => ?_)
          refine ev_E.goal (pc' := 72) (L' := [some (ev_o 10 a), some (ev_i u1), some (ev_i 1), some (ev_i ((S1.1 (a + 1) ((12 + (7 * u1)) + 0).toNatClampNeg) + 1)), some (ev_i (S1.1 (a + 1) (((514 + (124 * u1)) + (2 * ((S1.1 (a + 1) ((12 + (7 * u1)) + 0).toNatClampNeg) + 1))) + 0).toNatClampNeg)), some (ev_i (S1.1 (a + 1) (((514 + (124 * u1)) + (2 * ((S1.1 (a + 1) ((12 + (7 * u1)) + 0).toNatClampNeg) + 1))) + 1).toNatClampNeg))]) (K' := []) (S' := S5) ?_ rfl rfl rfl hS5
          refine ev_iload ((S1.1 (a + 1) (((514 + (124 * u1)) + (2 * ((S1.1 (a + 1) ((12 + (7 * u1)) + 0).toNatClampNeg) + 1))) + 0).toNatClampNeg)) dX10_appliesAll_72 rfl ?_
          refine ev_iconst (-1) dX10_appliesAll_74 rfl ?_
          refine ev_icmp_eq 90 dX10_appliesAll_75 (by decide) (fun _ => ?_) (fun h9 => absurd c3 h9)
          refine ev_aload_n (ev_o 10 a) dX10_appliesAll_90 rfl rfl ?_
          refine ev_iload_n (u1) dX10_appliesAll_91 rfl ?_
          refine ev_aload_n (ev_o 10 a) dX10_appliesAll_92 rfl rfl ?_
          refine ev_iload_n (((S1.1 (a + 1) ((12 + (7 * u1)) + 0).toNatClampNeg) + 1)) dX10_appliesAll_93 rfl ?_
          refine ev_iconst (2) dX10_appliesAll_94 rfl ?_
          obtain ⟨h6, hQ⟩ := hQ
          refine ev_fV mv_X10_promised 1 10 [ev_i ((S1.1 (a + 1) ((12 + (7 * u1)) + 0).toNatClampNeg) + 1), ev_i 2] [ev_i u1, ev_o 10 a] dX10_appliesAll_95 kw_2101 rfl (by decide) rfl (by decide) (Nat.le_of_ble_eq_true rfl) (sp_X10_promised a ((S1.1 (a + 1) ((12 + (7 * u1)) + 0).toNatClampNeg) + 1) 2 h6) ?_ rfl
          refine ev_aload_n (ev_o 10 a) dX10_appliesAll_98 rfl rfl ?_
          refine ev_iload_n (((S1.1 (a + 1) ((12 + (7 * u1)) + 0).toNatClampNeg) + 1)) dX10_appliesAll_99 rfl ?_
          refine ev_iconst (3) dX10_appliesAll_100 rfl ?_
          obtain ⟨h7, hQ⟩ := hQ
          refine ev_fV mv_X10_promised 1 10 [ev_i ((S1.1 (a + 1) ((12 + (7 * u1)) + 0).toNatClampNeg) + 1), ev_i 3] [ev_i (S5.1 (a + 1) ((762 + (6 * ((S1.1 (a + 1) ((12 + (7 * u1)) + 0).toNatClampNeg) + 1))) + 2).toNatClampNeg), ev_i u1, ev_o 10 a] dX10_appliesAll_101 kw_2101 rfl (by decide) rfl (by decide) (Nat.le_of_ble_eq_true rfl) (sp_X10_promised a ((S1.1 (a + 1) ((12 + (7 * u1)) + 0).toNatClampNeg) + 1) 3 h7) ?_ rfl
          refine ev_cV mv_X10_applies 3 0 10 [ev_i u1, ev_i (S5.1 (a + 1) ((762 + (6 * ((S1.1 (a + 1) ((12 + (7 * u1)) + 0).toNatClampNeg) + 1))) + 2).toNatClampNeg), ev_i (S5.1 (a + 1) ((762 + (6 * ((S1.1 (a + 1) ((12 + (7 * u1)) + 0).toNatClampNeg) + 1))) + 3).toNatClampNeg)] [] dX10_appliesAll_104 kw_2072 rfl (by decide) rfl (by decide) (by decide) (Nat.le_of_ble_eq_true rfl) hQ ?_ rfl
          rintro o S6 ⟨rfl, hQ⟩
          show ev_E g m_X10_appliesAll 4 0 107 [some (ev_o 10 a), some (ev_i u1), some (ev_i 1), some (ev_i ((S1.1 (a + 1) ((12 + (7 * u1)) + 0).toNatClampNeg) + 1)), some (ev_i (S1.1 (a + 1) (((514 + (124 * u1)) + (2 * ((S1.1 (a + 1) ((12 + (7 * u1)) + 0).toNatClampNeg) + 1))) + 0).toNatClampNeg)), some (ev_i (S1.1 (a + 1) (((514 + (124 * u1)) + (2 * ((S1.1 (a + 1) ((12 + (7 * u1)) + 0).toNatClampNeg) + 1))) + 1).toNatClampNeg))] [] S6 Q
          refine ev_iload_n (((S1.1 (a + 1) ((12 + (7 * u1)) + 0).toNatClampNeg) + 1)) dX10_appliesAll_107 rfl ?_
          refine ev_fS ms_X10_maker 1 [ev_i ((S1.1 (a + 1) ((12 + (7 * u1)) + 0).toNatClampNeg) + 1)] [] dX10_appliesAll_108 kw_2056 rfl (by decide) (Nat.le_of_ble_eq_true rfl) (sp_X10_maker ((S1.1 (a + 1) ((12 + (7 * u1)) + 0).toNatClampNeg) + 1)) ?_ rfl
          refine ev_iload_n (u1) dX10_appliesAll_111 rfl ?_
          refine ev_icmp_ne 131 dX10_appliesAll_112 (by decide) (fun c5 => ?_) (fun c5 => ?_)
          · replace hQ := hQ.2 c5
            refine ev_goto 2 dX10_appliesAll_131 (by decide) ?_
            refine ev_fgm [true, true, true, false, false, false] ?_
            exact hQ
          · replace hQ := hQ.1 c5
            refine ev_aload_n (ev_o 10 a) dX10_appliesAll_115 rfl rfl ?_
            refine ev_iload_n (u1) dX10_appliesAll_116 rfl ?_
            refine ev_bipush (6) dX10_appliesAll_117 (by decide) ?_
            refine ev_aload_n (ev_o 10 a) dX10_appliesAll_119 rfl rfl ?_
            refine ev_iload_n (u1) dX10_appliesAll_120 rfl ?_
            refine ev_bipush (6) dX10_appliesAll_121 (by decide) ?_
            obtain ⟨h8, hQ⟩ := hQ
            refine ev_fV mv_X10_ofP 1 10 [ev_i u1, ev_i 6] [ev_i 6, ev_i u1, ev_o 10 a] dX10_appliesAll_123 kw_2048 rfl (by decide) rfl (by decide) (Nat.le_of_ble_eq_true rfl) (sp_X10_ofP a u1 6 h8) ?_ rfl
            refine ev_iconst (1) dX10_appliesAll_126 rfl ?_
            refine ev_iadd dX10_appliesAll_127 ?_
            refine ev_fVn mv_X10_putP 1 10 [ev_i u1, ev_i 6, ev_i ((S6.1 (a + 1) ((12 + (7 * u1)) + 6).toNatClampNeg) + 1)] [] dX10_appliesAll_128 kw_1765 rfl (by decide) rfl (by decide) (Nat.le_of_ble_eq_true rfl) (sp_X10_putP a u1 6 ((S6.1 (a + 1) ((12 + (7 * u1)) + 6).toNatClampNeg) + 1) h8) ?_ rfl
            refine ev_sub hQ (fun S7 hS7 hQ => ?_)
            refine ev_E.goal (pc' := 131) (L' := [some (ev_o 10 a), some (ev_i u1), some (ev_i 1), some (ev_i ((S1.1 (a + 1) ((12 + (7 * u1)) + 0).toNatClampNeg) + 1)), some (ev_i (S1.1 (a + 1) (((514 + (124 * u1)) + (2 * ((S1.1 (a + 1) ((12 + (7 * u1)) + 0).toNatClampNeg) + 1))) + 0).toNatClampNeg)), some (ev_i (S1.1 (a + 1) (((514 + (124 * u1)) + (2 * ((S1.1 (a + 1) ((12 + (7 * u1)) + 0).toNatClampNeg) + 1))) + 1).toNatClampNeg))]) (K' := []) (S' := S7) ?_ rfl rfl rfl hS7
            refine ev_goto 2 dX10_appliesAll_131 (by decide) ?_
            refine ev_fgm [true, true, true, false, false, false] ?_
            exact hQ
        · rw [if_neg c4]
          replace hQ := hQ.2 c4
          refine ev_if_eq 57 dX10_appliesAll_50 (by decide) (fun _ => ?_) (fun h9 => absurd (by decide : ((0 : Int32) = 0)) h9)
          refine ev_iconst (0) dX10_appliesAll_57 rfl ?_
          refine ev_istore_n dX10_appliesAll_58 (Nat.le_of_ble_eq_true rfl) (ev_hw rfl) ?_
          show ev_E g m_X10_appliesAll 4 0 59 [some (ev_o 10 a), some (ev_i u1), some (ev_i 0), some (ev_i ((S1.1 (a + 1) ((12 + (7 * u1)) + 0).toNatClampNeg) + 1)), some (ev_i (S1.1 (a + 1) (((514 + (124 * u1)) + (2 * ((S1.1 (a + 1) ((12 + (7 * u1)) + 0).toNatClampNeg) + 1))) + 0).toNatClampNeg)), some (ev_i (S1.1 (a + 1) (((514 + (124 * u1)) + (2 * ((S1.1 (a + 1) ((12 + (7 * u1)) + 0).toNatClampNeg) + 1))) + 1).toNatClampNeg))] [] S4 Q
          refine ev_iload_n (0) dX10_appliesAll_59 rfl ?_
          refine ev_if_ne 64 dX10_appliesAll_60 (by decide) (fun h9 => absurd (by decide : ((0 : Int32) = 0)) h9) (fun _ => ?_)
          exact ev_return dX10_appliesAll_63 rfl hQ
set_option maxHeartbeats 4000000 in
set_option maxRecDepth 100000 in
theorem sg_X10_storedOf_0 {g : ev_G} {S : ev_S} {Q : ev_O → ev_S → Prop} (a : Nat) (x0 : Int32) (hQ : ev_E g m_X10_storedOf 2 0 4 [some (ev_o 10 a), some (ev_i x0), some (ev_i 0), some (ev_i 1)] [] S Q) : ev_Cv g m_X10_storedOf 2 0 [ev_o 10 a, ev_i x0] S Q := by
  refine ev_enter (by decide) rfl rfl (Nat.le_of_ble_eq_true rfl) ?_
  show ev_E g m_X10_storedOf 2 0 0 [some (ev_o 10 a), some (ev_i x0), none, none] [] S Q
  refine ev_iconst (0) dX10_storedOf_0 rfl ?_
  refine ev_istore_n dX10_storedOf_1 (Nat.le_of_ble_eq_true rfl) (ev_hw rfl) ?_
  show ev_E g m_X10_storedOf 2 0 2 [some (ev_o 10 a), some (ev_i x0), some (ev_i 0), none] [] S Q
  refine ev_iconst (1) dX10_storedOf_2 rfl ?_
  refine ev_istore_n dX10_storedOf_3 (Nat.le_of_ble_eq_true rfl) (ev_hw rfl) ?_
  show ev_E g m_X10_storedOf 2 0 4 [some (ev_o 10 a), some (ev_i x0), some (ev_i 0), some (ev_i 1)] [] S Q
  exact hQ
set_option maxHeartbeats 4000000 in
set_option maxRecDepth 100000 in
theorem sg_X10_storedOf_4 {g : ev_G} {S : ev_S} {Q : ev_O → ev_S → Prop} (a : Nat) (u1 : Int32) (u2 : Int32) (u3 : Int32) (hQ : (60 < u3 → (
    Q (.inl (some (ev_i u2))) S)) ∧
  (¬ (60 < u3) → (
    (vp_in (((514 + (124 * u1)) + (2 * u3)) + 0) 2091) ∧ (
      ((S.1 (a + 1) (((514 + (124 * u1)) + (2 * u3)) + 0).toNatClampNeg) = (-1) → (
        ev_E g m_X10_storedOf 2 0 4 [some (ev_o 10 a), some (ev_i u1), some (ev_i u2), some (ev_i (u3 + 1))] [] S Q)) ∧
      (¬ ((S.1 (a + 1) (((514 + (124 * u1)) + (2 * u3)) + 0).toNatClampNeg) = (-1)) → (
        ev_E g m_X10_storedOf 2 0 4 [some (ev_o 10 a), some (ev_i u1), some (ev_i (u2 + 1)), some (ev_i (u3 + 1))] [] S Q)))))) : ev_E g m_X10_storedOf 2 0 4 [some (ev_o 10 a), some (ev_i u1), some (ev_i u2), some (ev_i u3)] [] S Q := by
  refine ev_iload_n (u3) dX10_storedOf_4 rfl ?_
  refine ev_bipush (60) dX10_storedOf_5 (by decide) ?_
  refine ev_icmp_gt 30 dX10_storedOf_7 (by decide) (fun c1 => ?_) (fun c1 => ?_)
  · replace hQ := hQ.1 c1
    refine ev_iload_n (u2) dX10_storedOf_30 rfl ?_
    exact ev_ireturn .int dX10_storedOf_31 rfl rfl hQ
  · replace hQ := hQ.2 c1
    refine ev_aload_n (ev_o 10 a) dX10_storedOf_10 rfl rfl ?_
    refine ev_iload_n (u1) dX10_storedOf_11 rfl ?_
    refine ev_iload_n (u3) dX10_storedOf_12 rfl ?_
    refine ev_iconst (0) dX10_storedOf_13 rfl ?_
    obtain ⟨h1, hQ⟩ := hQ
    refine ev_fV mv_X10_storedAt 1 10 [ev_i u1, ev_i u3, ev_i 0] [] dX10_storedOf_14 kw_2093 rfl (by decide) rfl (by decide) (Nat.le_of_ble_eq_true rfl) (sp_X10_storedAt a u1 u3 0 h1) ?_ rfl
    refine ev_iconst (-1) dX10_storedOf_17 rfl ?_
    refine ev_icmp_eq 24 dX10_storedOf_18 (by decide) (fun c2 => ?_) (fun c2 => ?_)
    · replace hQ := hQ.1 c2
      refine ev_iinc u3 (1) dX10_storedOf_24 rfl (by decide) (ev_hw rfl) ?_
      show ev_E g m_X10_storedOf 2 0 27 [some (ev_o 10 a), some (ev_i u1), some (ev_i u2), some (ev_i (u3 + 1))] [] S Q
      refine ev_goto 4 dX10_storedOf_27 (by decide) ?_
      exact hQ
    · replace hQ := hQ.2 c2
      refine ev_iinc u2 (1) dX10_storedOf_21 rfl (by decide) (ev_hw rfl) ?_
      show ev_E g m_X10_storedOf 2 0 24 [some (ev_o 10 a), some (ev_i u1), some (ev_i (u2 + 1)), some (ev_i u3)] [] S Q
      refine ev_iinc u3 (1) dX10_storedOf_24 rfl (by decide) (ev_hw rfl) ?_
      show ev_E g m_X10_storedOf 2 0 27 [some (ev_o 10 a), some (ev_i u1), some (ev_i (u2 + 1)), some (ev_i (u3 + 1))] [] S Q
      refine ev_goto 4 dX10_storedOf_27 (by decide) ?_
      exact hQ
set_option maxHeartbeats 4000000 in
set_option maxRecDepth 100000 in
theorem sg_X10_areEqual_0 {g : ev_G} {S : ev_S} {Q : ev_O → ev_S → Prop} (a : Nat) (hQ : (vp_in ((12 + (7 * 0)) + 0) 2091) ∧ (
    (vp_in ((12 + (7 * 1)) + 0) 2091) ∧ (
      ((S.1 (a + 1) (((12 + (7 * 0)) + 0) : Int32).toNatClampNeg) = (S.1 (a + 1) (((12 + (7 * 1)) + 0) : Int32).toNatClampNeg) → (
        ev_E g m_X10_areEqual 2 0 19 [some (ev_o 10 a), some (ev_i 0)] [] S Q)) ∧
      (¬ ((S.1 (a + 1) (((12 + (7 * 0)) + 0) : Int32).toNatClampNeg) = (S.1 (a + 1) (((12 + (7 * 1)) + 0) : Int32).toNatClampNeg)) → (
        Q (.inl (some (ev_i 0))) S))))) : ev_Cv g m_X10_areEqual 2 0 [ev_o 10 a] S Q := by
  refine ev_enter (by decide) rfl rfl (Nat.le_of_ble_eq_true rfl) ?_
  show ev_E g m_X10_areEqual 2 0 0 [some (ev_o 10 a), none] [] S Q
  refine ev_aload_n (ev_o 10 a) dX10_areEqual_0 rfl rfl ?_
  refine ev_iconst (0) dX10_areEqual_1 rfl ?_
  refine ev_iconst (0) dX10_areEqual_2 rfl ?_
  obtain ⟨h1, hQ⟩ := hQ
  refine ev_fV mv_X10_ofP 1 10 [ev_i 0, ev_i 0] [] dX10_areEqual_3 kw_2048 rfl (by decide) rfl (by decide) (Nat.le_of_ble_eq_true rfl) (sp_X10_ofP a 0 0 h1) ?_ rfl
  refine ev_aload_n (ev_o 10 a) dX10_areEqual_6 rfl rfl ?_
  refine ev_iconst (1) dX10_areEqual_7 rfl ?_
  refine ev_iconst (0) dX10_areEqual_8 rfl ?_
  obtain ⟨h2, hQ⟩ := hQ
  refine ev_fV mv_X10_ofP 1 10 [ev_i 1, ev_i 0] [ev_i (S.1 (a + 1) (((12 + (7 * 0)) + 0) : Int32).toNatClampNeg)] dX10_areEqual_9 kw_2048 rfl (by decide) rfl (by decide) (Nat.le_of_ble_eq_true rfl) (sp_X10_ofP a 1 0 h2) ?_ rfl
  refine ev_icmp_eq 17 dX10_areEqual_12 (by decide) (fun c1 => ?_) (fun c1 => ?_)
  · replace hQ := hQ.1 c1
    refine ev_iconst (0) dX10_areEqual_17 rfl ?_
    refine ev_istore_n dX10_areEqual_18 (Nat.le_of_ble_eq_true rfl) (ev_hw rfl) ?_
    show ev_E g m_X10_areEqual 2 0 19 [some (ev_o 10 a), some (ev_i 0)] [] S Q
    exact hQ
  · replace hQ := hQ.2 c1
    refine ev_iconst (0) dX10_areEqual_15 rfl ?_
    exact ev_ireturn .boolean dX10_areEqual_16 rfl rfl hQ
set_option maxHeartbeats 4000000 in
set_option maxRecDepth 100000 in
theorem sg_X10_areEqual_19 {g : ev_G} {S : ev_S} {Q : ev_O → ev_S → Prop} (a : Nat) (u1 : Int32) (hQ : (((S.1 (a + 1) 0) * (S.1 (a + 1) 0)) ≤ u1 → (
    Q (.inl (some (ev_i 1))) S)) ∧
  (¬ (((S.1 (a + 1) 0) * (S.1 (a + 1) 0)) ≤ u1) → (
    (vp_in ((26 + (64 * 0)) + u1) 2091) ∧ (
      (vp_in ((26 + (64 * 1)) + u1) 2091) ∧ (
        ((S.1 (a + 1) ((26 + (64 * 0)) + u1).toNatClampNeg) = (S.1 (a + 1) ((26 + (64 * 1)) + u1).toNatClampNeg) → (
          ev_E g m_X10_areEqual 2 0 19 [some (ev_o 10 a), some (ev_i (u1 + 1))] [] S Q)) ∧
        (¬ ((S.1 (a + 1) ((26 + (64 * 0)) + u1).toNatClampNeg) = (S.1 (a + 1) ((26 + (64 * 1)) + u1).toNatClampNeg)) → (
          Q (.inl (some (ev_i 0))) S))))))) : ev_E g m_X10_areEqual 2 0 19 [some (ev_o 10 a), some (ev_i u1)] [] S Q := by
  refine ev_iload_n (u1) dX10_areEqual_19 rfl ?_
  refine ev_aload_n (ev_o 10 a) dX10_areEqual_20 rfl rfl ?_
  refine ev_fV mv_X10_squares 1 10 [] [ev_i u1] dX10_areEqual_21 kw_1827 rfl (by decide) rfl (by decide) (Nat.le_of_ble_eq_true rfl) (sp_X10_squares a) ?_ rfl
  refine ev_icmp_ge 50 dX10_areEqual_24 (by decide) (fun c1 => ?_) (fun c1 => ?_)
  · replace hQ := hQ.1 c1
    refine ev_iconst (1) dX10_areEqual_50 rfl ?_
    exact ev_ireturn .boolean dX10_areEqual_51 rfl rfl hQ
  · replace hQ := hQ.2 c1
    refine ev_aload_n (ev_o 10 a) dX10_areEqual_27 rfl rfl ?_
    refine ev_iconst (0) dX10_areEqual_28 rfl ?_
    refine ev_iload_n (u1) dX10_areEqual_29 rfl ?_
    obtain ⟨h1, hQ⟩ := hQ
    refine ev_fV mv_X10_owner 1 10 [ev_i 0, ev_i u1] [] dX10_areEqual_30 kw_1831 rfl (by decide) rfl (by decide) (Nat.le_of_ble_eq_true rfl) (sp_X10_owner a 0 u1 h1) ?_ rfl
    refine ev_aload_n (ev_o 10 a) dX10_areEqual_33 rfl rfl ?_
    refine ev_iconst (1) dX10_areEqual_34 rfl ?_
    refine ev_iload_n (u1) dX10_areEqual_35 rfl ?_
    obtain ⟨h2, hQ⟩ := hQ
    refine ev_fV mv_X10_owner 1 10 [ev_i 1, ev_i u1] [ev_i (S.1 (a + 1) ((26 + (64 * 0)) + u1).toNatClampNeg)] dX10_areEqual_36 kw_1831 rfl (by decide) rfl (by decide) (Nat.le_of_ble_eq_true rfl) (sp_X10_owner a 1 u1 h2) ?_ rfl
    refine ev_icmp_eq 44 dX10_areEqual_39 (by decide) (fun c2 => ?_) (fun c2 => ?_)
    · replace hQ := hQ.1 c2
      refine ev_iinc u1 (1) dX10_areEqual_44 rfl (by decide) (ev_hw rfl) ?_
      show ev_E g m_X10_areEqual 2 0 47 [some (ev_o 10 a), some (ev_i (u1 + 1))] [] S Q
      refine ev_goto 19 dX10_areEqual_47 (by decide) ?_
      exact hQ
    · replace hQ := hQ.2 c2
      refine ev_iconst (0) dX10_areEqual_42 rfl ?_
      exact ev_ireturn .boolean dX10_areEqual_43 rfl rfl hQ
set_option maxHeartbeats 4000000 in
set_option maxRecDepth 100000 in
theorem sg_X10_monthNow_0 {g : ev_G} {S : ev_S} {Q : ev_O → ev_S → Prop} (a : Nat) (hQ : Q (.inl (some (ev_i (ev_rem ((S.1 (a + 1) 2) / 30) 12)))) S) : ev_Cv g m_X10_monthNow 1 0 [ev_o 10 a] S Q := by
  refine ev_enter (by decide) rfl rfl (Nat.le_of_ble_eq_true rfl) ?_
  show ev_E g m_X10_monthNow 1 0 0 [some (ev_o 10 a)] [] S Q
  refine ev_aload_n (ev_o 10 a) dX10_monthNow_0 rfl rfl ?_
  refine gf_10_0 dX10_monthNow_1 kw_1853 ?_
  refine ev_iconst (2) dX10_monthNow_4 rfl ?_
  refine ev_iaload dX10_monthNow_5 (j_vin (by decide)) ?_
  refine ev_bipush (30) dX10_monthNow_6 (by decide) ?_
  refine ev_idiv dX10_monthNow_8 (by decide) ?_
  refine ev_bipush (12) dX10_monthNow_9 (by decide) ?_
  refine ev_irem dX10_monthNow_11 (by decide) ?_
  exact ev_ireturn .int dX10_monthNow_12 rfl rfl hQ
set_option maxHeartbeats 4000000 in
set_option maxRecDepth 100000 in
theorem sp_X10_monthNow {g : ev_G} {S : ev_S} (a : Nat)  : ev_Fn g m_X10_monthNow 1 [ev_o 10 a] S (some (ev_i (ev_rem ((S.1 (a + 1) 2) / 30) 12))) S := by
  intro Q hQ
  refine sg_X10_monthNow_0 a ?_
  exact hQ
set_option maxHeartbeats 4000000 in
set_option maxRecDepth 100000 in
theorem sg_X10_snowNow_0 {g : ev_G} {S : ev_S} {Q : ev_O → ev_S → Prop} (a : Nat) (x0 : Int32) (hQ : (vp_in ((1140 + (15 * x0)) + (3 + (ev_rem ((S.1 (a + 1) 2) / 30) 12))) 2091) ∧ (
    Q (.inl (some (ev_i (S.1 (a + 1) ((1140 + (15 * x0)) + (3 + (ev_rem ((S.1 (a + 1) 2) / 30) 12))).toNatClampNeg)))) S)) : ev_Cv g m_X10_snowNow 2 0 [ev_o 10 a, ev_i x0] S Q := by
  refine ev_enter (by decide) rfl rfl (Nat.le_of_ble_eq_true rfl) ?_
  show ev_E g m_X10_snowNow 2 0 0 [some (ev_o 10 a), some (ev_i x0)] [] S Q
  refine ev_aload_n (ev_o 10 a) dX10_snowNow_0 rfl rfl ?_
  refine ev_iload_n (x0) dX10_snowNow_1 rfl ?_
  refine ev_iconst (3) dX10_snowNow_2 rfl ?_
  refine ev_aload_n (ev_o 10 a) dX10_snowNow_3 rfl rfl ?_
  refine ev_fV mv_X10_monthNow 1 10 [] [ev_i 3, ev_i x0, ev_o 10 a] dX10_snowNow_4 kw_2157 rfl (by decide) rfl (by decide) (Nat.le_of_ble_eq_true rfl) (sp_X10_monthNow a) ?_ rfl
  refine ev_iadd dX10_snowNow_7 ?_
  obtain ⟨h1, hQ⟩ := hQ
  refine ev_fV mv_X10_ofPass 1 10 [ev_i x0, ev_i (3 + (ev_rem ((S.1 (a + 1) 2) / 30) 12))] [] dX10_snowNow_8 kw_2161 rfl (by decide) rfl (by decide) (Nat.le_of_ble_eq_true rfl) (sp_X10_ofPass a x0 (3 + (ev_rem ((S.1 (a + 1) 2) / 30) 12)) h1) ?_ rfl
  exact ev_ireturn .int dX10_snowNow_11 rfl rfl hQ
set_option maxHeartbeats 4000000 in
set_option maxRecDepth 100000 in
theorem sp_X10_snowNow {g : ev_G} {S : ev_S} (a : Nat) (x0 : Int32) (q0 : vp_in ((1140 + (15 * x0)) + (3 + (ev_rem ((S.1 (a + 1) 2) / 30) 12))) 2091) : ev_Fn g m_X10_snowNow 2 [ev_o 10 a, ev_i x0] S (some (ev_i (S.1 (a + 1) ((1140 + (15 * x0)) + (3 + (ev_rem ((S.1 (a + 1) 2) / 30) 12))).toNatClampNeg))) S := by
  intro Q hQ
  refine sg_X10_snowNow_0 a x0 ?_
  refine ⟨(q0), ?_⟩
  exact hQ
set_option maxHeartbeats 4000000 in
set_option maxRecDepth 100000 in
theorem sg_X10_isClosed_0 {g : ev_G} {S : ev_S} {Q : ev_O → ev_S → Prop} (a : Nat) (x0 : Int32) (hQ : (vp_in ((1140 + (15 * x0)) + (3 + (ev_rem ((S.1 (a + 1) 2) / 30) 12))) 2091) ∧ (
    ((S.1 (a + 1) ((1140 + (15 * x0)) + (3 + (ev_rem ((S.1 (a + 1) 2) / 30) 12))).toNatClampNeg) = 9 → (
      Q (.inl (some (ev_i 1))) S)) ∧
    (¬ ((S.1 (a + 1) ((1140 + (15 * x0)) + (3 + (ev_rem ((S.1 (a + 1) 2) / 30) 12))).toNatClampNeg) = 9) → (
      Q (.inl (some (ev_i 0))) S)))) : ev_Cv g m_X10_isClosed 3 0 [ev_o 10 a, ev_i x0] S Q := by
  refine ev_enter (by decide) rfl rfl (Nat.le_of_ble_eq_true rfl) ?_
  show ev_E g m_X10_isClosed 3 0 0 [some (ev_o 10 a), some (ev_i x0)] [] S Q
  refine ev_aload_n (ev_o 10 a) dX10_isClosed_0 rfl rfl ?_
  refine ev_iload_n (x0) dX10_isClosed_1 rfl ?_
  obtain ⟨h1, hQ⟩ := hQ
  refine ev_fV mv_X10_snowNow 2 10 [ev_i x0] [] dX10_isClosed_2 kw_2153 rfl (by decide) rfl (by decide) (Nat.le_of_ble_eq_true rfl) (sp_X10_snowNow a x0 h1) ?_ rfl
  refine ev_bipush (9) dX10_isClosed_5 (by decide) ?_
  refine ev_icmp_ne 14 dX10_isClosed_7 (by decide) (fun c1 => ?_) (fun c1 => ?_)
  · replace hQ := hQ.2 c1
    refine ev_iconst (0) dX10_isClosed_14 rfl ?_
    exact ev_ireturn .boolean dX10_isClosed_15 rfl rfl hQ
  · replace hQ := hQ.1 c1
    refine ev_iconst (1) dX10_isClosed_10 rfl ?_
    refine ev_goto 15 dX10_isClosed_11 (by decide) ?_
    exact ev_ireturn .boolean dX10_isClosed_15 rfl rfl hQ
def t_X10_isClosed (S : ev_S) (a : Nat) (x0 : Int32) : Bool := if (S.1 (a + 1) ((1140 + (15 * x0)) + (3 + (ev_rem ((S.1 (a + 1) 2) / 30) 12))).toNatClampNeg) = 9 then (true) else (false)
set_option maxHeartbeats 4000000 in
set_option maxRecDepth 100000 in
theorem sp_X10_isClosed {g : ev_G} {S : ev_S} (a : Nat) (x0 : Int32) (q0 : vp_in ((1140 + (15 * x0)) + (3 + (ev_rem ((S.1 (a + 1) 2) / 30) 12))) 2091) : ev_Fn g m_X10_isClosed 3 [ev_o 10 a, ev_i x0] S (some (ev_i (if (t_X10_isClosed S a x0) = true then 1 else 0))) S := by
  intro Q hQ
  refine sg_X10_isClosed_0 a x0 ?_
  unfold t_X10_isClosed at hQ
  refine ⟨(q0), ?_⟩
  refine ⟨fun c1 => ?_, fun c1 => ?_⟩
  · rw [if_pos c1] at hQ
    exact hQ
  · rw [if_neg c1] at hQ
    exact hQ
set_option maxHeartbeats 4000000 in
set_option maxRecDepth 100000 in
theorem sg_X10_posts_0 {g : ev_G} {S : ev_S} {Q : ev_O → ev_S → Prop} (a : Nat) (x0 : Int32) (x1 : Int32) (x2 : Int32) (x3 : Int32) (x4 : Int32) (x5 : Int32) (hQ : (vp_in ((1200 + (11 * (S.1 (a + 1) 4))) + 0) 2091) ∧ (
    ∀ S1 : ev_S, S1 = (ev_up S (a + 1) ((1200 + (11 * (S.1 (a + 1) 4))) + 0).toNatClampNeg x0) → (
      (vp_in ((1200 + (11 * (S.1 (a + 1) 4))) + 1) 2091) ∧ (
        ∀ S2 : ev_S, S2 = (ev_up S1 (a + 1) ((1200 + (11 * (S.1 (a + 1) 4))) + 1).toNatClampNeg x1) → (
          (x2 = 0 → (
            (vp_in ((1200 + (11 * (S.1 (a + 1) 4))) + 2) 2091) ∧ (
              ∀ S3 : ev_S, S3 = (ev_up S2 (a + 1) ((1200 + (11 * (S.1 (a + 1) 4))) + 2).toNatClampNeg 0) → (
                (vp_in ((1200 + (11 * (S.1 (a + 1) 4))) + 3) 2091) ∧ (
                  ∀ S4 : ev_S, S4 = (ev_up S3 (a + 1) ((1200 + (11 * (S.1 (a + 1) 4))) + 3).toNatClampNeg x3) → (
                    (vp_in ((1200 + (11 * (S.1 (a + 1) 4))) + 4) 2091) ∧ (
                      ∀ S5 : ev_S, S5 = (ev_up S4 (a + 1) ((1200 + (11 * (S.1 (a + 1) 4))) + 4).toNatClampNeg x4) → (
                        (vp_in ((1200 + (11 * (S.1 (a + 1) 4))) + 5) 2091) ∧ (
                          ∀ S6 : ev_S, S6 = (ev_up S5 (a + 1) ((1200 + (11 * (S.1 (a + 1) 4))) + 5).toNatClampNeg x5) → (
                            (vp_in ((1200 + (11 * (S.1 (a + 1) 4))) + 6) 2091) ∧ (
                              ∀ S7 : ev_S, S7 = (ev_up S6 (a + 1) ((1200 + (11 * (S.1 (a + 1) 4))) + 6).toNatClampNeg 0) → (
                                (vp_in ((1200 + (11 * (S.1 (a + 1) 4))) + 7) 2091) ∧ (
                                  ∀ S8 : ev_S, S8 = (ev_up S7 (a + 1) ((1200 + (11 * (S.1 (a + 1) 4))) + 7).toNatClampNeg (S7.1 (a + 1) 2)) → (
                                    ∀ S9 : ev_S, S9 = (ev_up S8 (a + 1) 4 ((S8.1 (a + 1) 4) + 1)) → (
                                      Q (.inl (some (ev_i (S.1 (a + 1) 4)))) S9))))))))))))))) ∧
          (¬ (x2 = 0) → (
            (vp_in ((1200 + (11 * (S.1 (a + 1) 4))) + 2) 2091) ∧ (
              ∀ S10 : ev_S, S10 = (ev_up S2 (a + 1) ((1200 + (11 * (S.1 (a + 1) 4))) + 2).toNatClampNeg 1) → (
                (vp_in ((1200 + (11 * (S.1 (a + 1) 4))) + 3) 2091) ∧ (
                  ∀ S11 : ev_S, S11 = (ev_up S10 (a + 1) ((1200 + (11 * (S.1 (a + 1) 4))) + 3).toNatClampNeg x3) → (
                    (vp_in ((1200 + (11 * (S.1 (a + 1) 4))) + 4) 2091) ∧ (
                      ∀ S12 : ev_S, S12 = (ev_up S11 (a + 1) ((1200 + (11 * (S.1 (a + 1) 4))) + 4).toNatClampNeg x4) → (
                        (vp_in ((1200 + (11 * (S.1 (a + 1) 4))) + 5) 2091) ∧ (
                          ∀ S13 : ev_S, S13 = (ev_up S12 (a + 1) ((1200 + (11 * (S.1 (a + 1) 4))) + 5).toNatClampNeg x5) → (
                            (vp_in ((1200 + (11 * (S.1 (a + 1) 4))) + 6) 2091) ∧ (
                              ∀ S14 : ev_S, S14 = (ev_up S13 (a + 1) ((1200 + (11 * (S.1 (a + 1) 4))) + 6).toNatClampNeg 0) → (
                                (vp_in ((1200 + (11 * (S.1 (a + 1) 4))) + 7) 2091) ∧ (
                                  ∀ S15 : ev_S, S15 = (ev_up S14 (a + 1) ((1200 + (11 * (S.1 (a + 1) 4))) + 7).toNatClampNeg (S14.1 (a + 1) 2)) → (
                                    ∀ S16 : ev_S, S16 = (ev_up S15 (a + 1) 4 ((S15.1 (a + 1) 4) + 1)) → (
                                      Q (.inl (some (ev_i (S.1 (a + 1) 4)))) S16)))))))))))))))))))) : ev_Cv g m_X10_posts 2 0 [ev_o 10 a, ev_i x0, ev_i x1, ev_i x2, ev_i x3, ev_i x4, ev_i x5] S Q := by
  refine ev_enter (by decide) rfl rfl (Nat.le_of_ble_eq_true rfl) ?_
  show ev_E g m_X10_posts 2 0 0 [some (ev_o 10 a), some (ev_i x0), some (ev_i x1), some (ev_i x2), some (ev_i x3), some (ev_i x4), some (ev_i x5), none] [] S Q
  refine ev_aload_n (ev_o 10 a) dX10_posts_0 rfl rfl ?_
  refine gf_10_0 dX10_posts_1 kw_1853 ?_
  refine ev_iconst (4) dX10_posts_4 rfl ?_
  refine ev_iaload dX10_posts_5 (j_vin (by decide)) ?_
  refine ev_istore dX10_posts_6 (Nat.le_of_ble_eq_true rfl) (ev_hw rfl) ?_
  show ev_E g m_X10_posts 2 0 8 [some (ev_o 10 a), some (ev_i x0), some (ev_i x1), some (ev_i x2), some (ev_i x3), some (ev_i x4), some (ev_i x5), some (ev_i (S.1 (a + 1) 4))] [] S Q
  refine ev_aload_n (ev_o 10 a) dX10_posts_8 rfl rfl ?_
  refine ev_iload ((S.1 (a + 1) 4)) dX10_posts_9 rfl ?_
  refine ev_iconst (0) dX10_posts_11 rfl ?_
  refine ev_iload_n (x0) dX10_posts_12 rfl ?_
  obtain ⟨h1, hQ⟩ := hQ
  refine ev_fVn mv_X10_putL 1 10 [ev_i (S.1 (a + 1) 4), ev_i 0, ev_i x0] [] dX10_posts_13 kw_2085 rfl (by decide) rfl (by decide) (Nat.le_of_ble_eq_true rfl) (sp_X10_putL a (S.1 (a + 1) 4) 0 x0 h1) ?_ rfl
  refine ev_sub hQ (fun S1 hS1 hQ => ?_)
  refine ev_E.goal (pc' := 16) (L' := [some (ev_o 10 a), some (ev_i x0), some (ev_i x1), some (ev_i x2), some (ev_i x3), some (ev_i x4), some (ev_i x5), some (ev_i (S.1 (a + 1) 4))]) (K' := []) (S' := S1) ?_ rfl rfl rfl hS1
  refine ev_aload_n (ev_o 10 a) dX10_posts_16 rfl rfl ?_
  refine ev_iload ((S.1 (a + 1) 4)) dX10_posts_17 rfl ?_
  refine ev_iconst (1) dX10_posts_19 rfl ?_
  refine ev_iload_n (x1) dX10_posts_20 rfl ?_
  obtain ⟨h2, hQ⟩ := hQ
  refine ev_fVn mv_X10_putL 1 10 [ev_i (S.1 (a + 1) 4), ev_i 1, ev_i x1] [] dX10_posts_21 kw_2085 rfl (by decide) rfl (by decide) (Nat.le_of_ble_eq_true rfl) (sp_X10_putL a (S.1 (a + 1) 4) 1 x1 h2) ?_ rfl
  refine ev_sub hQ (fun S2 hS2 hQ => ?_)
  refine ev_E.goal (pc' := 24) (L' := [some (ev_o 10 a), some (ev_i x0), some (ev_i x1), some (ev_i x2), some (ev_i x3), some (ev_i x4), some (ev_i x5), some (ev_i (S.1 (a + 1) 4))]) (K' := []) (S' := S2) ?_ rfl rfl rfl hS2
  refine ev_aload_n (ev_o 10 a) dX10_posts_24 rfl rfl ?_
  refine ev_iload ((S.1 (a + 1) 4)) dX10_posts_25 rfl ?_
  refine ev_iconst (2) dX10_posts_27 rfl ?_
  refine ev_iload_n (x2) dX10_posts_28 rfl ?_
  refine ev_if_eq 36 dX10_posts_29 (by decide) (fun c1 => ?_) (fun c1 => ?_)
  · replace hQ := hQ.1 c1
    refine ev_iconst (0) dX10_posts_36 rfl ?_
    obtain ⟨h3, hQ⟩ := hQ
    refine ev_fVn mv_X10_putL 1 10 [ev_i (S.1 (a + 1) 4), ev_i 2, ev_i 0] [] dX10_posts_37 kw_2085 rfl (by decide) rfl (by decide) (Nat.le_of_ble_eq_true rfl) (sp_X10_putL a (S.1 (a + 1) 4) 2 0 h3) ?_ rfl
    refine ev_sub hQ (fun S3 hS3 hQ => ?_)
    refine ev_E.goal (pc' := 40) (L' := [some (ev_o 10 a), some (ev_i x0), some (ev_i x1), some (ev_i x2), some (ev_i x3), some (ev_i x4), some (ev_i x5), some (ev_i (S.1 (a + 1) 4))]) (K' := []) (S' := S3) ?_ rfl rfl rfl hS3
    refine ev_aload_n (ev_o 10 a) dX10_posts_40 rfl rfl ?_
    refine ev_iload ((S.1 (a + 1) 4)) dX10_posts_41 rfl ?_
    refine ev_iconst (3) dX10_posts_43 rfl ?_
    refine ev_iload (x3) dX10_posts_44 rfl ?_
    obtain ⟨h4, hQ⟩ := hQ
    refine ev_fVn mv_X10_putL 1 10 [ev_i (S.1 (a + 1) 4), ev_i 3, ev_i x3] [] dX10_posts_46 kw_2085 rfl (by decide) rfl (by decide) (Nat.le_of_ble_eq_true rfl) (sp_X10_putL a (S.1 (a + 1) 4) 3 x3 h4) ?_ rfl
    refine ev_sub hQ (fun S4 hS4 hQ => ?_)
    refine ev_E.goal (pc' := 49) (L' := [some (ev_o 10 a), some (ev_i x0), some (ev_i x1), some (ev_i x2), some (ev_i x3), some (ev_i x4), some (ev_i x5), some (ev_i (S.1 (a + 1) 4))]) (K' := []) (S' := S4) ?_ rfl rfl rfl hS4
    refine ev_aload_n (ev_o 10 a) dX10_posts_49 rfl rfl ?_
    refine ev_iload ((S.1 (a + 1) 4)) dX10_posts_50 rfl ?_
    refine ev_iconst (4) dX10_posts_52 rfl ?_
    refine ev_iload (x4) dX10_posts_53 rfl ?_
    obtain ⟨h5, hQ⟩ := hQ
    refine ev_fVn mv_X10_putL 1 10 [ev_i (S.1 (a + 1) 4), ev_i 4, ev_i x4] [] dX10_posts_55 kw_2085 rfl (by decide) rfl (by decide) (Nat.le_of_ble_eq_true rfl) (sp_X10_putL a (S.1 (a + 1) 4) 4 x4 h5) ?_ rfl
    refine ev_sub hQ (fun S5 hS5 hQ => ?_)
    refine ev_E.goal (pc' := 58) (L' := [some (ev_o 10 a), some (ev_i x0), some (ev_i x1), some (ev_i x2), some (ev_i x3), some (ev_i x4), some (ev_i x5), some (ev_i (S.1 (a + 1) 4))]) (K' := []) (S' := S5) ?_ rfl rfl rfl hS5
    refine ev_aload_n (ev_o 10 a) dX10_posts_58 rfl rfl ?_
    refine ev_iload ((S.1 (a + 1) 4)) dX10_posts_59 rfl ?_
    refine ev_iconst (5) dX10_posts_61 rfl ?_
    refine ev_iload (x5) dX10_posts_62 rfl ?_
    obtain ⟨h6, hQ⟩ := hQ
    refine ev_fVn mv_X10_putL 1 10 [ev_i (S.1 (a + 1) 4), ev_i 5, ev_i x5] [] dX10_posts_64 kw_2085 rfl (by decide) rfl (by decide) (Nat.le_of_ble_eq_true rfl) (sp_X10_putL a (S.1 (a + 1) 4) 5 x5 h6) ?_ rfl
    refine ev_sub hQ (fun S6 hS6 hQ => ?_)
    refine ev_E.goal (pc' := 67) (L' := [some (ev_o 10 a), some (ev_i x0), some (ev_i x1), some (ev_i x2), some (ev_i x3), some (ev_i x4), some (ev_i x5), some (ev_i (S.1 (a + 1) 4))]) (K' := []) (S' := S6) ?_ rfl rfl rfl hS6
    refine ev_aload_n (ev_o 10 a) dX10_posts_67 rfl rfl ?_
    refine ev_iload ((S.1 (a + 1) 4)) dX10_posts_68 rfl ?_
    refine ev_bipush (6) dX10_posts_70 (by decide) ?_
    refine ev_iconst (0) dX10_posts_72 rfl ?_
    obtain ⟨h7, hQ⟩ := hQ
    refine ev_fVn mv_X10_putL 1 10 [ev_i (S.1 (a + 1) 4), ev_i 6, ev_i 0] [] dX10_posts_73 kw_2085 rfl (by decide) rfl (by decide) (Nat.le_of_ble_eq_true rfl) (sp_X10_putL a (S.1 (a + 1) 4) 6 0 h7) ?_ rfl
    refine ev_sub hQ (fun S7 hS7 hQ => ?_)
    refine ev_E.goal (pc' := 76) (L' := [some (ev_o 10 a), some (ev_i x0), some (ev_i x1), some (ev_i x2), some (ev_i x3), some (ev_i x4), some (ev_i x5), some (ev_i (S.1 (a + 1) 4))]) (K' := []) (S' := S7) ?_ rfl rfl rfl hS7
    refine ev_aload_n (ev_o 10 a) dX10_posts_76 rfl rfl ?_
    refine ev_iload ((S.1 (a + 1) 4)) dX10_posts_77 rfl ?_
    refine ev_bipush (7) dX10_posts_79 (by decide) ?_
    refine ev_aload_n (ev_o 10 a) dX10_posts_81 rfl rfl ?_
    refine gf_10_0 dX10_posts_82 kw_1853 ?_
    refine ev_iconst (2) dX10_posts_85 rfl ?_
    refine ev_iaload dX10_posts_86 (j_vin (by decide)) ?_
    obtain ⟨h8, hQ⟩ := hQ
    refine ev_fVn mv_X10_putL 1 10 [ev_i (S.1 (a + 1) 4), ev_i 7, ev_i (S7.1 (a + 1) 2)] [] dX10_posts_87 kw_2085 rfl (by decide) rfl (by decide) (Nat.le_of_ble_eq_true rfl) (sp_X10_putL a (S.1 (a + 1) 4) 7 (S7.1 (a + 1) 2) h8) ?_ rfl
    refine ev_sub hQ (fun S8 hS8 hQ => ?_)
    refine ev_E.goal (pc' := 90) (L' := [some (ev_o 10 a), some (ev_i x0), some (ev_i x1), some (ev_i x2), some (ev_i x3), some (ev_i x4), some (ev_i x5), some (ev_i (S.1 (a + 1) 4))]) (K' := []) (S' := S8) ?_ rfl rfl rfl hS8
    refine ev_aload_n (ev_o 10 a) dX10_posts_90 rfl rfl ?_
    refine gf_10_0 dX10_posts_91 kw_1853 ?_
    refine ev_iconst (4) dX10_posts_94 rfl ?_
    refine ev_dup2 dX10_posts_95 rfl rfl ?_
    refine ev_iaload dX10_posts_96 (j_vin (by decide)) ?_
    refine ev_iconst (1) dX10_posts_97 rfl ?_
    refine ev_iadd dX10_posts_98 ?_
    refine ev_iastore dX10_posts_99 (j_vin (by decide)) ?_
    refine ev_sub hQ (fun S9 hS9 hQ => ?_)
    refine ev_E.goal (pc' := 100) (L' := [some (ev_o 10 a), some (ev_i x0), some (ev_i x1), some (ev_i x2), some (ev_i x3), some (ev_i x4), some (ev_i x5), some (ev_i (S.1 (a + 1) 4))]) (K' := []) (S' := S9) ?_ rfl rfl rfl hS9
    refine ev_iload ((S.1 (a + 1) 4)) dX10_posts_100 rfl ?_
    exact ev_ireturn .int dX10_posts_102 rfl rfl hQ
  · replace hQ := hQ.2 c1
    refine ev_iconst (1) dX10_posts_32 rfl ?_
    refine ev_goto 37 dX10_posts_33 (by decide) ?_
    obtain ⟨h9, hQ⟩ := hQ
    refine ev_fVn mv_X10_putL 1 10 [ev_i (S.1 (a + 1) 4), ev_i 2, ev_i 1] [] dX10_posts_37 kw_2085 rfl (by decide) rfl (by decide) (Nat.le_of_ble_eq_true rfl) (sp_X10_putL a (S.1 (a + 1) 4) 2 1 h9) ?_ rfl
    refine ev_sub hQ (fun S10 hS10 hQ => ?_)
    refine ev_E.goal (pc' := 40) (L' := [some (ev_o 10 a), some (ev_i x0), some (ev_i x1), some (ev_i x2), some (ev_i x3), some (ev_i x4), some (ev_i x5), some (ev_i (S.1 (a + 1) 4))]) (K' := []) (S' := S10) ?_ rfl rfl rfl hS10
    refine ev_aload_n (ev_o 10 a) dX10_posts_40 rfl rfl ?_
    refine ev_iload ((S.1 (a + 1) 4)) dX10_posts_41 rfl ?_
    refine ev_iconst (3) dX10_posts_43 rfl ?_
    refine ev_iload (x3) dX10_posts_44 rfl ?_
    obtain ⟨h10, hQ⟩ := hQ
    refine ev_fVn mv_X10_putL 1 10 [ev_i (S.1 (a + 1) 4), ev_i 3, ev_i x3] [] dX10_posts_46 kw_2085 rfl (by decide) rfl (by decide) (Nat.le_of_ble_eq_true rfl) (sp_X10_putL a (S.1 (a + 1) 4) 3 x3 h10) ?_ rfl
    refine ev_sub hQ (fun S11 hS11 hQ => ?_)
    refine ev_E.goal (pc' := 49) (L' := [some (ev_o 10 a), some (ev_i x0), some (ev_i x1), some (ev_i x2), some (ev_i x3), some (ev_i x4), some (ev_i x5), some (ev_i (S.1 (a + 1) 4))]) (K' := []) (S' := S11) ?_ rfl rfl rfl hS11
    refine ev_aload_n (ev_o 10 a) dX10_posts_49 rfl rfl ?_
    refine ev_iload ((S.1 (a + 1) 4)) dX10_posts_50 rfl ?_
    refine ev_iconst (4) dX10_posts_52 rfl ?_
    refine ev_iload (x4) dX10_posts_53 rfl ?_
    obtain ⟨h11, hQ⟩ := hQ
    refine ev_fVn mv_X10_putL 1 10 [ev_i (S.1 (a + 1) 4), ev_i 4, ev_i x4] [] dX10_posts_55 kw_2085 rfl (by decide) rfl (by decide) (Nat.le_of_ble_eq_true rfl) (sp_X10_putL a (S.1 (a + 1) 4) 4 x4 h11) ?_ rfl
    refine ev_sub hQ (fun S12 hS12 hQ => ?_)
    refine ev_E.goal (pc' := 58) (L' := [some (ev_o 10 a), some (ev_i x0), some (ev_i x1), some (ev_i x2), some (ev_i x3), some (ev_i x4), some (ev_i x5), some (ev_i (S.1 (a + 1) 4))]) (K' := []) (S' := S12) ?_ rfl rfl rfl hS12
    refine ev_aload_n (ev_o 10 a) dX10_posts_58 rfl rfl ?_
    refine ev_iload ((S.1 (a + 1) 4)) dX10_posts_59 rfl ?_
    refine ev_iconst (5) dX10_posts_61 rfl ?_
    refine ev_iload (x5) dX10_posts_62 rfl ?_
    obtain ⟨h12, hQ⟩ := hQ
    refine ev_fVn mv_X10_putL 1 10 [ev_i (S.1 (a + 1) 4), ev_i 5, ev_i x5] [] dX10_posts_64 kw_2085 rfl (by decide) rfl (by decide) (Nat.le_of_ble_eq_true rfl) (sp_X10_putL a (S.1 (a + 1) 4) 5 x5 h12) ?_ rfl
    refine ev_sub hQ (fun S13 hS13 hQ => ?_)
    refine ev_E.goal (pc' := 67) (L' := [some (ev_o 10 a), some (ev_i x0), some (ev_i x1), some (ev_i x2), some (ev_i x3), some (ev_i x4), some (ev_i x5), some (ev_i (S.1 (a + 1) 4))]) (K' := []) (S' := S13) ?_ rfl rfl rfl hS13
    refine ev_aload_n (ev_o 10 a) dX10_posts_67 rfl rfl ?_
    refine ev_iload ((S.1 (a + 1) 4)) dX10_posts_68 rfl ?_
    refine ev_bipush (6) dX10_posts_70 (by decide) ?_
    refine ev_iconst (0) dX10_posts_72 rfl ?_
    obtain ⟨h13, hQ⟩ := hQ
    refine ev_fVn mv_X10_putL 1 10 [ev_i (S.1 (a + 1) 4), ev_i 6, ev_i 0] [] dX10_posts_73 kw_2085 rfl (by decide) rfl (by decide) (Nat.le_of_ble_eq_true rfl) (sp_X10_putL a (S.1 (a + 1) 4) 6 0 h13) ?_ rfl
    refine ev_sub hQ (fun S14 hS14 hQ => ?_)
    refine ev_E.goal (pc' := 76) (L' := [some (ev_o 10 a), some (ev_i x0), some (ev_i x1), some (ev_i x2), some (ev_i x3), some (ev_i x4), some (ev_i x5), some (ev_i (S.1 (a + 1) 4))]) (K' := []) (S' := S14) ?_ rfl rfl rfl hS14
    refine ev_aload_n (ev_o 10 a) dX10_posts_76 rfl rfl ?_
    refine ev_iload ((S.1 (a + 1) 4)) dX10_posts_77 rfl ?_
    refine ev_bipush (7) dX10_posts_79 (by decide) ?_
    refine ev_aload_n (ev_o 10 a) dX10_posts_81 rfl rfl ?_
    refine gf_10_0 dX10_posts_82 kw_1853 ?_
    refine ev_iconst (2) dX10_posts_85 rfl ?_
    refine ev_iaload dX10_posts_86 (j_vin (by decide)) ?_
    obtain ⟨h14, hQ⟩ := hQ
    refine ev_fVn mv_X10_putL 1 10 [ev_i (S.1 (a + 1) 4), ev_i 7, ev_i (S14.1 (a + 1) 2)] [] dX10_posts_87 kw_2085 rfl (by decide) rfl (by decide) (Nat.le_of_ble_eq_true rfl) (sp_X10_putL a (S.1 (a + 1) 4) 7 (S14.1 (a + 1) 2) h14) ?_ rfl
    refine ev_sub hQ (fun S15 hS15 hQ => ?_)
    refine ev_E.goal (pc' := 90) (L' := [some (ev_o 10 a), some (ev_i x0), some (ev_i x1), some (ev_i x2), some (ev_i x3), some (ev_i x4), some (ev_i x5), some (ev_i (S.1 (a + 1) 4))]) (K' := []) (S' := S15) ?_ rfl rfl rfl hS15
    refine ev_aload_n (ev_o 10 a) dX10_posts_90 rfl rfl ?_
    refine gf_10_0 dX10_posts_91 kw_1853 ?_
    refine ev_iconst (4) dX10_posts_94 rfl ?_
    refine ev_dup2 dX10_posts_95 rfl rfl ?_
    refine ev_iaload dX10_posts_96 (j_vin (by decide)) ?_
    refine ev_iconst (1) dX10_posts_97 rfl ?_
    refine ev_iadd dX10_posts_98 ?_
    refine ev_iastore dX10_posts_99 (j_vin (by decide)) ?_
    refine ev_sub hQ (fun S16 hS16 hQ => ?_)
    refine ev_E.goal (pc' := 100) (L' := [some (ev_o 10 a), some (ev_i x0), some (ev_i x1), some (ev_i x2), some (ev_i x3), some (ev_i x4), some (ev_i x5), some (ev_i (S.1 (a + 1) 4))]) (K' := []) (S' := S16) ?_ rfl rfl rfl hS16
    refine ev_iload ((S.1 (a + 1) 4)) dX10_posts_100 rfl ?_
    exact ev_ireturn .int dX10_posts_102 rfl rfl hQ
set_option maxHeartbeats 4000000 in
set_option maxRecDepth 100000 in
theorem sg_X10_firstInQueue_0 {g : ev_G} {S : ev_S} {Q : ev_O → ev_S → Prop} (a : Nat) (x0 : Int32) (x1 : Int32) (hQ : ev_E g m_X10_firstInQueue 2 0 2 [some (ev_o 10 a), some (ev_i x0), some (ev_i x1), some (ev_i 0)] [] S Q) : ev_Cv g m_X10_firstInQueue 2 0 [ev_o 10 a, ev_i x0, ev_i x1] S Q := by
  refine ev_enter (by decide) rfl rfl (Nat.le_of_ble_eq_true rfl) ?_
  show ev_E g m_X10_firstInQueue 2 0 0 [some (ev_o 10 a), some (ev_i x0), some (ev_i x1), none] [] S Q
  refine ev_iconst (0) dX10_firstInQueue_0 rfl ?_
  refine ev_istore_n dX10_firstInQueue_1 (Nat.le_of_ble_eq_true rfl) (ev_hw rfl) ?_
  show ev_E g m_X10_firstInQueue 2 0 2 [some (ev_o 10 a), some (ev_i x0), some (ev_i x1), some (ev_i 0)] [] S Q
  exact hQ
set_option maxHeartbeats 4000000 in
set_option maxRecDepth 100000 in
theorem sg_X10_firstInQueue_2 {g : ev_G} {S : ev_S} {Q : ev_O → ev_S → Prop} (a : Nat) (u1 : Int32) (u2 : Int32) (u3 : Int32) (hQ : ((S.1 (a + 1) 4) ≤ u3 → (
    Q (.inl (some (ev_i (-1)))) S)) ∧
  (¬ ((S.1 (a + 1) 4) ≤ u3) → (
    (vp_in ((1200 + (11 * u3)) + 6) 2091) ∧ (
      ((S.1 (a + 1) ((1200 + (11 * u3)) + 6).toNatClampNeg) = 0 → (
        (vp_in ((1200 + (11 * u3)) + 1) 2091) ∧ (
          ((S.1 (a + 1) ((1200 + (11 * u3)) + 1).toNatClampNeg) = u1 → (
            (vp_in ((1200 + (11 * u3)) + 0) 2091) ∧ (
              ((S.1 (a + 1) ((1200 + (11 * u3)) + 0).toNatClampNeg) = u2 → (
                Q (.inl (some (ev_i u3))) S)) ∧
              (¬ ((S.1 (a + 1) ((1200 + (11 * u3)) + 0).toNatClampNeg) = u2) → (
                ev_E g m_X10_firstInQueue 2 0 2 [some (ev_o 10 a), some (ev_i u1), some (ev_i u2), some (ev_i (u3 + 1))] [] S Q))))) ∧
          (¬ ((S.1 (a + 1) ((1200 + (11 * u3)) + 1).toNatClampNeg) = u1) → (
            ev_E g m_X10_firstInQueue 2 0 2 [some (ev_o 10 a), some (ev_i u1), some (ev_i u2), some (ev_i (u3 + 1))] [] S Q))))) ∧
      (¬ ((S.1 (a + 1) ((1200 + (11 * u3)) + 6).toNatClampNeg) = 0) → (
        ev_E g m_X10_firstInQueue 2 0 2 [some (ev_o 10 a), some (ev_i u1), some (ev_i u2), some (ev_i (u3 + 1))] [] S Q)))))) : ev_E g m_X10_firstInQueue 2 0 2 [some (ev_o 10 a), some (ev_i u1), some (ev_i u2), some (ev_i u3)] [] S Q := by
  refine ev_iload_n (u3) dX10_firstInQueue_2 rfl ?_
  refine ev_aload_n (ev_o 10 a) dX10_firstInQueue_3 rfl rfl ?_
  refine gf_10_0 dX10_firstInQueue_4 kw_1853 ?_
  refine ev_iconst (4) dX10_firstInQueue_7 rfl ?_
  refine ev_iaload dX10_firstInQueue_8 (j_vin (by decide)) ?_
  refine ev_icmp_ge 50 dX10_firstInQueue_9 (by decide) (fun c1 => ?_) (fun c1 => ?_)
  · replace hQ := hQ.1 c1
    refine ev_iconst (-1) dX10_firstInQueue_50 rfl ?_
    exact ev_ireturn .int dX10_firstInQueue_51 rfl rfl hQ
  · replace hQ := hQ.2 c1
    refine ev_aload_n (ev_o 10 a) dX10_firstInQueue_12 rfl rfl ?_
    refine ev_iload_n (u3) dX10_firstInQueue_13 rfl ?_
    refine ev_bipush (6) dX10_firstInQueue_14 (by decide) ?_
    obtain ⟨h1, hQ⟩ := hQ
    refine ev_fV mv_X10_ofL 1 10 [ev_i u3, ev_i 6] [] dX10_firstInQueue_16 kw_2129 rfl (by decide) rfl (by decide) (Nat.le_of_ble_eq_true rfl) (sp_X10_ofL a u3 6 h1) ?_ rfl
    refine ev_if_ne 44 dX10_firstInQueue_19 (by decide) (fun c2 => ?_) (fun c2 => ?_)
    · replace hQ := hQ.2 c2
      refine ev_iinc u3 (1) dX10_firstInQueue_44 rfl (by decide) (ev_hw rfl) ?_
      show ev_E g m_X10_firstInQueue 2 0 47 [some (ev_o 10 a), some (ev_i u1), some (ev_i u2), some (ev_i (u3 + 1))] [] S Q
      refine ev_goto 2 dX10_firstInQueue_47 (by decide) ?_
      exact hQ
    · replace hQ := hQ.1 c2
      refine ev_aload_n (ev_o 10 a) dX10_firstInQueue_22 rfl rfl ?_
      refine ev_iload_n (u3) dX10_firstInQueue_23 rfl ?_
      refine ev_iconst (1) dX10_firstInQueue_24 rfl ?_
      obtain ⟨h2, hQ⟩ := hQ
      refine ev_fV mv_X10_ofL 1 10 [ev_i u3, ev_i 1] [] dX10_firstInQueue_25 kw_2129 rfl (by decide) rfl (by decide) (Nat.le_of_ble_eq_true rfl) (sp_X10_ofL a u3 1 h2) ?_ rfl
      refine ev_iload_n (u1) dX10_firstInQueue_28 rfl ?_
      refine ev_icmp_ne 44 dX10_firstInQueue_29 (by decide) (fun c3 => ?_) (fun c3 => ?_)
      · replace hQ := hQ.2 c3
        refine ev_iinc u3 (1) dX10_firstInQueue_44 rfl (by decide) (ev_hw rfl) ?_
        show ev_E g m_X10_firstInQueue 2 0 47 [some (ev_o 10 a), some (ev_i u1), some (ev_i u2), some (ev_i (u3 + 1))] [] S Q
        refine ev_goto 2 dX10_firstInQueue_47 (by decide) ?_
        exact hQ
      · replace hQ := hQ.1 c3
        refine ev_aload_n (ev_o 10 a) dX10_firstInQueue_32 rfl rfl ?_
        refine ev_iload_n (u3) dX10_firstInQueue_33 rfl ?_
        refine ev_iconst (0) dX10_firstInQueue_34 rfl ?_
        obtain ⟨h3, hQ⟩ := hQ
        refine ev_fV mv_X10_ofL 1 10 [ev_i u3, ev_i 0] [] dX10_firstInQueue_35 kw_2129 rfl (by decide) rfl (by decide) (Nat.le_of_ble_eq_true rfl) (sp_X10_ofL a u3 0 h3) ?_ rfl
        refine ev_iload_n (u2) dX10_firstInQueue_38 rfl ?_
        refine ev_icmp_ne 44 dX10_firstInQueue_39 (by decide) (fun c4 => ?_) (fun c4 => ?_)
        · replace hQ := hQ.2 c4
          refine ev_iinc u3 (1) dX10_firstInQueue_44 rfl (by decide) (ev_hw rfl) ?_
          show ev_E g m_X10_firstInQueue 2 0 47 [some (ev_o 10 a), some (ev_i u1), some (ev_i u2), some (ev_i (u3 + 1))] [] S Q
          refine ev_goto 2 dX10_firstInQueue_47 (by decide) ?_
          exact hQ
        · replace hQ := hQ.1 c4
          refine ev_iload_n (u3) dX10_firstInQueue_42 rfl ?_
          exact ev_ireturn .int dX10_firstInQueue_43 rfl rfl hQ
set_option maxHeartbeats 4000000 in
set_option maxRecDepth 100000 in
theorem sg_X10_queued_0 {g : ev_G} {S : ev_S} {Q : ev_O → ev_S → Prop} (a : Nat) (x0 : Int32) (x1 : Int32) (hQ : ev_E g m_X10_queued 2 0 5 [some (ev_o 10 a), some (ev_i x0), some (ev_i x1), some (ev_i 0), some (ev_i 0)] [] S Q) : ev_Cv g m_X10_queued 2 0 [ev_o 10 a, ev_i x0, ev_i x1] S Q := by
  refine ev_enter (by decide) rfl rfl (Nat.le_of_ble_eq_true rfl) ?_
  show ev_E g m_X10_queued 2 0 0 [some (ev_o 10 a), some (ev_i x0), some (ev_i x1), none, none] [] S Q
  refine ev_iconst (0) dX10_queued_0 rfl ?_
  refine ev_istore_n dX10_queued_1 (Nat.le_of_ble_eq_true rfl) (ev_hw rfl) ?_
  show ev_E g m_X10_queued 2 0 2 [some (ev_o 10 a), some (ev_i x0), some (ev_i x1), some (ev_i 0), none] [] S Q
  refine ev_iconst (0) dX10_queued_2 rfl ?_
  refine ev_istore dX10_queued_3 (Nat.le_of_ble_eq_true rfl) (ev_hw rfl) ?_
  show ev_E g m_X10_queued 2 0 5 [some (ev_o 10 a), some (ev_i x0), some (ev_i x1), some (ev_i 0), some (ev_i 0)] [] S Q
  exact hQ
set_option maxHeartbeats 4000000 in
set_option maxRecDepth 100000 in
theorem sg_X10_queued_5 {g : ev_G} {S : ev_S} {Q : ev_O → ev_S → Prop} (a : Nat) (u1 : Int32) (u2 : Int32) (u3 : Int32) (u4 : Int32) (hQ : ((S.1 (a + 1) 4) ≤ u4 → (
    Q (.inl (some (ev_i u3))) S)) ∧
  (¬ ((S.1 (a + 1) 4) ≤ u4) → (
    (vp_in ((1200 + (11 * u4)) + 6) 2091) ∧ (
      ((S.1 (a + 1) ((1200 + (11 * u4)) + 6).toNatClampNeg) = 0 → (
        (vp_in ((1200 + (11 * u4)) + 1) 2091) ∧ (
          ((S.1 (a + 1) ((1200 + (11 * u4)) + 1).toNatClampNeg) = u1 → (
            (vp_in ((1200 + (11 * u4)) + 0) 2091) ∧ (
              ((S.1 (a + 1) ((1200 + (11 * u4)) + 0).toNatClampNeg) = u2 → (
                ev_E g m_X10_queued 2 0 5 [some (ev_o 10 a), some (ev_i u1), some (ev_i u2), some (ev_i (u3 + 1)), some (ev_i (u4 + 1))] [] S Q)) ∧
              (¬ ((S.1 (a + 1) ((1200 + (11 * u4)) + 0).toNatClampNeg) = u2) → (
                ev_E g m_X10_queued 2 0 5 [some (ev_o 10 a), some (ev_i u1), some (ev_i u2), some (ev_i u3), some (ev_i (u4 + 1))] [] S Q))))) ∧
          (¬ ((S.1 (a + 1) ((1200 + (11 * u4)) + 1).toNatClampNeg) = u1) → (
            ev_E g m_X10_queued 2 0 5 [some (ev_o 10 a), some (ev_i u1), some (ev_i u2), some (ev_i u3), some (ev_i (u4 + 1))] [] S Q))))) ∧
      (¬ ((S.1 (a + 1) ((1200 + (11 * u4)) + 6).toNatClampNeg) = 0) → (
        ev_E g m_X10_queued 2 0 5 [some (ev_o 10 a), some (ev_i u1), some (ev_i u2), some (ev_i u3), some (ev_i (u4 + 1))] [] S Q)))))) : ev_E g m_X10_queued 2 0 5 [some (ev_o 10 a), some (ev_i u1), some (ev_i u2), some (ev_i u3), some (ev_i u4)] [] S Q := by
  refine ev_iload (u4) dX10_queued_5 rfl ?_
  refine ev_aload_n (ev_o 10 a) dX10_queued_7 rfl rfl ?_
  refine gf_10_0 dX10_queued_8 kw_1853 ?_
  refine ev_iconst (4) dX10_queued_11 rfl ?_
  refine ev_iaload dX10_queued_12 (j_vin (by decide)) ?_
  refine ev_icmp_ge 58 dX10_queued_13 (by decide) (fun c1 => ?_) (fun c1 => ?_)
  · replace hQ := hQ.1 c1
    refine ev_iload_n (u3) dX10_queued_58 rfl ?_
    exact ev_ireturn .int dX10_queued_59 rfl rfl hQ
  · replace hQ := hQ.2 c1
    refine ev_aload_n (ev_o 10 a) dX10_queued_16 rfl rfl ?_
    refine ev_iload (u4) dX10_queued_17 rfl ?_
    refine ev_bipush (6) dX10_queued_19 (by decide) ?_
    obtain ⟨h1, hQ⟩ := hQ
    refine ev_fV mv_X10_ofL 1 10 [ev_i u4, ev_i 6] [] dX10_queued_21 kw_2129 rfl (by decide) rfl (by decide) (Nat.le_of_ble_eq_true rfl) (sp_X10_ofL a u4 6 h1) ?_ rfl
    refine ev_if_ne 52 dX10_queued_24 (by decide) (fun c2 => ?_) (fun c2 => ?_)
    · replace hQ := hQ.2 c2
      refine ev_iinc u4 (1) dX10_queued_52 rfl (by decide) (ev_hw rfl) ?_
      show ev_E g m_X10_queued 2 0 55 [some (ev_o 10 a), some (ev_i u1), some (ev_i u2), some (ev_i u3), some (ev_i (u4 + 1))] [] S Q
      refine ev_goto 5 dX10_queued_55 (by decide) ?_
      exact hQ
    · replace hQ := hQ.1 c2
      refine ev_aload_n (ev_o 10 a) dX10_queued_27 rfl rfl ?_
      refine ev_iload (u4) dX10_queued_28 rfl ?_
      refine ev_iconst (1) dX10_queued_30 rfl ?_
      obtain ⟨h2, hQ⟩ := hQ
      refine ev_fV mv_X10_ofL 1 10 [ev_i u4, ev_i 1] [] dX10_queued_31 kw_2129 rfl (by decide) rfl (by decide) (Nat.le_of_ble_eq_true rfl) (sp_X10_ofL a u4 1 h2) ?_ rfl
      refine ev_iload_n (u1) dX10_queued_34 rfl ?_
      refine ev_icmp_ne 52 dX10_queued_35 (by decide) (fun c3 => ?_) (fun c3 => ?_)
      · replace hQ := hQ.2 c3
        refine ev_iinc u4 (1) dX10_queued_52 rfl (by decide) (ev_hw rfl) ?_
        show ev_E g m_X10_queued 2 0 55 [some (ev_o 10 a), some (ev_i u1), some (ev_i u2), some (ev_i u3), some (ev_i (u4 + 1))] [] S Q
        refine ev_goto 5 dX10_queued_55 (by decide) ?_
        exact hQ
      · replace hQ := hQ.1 c3
        refine ev_aload_n (ev_o 10 a) dX10_queued_38 rfl rfl ?_
        refine ev_iload (u4) dX10_queued_39 rfl ?_
        refine ev_iconst (0) dX10_queued_41 rfl ?_
        obtain ⟨h3, hQ⟩ := hQ
        refine ev_fV mv_X10_ofL 1 10 [ev_i u4, ev_i 0] [] dX10_queued_42 kw_2129 rfl (by decide) rfl (by decide) (Nat.le_of_ble_eq_true rfl) (sp_X10_ofL a u4 0 h3) ?_ rfl
        refine ev_iload_n (u2) dX10_queued_45 rfl ?_
        refine ev_icmp_ne 52 dX10_queued_46 (by decide) (fun c4 => ?_) (fun c4 => ?_)
        · replace hQ := hQ.2 c4
          refine ev_iinc u4 (1) dX10_queued_52 rfl (by decide) (ev_hw rfl) ?_
          show ev_E g m_X10_queued 2 0 55 [some (ev_o 10 a), some (ev_i u1), some (ev_i u2), some (ev_i u3), some (ev_i (u4 + 1))] [] S Q
          refine ev_goto 5 dX10_queued_55 (by decide) ?_
          exact hQ
        · replace hQ := hQ.1 c4
          refine ev_iinc u3 (1) dX10_queued_49 rfl (by decide) (ev_hw rfl) ?_
          show ev_E g m_X10_queued 2 0 52 [some (ev_o 10 a), some (ev_i u1), some (ev_i u2), some (ev_i (u3 + 1)), some (ev_i u4)] [] S Q
          refine ev_iinc u4 (1) dX10_queued_52 rfl (by decide) (ev_hw rfl) ?_
          show ev_E g m_X10_queued 2 0 55 [some (ev_o 10 a), some (ev_i u1), some (ev_i u2), some (ev_i (u3 + 1)), some (ev_i (u4 + 1))] [] S Q
          refine ev_goto 5 dX10_queued_55 (by decide) ?_
          exact hQ
set_option maxHeartbeats 4000000 in
set_option maxRecDepth 100000 in
theorem sg_X10_isRead_0 {g : ev_G} {S : ev_S} {Q : ev_O → ev_S → Prop} (a : Nat) (x0 : Int32) (hQ : (vp_in ((1200 + (11 * x0)) + 0) 2091) ∧ (
    (vp_in ((1200 + (11 * x0)) + 3) 2091) ∧ (
      (vp_in ((1200 + (11 * x0)) + 2) 2091) ∧ (
        ((S.1 (a + 1) ((1200 + (11 * x0)) + 2).toNatClampNeg) = 1 → (
          (vp_in ((762 + (6 * (S.1 (a + 1) ((1200 + (11 * x0)) + 3).toNatClampNeg))) + 5) 2091) ∧ (
            ((S.1 (a + 1) ((762 + (6 * (S.1 (a + 1) ((1200 + (11 * x0)) + 3).toNatClampNeg))) + 5).toNatClampNeg) = 1 → (
              ∀ S9 : ev_S, S9 = (ev_up S (a + 1) 5 ((S.1 (a + 1) 5) + 1)) → (
                ev_Cv g m_X10_appliesAll 4 0 [ev_o 10 a, ev_i (1 - (S.1 (a + 1) ((1200 + (11 * x0)) + 0).toNatClampNeg))] S9 (fun o S10 => o = .inl none ∧ (
                  Q (.inl none) S10))))) ∧
            (¬ ((S.1 (a + 1) ((762 + (6 * (S.1 (a + 1) ((1200 + (11 * x0)) + 3).toNatClampNeg))) + 5).toNatClampNeg) = 1) → (
              ∀ S7 : ev_S, S7 = (ev_up S (a + 1) ((762 + (6 * (S.1 (a + 1) ((1200 + (11 * x0)) + 3).toNatClampNeg))) + 5).toNatClampNeg 1) → (
                ev_Cv g m_X10_appliesAll 4 0 [ev_o 10 a, ev_i (1 - (S.1 (a + 1) ((1200 + (11 * x0)) + 0).toNatClampNeg))] S7 (fun o S8 => o = .inl none ∧ (
                  Q (.inl none) S8)))))))) ∧
        (¬ ((S.1 (a + 1) ((1200 + (11 * x0)) + 2).toNatClampNeg) = 1) → (
          (vp_in ((12 + (7 * (1 - (S.1 (a + 1) ((1200 + (11 * x0)) + 0).toNatClampNeg)))) + 0) 2091) ∧ (
            ((S.1 (a + 1) ((1200 + (11 * x0)) + 3).toNatClampNeg) ≤ (S.1 (a + 1) ((12 + (7 * (1 - (S.1 (a + 1) ((1200 + (11 * x0)) + 0).toNatClampNeg)))) + 0).toNatClampNeg) → (
              ∀ S1 : ev_S, S1 = (ev_up S (a + 1) 5 ((S.1 (a + 1) 5) + 1)) → (
                ev_Cv g m_X10_appliesAll 4 0 [ev_o 10 a, ev_i (1 - (S.1 (a + 1) ((1200 + (11 * x0)) + 0).toNatClampNeg))] S1 (fun o S2 => o = .inl none ∧ (
                  Q (.inl none) S2))))) ∧
            (¬ ((S.1 (a + 1) ((1200 + (11 * x0)) + 3).toNatClampNeg) ≤ (S.1 (a + 1) ((12 + (7 * (1 - (S.1 (a + 1) ((1200 + (11 * x0)) + 0).toNatClampNeg)))) + 0).toNatClampNeg)) → (
              (vp_in (((514 + (124 * (1 - (S.1 (a + 1) ((1200 + (11 * x0)) + 0).toNatClampNeg)))) + (2 * (S.1 (a + 1) ((1200 + (11 * x0)) + 3).toNatClampNeg))) + 0) 2091) ∧ (
                ((S.1 (a + 1) (((514 + (124 * (1 - (S.1 (a + 1) ((1200 + (11 * x0)) + 0).toNatClampNeg)))) + (2 * (S.1 (a + 1) ((1200 + (11 * x0)) + 3).toNatClampNeg))) + 0).toNatClampNeg) = (-1) → (
                  (vp_in ((1200 + (11 * x0)) + 4) 2091) ∧ (
                    (vp_in ((1200 + (11 * x0)) + 5) 2091) ∧ (
                      (vp_in ((514 + (124 * (1 - (S.1 (a + 1) ((1200 + (11 * x0)) + 0).toNatClampNeg)))) + (2 * (S.1 (a + 1) ((1200 + (11 * x0)) + 3).toNatClampNeg))) 2091) ∧ (
                        (vp_in (((514 + (124 * (1 - (S.1 (a + 1) ((1200 + (11 * x0)) + 0).toNatClampNeg)))) + (2 * (S.1 (a + 1) ((1200 + (11 * x0)) + 3).toNatClampNeg))) + 1) 2091) ∧ (
                          ∀ S3 : ev_S, S3 = (ev_up (ev_up S (a + 1) ((514 + (124 * (1 - (S.1 (a + 1) ((1200 + (11 * x0)) + 0).toNatClampNeg)))) + (2 * (S.1 (a + 1) ((1200 + (11 * x0)) + 3).toNatClampNeg))).toNatClampNeg (S.1 (a + 1) ((1200 + (11 * x0)) + 4).toNatClampNeg)) (a + 1) (((514 + (124 * (1 - (S.1 (a + 1) ((1200 + (11 * x0)) + 0).toNatClampNeg)))) + (2 * (S.1 (a + 1) ((1200 + (11 * x0)) + 3).toNatClampNeg))) + 1).toNatClampNeg (S.1 (a + 1) ((1200 + (11 * x0)) + 5).toNatClampNeg)) → (
                            ev_Cv g m_X10_appliesAll 4 0 [ev_o 10 a, ev_i (1 - (S.1 (a + 1) ((1200 + (11 * x0)) + 0).toNatClampNeg))] S3 (fun o S4 => o = .inl none ∧ (
                              Q (.inl none) S4))))))))) ∧
                (¬ ((S.1 (a + 1) (((514 + (124 * (1 - (S.1 (a + 1) ((1200 + (11 * x0)) + 0).toNatClampNeg)))) + (2 * (S.1 (a + 1) ((1200 + (11 * x0)) + 3).toNatClampNeg))) + 0).toNatClampNeg) = (-1)) → (
                  ∀ S5 : ev_S, S5 = (ev_up S (a + 1) 5 ((S.1 (a + 1) 5) + 1)) → (
                    ev_Cv g m_X10_appliesAll 4 0 [ev_o 10 a, ev_i (1 - (S.1 (a + 1) ((1200 + (11 * x0)) + 0).toNatClampNeg))] S5 (fun o S6 => o = .inl none ∧ (
                      Q (.inl none) S6))))))))))))))) : ev_Cv g m_X10_isRead 5 0 [ev_o 10 a, ev_i x0] S Q := by
  refine ev_enter (by decide) rfl rfl (Nat.le_of_ble_eq_true rfl) ?_
  show ev_E g m_X10_isRead 5 0 0 [some (ev_o 10 a), some (ev_i x0), none, none, none] [] S Q
  refine ev_iconst (1) dX10_isRead_0 rfl ?_
  refine ev_aload_n (ev_o 10 a) dX10_isRead_1 rfl rfl ?_
  refine ev_iload_n (x0) dX10_isRead_2 rfl ?_
  refine ev_iconst (0) dX10_isRead_3 rfl ?_
  obtain ⟨h1, hQ⟩ := hQ
  refine ev_fV mv_X10_ofL 1 10 [ev_i x0, ev_i 0] [ev_i 1] dX10_isRead_4 kw_2129 rfl (by decide) rfl (by decide) (Nat.le_of_ble_eq_true rfl) (sp_X10_ofL a x0 0 h1) ?_ rfl
  refine ev_isub dX10_isRead_7 ?_
  refine ev_istore_n dX10_isRead_8 (Nat.le_of_ble_eq_true rfl) (ev_hw rfl) ?_
  show ev_E g m_X10_isRead 5 0 9 [some (ev_o 10 a), some (ev_i x0), some (ev_i (1 - (S.1 (a + 1) ((1200 + (11 * x0)) + 0).toNatClampNeg))), none, none] [] S Q
  refine ev_aload_n (ev_o 10 a) dX10_isRead_9 rfl rfl ?_
  refine ev_iload_n (x0) dX10_isRead_10 rfl ?_
  refine ev_iconst (3) dX10_isRead_11 rfl ?_
  obtain ⟨h2, hQ⟩ := hQ
  refine ev_fV mv_X10_ofL 1 10 [ev_i x0, ev_i 3] [] dX10_isRead_12 kw_2129 rfl (by decide) rfl (by decide) (Nat.le_of_ble_eq_true rfl) (sp_X10_ofL a x0 3 h2) ?_ rfl
  refine ev_istore_n dX10_isRead_15 (Nat.le_of_ble_eq_true rfl) (ev_hw rfl) ?_
  show ev_E g m_X10_isRead 5 0 16 [some (ev_o 10 a), some (ev_i x0), some (ev_i (1 - (S.1 (a + 1) ((1200 + (11 * x0)) + 0).toNatClampNeg))), some (ev_i (S.1 (a + 1) ((1200 + (11 * x0)) + 3).toNatClampNeg)), none] [] S Q
  refine ev_aload_n (ev_o 10 a) dX10_isRead_16 rfl rfl ?_
  refine ev_iload_n (x0) dX10_isRead_17 rfl ?_
  refine ev_iconst (2) dX10_isRead_18 rfl ?_
  obtain ⟨h3, hQ⟩ := hQ
  refine ev_fV mv_X10_ofL 1 10 [ev_i x0, ev_i 2] [] dX10_isRead_19 kw_2129 rfl (by decide) rfl (by decide) (Nat.le_of_ble_eq_true rfl) (sp_X10_ofL a x0 2 h3) ?_ rfl
  refine ev_iconst (1) dX10_isRead_22 rfl ?_
  refine ev_icmp_ne 44 dX10_isRead_23 (by decide) (fun c1 => ?_) (fun c1 => ?_)
  · replace hQ := hQ.2 c1
    refine ev_iload_n ((S.1 (a + 1) ((1200 + (11 * x0)) + 3).toNatClampNeg)) dX10_isRead_44 rfl ?_
    refine ev_aload_n (ev_o 10 a) dX10_isRead_45 rfl rfl ?_
    refine ev_iload_n ((1 - (S.1 (a + 1) ((1200 + (11 * x0)) + 0).toNatClampNeg))) dX10_isRead_46 rfl ?_
    refine ev_iconst (0) dX10_isRead_47 rfl ?_
    obtain ⟨h4, hQ⟩ := hQ
    refine ev_fV mv_X10_ofP 1 10 [ev_i (1 - (S.1 (a + 1) ((1200 + (11 * x0)) + 0).toNatClampNeg)), ev_i 0] [ev_i (S.1 (a + 1) ((1200 + (11 * x0)) + 3).toNatClampNeg)] dX10_isRead_48 kw_2048 rfl (by decide) rfl (by decide) (Nat.le_of_ble_eq_true rfl) (sp_X10_ofP a (1 - (S.1 (a + 1) ((1200 + (11 * x0)) + 0).toNatClampNeg)) 0 h4) ?_ rfl
    refine ev_icmp_le 65 dX10_isRead_51 (by decide) (fun c2 => ?_) (fun c2 => ?_)
    · replace hQ := hQ.1 c2
      refine ev_iconst (1) dX10_isRead_65 rfl ?_
      refine ev_goto 70 dX10_isRead_66 (by decide) ?_
      refine ev_istore dX10_isRead_70 (Nat.le_of_ble_eq_true rfl) (ev_hw rfl) ?_
      show ev_E g m_X10_isRead 5 0 72 [some (ev_o 10 a), some (ev_i x0), some (ev_i (1 - (S.1 (a + 1) ((1200 + (11 * x0)) + 0).toNatClampNeg))), some (ev_i (S.1 (a + 1) ((1200 + (11 * x0)) + 3).toNatClampNeg)), some (ev_i 1)] [] S Q
      refine ev_iload (1) dX10_isRead_72 rfl ?_
      refine ev_if_eq 90 dX10_isRead_74 (by decide) (fun h9 => absurd h9 (by decide : ¬ ((1 : Int32) = 0))) (fun _ => ?_)
      refine ev_aload_n (ev_o 10 a) dX10_isRead_77 rfl rfl ?_
      refine gf_10_0 dX10_isRead_78 kw_1853 ?_
      refine ev_iconst (5) dX10_isRead_81 rfl ?_
      refine ev_dup2 dX10_isRead_82 rfl rfl ?_
      refine ev_iaload dX10_isRead_83 (j_vin (by decide)) ?_
      refine ev_iconst (1) dX10_isRead_84 rfl ?_
      refine ev_iadd dX10_isRead_85 ?_
      refine ev_iastore dX10_isRead_86 (j_vin (by decide)) ?_
      refine ev_sub hQ (fun S1 hS1 hQ => ?_)
      refine ev_E.goal (pc' := 87) (L' := [some (ev_o 10 a), some (ev_i x0), some (ev_i (1 - (S.1 (a + 1) ((1200 + (11 * x0)) + 0).toNatClampNeg))), some (ev_i (S.1 (a + 1) ((1200 + (11 * x0)) + 3).toNatClampNeg)), some (ev_i 1)]) (K' := []) (S' := S1) ?_ rfl rfl rfl hS1
      refine ev_goto 137 dX10_isRead_87 (by decide) ?_
      refine ev_aload_n (ev_o 10 a) dX10_isRead_137 rfl rfl ?_
      refine ev_iload_n ((1 - (S.1 (a + 1) ((1200 + (11 * x0)) + 0).toNatClampNeg))) dX10_isRead_138 rfl ?_
      refine ev_cV mv_X10_appliesAll 4 0 10 [ev_i (1 - (S.1 (a + 1) ((1200 + (11 * x0)) + 0).toNatClampNeg))] [] dX10_isRead_139 kw_2089 rfl (by decide) rfl (by decide) (by decide) (Nat.le_of_ble_eq_true rfl) hQ ?_ rfl
      rintro o S2 ⟨rfl, hQ⟩
      show ev_E g m_X10_isRead 5 0 142 [some (ev_o 10 a), some (ev_i x0), some (ev_i (1 - (S.1 (a + 1) ((1200 + (11 * x0)) + 0).toNatClampNeg))), some (ev_i (S.1 (a + 1) ((1200 + (11 * x0)) + 3).toNatClampNeg)), some (ev_i 1)] [] S2 Q
      exact ev_return dX10_isRead_142 rfl hQ
    · replace hQ := hQ.2 c2
      refine ev_aload_n (ev_o 10 a) dX10_isRead_54 rfl rfl ?_
      refine ev_iload_n ((1 - (S.1 (a + 1) ((1200 + (11 * x0)) + 0).toNatClampNeg))) dX10_isRead_55 rfl ?_
      refine ev_iload_n ((S.1 (a + 1) ((1200 + (11 * x0)) + 3).toNatClampNeg)) dX10_isRead_56 rfl ?_
      refine ev_iconst (0) dX10_isRead_57 rfl ?_
      obtain ⟨h5, hQ⟩ := hQ
      refine ev_fV mv_X10_storedAt 1 10 [ev_i (1 - (S.1 (a + 1) ((1200 + (11 * x0)) + 0).toNatClampNeg)), ev_i (S.1 (a + 1) ((1200 + (11 * x0)) + 3).toNatClampNeg), ev_i 0] [] dX10_isRead_58 kw_2093 rfl (by decide) rfl (by decide) (Nat.le_of_ble_eq_true rfl) (sp_X10_storedAt a (1 - (S.1 (a + 1) ((1200 + (11 * x0)) + 0).toNatClampNeg)) (S.1 (a + 1) ((1200 + (11 * x0)) + 3).toNatClampNeg) 0 h5) ?_ rfl
      refine ev_iconst (-1) dX10_isRead_61 rfl ?_
      refine ev_icmp_eq 69 dX10_isRead_62 (by decide) (fun c3 => ?_) (fun c3 => ?_)
      · replace hQ := hQ.1 c3
        refine ev_iconst (0) dX10_isRead_69 rfl ?_
        refine ev_istore dX10_isRead_70 (Nat.le_of_ble_eq_true rfl) (ev_hw rfl) ?_
        show ev_E g m_X10_isRead 5 0 72 [some (ev_o 10 a), some (ev_i x0), some (ev_i (1 - (S.1 (a + 1) ((1200 + (11 * x0)) + 0).toNatClampNeg))), some (ev_i (S.1 (a + 1) ((1200 + (11 * x0)) + 3).toNatClampNeg)), some (ev_i 0)] [] S Q
        refine ev_iload (0) dX10_isRead_72 rfl ?_
        refine ev_if_eq 90 dX10_isRead_74 (by decide) (fun _ => ?_) (fun h9 => absurd (by decide : ((0 : Int32) = 0)) h9)
        refine ev_aload_n (ev_o 10 a) dX10_isRead_90 rfl rfl ?_
        refine ev_iload_n (x0) dX10_isRead_91 rfl ?_
        refine ev_iconst (2) dX10_isRead_92 rfl ?_
        refine ev_fV mv_X10_ofL 1 10 [ev_i x0, ev_i 2] [] dX10_isRead_93 kw_2129 rfl (by decide) rfl (by decide) (Nat.le_of_ble_eq_true rfl) (sp_X10_ofL a x0 2 h3) ?_ rfl
        refine ev_iconst (1) dX10_isRead_96 rfl ?_
        refine ev_icmp_ne 119 dX10_isRead_97 (by decide) (fun _ => ?_) (fun h9 => absurd h9 c1)
        refine ev_aload_n (ev_o 10 a) dX10_isRead_119 rfl rfl ?_
        refine ev_iload_n ((1 - (S.1 (a + 1) ((1200 + (11 * x0)) + 0).toNatClampNeg))) dX10_isRead_120 rfl ?_
        refine ev_iload_n ((S.1 (a + 1) ((1200 + (11 * x0)) + 3).toNatClampNeg)) dX10_isRead_121 rfl ?_
        refine ev_aload_n (ev_o 10 a) dX10_isRead_122 rfl rfl ?_
        refine ev_iload_n (x0) dX10_isRead_123 rfl ?_
        refine ev_iconst (4) dX10_isRead_124 rfl ?_
        obtain ⟨h6, hQ⟩ := hQ
        refine ev_fV mv_X10_ofL 1 10 [ev_i x0, ev_i 4] [ev_i (S.1 (a + 1) ((1200 + (11 * x0)) + 3).toNatClampNeg), ev_i (1 - (S.1 (a + 1) ((1200 + (11 * x0)) + 0).toNatClampNeg)), ev_o 10 a] dX10_isRead_125 kw_2129 rfl (by decide) rfl (by decide) (Nat.le_of_ble_eq_true rfl) (sp_X10_ofL a x0 4 h6) ?_ rfl
        refine ev_aload_n (ev_o 10 a) dX10_isRead_128 rfl rfl ?_
        refine ev_iload_n (x0) dX10_isRead_129 rfl ?_
        refine ev_iconst (5) dX10_isRead_130 rfl ?_
        obtain ⟨h7, hQ⟩ := hQ
        refine ev_fV mv_X10_ofL 1 10 [ev_i x0, ev_i 5] [ev_i (S.1 (a + 1) ((1200 + (11 * x0)) + 4).toNatClampNeg), ev_i (S.1 (a + 1) ((1200 + (11 * x0)) + 3).toNatClampNeg), ev_i (1 - (S.1 (a + 1) ((1200 + (11 * x0)) + 0).toNatClampNeg)), ev_o 10 a] dX10_isRead_131 kw_2129 rfl (by decide) rfl (by decide) (Nat.le_of_ble_eq_true rfl) (sp_X10_ofL a x0 5 h7) ?_ rfl
        obtain ⟨h8, hQ⟩ := hQ
        obtain ⟨h9, hQ⟩ := hQ
        refine ev_fVn mv_X10_stores 1 10 [ev_i (1 - (S.1 (a + 1) ((1200 + (11 * x0)) + 0).toNatClampNeg)), ev_i (S.1 (a + 1) ((1200 + (11 * x0)) + 3).toNatClampNeg), ev_i (S.1 (a + 1) ((1200 + (11 * x0)) + 4).toNatClampNeg), ev_i (S.1 (a + 1) ((1200 + (11 * x0)) + 5).toNatClampNeg)] [] dX10_isRead_134 kw_2109 rfl (by decide) rfl (by decide) (Nat.le_of_ble_eq_true rfl) (sp_X10_stores a (1 - (S.1 (a + 1) ((1200 + (11 * x0)) + 0).toNatClampNeg)) (S.1 (a + 1) ((1200 + (11 * x0)) + 3).toNatClampNeg) (S.1 (a + 1) ((1200 + (11 * x0)) + 4).toNatClampNeg) (S.1 (a + 1) ((1200 + (11 * x0)) + 5).toNatClampNeg) h8 h9) ?_ rfl
        refine ev_sub hQ (fun S3 hS3 hQ => ?_)
        refine ev_E.goal (pc' := 137) (L' := [some (ev_o 10 a), some (ev_i x0), some (ev_i (1 - (S.1 (a + 1) ((1200 + (11 * x0)) + 0).toNatClampNeg))), some (ev_i (S.1 (a + 1) ((1200 + (11 * x0)) + 3).toNatClampNeg)), some (ev_i 0)]) (K' := []) (S' := S3) ?_ rfl rfl rfl hS3
        refine ev_aload_n (ev_o 10 a) dX10_isRead_137 rfl rfl ?_
        refine ev_iload_n ((1 - (S.1 (a + 1) ((1200 + (11 * x0)) + 0).toNatClampNeg))) dX10_isRead_138 rfl ?_
        refine ev_cV mv_X10_appliesAll 4 0 10 [ev_i (1 - (S.1 (a + 1) ((1200 + (11 * x0)) + 0).toNatClampNeg))] [] dX10_isRead_139 kw_2089 rfl (by decide) rfl (by decide) (by decide) (Nat.le_of_ble_eq_true rfl) hQ ?_ rfl
        rintro o S4 ⟨rfl, hQ⟩
        show ev_E g m_X10_isRead 5 0 142 [some (ev_o 10 a), some (ev_i x0), some (ev_i (1 - (S.1 (a + 1) ((1200 + (11 * x0)) + 0).toNatClampNeg))), some (ev_i (S.1 (a + 1) ((1200 + (11 * x0)) + 3).toNatClampNeg)), some (ev_i 0)] [] S4 Q
        exact ev_return dX10_isRead_142 rfl hQ
      · replace hQ := hQ.2 c3
        refine ev_iconst (1) dX10_isRead_65 rfl ?_
        refine ev_goto 70 dX10_isRead_66 (by decide) ?_
        refine ev_istore dX10_isRead_70 (Nat.le_of_ble_eq_true rfl) (ev_hw rfl) ?_
        show ev_E g m_X10_isRead 5 0 72 [some (ev_o 10 a), some (ev_i x0), some (ev_i (1 - (S.1 (a + 1) ((1200 + (11 * x0)) + 0).toNatClampNeg))), some (ev_i (S.1 (a + 1) ((1200 + (11 * x0)) + 3).toNatClampNeg)), some (ev_i 1)] [] S Q
        refine ev_iload (1) dX10_isRead_72 rfl ?_
        refine ev_if_eq 90 dX10_isRead_74 (by decide) (fun h9 => absurd h9 (by decide : ¬ ((1 : Int32) = 0))) (fun _ => ?_)
        refine ev_aload_n (ev_o 10 a) dX10_isRead_77 rfl rfl ?_
        refine gf_10_0 dX10_isRead_78 kw_1853 ?_
        refine ev_iconst (5) dX10_isRead_81 rfl ?_
        refine ev_dup2 dX10_isRead_82 rfl rfl ?_
        refine ev_iaload dX10_isRead_83 (j_vin (by decide)) ?_
        refine ev_iconst (1) dX10_isRead_84 rfl ?_
        refine ev_iadd dX10_isRead_85 ?_
        refine ev_iastore dX10_isRead_86 (j_vin (by decide)) ?_
        refine ev_sub hQ (fun S5 hS5 hQ => ?_)
        refine ev_E.goal (pc' := 87) (L' := [some (ev_o 10 a), some (ev_i x0), some (ev_i (1 - (S.1 (a + 1) ((1200 + (11 * x0)) + 0).toNatClampNeg))), some (ev_i (S.1 (a + 1) ((1200 + (11 * x0)) + 3).toNatClampNeg)), some (ev_i 1)]) (K' := []) (S' := S5) ?_ rfl rfl rfl hS5
        refine ev_goto 137 dX10_isRead_87 (by decide) ?_
        refine ev_aload_n (ev_o 10 a) dX10_isRead_137 rfl rfl ?_
        refine ev_iload_n ((1 - (S.1 (a + 1) ((1200 + (11 * x0)) + 0).toNatClampNeg))) dX10_isRead_138 rfl ?_
        refine ev_cV mv_X10_appliesAll 4 0 10 [ev_i (1 - (S.1 (a + 1) ((1200 + (11 * x0)) + 0).toNatClampNeg))] [] dX10_isRead_139 kw_2089 rfl (by decide) rfl (by decide) (by decide) (Nat.le_of_ble_eq_true rfl) hQ ?_ rfl
        rintro o S6 ⟨rfl, hQ⟩
        show ev_E g m_X10_isRead 5 0 142 [some (ev_o 10 a), some (ev_i x0), some (ev_i (1 - (S.1 (a + 1) ((1200 + (11 * x0)) + 0).toNatClampNeg))), some (ev_i (S.1 (a + 1) ((1200 + (11 * x0)) + 3).toNatClampNeg)), some (ev_i 1)] [] S6 Q
        exact ev_return dX10_isRead_142 rfl hQ
  · replace hQ := hQ.1 c1
    refine ev_aload_n (ev_o 10 a) dX10_isRead_26 rfl rfl ?_
    refine ev_iload_n ((S.1 (a + 1) ((1200 + (11 * x0)) + 3).toNatClampNeg)) dX10_isRead_27 rfl ?_
    refine ev_iconst (5) dX10_isRead_28 rfl ?_
    obtain ⟨h10, hQ⟩ := hQ
    refine ev_fV mv_X10_promised 1 10 [ev_i (S.1 (a + 1) ((1200 + (11 * x0)) + 3).toNatClampNeg), ev_i 5] [] dX10_isRead_29 kw_2101 rfl (by decide) rfl (by decide) (Nat.le_of_ble_eq_true rfl) (sp_X10_promised a (S.1 (a + 1) ((1200 + (11 * x0)) + 3).toNatClampNeg) 5 h10) ?_ rfl
    refine ev_iconst (1) dX10_isRead_32 rfl ?_
    refine ev_icmp_ne 40 dX10_isRead_33 (by decide) (fun c4 => ?_) (fun c4 => ?_)
    · replace hQ := hQ.2 c4
      refine ev_iconst (0) dX10_isRead_40 rfl ?_
      refine ev_goto 70 dX10_isRead_41 (by decide) ?_
      refine ev_istore dX10_isRead_70 (Nat.le_of_ble_eq_true rfl) (ev_hw rfl) ?_
      show ev_E g m_X10_isRead 5 0 72 [some (ev_o 10 a), some (ev_i x0), some (ev_i (1 - (S.1 (a + 1) ((1200 + (11 * x0)) + 0).toNatClampNeg))), some (ev_i (S.1 (a + 1) ((1200 + (11 * x0)) + 3).toNatClampNeg)), some (ev_i 0)] [] S Q
      refine ev_iload (0) dX10_isRead_72 rfl ?_
      refine ev_if_eq 90 dX10_isRead_74 (by decide) (fun _ => ?_) (fun h9 => absurd (by decide : ((0 : Int32) = 0)) h9)
      refine ev_aload_n (ev_o 10 a) dX10_isRead_90 rfl rfl ?_
      refine ev_iload_n (x0) dX10_isRead_91 rfl ?_
      refine ev_iconst (2) dX10_isRead_92 rfl ?_
      refine ev_fV mv_X10_ofL 1 10 [ev_i x0, ev_i 2] [] dX10_isRead_93 kw_2129 rfl (by decide) rfl (by decide) (Nat.le_of_ble_eq_true rfl) (sp_X10_ofL a x0 2 h3) ?_ rfl
      refine ev_iconst (1) dX10_isRead_96 rfl ?_
      refine ev_icmp_ne 119 dX10_isRead_97 (by decide) (fun h9 => absurd c1 h9) (fun _ => ?_)
      refine ev_aload_n (ev_o 10 a) dX10_isRead_100 rfl rfl ?_
      refine gf_10_0 dX10_isRead_101 kw_1853 ?_
      refine ev_sipush (762) dX10_isRead_104 (by decide) ?_
      refine ev_bipush (6) dX10_isRead_107 (by decide) ?_
      refine ev_iload_n ((S.1 (a + 1) ((1200 + (11 * x0)) + 3).toNatClampNeg)) dX10_isRead_109 rfl ?_
      refine ev_imul dX10_isRead_110 ?_
      refine ev_iadd dX10_isRead_111 ?_
      refine ev_iconst (5) dX10_isRead_112 rfl ?_
      refine ev_iadd dX10_isRead_113 ?_
      refine ev_iconst (1) dX10_isRead_114 rfl ?_
      refine ev_iastore dX10_isRead_115 h10 ?_
      refine ev_sub hQ (fun S7 hS7 hQ => ?_)
      refine ev_E.goal (pc' := 116) (L' := [some (ev_o 10 a), some (ev_i x0), some (ev_i (1 - (S.1 (a + 1) ((1200 + (11 * x0)) + 0).toNatClampNeg))), some (ev_i (S.1 (a + 1) ((1200 + (11 * x0)) + 3).toNatClampNeg)), some (ev_i 0)]) (K' := []) (S' := S7) ?_ rfl rfl rfl hS7
      refine ev_goto 137 dX10_isRead_116 (by decide) ?_
      refine ev_aload_n (ev_o 10 a) dX10_isRead_137 rfl rfl ?_
      refine ev_iload_n ((1 - (S.1 (a + 1) ((1200 + (11 * x0)) + 0).toNatClampNeg))) dX10_isRead_138 rfl ?_
      refine ev_cV mv_X10_appliesAll 4 0 10 [ev_i (1 - (S.1 (a + 1) ((1200 + (11 * x0)) + 0).toNatClampNeg))] [] dX10_isRead_139 kw_2089 rfl (by decide) rfl (by decide) (by decide) (Nat.le_of_ble_eq_true rfl) hQ ?_ rfl
      rintro o S8 ⟨rfl, hQ⟩
      show ev_E g m_X10_isRead 5 0 142 [some (ev_o 10 a), some (ev_i x0), some (ev_i (1 - (S.1 (a + 1) ((1200 + (11 * x0)) + 0).toNatClampNeg))), some (ev_i (S.1 (a + 1) ((1200 + (11 * x0)) + 3).toNatClampNeg)), some (ev_i 0)] [] S8 Q
      exact ev_return dX10_isRead_142 rfl hQ
    · replace hQ := hQ.1 c4
      refine ev_iconst (1) dX10_isRead_36 rfl ?_
      refine ev_goto 70 dX10_isRead_37 (by decide) ?_
      refine ev_istore dX10_isRead_70 (Nat.le_of_ble_eq_true rfl) (ev_hw rfl) ?_
      show ev_E g m_X10_isRead 5 0 72 [some (ev_o 10 a), some (ev_i x0), some (ev_i (1 - (S.1 (a + 1) ((1200 + (11 * x0)) + 0).toNatClampNeg))), some (ev_i (S.1 (a + 1) ((1200 + (11 * x0)) + 3).toNatClampNeg)), some (ev_i 1)] [] S Q
      refine ev_iload (1) dX10_isRead_72 rfl ?_
      refine ev_if_eq 90 dX10_isRead_74 (by decide) (fun h9 => absurd h9 (by decide : ¬ ((1 : Int32) = 0))) (fun _ => ?_)
      refine ev_aload_n (ev_o 10 a) dX10_isRead_77 rfl rfl ?_
      refine gf_10_0 dX10_isRead_78 kw_1853 ?_
      refine ev_iconst (5) dX10_isRead_81 rfl ?_
      refine ev_dup2 dX10_isRead_82 rfl rfl ?_
      refine ev_iaload dX10_isRead_83 (j_vin (by decide)) ?_
      refine ev_iconst (1) dX10_isRead_84 rfl ?_
      refine ev_iadd dX10_isRead_85 ?_
      refine ev_iastore dX10_isRead_86 (j_vin (by decide)) ?_
      refine ev_sub hQ (fun S9 hS9 hQ => ?_)
      refine ev_E.goal (pc' := 87) (L' := [some (ev_o 10 a), some (ev_i x0), some (ev_i (1 - (S.1 (a + 1) ((1200 + (11 * x0)) + 0).toNatClampNeg))), some (ev_i (S.1 (a + 1) ((1200 + (11 * x0)) + 3).toNatClampNeg)), some (ev_i 1)]) (K' := []) (S' := S9) ?_ rfl rfl rfl hS9
      refine ev_goto 137 dX10_isRead_87 (by decide) ?_
      refine ev_aload_n (ev_o 10 a) dX10_isRead_137 rfl rfl ?_
      refine ev_iload_n ((1 - (S.1 (a + 1) ((1200 + (11 * x0)) + 0).toNatClampNeg))) dX10_isRead_138 rfl ?_
      refine ev_cV mv_X10_appliesAll 4 0 10 [ev_i (1 - (S.1 (a + 1) ((1200 + (11 * x0)) + 0).toNatClampNeg))] [] dX10_isRead_139 kw_2089 rfl (by decide) rfl (by decide) (by decide) (Nat.le_of_ble_eq_true rfl) hQ ?_ rfl
      rintro o S10 ⟨rfl, hQ⟩
      show ev_E g m_X10_isRead 5 0 142 [some (ev_o 10 a), some (ev_i x0), some (ev_i (1 - (S.1 (a + 1) ((1200 + (11 * x0)) + 0).toNatClampNeg))), some (ev_i (S.1 (a + 1) ((1200 + (11 * x0)) + 3).toNatClampNeg)), some (ev_i 1)] [] S10 Q
      exact ev_return dX10_isRead_142 rfl hQ
set_option maxHeartbeats 4000000 in
set_option maxRecDepth 100000 in
theorem sg_X10_arrives_0 {g : ev_G} {S : ev_S} {Q : ev_O → ev_S → Prop} (a : Nat) (x0 : Int32) (hQ : (vp_in ((1200 + (11 * x0)) + 1) 2091) ∧ (
    (vp_in ((1200 + (11 * x0)) + 0) 2091) ∧ (
      (vp_in ((1200 + (11 * x0)) + 6) 2091) ∧ (
        ∀ S1 : ev_S, S1 = (ev_up S (a + 1) ((1200 + (11 * x0)) + 6).toNatClampNeg 2) → (
          (vp_in ((1200 + (11 * x0)) + 10) 2091) ∧ (
            ∀ S2 : ev_S, S2 = (ev_up S1 (a + 1) ((1200 + (11 * x0)) + 10).toNatClampNeg (S1.1 (a + 1) 2)) → (
              (vp_in ((1140 + (15 * (S.1 (a + 1) ((1200 + (11 * x0)) + 1).toNatClampNeg))) + (1 + (1 - (S.1 (a + 1) ((1200 + (11 * x0)) + 0).toNatClampNeg)))) 2091) ∧ (
                ∀ S3 : ev_S, S3 = (ev_up S2 (a + 1) ((1140 + (15 * (S.1 (a + 1) ((1200 + (11 * x0)) + 1).toNatClampNeg))) + (1 + (1 - (S.1 (a + 1) ((1200 + (11 * x0)) + 0).toNatClampNeg)))).toNatClampNeg ((S2.1 (a + 1) ((1140 + (15 * (S.1 (a + 1) ((1200 + (11 * x0)) + 1).toNatClampNeg))) + (1 + (1 - (S.1 (a + 1) ((1200 + (11 * x0)) + 0).toNatClampNeg)))).toNatClampNeg) + 1)) → (
                  (vp_in ((1200 + (11 * x0)) + 7) 2091) ∧ (
                    ∀ S4 : ev_S, S4 = (ev_up S3 (a + 1) 7 ((S3.1 (a + 1) 7) + ((S3.1 (a + 1) 2) - (S3.1 (a + 1) ((1200 + (11 * x0)) + 7).toNatClampNeg)))) → (
                      ∀ S5 : ev_S, S5 = (ev_up S4 (a + 1) 8 ((S3.1 (a + 1) 8) + 1)) → (
                        (x0 = (S.1 a 8) → (
                          Q (.inl none) S5)) ∧
                        (¬ (x0 = (S.1 a 8)) → (
                          ev_Cv g m_X10_isRead 5 0 [ev_o 10 a, ev_i x0] S5 (fun o S6 => o = .inl none ∧ (
                            Q (.inl none) S6)))))))))))))))) : ev_Cv g m_X10_arrives 6 0 [ev_o 10 a, ev_i x0] S Q := by
  refine ev_enter (by decide) rfl rfl (Nat.le_of_ble_eq_true rfl) ?_
  show ev_E g m_X10_arrives 6 0 0 [some (ev_o 10 a), some (ev_i x0), none, none] [] S Q
  refine ev_aload_n (ev_o 10 a) dX10_arrives_0 rfl rfl ?_
  refine ev_iload_n (x0) dX10_arrives_1 rfl ?_
  refine ev_iconst (1) dX10_arrives_2 rfl ?_
  obtain ⟨h1, hQ⟩ := hQ
  refine ev_fV mv_X10_ofL 1 10 [ev_i x0, ev_i 1] [] dX10_arrives_3 kw_2129 rfl (by decide) rfl (by decide) (Nat.le_of_ble_eq_true rfl) (sp_X10_ofL a x0 1 h1) ?_ rfl
  refine ev_istore_n dX10_arrives_6 (Nat.le_of_ble_eq_true rfl) (ev_hw rfl) ?_
  show ev_E g m_X10_arrives 6 0 7 [some (ev_o 10 a), some (ev_i x0), some (ev_i (S.1 (a + 1) ((1200 + (11 * x0)) + 1).toNatClampNeg)), none] [] S Q
  refine ev_iconst (1) dX10_arrives_7 rfl ?_
  refine ev_aload_n (ev_o 10 a) dX10_arrives_8 rfl rfl ?_
  refine ev_iload_n (x0) dX10_arrives_9 rfl ?_
  refine ev_iconst (0) dX10_arrives_10 rfl ?_
  obtain ⟨h2, hQ⟩ := hQ
  refine ev_fV mv_X10_ofL 1 10 [ev_i x0, ev_i 0] [ev_i 1] dX10_arrives_11 kw_2129 rfl (by decide) rfl (by decide) (Nat.le_of_ble_eq_true rfl) (sp_X10_ofL a x0 0 h2) ?_ rfl
  refine ev_isub dX10_arrives_14 ?_
  refine ev_istore_n dX10_arrives_15 (Nat.le_of_ble_eq_true rfl) (ev_hw rfl) ?_
  show ev_E g m_X10_arrives 6 0 16 [some (ev_o 10 a), some (ev_i x0), some (ev_i (S.1 (a + 1) ((1200 + (11 * x0)) + 1).toNatClampNeg)), some (ev_i (1 - (S.1 (a + 1) ((1200 + (11 * x0)) + 0).toNatClampNeg)))] [] S Q
  refine ev_aload_n (ev_o 10 a) dX10_arrives_16 rfl rfl ?_
  refine ev_iload_n (x0) dX10_arrives_17 rfl ?_
  refine ev_bipush (6) dX10_arrives_18 (by decide) ?_
  refine ev_iconst (2) dX10_arrives_20 rfl ?_
  obtain ⟨h3, hQ⟩ := hQ
  refine ev_fVn mv_X10_putL 1 10 [ev_i x0, ev_i 6, ev_i 2] [] dX10_arrives_21 kw_2085 rfl (by decide) rfl (by decide) (Nat.le_of_ble_eq_true rfl) (sp_X10_putL a x0 6 2 h3) ?_ rfl
  refine ev_sub hQ (fun S1 hS1 hQ => ?_)
  refine ev_E.goal (pc' := 24) (L' := [some (ev_o 10 a), some (ev_i x0), some (ev_i (S.1 (a + 1) ((1200 + (11 * x0)) + 1).toNatClampNeg)), some (ev_i (1 - (S.1 (a + 1) ((1200 + (11 * x0)) + 0).toNatClampNeg)))]) (K' := []) (S' := S1) ?_ rfl rfl rfl hS1
  refine ev_aload_n (ev_o 10 a) dX10_arrives_24 rfl rfl ?_
  refine ev_iload_n (x0) dX10_arrives_25 rfl ?_
  refine ev_bipush (10) dX10_arrives_26 (by decide) ?_
  refine ev_aload_n (ev_o 10 a) dX10_arrives_28 rfl rfl ?_
  refine gf_10_0 dX10_arrives_29 kw_1853 ?_
  refine ev_iconst (2) dX10_arrives_32 rfl ?_
  refine ev_iaload dX10_arrives_33 (j_vin (by decide)) ?_
  obtain ⟨h4, hQ⟩ := hQ
  refine ev_fVn mv_X10_putL 1 10 [ev_i x0, ev_i 10, ev_i (S1.1 (a + 1) 2)] [] dX10_arrives_34 kw_2085 rfl (by decide) rfl (by decide) (Nat.le_of_ble_eq_true rfl) (sp_X10_putL a x0 10 (S1.1 (a + 1) 2) h4) ?_ rfl
  refine ev_sub hQ (fun S2 hS2 hQ => ?_)
  refine ev_E.goal (pc' := 37) (L' := [some (ev_o 10 a), some (ev_i x0), some (ev_i (S.1 (a + 1) ((1200 + (11 * x0)) + 1).toNatClampNeg)), some (ev_i (1 - (S.1 (a + 1) ((1200 + (11 * x0)) + 0).toNatClampNeg)))]) (K' := []) (S' := S2) ?_ rfl rfl rfl hS2
  refine ev_aload_n (ev_o 10 a) dX10_arrives_37 rfl rfl ?_
  refine ev_iload_n ((S.1 (a + 1) ((1200 + (11 * x0)) + 1).toNatClampNeg)) dX10_arrives_38 rfl ?_
  refine ev_iconst (1) dX10_arrives_39 rfl ?_
  refine ev_iload_n ((1 - (S.1 (a + 1) ((1200 + (11 * x0)) + 0).toNatClampNeg))) dX10_arrives_40 rfl ?_
  refine ev_iadd dX10_arrives_41 ?_
  refine ev_aload_n (ev_o 10 a) dX10_arrives_42 rfl rfl ?_
  refine ev_iload_n ((S.1 (a + 1) ((1200 + (11 * x0)) + 1).toNatClampNeg)) dX10_arrives_43 rfl ?_
  refine ev_iconst (1) dX10_arrives_44 rfl ?_
  refine ev_iload_n ((1 - (S.1 (a + 1) ((1200 + (11 * x0)) + 0).toNatClampNeg))) dX10_arrives_45 rfl ?_
  refine ev_iadd dX10_arrives_46 ?_
  obtain ⟨h5, hQ⟩ := hQ
  refine ev_fV mv_X10_ofPass 1 10 [ev_i (S.1 (a + 1) ((1200 + (11 * x0)) + 1).toNatClampNeg), ev_i (1 + (1 - (S.1 (a + 1) ((1200 + (11 * x0)) + 0).toNatClampNeg)))] [ev_i (1 + (1 - (S.1 (a + 1) ((1200 + (11 * x0)) + 0).toNatClampNeg))), ev_i (S.1 (a + 1) ((1200 + (11 * x0)) + 1).toNatClampNeg), ev_o 10 a] dX10_arrives_47 kw_2161 rfl (by decide) rfl (by decide) (Nat.le_of_ble_eq_true rfl) (sp_X10_ofPass a (S.1 (a + 1) ((1200 + (11 * x0)) + 1).toNatClampNeg) (1 + (1 - (S.1 (a + 1) ((1200 + (11 * x0)) + 0).toNatClampNeg))) h5) ?_ rfl
  refine ev_iconst (1) dX10_arrives_50 rfl ?_
  refine ev_iadd dX10_arrives_51 ?_
  refine ev_fVn mv_X10_putPass 1 10 [ev_i (S.1 (a + 1) ((1200 + (11 * x0)) + 1).toNatClampNeg), ev_i (1 + (1 - (S.1 (a + 1) ((1200 + (11 * x0)) + 0).toNatClampNeg))), ev_i ((S2.1 (a + 1) ((1140 + (15 * (S.1 (a + 1) ((1200 + (11 * x0)) + 1).toNatClampNeg))) + (1 + (1 - (S.1 (a + 1) ((1200 + (11 * x0)) + 0).toNatClampNeg)))).toNatClampNeg) + 1)] [] dX10_arrives_52 kw_1844 rfl (by decide) rfl (by decide) (Nat.le_of_ble_eq_true rfl) (sp_X10_putPass a (S.1 (a + 1) ((1200 + (11 * x0)) + 1).toNatClampNeg) (1 + (1 - (S.1 (a + 1) ((1200 + (11 * x0)) + 0).toNatClampNeg))) ((S2.1 (a + 1) ((1140 + (15 * (S.1 (a + 1) ((1200 + (11 * x0)) + 1).toNatClampNeg))) + (1 + (1 - (S.1 (a + 1) ((1200 + (11 * x0)) + 0).toNatClampNeg)))).toNatClampNeg) + 1) h5) ?_ rfl
  refine ev_sub hQ (fun S3 hS3 hQ => ?_)
  refine ev_E.goal (pc' := 55) (L' := [some (ev_o 10 a), some (ev_i x0), some (ev_i (S.1 (a + 1) ((1200 + (11 * x0)) + 1).toNatClampNeg)), some (ev_i (1 - (S.1 (a + 1) ((1200 + (11 * x0)) + 0).toNatClampNeg)))]) (K' := []) (S' := S3) ?_ rfl rfl rfl hS3
  refine ev_aload_n (ev_o 10 a) dX10_arrives_55 rfl rfl ?_
  refine gf_10_0 dX10_arrives_56 kw_1853 ?_
  refine ev_bipush (7) dX10_arrives_59 (by decide) ?_
  refine ev_dup2 dX10_arrives_61 rfl rfl ?_
  refine ev_iaload dX10_arrives_62 (j_vin (by decide)) ?_
  refine ev_aload_n (ev_o 10 a) dX10_arrives_63 rfl rfl ?_
  refine gf_10_0 dX10_arrives_64 kw_1853 ?_
  refine ev_iconst (2) dX10_arrives_67 rfl ?_
  refine ev_iaload dX10_arrives_68 (j_vin (by decide)) ?_
  refine ev_aload_n (ev_o 10 a) dX10_arrives_69 rfl rfl ?_
  refine ev_iload_n (x0) dX10_arrives_70 rfl ?_
  refine ev_bipush (7) dX10_arrives_71 (by decide) ?_
  obtain ⟨h6, hQ⟩ := hQ
  refine ev_fV mv_X10_ofL 1 10 [ev_i x0, ev_i 7] [ev_i (S3.1 (a + 1) 2), ev_i (S3.1 (a + 1) 7), ev_i 7, ev_y 2091 (a + 1)] dX10_arrives_73 kw_2129 rfl (by decide) rfl (by decide) (Nat.le_of_ble_eq_true rfl) (sp_X10_ofL a x0 7 h6) ?_ rfl
  refine ev_isub dX10_arrives_76 ?_
  refine ev_iadd dX10_arrives_77 ?_
  refine ev_iastore dX10_arrives_78 (j_vin (by decide)) ?_
  refine ev_sub hQ (fun S4 hS4 hQ => ?_)
  refine ev_E.goal (pc' := 79) (L' := [some (ev_o 10 a), some (ev_i x0), some (ev_i (S.1 (a + 1) ((1200 + (11 * x0)) + 1).toNatClampNeg)), some (ev_i (1 - (S.1 (a + 1) ((1200 + (11 * x0)) + 0).toNatClampNeg)))]) (K' := []) (S' := S4) ?_ rfl rfl rfl hS4
  refine ev_aload_n (ev_o 10 a) dX10_arrives_79 rfl rfl ?_
  refine gf_10_0 dX10_arrives_80 kw_1853 ?_
  refine ev_bipush (8) dX10_arrives_83 (by decide) ?_
  refine ev_dup2 dX10_arrives_85 rfl rfl ?_
  refine ev_iaload dX10_arrives_86 (j_vin (by decide)) ?_
  refine ev_ke (j_rk hS4 (Or.inr (by decide))) ?_
  refine ev_iconst (1) dX10_arrives_87 rfl ?_
  refine ev_iadd dX10_arrives_88 ?_
  refine ev_iastore dX10_arrives_89 (j_vin (by decide)) ?_
  refine ev_sub hQ (fun S5 hS5 hQ => ?_)
  refine ev_E.goal (pc' := 90) (L' := [some (ev_o 10 a), some (ev_i x0), some (ev_i (S.1 (a + 1) ((1200 + (11 * x0)) + 1).toNatClampNeg)), some (ev_i (1 - (S.1 (a + 1) ((1200 + (11 * x0)) + 0).toNatClampNeg)))]) (K' := []) (S' := S5) ?_ rfl rfl rfl hS5
  refine ev_iload_n (x0) dX10_arrives_90 rfl ?_
  refine ev_aload_n (ev_o 10 a) dX10_arrives_91 rfl rfl ?_
  refine gf_10_8 dX10_arrives_92 kw_1861 ?_
  refine ev_ke (((((j_rk hS5 (Or.inl (by omega))).trans (j_rk hS4 (Or.inl (by omega)))).trans (j_rk hS3 (Or.inl (by omega)))).trans (j_rk hS2 (Or.inl (by omega)))).trans (j_rk hS1 (Or.inl (by omega)))) ?_
  refine ev_icmp_eq 103 dX10_arrives_95 (by decide) (fun c1 => ?_) (fun c1 => ?_)
  · replace hQ := hQ.1 c1
    exact ev_return dX10_arrives_103 rfl hQ
  · replace hQ := hQ.2 c1
    refine ev_aload_n (ev_o 10 a) dX10_arrives_98 rfl rfl ?_
    refine ev_iload_n (x0) dX10_arrives_99 rfl ?_
    refine ev_cV mv_X10_isRead 5 0 10 [ev_i x0] [] dX10_arrives_100 kw_2169 rfl (by decide) rfl (by decide) (by decide) (Nat.le_of_ble_eq_true rfl) hQ ?_ rfl
    rintro o S6 ⟨rfl, hQ⟩
    show ev_E g m_X10_arrives 6 0 103 [some (ev_o 10 a), some (ev_i x0), some (ev_i (S.1 (a + 1) ((1200 + (11 * x0)) + 1).toNatClampNeg)), some (ev_i (1 - (S.1 (a + 1) ((1200 + (11 * x0)) + 0).toNatClampNeg)))] [] S6 Q
    exact ev_return dX10_arrives_103 rfl hQ
set_option maxHeartbeats 4000000 in
set_option maxRecDepth 100000 in
theorem sg_X10_nextUnderWay_0 {g : ev_G} {S : ev_S} {Q : ev_O → ev_S → Prop} (a : Nat) (x0 : Int32) (hQ : ev_E g m_X10_nextUnderWay 2 0 4 [some (ev_o 10 a), some (ev_i x0), some (ev_i (-1)), some (ev_i 0)] [] S Q) : ev_Cv g m_X10_nextUnderWay 2 0 [ev_o 10 a, ev_i x0] S Q := by
  refine ev_enter (by decide) rfl rfl (Nat.le_of_ble_eq_true rfl) ?_
  show ev_E g m_X10_nextUnderWay 2 0 0 [some (ev_o 10 a), some (ev_i x0), none, none] [] S Q
  refine ev_iconst (-1) dX10_nextUnderWay_0 rfl ?_
  refine ev_istore_n dX10_nextUnderWay_1 (Nat.le_of_ble_eq_true rfl) (ev_hw rfl) ?_
  show ev_E g m_X10_nextUnderWay 2 0 2 [some (ev_o 10 a), some (ev_i x0), some (ev_i (-1)), none] [] S Q
  refine ev_iconst (0) dX10_nextUnderWay_2 rfl ?_
  refine ev_istore_n dX10_nextUnderWay_3 (Nat.le_of_ble_eq_true rfl) (ev_hw rfl) ?_
  show ev_E g m_X10_nextUnderWay 2 0 4 [some (ev_o 10 a), some (ev_i x0), some (ev_i (-1)), some (ev_i 0)] [] S Q
  exact hQ
set_option maxHeartbeats 4000000 in
set_option maxRecDepth 100000 in
theorem sg_X10_nextUnderWay_4 {g : ev_G} {S : ev_S} {Q : ev_O → ev_S → Prop} (a : Nat) (u1 : Int32) (u2 : Int32) (u3 : Int32) (hQ : ((S.1 (a + 1) 4) ≤ u3 → (
    Q (.inl (some (ev_i u2))) S)) ∧
  (¬ ((S.1 (a + 1) 4) ≤ u3) → (
    (vp_in ((1200 + (11 * u3)) + 6) 2091) ∧ (
      ((S.1 (a + 1) ((1200 + (11 * u3)) + 6).toNatClampNeg) = 1 → (
        (vp_in ((1200 + (11 * u3)) + 8) 2091) ∧ (
          ((S.1 (a + 1) ((1200 + (11 * u3)) + 8).toNatClampNeg) ≤ u1 → (
            ev_E g m_X10_nextUnderWay 2 0 4 [some (ev_o 10 a), some (ev_i u1), some (ev_i u2), some (ev_i (u3 + 1))] [] S Q)) ∧
          (¬ ((S.1 (a + 1) ((1200 + (11 * u3)) + 8).toNatClampNeg) ≤ u1) → (
            (u2 = (-1) → (
              ev_E g m_X10_nextUnderWay 2 0 4 [some (ev_o 10 a), some (ev_i u1), some (ev_i u3), some (ev_i (u3 + 1))] [] S Q)) ∧
            (¬ (u2 = (-1)) → (
              (vp_in ((1200 + (11 * u2)) + 8) 2091) ∧ (
                ((S.1 (a + 1) ((1200 + (11 * u2)) + 8).toNatClampNeg) ≤ (S.1 (a + 1) ((1200 + (11 * u3)) + 8).toNatClampNeg) → (
                  ev_E g m_X10_nextUnderWay 2 0 4 [some (ev_o 10 a), some (ev_i u1), some (ev_i u2), some (ev_i (u3 + 1))] [] S Q)) ∧
                (¬ ((S.1 (a + 1) ((1200 + (11 * u2)) + 8).toNatClampNeg) ≤ (S.1 (a + 1) ((1200 + (11 * u3)) + 8).toNatClampNeg)) → (
                  ev_E g m_X10_nextUnderWay 2 0 4 [some (ev_o 10 a), some (ev_i u1), some (ev_i u3), some (ev_i (u3 + 1))] [] S Q)))))))))) ∧
      (¬ ((S.1 (a + 1) ((1200 + (11 * u3)) + 6).toNatClampNeg) = 1) → (
        ev_E g m_X10_nextUnderWay 2 0 4 [some (ev_o 10 a), some (ev_i u1), some (ev_i u2), some (ev_i (u3 + 1))] [] S Q)))))) : ev_E g m_X10_nextUnderWay 2 0 4 [some (ev_o 10 a), some (ev_i u1), some (ev_i u2), some (ev_i u3)] [] S Q := by
  refine ev_iload_n (u3) dX10_nextUnderWay_4 rfl ?_
  refine ev_aload_n (ev_o 10 a) dX10_nextUnderWay_5 rfl rfl ?_
  refine gf_10_0 dX10_nextUnderWay_6 kw_1853 ?_
  refine ev_iconst (4) dX10_nextUnderWay_9 rfl ?_
  refine ev_iaload dX10_nextUnderWay_10 (j_vin (by decide)) ?_
  refine ev_icmp_ge 66 dX10_nextUnderWay_11 (by decide) (fun c1 => ?_) (fun c1 => ?_)
  · replace hQ := hQ.1 c1
    refine ev_iload_n (u2) dX10_nextUnderWay_66 rfl ?_
    exact ev_ireturn .int dX10_nextUnderWay_67 rfl rfl hQ
  · replace hQ := hQ.2 c1
    refine ev_aload_n (ev_o 10 a) dX10_nextUnderWay_14 rfl rfl ?_
    refine ev_iload_n (u3) dX10_nextUnderWay_15 rfl ?_
    refine ev_bipush (6) dX10_nextUnderWay_16 (by decide) ?_
    obtain ⟨h1, hQ⟩ := hQ
    refine ev_fV mv_X10_ofL 1 10 [ev_i u3, ev_i 6] [] dX10_nextUnderWay_18 kw_2129 rfl (by decide) rfl (by decide) (Nat.le_of_ble_eq_true rfl) (sp_X10_ofL a u3 6 h1) ?_ rfl
    refine ev_iconst (1) dX10_nextUnderWay_21 rfl ?_
    refine ev_icmp_ne 60 dX10_nextUnderWay_22 (by decide) (fun c2 => ?_) (fun c2 => ?_)
    · replace hQ := hQ.2 c2
      refine ev_iinc u3 (1) dX10_nextUnderWay_60 rfl (by decide) (ev_hw rfl) ?_
      show ev_E g m_X10_nextUnderWay 2 0 63 [some (ev_o 10 a), some (ev_i u1), some (ev_i u2), some (ev_i (u3 + 1))] [] S Q
      refine ev_goto 4 dX10_nextUnderWay_63 (by decide) ?_
      exact hQ
    · replace hQ := hQ.1 c2
      refine ev_aload_n (ev_o 10 a) dX10_nextUnderWay_25 rfl rfl ?_
      refine ev_iload_n (u3) dX10_nextUnderWay_26 rfl ?_
      refine ev_bipush (8) dX10_nextUnderWay_27 (by decide) ?_
      obtain ⟨h2, hQ⟩ := hQ
      refine ev_fV mv_X10_ofL 1 10 [ev_i u3, ev_i 8] [] dX10_nextUnderWay_29 kw_2129 rfl (by decide) rfl (by decide) (Nat.le_of_ble_eq_true rfl) (sp_X10_ofL a u3 8 h2) ?_ rfl
      refine ev_iload_n (u1) dX10_nextUnderWay_32 rfl ?_
      refine ev_icmp_le 60 dX10_nextUnderWay_33 (by decide) (fun c3 => ?_) (fun c3 => ?_)
      · replace hQ := hQ.1 c3
        refine ev_iinc u3 (1) dX10_nextUnderWay_60 rfl (by decide) (ev_hw rfl) ?_
        show ev_E g m_X10_nextUnderWay 2 0 63 [some (ev_o 10 a), some (ev_i u1), some (ev_i u2), some (ev_i (u3 + 1))] [] S Q
        refine ev_goto 4 dX10_nextUnderWay_63 (by decide) ?_
        exact hQ
      · replace hQ := hQ.2 c3
        refine ev_iload_n (u2) dX10_nextUnderWay_36 rfl ?_
        refine ev_iconst (-1) dX10_nextUnderWay_37 rfl ?_
        refine ev_icmp_eq 58 dX10_nextUnderWay_38 (by decide) (fun c4 => ?_) (fun c4 => ?_)
        · replace hQ := hQ.1 c4
          refine ev_iload_n (u3) dX10_nextUnderWay_58 rfl ?_
          refine ev_istore_n dX10_nextUnderWay_59 (Nat.le_of_ble_eq_true rfl) (ev_hw rfl) ?_
          show ev_E g m_X10_nextUnderWay 2 0 60 [some (ev_o 10 a), some (ev_i u1), some (ev_i u3), some (ev_i u3)] [] S Q
          refine ev_iinc u3 (1) dX10_nextUnderWay_60 rfl (by decide) (ev_hw rfl) ?_
          show ev_E g m_X10_nextUnderWay 2 0 63 [some (ev_o 10 a), some (ev_i u1), some (ev_i u3), some (ev_i (u3 + 1))] [] S Q
          refine ev_goto 4 dX10_nextUnderWay_63 (by decide) ?_
          exact hQ
        · replace hQ := hQ.2 c4
          refine ev_aload_n (ev_o 10 a) dX10_nextUnderWay_41 rfl rfl ?_
          refine ev_iload_n (u3) dX10_nextUnderWay_42 rfl ?_
          refine ev_bipush (8) dX10_nextUnderWay_43 (by decide) ?_
          refine ev_fV mv_X10_ofL 1 10 [ev_i u3, ev_i 8] [] dX10_nextUnderWay_45 kw_2129 rfl (by decide) rfl (by decide) (Nat.le_of_ble_eq_true rfl) (sp_X10_ofL a u3 8 h2) ?_ rfl
          refine ev_aload_n (ev_o 10 a) dX10_nextUnderWay_48 rfl rfl ?_
          refine ev_iload_n (u2) dX10_nextUnderWay_49 rfl ?_
          refine ev_bipush (8) dX10_nextUnderWay_50 (by decide) ?_
          obtain ⟨h3, hQ⟩ := hQ
          refine ev_fV mv_X10_ofL 1 10 [ev_i u2, ev_i 8] [ev_i (S.1 (a + 1) ((1200 + (11 * u3)) + 8).toNatClampNeg)] dX10_nextUnderWay_52 kw_2129 rfl (by decide) rfl (by decide) (Nat.le_of_ble_eq_true rfl) (sp_X10_ofL a u2 8 h3) ?_ rfl
          refine ev_icmp_ge 60 dX10_nextUnderWay_55 (by decide) (fun c5 => ?_) (fun c5 => ?_)
          · replace hQ := hQ.1 c5
            refine ev_iinc u3 (1) dX10_nextUnderWay_60 rfl (by decide) (ev_hw rfl) ?_
            show ev_E g m_X10_nextUnderWay 2 0 63 [some (ev_o 10 a), some (ev_i u1), some (ev_i u2), some (ev_i (u3 + 1))] [] S Q
            refine ev_goto 4 dX10_nextUnderWay_63 (by decide) ?_
            exact hQ
          · replace hQ := hQ.2 c5
            refine ev_iload_n (u3) dX10_nextUnderWay_58 rfl ?_
            refine ev_istore_n dX10_nextUnderWay_59 (Nat.le_of_ble_eq_true rfl) (ev_hw rfl) ?_
            show ev_E g m_X10_nextUnderWay 2 0 60 [some (ev_o 10 a), some (ev_i u1), some (ev_i u3), some (ev_i u3)] [] S Q
            refine ev_iinc u3 (1) dX10_nextUnderWay_60 rfl (by decide) (ev_hw rfl) ?_
            show ev_E g m_X10_nextUnderWay 2 0 63 [some (ev_o 10 a), some (ev_i u1), some (ev_i u3), some (ev_i (u3 + 1))] [] S Q
            refine ev_goto 4 dX10_nextUnderWay_63 (by decide) ?_
            exact hQ
set_option maxHeartbeats 4000000 in
set_option maxRecDepth 100000 in
theorem sg_X10_goesOn_0 {g : ev_G} {S : ev_S} {Q : ev_O → ev_S → Prop} (a : Nat) (x0 : Int32) (hQ : (vp_in ((1200 + (11 * x0)) + 1) 2091) ∧ (
    (vp_in ((1140 + (15 * (S.1 (a + 1) ((1200 + (11 * x0)) + 1).toNatClampNeg))) + (3 + (ev_rem ((S.1 (a + 1) 2) / 30) 12))) 2091) ∧ (
      ((t_X10_isClosed S a (S.1 (a + 1) ((1200 + (11 * x0)) + 1).toNatClampNeg)) = true → (
        Q (.inl none) S)) ∧
      (¬ ((t_X10_isClosed S a (S.1 (a + 1) ((1200 + (11 * x0)) + 1).toNatClampNeg)) = true) → (
        (vp_in ((1200 + (11 * x0)) + 9) 2091) ∧ (
          ∀ S1 : ev_S, S1 = (ev_up S (a + 1) ((1200 + (11 * x0)) + 9).toNatClampNeg ((S.1 (a + 1) ((1200 + (11 * x0)) + 9).toNatClampNeg) - 1)) → (
            (((S.1 (a + 1) ((1200 + (11 * x0)) + 9).toNatClampNeg) - 1) = 0 → (
              ev_Cv g m_X10_arrives 6 0 [ev_o 10 a, ev_i x0] S1 (fun o S2 => o = .inl none ∧ (
                Q (.inl none) S2)))) ∧
            (¬ (((S.1 (a + 1) ((1200 + (11 * x0)) + 9).toNatClampNeg) - 1) = 0) → (
              Q (.inl none) S1))))))))) : ev_Cv g m_X10_goesOn 7 0 [ev_o 10 a, ev_i x0] S Q := by
  refine ev_enter (by decide) rfl rfl (Nat.le_of_ble_eq_true rfl) ?_
  show ev_E g m_X10_goesOn 7 0 0 [some (ev_o 10 a), some (ev_i x0)] [] S Q
  refine ev_aload_n (ev_o 10 a) dX10_goesOn_0 rfl rfl ?_
  refine ev_aload_n (ev_o 10 a) dX10_goesOn_1 rfl rfl ?_
  refine ev_iload_n (x0) dX10_goesOn_2 rfl ?_
  refine ev_iconst (1) dX10_goesOn_3 rfl ?_
  obtain ⟨h1, hQ⟩ := hQ
  refine ev_fV mv_X10_ofL 1 10 [ev_i x0, ev_i 1] [ev_o 10 a] dX10_goesOn_4 kw_2129 rfl (by decide) rfl (by decide) (Nat.le_of_ble_eq_true rfl) (sp_X10_ofL a x0 1 h1) ?_ rfl
  obtain ⟨h2, hQ⟩ := hQ
  refine ev_fV mv_X10_isClosed 3 10 [ev_i (S.1 (a + 1) ((1200 + (11 * x0)) + 1).toNatClampNeg)] [] dX10_goesOn_7 kw_2149 rfl (by decide) rfl (by decide) (Nat.le_of_ble_eq_true rfl) (sp_X10_isClosed a (S.1 (a + 1) ((1200 + (11 * x0)) + 1).toNatClampNeg) h2) ?_ rfl
  by_cases c1 : (t_X10_isClosed S a (S.1 (a + 1) ((1200 + (11 * x0)) + 1).toNatClampNeg)) = true
  · rw [if_pos c1]
    replace hQ := hQ.1 c1
    refine ev_if_eq 14 dX10_goesOn_10 (by decide) (fun h9 => absurd h9 (by decide : ¬ ((1 : Int32) = 0))) (fun _ => ?_)
    exact ev_return dX10_goesOn_13 rfl hQ
  · rw [if_neg c1]
    replace hQ := hQ.2 c1
    refine ev_if_eq 14 dX10_goesOn_10 (by decide) (fun _ => ?_) (fun h9 => absurd (by decide : ((0 : Int32) = 0)) h9)
    refine ev_aload_n (ev_o 10 a) dX10_goesOn_14 rfl rfl ?_
    refine ev_iload_n (x0) dX10_goesOn_15 rfl ?_
    refine ev_bipush (9) dX10_goesOn_16 (by decide) ?_
    refine ev_aload_n (ev_o 10 a) dX10_goesOn_18 rfl rfl ?_
    refine ev_iload_n (x0) dX10_goesOn_19 rfl ?_
    refine ev_bipush (9) dX10_goesOn_20 (by decide) ?_
    obtain ⟨h3, hQ⟩ := hQ
    refine ev_fV mv_X10_ofL 1 10 [ev_i x0, ev_i 9] [ev_i 9, ev_i x0, ev_o 10 a] dX10_goesOn_22 kw_2129 rfl (by decide) rfl (by decide) (Nat.le_of_ble_eq_true rfl) (sp_X10_ofL a x0 9 h3) ?_ rfl
    refine ev_iconst (1) dX10_goesOn_25 rfl ?_
    refine ev_isub dX10_goesOn_26 ?_
    refine ev_fVn mv_X10_putL 1 10 [ev_i x0, ev_i 9, ev_i ((S.1 (a + 1) ((1200 + (11 * x0)) + 9).toNatClampNeg) - 1)] [] dX10_goesOn_27 kw_2085 rfl (by decide) rfl (by decide) (Nat.le_of_ble_eq_true rfl) (sp_X10_putL a x0 9 ((S.1 (a + 1) ((1200 + (11 * x0)) + 9).toNatClampNeg) - 1) h3) ?_ rfl
    refine ev_sub hQ (fun S1 hS1 hQ => ?_)
    refine ev_E.goal (pc' := 30) (L' := [some (ev_o 10 a), some (ev_i x0)]) (K' := []) (S' := S1) ?_ rfl rfl rfl hS1
    refine ev_aload_n (ev_o 10 a) dX10_goesOn_30 rfl rfl ?_
    refine ev_iload_n (x0) dX10_goesOn_31 rfl ?_
    refine ev_bipush (9) dX10_goesOn_32 (by decide) ?_
    refine ev_fV mv_X10_ofL 1 10 [ev_i x0, ev_i 9] [] dX10_goesOn_34 kw_2129 rfl (by decide) rfl (by decide) (Nat.le_of_ble_eq_true rfl) (sp_X10_ofL a x0 9 h3) ?_ rfl
    refine ev_ke (j_rs hS1) ?_
    refine ev_if_ne 45 dX10_goesOn_37 (by decide) (fun c2 => ?_) (fun c2 => ?_)
    · replace hQ := hQ.2 c2
      exact ev_return dX10_goesOn_45 rfl hQ
    · replace hQ := hQ.1 c2
      refine ev_aload_n (ev_o 10 a) dX10_goesOn_40 rfl rfl ?_
      refine ev_iload_n (x0) dX10_goesOn_41 rfl ?_
      refine ev_cV mv_X10_arrives 6 0 10 [ev_i x0] [] dX10_goesOn_42 kw_2165 rfl (by decide) rfl (by decide) (by decide) (Nat.le_of_ble_eq_true rfl) hQ ?_ rfl
      rintro o S2 ⟨rfl, hQ⟩
      show ev_E g m_X10_goesOn 7 0 45 [some (ev_o 10 a), some (ev_i x0)] [] S2 Q
      exact ev_return dX10_goesOn_45 rfl hQ
set_option maxHeartbeats 4000000 in
set_option maxRecDepth 100000 in
theorem sg_X10_leave_0 {g : ev_G} {S : ev_S} {Q : ev_O → ev_S → Prop} (a : Nat) (x0 : Int32) (x1 : Int32) (hQ : ev_Cv g m_X10_firstInQueue 2 0 [ev_o 10 a, ev_i x0, ev_i x1] S (fun o S1 => ∃ v1_ : Int32, o = .inl (some (ev_i v1_)) ∧ (
    ev_E g m_X10_leave 3 0 7 [some (ev_o 10 a), some (ev_i x0), some (ev_i x1), some (ev_i v1_)] [] S1 Q))) : ev_Cv g m_X10_leave 3 0 [ev_o 10 a, ev_i x0, ev_i x1] S Q := by
  refine ev_enter (by decide) rfl rfl (Nat.le_of_ble_eq_true rfl) ?_
  show ev_E g m_X10_leave 3 0 0 [some (ev_o 10 a), some (ev_i x0), some (ev_i x1), none] [] S Q
  refine ev_aload_n (ev_o 10 a) dX10_leave_0 rfl rfl ?_
  refine ev_iload_n (x0) dX10_leave_1 rfl ?_
  refine ev_iload_n (x1) dX10_leave_2 rfl ?_
  refine ev_cV mv_X10_firstInQueue 2 0 10 [ev_i x0, ev_i x1] [] dX10_leave_3 kw_2177 rfl (by decide) rfl (by decide) (by decide) (Nat.le_of_ble_eq_true rfl) hQ ?_ rfl
  rintro o S1 ⟨v1_, rfl, hQ⟩
  show ev_E g m_X10_leave 3 0 6 [some (ev_o 10 a), some (ev_i x0), some (ev_i x1), none] [ev_i v1_] S1 Q
  refine ev_istore_n dX10_leave_6 (Nat.le_of_ble_eq_true rfl) (ev_hw rfl) ?_
  show ev_E g m_X10_leave 3 0 7 [some (ev_o 10 a), some (ev_i x0), some (ev_i x1), some (ev_i v1_)] [] S1 Q
  exact hQ
set_option maxHeartbeats 4000000 in
set_option maxRecDepth 100000 in
theorem sg_X10_leave_7 {g : ev_G} {S : ev_S} {Q : ev_O → ev_S → Prop} (a : Nat) (u1 : Int32) (u2 : Int32) (u3 : Int32) (hQ : (u3 = (-1) → (
    Q (.inl none) S)) ∧
  (¬ (u3 = (-1)) → (
    (vp_in ((1140 + (15 * u1)) + (1 + u2)) 2091) ∧ (
      ((S.1 (a + 1) ((1140 + (15 * u1)) + (1 + u2)).toNatClampNeg) ≤ 0 → (
        Q (.inl none) S)) ∧
      (¬ ((S.1 (a + 1) ((1140 + (15 * u1)) + (1 + u2)).toNatClampNeg) ≤ 0) → (
        ∀ S1 : ev_S, S1 = (ev_up S (a + 1) ((1140 + (15 * u1)) + (1 + u2)).toNatClampNeg ((S.1 (a + 1) ((1140 + (15 * u1)) + (1 + u2)).toNatClampNeg) - 1)) → (
          ∀ S2 : ev_S, S2 = (ev_up S1 (a + 1) 6 ((S1.1 (a + 1) 6) + 1)) → (
            (vp_in ((1200 + (11 * u3)) + 6) 2091) ∧ (
              ∀ S3 : ev_S, S3 = (ev_up S2 (a + 1) ((1200 + (11 * u3)) + 6).toNatClampNeg 1) → (
                (vp_in ((1200 + (11 * u3)) + 8) 2091) ∧ (
                  ∀ S4 : ev_S, S4 = (ev_up S3 (a + 1) ((1200 + (11 * u3)) + 8).toNatClampNeg (S3.1 (a + 1) 6)) → (
                    (vp_in ((1140 + (15 * u1)) + 0) 2091) ∧ (
                      (vp_in ((1140 + (15 * u1)) + (3 + (ev_rem ((S4.1 (a + 1) 2) / 30) 12))) 2091) ∧ (
                        (vp_in ((1200 + (11 * u3)) + 9) 2091) ∧ (
                          ∀ S5 : ev_S, S5 = (ev_up S4 (a + 1) ((1200 + (11 * u3)) + 9).toNatClampNeg ((S4.1 (a + 1) ((1140 + (15 * u1)) + 0).toNatClampNeg) + (S4.1 (a + 1) ((1140 + (15 * u1)) + (3 + (ev_rem ((S4.1 (a + 1) 2) / 30) 12))).toNatClampNeg))) → (
                            ev_Cv g m_X10_firstInQueue 2 0 [ev_o 10 a, ev_i u1, ev_i u2] S5 (fun o S6 => ∃ v1_ : Int32, o = .inl (some (ev_i v1_)) ∧ (
                              ev_E g m_X10_leave 3 0 7 [some (ev_o 10 a), some (ev_i u1), some (ev_i u2), some (ev_i v1_)] [] S6 Q)))))))))))))))))) : ev_E g m_X10_leave 3 0 7 [some (ev_o 10 a), some (ev_i u1), some (ev_i u2), some (ev_i u3)] [] S Q := by
  refine ev_iload_n (u3) dX10_leave_7 rfl ?_
  refine ev_iconst (-1) dX10_leave_8 rfl ?_
  refine ev_icmp_eq 103 dX10_leave_9 (by decide) (fun c1 => ?_) (fun c1 => ?_)
  · replace hQ := hQ.1 c1
    exact ev_return dX10_leave_103 rfl hQ
  · replace hQ := hQ.2 c1
    refine ev_aload_n (ev_o 10 a) dX10_leave_12 rfl rfl ?_
    refine ev_iload_n (u1) dX10_leave_13 rfl ?_
    refine ev_iconst (1) dX10_leave_14 rfl ?_
    refine ev_iload_n (u2) dX10_leave_15 rfl ?_
    refine ev_iadd dX10_leave_16 ?_
    obtain ⟨h1, hQ⟩ := hQ
    refine ev_fV mv_X10_ofPass 1 10 [ev_i u1, ev_i (1 + u2)] [] dX10_leave_17 kw_2161 rfl (by decide) rfl (by decide) (Nat.le_of_ble_eq_true rfl) (sp_X10_ofPass a u1 (1 + u2) h1) ?_ rfl
    refine ev_if_le 103 dX10_leave_20 (by decide) (fun c2 => ?_) (fun c2 => ?_)
    · replace hQ := hQ.1 c2
      exact ev_return dX10_leave_103 rfl hQ
    · replace hQ := hQ.2 c2
      refine ev_aload_n (ev_o 10 a) dX10_leave_23 rfl rfl ?_
      refine ev_iload_n (u1) dX10_leave_24 rfl ?_
      refine ev_iconst (1) dX10_leave_25 rfl ?_
      refine ev_iload_n (u2) dX10_leave_26 rfl ?_
      refine ev_iadd dX10_leave_27 ?_
      refine ev_aload_n (ev_o 10 a) dX10_leave_28 rfl rfl ?_
      refine ev_iload_n (u1) dX10_leave_29 rfl ?_
      refine ev_iconst (1) dX10_leave_30 rfl ?_
      refine ev_iload_n (u2) dX10_leave_31 rfl ?_
      refine ev_iadd dX10_leave_32 ?_
      refine ev_fV mv_X10_ofPass 1 10 [ev_i u1, ev_i (1 + u2)] [ev_i (1 + u2), ev_i u1, ev_o 10 a] dX10_leave_33 kw_2161 rfl (by decide) rfl (by decide) (Nat.le_of_ble_eq_true rfl) (sp_X10_ofPass a u1 (1 + u2) h1) ?_ rfl
      refine ev_iconst (1) dX10_leave_36 rfl ?_
      refine ev_isub dX10_leave_37 ?_
      refine ev_fVn mv_X10_putPass 1 10 [ev_i u1, ev_i (1 + u2), ev_i ((S.1 (a + 1) ((1140 + (15 * u1)) + (1 + u2)).toNatClampNeg) - 1)] [] dX10_leave_38 kw_1844 rfl (by decide) rfl (by decide) (Nat.le_of_ble_eq_true rfl) (sp_X10_putPass a u1 (1 + u2) ((S.1 (a + 1) ((1140 + (15 * u1)) + (1 + u2)).toNatClampNeg) - 1) h1) ?_ rfl
      refine ev_sub hQ (fun S1 hS1 hQ => ?_)
      refine ev_E.goal (pc' := 41) (L' := [some (ev_o 10 a), some (ev_i u1), some (ev_i u2), some (ev_i u3)]) (K' := []) (S' := S1) ?_ rfl rfl rfl hS1
      refine ev_aload_n (ev_o 10 a) dX10_leave_41 rfl rfl ?_
      refine gf_10_0 dX10_leave_42 kw_1853 ?_
      refine ev_bipush (6) dX10_leave_45 (by decide) ?_
      refine ev_dup2 dX10_leave_47 rfl rfl ?_
      refine ev_iaload dX10_leave_48 (j_vin (by decide)) ?_
      refine ev_iconst (1) dX10_leave_49 rfl ?_
      refine ev_iadd dX10_leave_50 ?_
      refine ev_iastore dX10_leave_51 (j_vin (by decide)) ?_
      refine ev_sub hQ (fun S2 hS2 hQ => ?_)
      refine ev_E.goal (pc' := 52) (L' := [some (ev_o 10 a), some (ev_i u1), some (ev_i u2), some (ev_i u3)]) (K' := []) (S' := S2) ?_ rfl rfl rfl hS2
      refine ev_aload_n (ev_o 10 a) dX10_leave_52 rfl rfl ?_
      refine ev_iload_n (u3) dX10_leave_53 rfl ?_
      refine ev_bipush (6) dX10_leave_54 (by decide) ?_
      refine ev_iconst (1) dX10_leave_56 rfl ?_
      obtain ⟨h2, hQ⟩ := hQ
      refine ev_fVn mv_X10_putL 1 10 [ev_i u3, ev_i 6, ev_i 1] [] dX10_leave_57 kw_2085 rfl (by decide) rfl (by decide) (Nat.le_of_ble_eq_true rfl) (sp_X10_putL a u3 6 1 h2) ?_ rfl
      refine ev_sub hQ (fun S3 hS3 hQ => ?_)
      refine ev_E.goal (pc' := 60) (L' := [some (ev_o 10 a), some (ev_i u1), some (ev_i u2), some (ev_i u3)]) (K' := []) (S' := S3) ?_ rfl rfl rfl hS3
      refine ev_aload_n (ev_o 10 a) dX10_leave_60 rfl rfl ?_
      refine ev_iload_n (u3) dX10_leave_61 rfl ?_
      refine ev_bipush (8) dX10_leave_62 (by decide) ?_
      refine ev_aload_n (ev_o 10 a) dX10_leave_64 rfl rfl ?_
      refine gf_10_0 dX10_leave_65 kw_1853 ?_
      refine ev_bipush (6) dX10_leave_68 (by decide) ?_
      refine ev_iaload dX10_leave_70 (j_vin (by decide)) ?_
      obtain ⟨h3, hQ⟩ := hQ
      refine ev_fVn mv_X10_putL 1 10 [ev_i u3, ev_i 8, ev_i (S3.1 (a + 1) 6)] [] dX10_leave_71 kw_2085 rfl (by decide) rfl (by decide) (Nat.le_of_ble_eq_true rfl) (sp_X10_putL a u3 8 (S3.1 (a + 1) 6) h3) ?_ rfl
      refine ev_sub hQ (fun S4 hS4 hQ => ?_)
      refine ev_E.goal (pc' := 74) (L' := [some (ev_o 10 a), some (ev_i u1), some (ev_i u2), some (ev_i u3)]) (K' := []) (S' := S4) ?_ rfl rfl rfl hS4
      refine ev_aload_n (ev_o 10 a) dX10_leave_74 rfl rfl ?_
      refine ev_iload_n (u3) dX10_leave_75 rfl ?_
      refine ev_bipush (9) dX10_leave_76 (by decide) ?_
      refine ev_aload_n (ev_o 10 a) dX10_leave_78 rfl rfl ?_
      refine ev_iload_n (u1) dX10_leave_79 rfl ?_
      refine ev_iconst (0) dX10_leave_80 rfl ?_
      obtain ⟨h4, hQ⟩ := hQ
      refine ev_fV mv_X10_ofPass 1 10 [ev_i u1, ev_i 0] [ev_i 9, ev_i u3, ev_o 10 a] dX10_leave_81 kw_2161 rfl (by decide) rfl (by decide) (Nat.le_of_ble_eq_true rfl) (sp_X10_ofPass a u1 0 h4) ?_ rfl
      refine ev_aload_n (ev_o 10 a) dX10_leave_84 rfl rfl ?_
      refine ev_iload_n (u1) dX10_leave_85 rfl ?_
      obtain ⟨h5, hQ⟩ := hQ
      refine ev_fV mv_X10_snowNow 2 10 [ev_i u1] [ev_i (S4.1 (a + 1) ((1140 + (15 * u1)) + 0).toNatClampNeg), ev_i 9, ev_i u3, ev_o 10 a] dX10_leave_86 kw_2153 rfl (by decide) rfl (by decide) (Nat.le_of_ble_eq_true rfl) (sp_X10_snowNow a u1 h5) ?_ rfl
      refine ev_iadd dX10_leave_89 ?_
      obtain ⟨h6, hQ⟩ := hQ
      refine ev_fVn mv_X10_putL 1 10 [ev_i u3, ev_i 9, ev_i ((S4.1 (a + 1) ((1140 + (15 * u1)) + 0).toNatClampNeg) + (S4.1 (a + 1) ((1140 + (15 * u1)) + (3 + (ev_rem ((S4.1 (a + 1) 2) / 30) 12))).toNatClampNeg))] [] dX10_leave_90 kw_2085 rfl (by decide) rfl (by decide) (Nat.le_of_ble_eq_true rfl) (sp_X10_putL a u3 9 ((S4.1 (a + 1) ((1140 + (15 * u1)) + 0).toNatClampNeg) + (S4.1 (a + 1) ((1140 + (15 * u1)) + (3 + (ev_rem ((S4.1 (a + 1) 2) / 30) 12))).toNatClampNeg)) h6) ?_ rfl
      refine ev_sub hQ (fun S5 hS5 hQ => ?_)
      refine ev_E.goal (pc' := 93) (L' := [some (ev_o 10 a), some (ev_i u1), some (ev_i u2), some (ev_i u3)]) (K' := []) (S' := S5) ?_ rfl rfl rfl hS5
      refine ev_aload_n (ev_o 10 a) dX10_leave_93 rfl rfl ?_
      refine ev_iload_n (u1) dX10_leave_94 rfl ?_
      refine ev_iload_n (u2) dX10_leave_95 rfl ?_
      refine ev_cV mv_X10_firstInQueue 2 0 10 [ev_i u1, ev_i u2] [] dX10_leave_96 kw_2177 rfl (by decide) rfl (by decide) (by decide) (Nat.le_of_ble_eq_true rfl) hQ ?_ rfl
      rintro o S6 ⟨v1_, rfl, hQ⟩
      show ev_E g m_X10_leave 3 0 99 [some (ev_o 10 a), some (ev_i u1), some (ev_i u2), some (ev_i u3)] [ev_i v1_] S6 Q
      refine ev_istore_n dX10_leave_99 (Nat.le_of_ble_eq_true rfl) (ev_hw rfl) ?_
      show ev_E g m_X10_leave 3 0 100 [some (ev_o 10 a), some (ev_i u1), some (ev_i u2), some (ev_i v1_)] [] S6 Q
      refine ev_goto 7 dX10_leave_100 (by decide) ?_
      exact hQ
set_option maxHeartbeats 4000000 in
set_option maxRecDepth 100000 in
theorem sg_X10_dayPasses_0 {g : ev_G} {S : ev_S} {Q : ev_O → ev_S → Prop} (a : Nat) (hQ : ∀ S1 : ev_S, S1 = (ev_up S (a + 1) 2 ((S.1 (a + 1) 2) + 1)) → (
    ev_Cv g m_X10_nextUnderWay 2 0 [ev_o 10 a, ev_i 0] S1 (fun o S2 => ∃ v1_ : Int32, o = .inl (some (ev_i v1_)) ∧ (
      ev_E g m_X10_dayPasses 8 0 16 [some (ev_o 10 a), some (ev_i v1_)] [] S2 Q)))) : ev_Cv g m_X10_dayPasses 8 0 [ev_o 10 a] S Q := by
  refine ev_enter (by decide) rfl rfl (Nat.le_of_ble_eq_true rfl) ?_
  show ev_E g m_X10_dayPasses 8 0 0 [some (ev_o 10 a), none] [] S Q
  refine ev_aload_n (ev_o 10 a) dX10_dayPasses_0 rfl rfl ?_
  refine gf_10_0 dX10_dayPasses_1 kw_1853 ?_
  refine ev_iconst (2) dX10_dayPasses_4 rfl ?_
  refine ev_dup2 dX10_dayPasses_5 rfl rfl ?_
  refine ev_iaload dX10_dayPasses_6 (j_vin (by decide)) ?_
  refine ev_iconst (1) dX10_dayPasses_7 rfl ?_
  refine ev_iadd dX10_dayPasses_8 ?_
  refine ev_iastore dX10_dayPasses_9 (j_vin (by decide)) ?_
  refine ev_sub hQ (fun S1 hS1 hQ => ?_)
  refine ev_E.goal (pc' := 10) (L' := [some (ev_o 10 a), none]) (K' := []) (S' := S1) ?_ rfl rfl rfl hS1
  refine ev_aload_n (ev_o 10 a) dX10_dayPasses_10 rfl rfl ?_
  refine ev_iconst (0) dX10_dayPasses_11 rfl ?_
  refine ev_cV mv_X10_nextUnderWay 2 0 10 [ev_i 0] [] dX10_dayPasses_12 kw_2141 rfl (by decide) rfl (by decide) (by decide) (Nat.le_of_ble_eq_true rfl) hQ ?_ rfl
  rintro o S2 ⟨v1_, rfl, hQ⟩
  show ev_E g m_X10_dayPasses 8 0 15 [some (ev_o 10 a), none] [ev_i v1_] S2 Q
  refine ev_istore_n dX10_dayPasses_15 (Nat.le_of_ble_eq_true rfl) (ev_hw rfl) ?_
  show ev_E g m_X10_dayPasses 8 0 16 [some (ev_o 10 a), some (ev_i v1_)] [] S2 Q
  exact hQ
set_option maxHeartbeats 4000000 in
set_option maxRecDepth 100000 in
theorem sg_X10_dayPasses_16 {g : ev_G} {S : ev_S} {Q : ev_O → ev_S → Prop} (a : Nat) (u1 : Int32) (hQ : (u1 = (-1) → (
    ev_E g m_X10_dayPasses 8 0 43 [some (ev_o 10 a), some (ev_i 0)] [] S Q)) ∧
  (¬ (u1 = (-1)) → (
    ev_Cv g m_X10_goesOn 7 0 [ev_o 10 a, ev_i u1] S (fun o S1 => o = .inl none ∧ (
      (vp_in ((1200 + (11 * u1)) + 8) 2091) ∧ (
        ev_Cv g m_X10_nextUnderWay 2 0 [ev_o 10 a, ev_i (S1.1 (a + 1) ((1200 + (11 * u1)) + 8).toNatClampNeg)] S1 (fun o S2 => ∃ v2_ : Int32, o = .inl (some (ev_i v2_)) ∧ (
          ev_E g m_X10_dayPasses 8 0 16 [some (ev_o 10 a), some (ev_i v2_)] [] S2 Q)))))))) : ev_E g m_X10_dayPasses 8 0 16 [some (ev_o 10 a), some (ev_i u1)] [] S Q := by
  refine ev_iload_n (u1) dX10_dayPasses_16 rfl ?_
  refine ev_iconst (-1) dX10_dayPasses_17 rfl ?_
  refine ev_icmp_eq 41 dX10_dayPasses_18 (by decide) (fun c1 => ?_) (fun c1 => ?_)
  · replace hQ := hQ.1 c1
    refine ev_iconst (0) dX10_dayPasses_41 rfl ?_
    refine ev_istore_n dX10_dayPasses_42 (Nat.le_of_ble_eq_true rfl) (ev_hw rfl) ?_
    show ev_E g m_X10_dayPasses 8 0 43 [some (ev_o 10 a), some (ev_i 0)] [] S Q
    exact hQ
  · replace hQ := hQ.2 c1
    refine ev_aload_n (ev_o 10 a) dX10_dayPasses_21 rfl rfl ?_
    refine ev_iload_n (u1) dX10_dayPasses_22 rfl ?_
    refine ev_cV mv_X10_goesOn 7 0 10 [ev_i u1] [] dX10_dayPasses_23 kw_2145 rfl (by decide) rfl (by decide) (by decide) (Nat.le_of_ble_eq_true rfl) hQ ?_ rfl
    rintro o S1 ⟨rfl, hQ⟩
    show ev_E g m_X10_dayPasses 8 0 26 [some (ev_o 10 a), some (ev_i u1)] [] S1 Q
    refine ev_aload_n (ev_o 10 a) dX10_dayPasses_26 rfl rfl ?_
    refine ev_aload_n (ev_o 10 a) dX10_dayPasses_27 rfl rfl ?_
    refine ev_iload_n (u1) dX10_dayPasses_28 rfl ?_
    refine ev_bipush (8) dX10_dayPasses_29 (by decide) ?_
    obtain ⟨h1, hQ⟩ := hQ
    refine ev_fV mv_X10_ofL 1 10 [ev_i u1, ev_i 8] [ev_o 10 a] dX10_dayPasses_31 kw_2129 rfl (by decide) rfl (by decide) (Nat.le_of_ble_eq_true rfl) (sp_X10_ofL a u1 8 h1) ?_ rfl
    refine ev_cV mv_X10_nextUnderWay 2 0 10 [ev_i (S1.1 (a + 1) ((1200 + (11 * u1)) + 8).toNatClampNeg)] [] dX10_dayPasses_34 kw_2141 rfl (by decide) rfl (by decide) (by decide) (Nat.le_of_ble_eq_true rfl) hQ ?_ rfl
    rintro o S2 ⟨v2_, rfl, hQ⟩
    show ev_E g m_X10_dayPasses 8 0 37 [some (ev_o 10 a), some (ev_i u1)] [ev_i v2_] S2 Q
    refine ev_istore_n dX10_dayPasses_37 (Nat.le_of_ble_eq_true rfl) (ev_hw rfl) ?_
    show ev_E g m_X10_dayPasses 8 0 38 [some (ev_o 10 a), some (ev_i v2_)] [] S2 Q
    refine ev_goto 16 dX10_dayPasses_38 (by decide) ?_
    exact hQ
set_option maxHeartbeats 4000000 in
set_option maxRecDepth 100000 in
theorem sg_X10_dayPasses_43 {g : ev_G} {S : ev_S} {Q : ev_O → ev_S → Prop} (a : Nat) (u1 : Int32) (hQ : ((S.1 (a + 1) 3) ≤ u1 → (
    Q (.inl none) S)) ∧
  (¬ ((S.1 (a + 1) 3) ≤ u1) → (
    (vp_in ((1140 + (15 * u1)) + (3 + (ev_rem ((S.1 (a + 1) 2) / 30) 12))) 2091) ∧ (
      ((t_X10_isClosed S a u1) = true → (
        ev_E g m_X10_dayPasses 8 0 43 [some (ev_o 10 a), some (ev_i (u1 + 1))] [] S Q)) ∧
      (¬ ((t_X10_isClosed S a u1) = true) → (
        ev_Cv g m_X10_leave 3 0 [ev_o 10 a, ev_i u1, ev_i 0] S (fun o S1 => o = .inl none ∧ (
          ev_Cv g m_X10_leave 3 0 [ev_o 10 a, ev_i u1, ev_i 1] S1 (fun o S2 => o = .inl none ∧ (
            ev_E g m_X10_dayPasses 8 0 43 [some (ev_o 10 a), some (ev_i (u1 + 1))] [] S2 Q)))))))))) : ev_E g m_X10_dayPasses 8 0 43 [some (ev_o 10 a), some (ev_i u1)] [] S Q := by
  refine ev_iload_n (u1) dX10_dayPasses_43 rfl ?_
  refine ev_aload_n (ev_o 10 a) dX10_dayPasses_44 rfl rfl ?_
  refine gf_10_0 dX10_dayPasses_45 kw_1853 ?_
  refine ev_iconst (3) dX10_dayPasses_48 rfl ?_
  refine ev_iaload dX10_dayPasses_49 (j_vin (by decide)) ?_
  refine ev_icmp_ge 82 dX10_dayPasses_50 (by decide) (fun c1 => ?_) (fun c1 => ?_)
  · replace hQ := hQ.1 c1
    exact ev_return dX10_dayPasses_82 rfl hQ
  · replace hQ := hQ.2 c1
    refine ev_aload_n (ev_o 10 a) dX10_dayPasses_53 rfl rfl ?_
    refine ev_iload_n (u1) dX10_dayPasses_54 rfl ?_
    obtain ⟨h1, hQ⟩ := hQ
    refine ev_fV mv_X10_isClosed 3 10 [ev_i u1] [] dX10_dayPasses_55 kw_2149 rfl (by decide) rfl (by decide) (Nat.le_of_ble_eq_true rfl) (sp_X10_isClosed a u1 h1) ?_ rfl
    by_cases c2 : (t_X10_isClosed S a u1) = true
    · rw [if_pos c2]
      replace hQ := hQ.1 c2
      refine ev_if_eq 64 dX10_dayPasses_58 (by decide) (fun h9 => absurd h9 (by decide : ¬ ((1 : Int32) = 0))) (fun _ => ?_)
      refine ev_goto 76 dX10_dayPasses_61 (by decide) ?_
      refine ev_iinc u1 (1) dX10_dayPasses_76 rfl (by decide) (ev_hw rfl) ?_
      show ev_E g m_X10_dayPasses 8 0 79 [some (ev_o 10 a), some (ev_i (u1 + 1))] [] S Q
      refine ev_goto 43 dX10_dayPasses_79 (by decide) ?_
      exact hQ
    · rw [if_neg c2]
      replace hQ := hQ.2 c2
      refine ev_if_eq 64 dX10_dayPasses_58 (by decide) (fun _ => ?_) (fun h9 => absurd (by decide : ((0 : Int32) = 0)) h9)
      refine ev_aload_n (ev_o 10 a) dX10_dayPasses_64 rfl rfl ?_
      refine ev_iload_n (u1) dX10_dayPasses_65 rfl ?_
      refine ev_iconst (0) dX10_dayPasses_66 rfl ?_
      refine ev_cV mv_X10_leave 3 0 10 [ev_i u1, ev_i 0] [] dX10_dayPasses_67 kw_2173 rfl (by decide) rfl (by decide) (by decide) (Nat.le_of_ble_eq_true rfl) hQ ?_ rfl
      rintro o S1 ⟨rfl, hQ⟩
      show ev_E g m_X10_dayPasses 8 0 70 [some (ev_o 10 a), some (ev_i u1)] [] S1 Q
      refine ev_aload_n (ev_o 10 a) dX10_dayPasses_70 rfl rfl ?_
      refine ev_iload_n (u1) dX10_dayPasses_71 rfl ?_
      refine ev_iconst (1) dX10_dayPasses_72 rfl ?_
      refine ev_cV mv_X10_leave 3 0 10 [ev_i u1, ev_i 1] [] dX10_dayPasses_73 kw_2173 rfl (by decide) rfl (by decide) (by decide) (Nat.le_of_ble_eq_true rfl) hQ ?_ rfl
      rintro o S2 ⟨rfl, hQ⟩
      show ev_E g m_X10_dayPasses 8 0 76 [some (ev_o 10 a), some (ev_i u1)] [] S2 Q
      refine ev_iinc u1 (1) dX10_dayPasses_76 rfl (by decide) (ev_hw rfl) ?_
      show ev_E g m_X10_dayPasses 8 0 79 [some (ev_o 10 a), some (ev_i (u1 + 1))] [] S2 Q
      refine ev_goto 43 dX10_dayPasses_79 (by decide) ?_
      exact hQ
set_option maxHeartbeats 4000000 in
set_option maxRecDepth 100000 in
theorem sg_X10_tries_0 {g : ev_G} {S : ev_S} {Q : ev_O → ev_S → Prop} (a : Nat) (hQ : ev_E g m_X10_tries 1 0 2 [some (ev_o 10 a), some (ev_i 0)] [] S Q) : ev_Cv g m_X10_tries 1 0 [ev_o 10 a] S Q := by
  refine ev_enter (by decide) rfl rfl (Nat.le_of_ble_eq_true rfl) ?_
  show ev_E g m_X10_tries 1 0 0 [some (ev_o 10 a), none] [] S Q
  refine ev_iconst (0) dX10_tries_0 rfl ?_
  refine ev_istore_n dX10_tries_1 (Nat.le_of_ble_eq_true rfl) (ev_hw rfl) ?_
  show ev_E g m_X10_tries 1 0 2 [some (ev_o 10 a), some (ev_i 0)] [] S Q
  exact hQ
set_option maxHeartbeats 4000000 in
set_option maxRecDepth 100000 in
theorem sg_X10_tries_2 {g : ev_G} {S : ev_S} {Q : ev_O → ev_S → Prop} (a : Nat) (u1 : Int32) (hQ : (2091 ≤ u1 → (
    Q (.inl none) S)) ∧
  (¬ (2091 ≤ u1) → (
    (vp_in u1 2091) ∧ (
      ∀ S1 : ev_S, S1 = (ev_up S (a + 2) u1.toNatClampNeg (S.1 (a + 1) u1.toNatClampNeg)) → (
        ev_E g m_X10_tries 1 0 2 [some (ev_o 10 a), some (ev_i (u1 + 1))] [] S1 Q))))) : ev_E g m_X10_tries 1 0 2 [some (ev_o 10 a), some (ev_i u1)] [] S Q := by
  refine ev_iload_n (u1) dX10_tries_2 rfl ?_
  refine ev_sipush (2091) dX10_tries_3 (by decide) ?_
  refine ev_icmp_ge 27 dX10_tries_6 (by decide) (fun c1 => ?_) (fun c1 => ?_)
  · replace hQ := hQ.1 c1
    exact ev_return dX10_tries_27 rfl hQ
  · replace hQ := hQ.2 c1
    refine ev_aload_n (ev_o 10 a) dX10_tries_9 rfl rfl ?_
    refine gf_10_1 dX10_tries_10 kw_1854 ?_
    refine ev_iload_n (u1) dX10_tries_13 rfl ?_
    refine ev_aload_n (ev_o 10 a) dX10_tries_14 rfl rfl ?_
    refine gf_10_0 dX10_tries_15 kw_1853 ?_
    refine ev_iload_n (u1) dX10_tries_18 rfl ?_
    obtain ⟨h1, hQ⟩ := hQ
    refine ev_iaload dX10_tries_19 h1 ?_
    refine ev_iastore dX10_tries_20 h1 ?_
    refine ev_sub hQ (fun S1 hS1 hQ => ?_)
    refine ev_E.goal (pc' := 21) (L' := [some (ev_o 10 a), some (ev_i u1)]) (K' := []) (S' := S1) ?_ rfl rfl rfl hS1
    refine ev_iinc u1 (1) dX10_tries_21 rfl (by decide) (ev_hw rfl) ?_
    show ev_E g m_X10_tries 1 0 24 [some (ev_o 10 a), some (ev_i (u1 + 1))] [] S1 Q
    refine ev_goto 2 dX10_tries_24 (by decide) ?_
    exact hQ
